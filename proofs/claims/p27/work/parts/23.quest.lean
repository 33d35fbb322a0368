abbrev rmX3_restMayHold : Room := { frames := 2, cells := 0, slots := 0, locals := 46 }
set_option maxHeartbeats 4000000 in
set_option maxRecDepth 100000 in
theorem k_X3_restMayHold {l : Launch} {D : va_G} {z : Nat} {cI cP cR cJ : ClassId} {h : Hp} {x xp xr : Nat} {pa ra : Nat → Nat} {σ : Sg} (hC : CR cP cR x xp xr pa ra σ h) (hI : Ib σ) {lo hi : Int} (l0 : 0 ≤ lo) (l9 : lo ≤ 999) (h0 : lo ≤ hi) (h9 : hi ≤ 999) : Ct l D z (tyL cI cP cR cJ) yX3_restMayHold wsX3_restMayHold rmX3_restMayHold [.ref x, .int (iI lo), .int (iI hi)] h (fun v u => v = some (.int (iI (b2 (rmh σ lo hi)))) ∧ h = u) := by
  refine Ct.of (cc := cX3_restMayHold) (maxL := 6) (ret := (some .boolean)) (by decide) rfl (Nat.le_of_ble_eq_true rfl) ?_
  intro p e s m args below meth c hx hb hr hts hown hlocks hml hnm hK hB ls hl
  have hl : lv_has ls 6 [(0, .ref x), (1, .int (iI lo)), (2, .int (iI hi))] := hl
  have hnp := hI.hnp
  refine lv_iload_n hx hb dX3_restMayHold_0 rfl (lv_at hl 1 rfl) ?_
  refine lv_istore_n (lv' := [(3, .int (iI lo)), (0, .ref x), (1, .int (iI lo)), (2, .int (iI hi))]) hx hb dX3_restMayHold_1 rfl hl (by decide) rfl (fun ls hl => ?_)
  refine j_iconst hx hb dX3_restMayHold_2 ?_
  refine lv_istore (lv' := [(4, .int (iI 0)), (3, .int (iI lo)), (0, .ref x), (1, .int (iI lo)), (2, .int (iI hi))]) hx hb dX3_restMayHold_3 hl (by decide) rfl (fun ls hl => ?_)
  have lp_5 : ∀ (fuel j : Nat) (ky : Int), j ≤ 16 → 16 + 1 ≤ j + fuel → ∀ (ek : lo ≤ ky ∧ ky ≤ 1000) (ea : ∀ k : Int, lo ≤ k → k < ky → pw σ k ≠ 0) (ec : (j : Int) ≤ cnt (Pk σ ky) 16) (H : Heap) (locs : List Loc), Bk D z s.heap h H locs → ∀ ls : Array Slot, lv_has ls 6 [(4, .int (iI (j : Int))), (3, .int (iI ky)), (0, .ref x), (1, .int (iI lo)), (2, .int (iI hi))] → W p l e rmX3_restMayHold s m args below meth c H locs 0 0 (MQ below (Qx D z (fun v u => v = some (.int (iI (b2 (rmh σ lo hi)))) ∧ h = u)) args s (rmX3_restMayHold).cells (rmX3_restMayHold).slots (zA z)) (F0 m 5 ls []) := by
    intro fuel
    induction fuel with
    | zero => intro j ky w1 w2; exact absurd w2 (by omega)
    | succ fuel ih =>
      intro j ky w1 w2 ek ea ec H locs hB ls hl
      have epk := Pk_le σ ky
      refine lv_iload hx hb dX3_restMayHold_5 (lv_at hl 0 rfl) ?_
      refine j_bipush hx hb dX3_restMayHold_7 (by decide) ?_
      refine j_icmp_gt (tgt := 47) hx hb dX3_restMayHold_9 (by decide) ⟨by omega, by omega⟩ ⟨by decide, by decide⟩ (fun c_1 => ?_) (fun c_1 => ?_)
      · refine j_iconst hx hb dX3_restMayHold_47 ?_
        exact m_zret hx hb hr (by decide) hlocks hB (by decide) (by decide) dX3_restMayHold_48 (False.elim (by omega))
      · refine lv_iload_n hx hb dX3_restMayHold_12 rfl (lv_at hl 1 rfl) ?_
        refine lv_iload_n hx hb dX3_restMayHold_13 rfl (lv_at hl 4 rfl) ?_
        refine j_icmp_gt (tgt := 47) hx hb dX3_restMayHold_14 (by decide) ⟨by omega, by omega⟩ ⟨by omega, by omega⟩ (fun c_2 => ?_) (fun c_2 => ?_)
        · refine j_iconst hx hb dX3_restMayHold_47 ?_
          exact m_zret hx hb hr (by decide) hlocks hB (by decide) (by decide) dX3_restMayHold_48 ⟨ret_f (fun ⟨k, q1, q2, q3⟩ => ea k q1 (by omega) q3), rfl⟩
        · refine lv_aload_n hx hb dX3_restMayHold_17 rfl (lv_at hl 2 rfl) ?_
          refine lv_iload_n hx hb dX3_restMayHold_18 rfl (lv_at hl 1 rfl) ?_
          refine m_run (va_runV (As := [.int (iI ky)]) (rest := []) ⟨hx, hb, hml, hown, hts⟩ (k_X3_holderOf (l := l) hC hI (key := ky) (by omega) (by omega)) (cwV 1 hts gX3_restMayHold_X3_holderOf rfl rfl rfl (by decide +kernel) ⟨by decide, by decide⟩) ⟨Kp.blind _ _ _ _ _, m_recv hK hB (ci := 3) rfl hC.tb, fun U hU hW => hK.pass hB U hU hW⟩ rfl rfl hl.1 rfl (lv_room (Nat.le_of_ble_eq_true rfl)) dX3_restMayHold_19 ⟨Nat.le_of_ble_eq_true rfl, Nat.le_of_ble_eq_true rfl⟩) hB (fun v u H locs hp_4 hB => ?_)
          obtain ⟨rfl, rfl⟩ := hp_4
          show W _ _ _ _ _ _ _ _ _ _ _ _ _ _ _ (F0 m 22 ls [.ref (pa (pw σ ky))])
          have pwl_3 := pw_le hI ky
          refine lv_astore (lv' := [(5, .ref (pa (pw σ ky))), (4, .int (iI (j : Int))), (3, .int (iI ky)), (0, .ref x), (1, .int (iI lo)), (2, .int (iI hi))]) hx hb dX3_restMayHold_22 hl (by decide) rfl (fun ls hl => ?_)
          refine lv_aload hx hb dX3_restMayHold_24 (lv_at hl 0 rfl) ?_
          refine lv_aload_n hx hb dX3_restMayHold_26 rfl (lv_at hl 3 rfl) ?_
          refine m_get hx hb hts (fun _ q => List.mem_cons_of_mem _ (List.mem_append_left _ (List.mem_append_right _ q))) hown hK hB hC.tb (ci := 3) rfl 0 (by decide) (List.mem_of_getElem? (i := 1) rfl) rfl rfl dX3_restMayHold_27 ?_
          refine m_acmpP_ne (tgt := 35) hx hb hC (by omega) (by omega) dX3_restMayHold_30 (by decide) (fun c_5 => ?_) (fun c_5 => ?_)
          · refine lv_aload hx hb dX3_restMayHold_35 (lv_at hl 0 rfl) ?_
            have pf_6 := hI.part (pw σ ky) (by omega)
            refine m_get hx hb hts (fun _ q => List.mem_cons_of_mem _ (List.mem_append_right _ q)) hown hK hB (hC.pt (pw σ ky) (by omega)) (ci := 0) rfl 2 (by decide) (List.mem_of_getElem? (i := 2) rfl) rfl rfl dX3_restMayHold_37 ?_
            refine lv_istore_n (lv' := [(3, .int (iI (σ 1 (pw σ ky)))), (5, .ref (pa (pw σ ky))), (4, .int (iI (j : Int))), (0, .ref x), (1, .int (iI lo)), (2, .int (iI hi))]) hx hb dX3_restMayHold_40 rfl hl (by decide) rfl (fun ls hl => ?_)
            have rms := rm_step hI c_5 ea
            refine j_iinc (lv' := [(4, .int (iI ((j + 1 : Nat) : Int))), (3, .int (iI (σ 1 (pw σ ky)))), (5, .ref (pa (pw σ ky))), (0, .ref x), (1, .int (iI lo)), (2, .int (iI hi))]) hx hb dX3_restMayHold_41 hl (k := 2) rfl (by decide) rfl (fun ls hl => ?_)
            refine lv_goto (tgt := 5) hx hb dX3_restMayHold_44 (by decide) ?_
            have bd_7 := hI.bd 1 (pw σ ky)
            exact ih (j + 1) (σ 1 (pw σ ky)) (by omega) (by omega) (by omega) rms.1 (by omega) _ _ hB ls (lv_sub hl [0, 1, 3, 4, 5] rfl)
          · refine j_iconst hx hb dX3_restMayHold_33 ?_
            exact m_zret hx hb hr (by decide) hlocks hB (by decide) (by decide) dX3_restMayHold_34 ⟨ret_t ⟨ky, by omega, by omega, c_5⟩, rfl⟩
  exact lp_5 (16 + 1) 0 lo (by omega) (by omega) (by omega) (fun k a b => absurd a (by omega)) (cnt_rg _ _).1 _ _ hB ls (lv_sub hl [0, 1, 2, 3, 4] rfl)

abbrev rmX3_mayMatter : Room := { frames := 3, cells := 0, slots := 0, locals := 73 }
set_option maxHeartbeats 4000000 in
set_option maxRecDepth 100000 in
theorem k_X3_mayMatter {l : Launch} {D : va_G} {z : Nat} {cI cP cR cJ : ClassId} {h : Hp} {x xp xr : Nat} {pa ra : Nat → Nat} {σ : Sg} (hC : CR cP cR x xp xr pa ra σ h) (hI : Ib σ) {qa : Nat} {lo hi so : Int} (hq : h qa = some (qst lo hi so)) (l0 : 0 ≤ lo) (l9 : lo ≤ 999) (h0 : lo ≤ hi) (h9 : hi ≤ 999) (o0 : 0 ≤ so) (o9 : so ≤ 1023) {i : Nat} {leaf : Int} (hi1 : (i : Int) ≤ σ 9 0) (rl : rg leaf) : Ct l D z (tyL cI cP cR cJ) yX3_mayMatter wsX3_mayMatter rmX3_mayMatter [.ref x, .ref (pa i), .int (iI leaf), .ref qa] h (fun v u => v = some (.int (iI (b2 (mayM σ i leaf lo hi so)))) ∧ h = u) := by
  refine Ct.of (cc := cX3_mayMatter) (maxL := 4) (ret := (some .boolean)) (by decide) rfl (Nat.le_of_ble_eq_true rfl) ?_
  intro p e s m args below meth c hx hb hr hts hown hlocks hml hnm hK hB ls hl
  have hl : lv_has ls 4 [(0, .ref x), (1, .ref (pa i)), (2, .int (iI leaf)), (3, .ref qa)] := hl
  have hnp := hI.hnp
  refine lv_aload_n hx hb dX3_mayMatter_0 rfl (lv_at hl 1 rfl) ?_
  have pf_1 := hI.part i (by omega)
  refine m_get hx hb hts (fun _ q => List.mem_cons_of_mem _ (List.mem_append_left _ (List.mem_append_left _ (List.mem_append_right _ q)))) hown hK hB (hC.pt i (by omega)) (ci := 0) rfl 5 (by decide) (List.mem_of_getElem? (i := 1) rfl) rfl rfl dX3_mayMatter_1 ?_
  have bd_3 := hI.bd 4 i
  refine j_if_ne (tgt := 14) hx hb dX3_mayMatter_4 (by decide) ⟨by omega, by omega⟩ (fun c_2 => ?_) (fun c_2 => ?_)
  · refine j_iconst hx hb dX3_mayMatter_14 ?_
    exact m_zret hx hb hr (by decide) hlocks hB (by decide) (by decide) dX3_mayMatter_15 ⟨ret_f (fun q => by have := q.1; have := q.2.1; omega), rfl⟩
  · refine lv_aload_n hx hb dX3_mayMatter_7 rfl (lv_at hl 3 rfl) ?_
    refine m_get hx hb hts (fun _ q => List.mem_cons_of_mem _ (List.mem_append_left _ (List.mem_append_right _ q))) hown hK hB hq (ci := 1) rfl 2 (by decide) (List.mem_of_getElem? (i := 2) rfl) rfl rfl dX3_mayMatter_8 ?_
    refine j_if_ne (tgt := 16) hx hb dX3_mayMatter_11 (by decide) ⟨by omega, by omega⟩ (fun c_4 => ?_) (fun c_4 => ?_)
    · refine lv_aload_n hx hb dX3_mayMatter_16 rfl (lv_at hl 1 rfl) ?_
      refine lv_aload_n hx hb dX3_mayMatter_17 rfl (lv_at hl 0 rfl) ?_
      refine m_get hx hb hts (fun _ q => List.mem_cons_of_mem _ (List.mem_append_right _ q)) hown hK hB hC.tb (ci := 3) rfl 0 (by decide) (List.mem_of_getElem? (i := 3) rfl) rfl rfl dX3_mayMatter_18 ?_
      refine m_acmpP_ne (tgt := 37) hx hb hC (by omega) (by omega) dX3_mayMatter_21 (by decide) (fun c_5 => ?_) (fun c_5 => ?_)
      · refine lv_aload_n hx hb dX3_mayMatter_37 rfl (lv_at hl 1 rfl) ?_
        refine lv_iload_n hx hb dX3_mayMatter_38 rfl (lv_at hl 2 rfl) ?_
        refine lv_aload_n hx hb dX3_mayMatter_39 rfl (lv_at hl 3 rfl) ?_
        have bd_6 := hI.bd 2 i
        refine m_run (va_runV (As := [.int (iI leaf), .ref qa]) (rest := []) ⟨hx, hb, hml, hown, hts⟩ (k_X0_mayHold (l := l) (hC.pt i (by omega)) hq ⟨by omega, by omega⟩ (by omega) (by omega) (by omega) (by omega) (by omega) (by omega) (by omega) (by omega) (by omega) (by omega) ⟨by omega, by omega⟩ (by omega) (by omega) (by omega)) (cwV 2 hts gX3_mayMatter_X0_mayHold rfl rfl rfl (by decide +kernel) ⟨by decide, by decide⟩) ⟨Kp.blind _ _ _ _ _, m_recv hK hB (ci := 0) rfl (hC.pt i (by omega)), fun U hU hW => hK.pass hB U hU hW⟩ rfl rfl hl.1 rfl (lv_room (Nat.le_of_ble_eq_true rfl)) dX3_mayMatter_40 ⟨Nat.le_of_ble_eq_true rfl, Nat.le_of_ble_eq_true rfl⟩) hB (fun v u H locs hp_7 hB => ?_)
        obtain ⟨rfl, rfl⟩ := hp_7
        show W _ _ _ _ _ _ _ _ _ _ _ _ _ _ _ (F0 m 43 ls [.int (iI (b2 (mayH (σ 0 i) (σ 1 i) (σ 2 i) (σ 3 i) leaf lo hi so)))])
        exact m_zret hx hb hr (b2_nb _) hlocks hB (by decide) (by decide) dX3_mayMatter_43 ⟨ret_c ⟨fun q => ⟨by omega, by omega, Or.inr ⟨c_5, q⟩⟩, fun q => q.2.2.elim (fun w => absurd w.1 c_5) (fun w => w.2)⟩, rfl⟩
      · refine lv_aload_n hx hb dX3_mayMatter_24 rfl (lv_at hl 0 rfl) ?_
        refine lv_aload_n hx hb dX3_mayMatter_25 rfl (lv_at hl 3 rfl) ?_
        refine m_get hx hb hts (fun _ q => List.mem_cons_of_mem _ (List.mem_append_left _ (List.mem_append_right _ q))) hown hK hB hq (ci := 1) rfl 0 (by decide) (List.mem_of_getElem? (i := 4) rfl) rfl rfl dX3_mayMatter_26 ?_
        refine lv_aload_n hx hb dX3_mayMatter_29 rfl (lv_at hl 3 rfl) ?_
        refine m_get hx hb hts (fun _ q => List.mem_cons_of_mem _ (List.mem_append_left _ (List.mem_append_right _ q))) hown hK hB hq (ci := 1) rfl 1 (by decide) (List.mem_of_getElem? (i := 5) rfl) rfl rfl dX3_mayMatter_30 ?_
        refine m_run (va_runV (As := [.int (iI lo), .int (iI hi)]) (rest := []) ⟨hx, hb, hml, hown, hts⟩ (k_X3_restMayHold (l := l) hC hI (lo := lo) (hi := hi) (by omega) (by omega) (by omega) (by omega)) (cwV 2 hts gX3_mayMatter_X3_restMayHold rfl rfl rfl (by decide +kernel) ⟨by decide, by decide⟩) ⟨Kp.blind _ _ _ _ _, m_recv hK hB (ci := 3) rfl hC.tb, fun U hU hW => hK.pass hB U hU hW⟩ rfl rfl hl.1 rfl (lv_room (Nat.le_of_ble_eq_true rfl)) dX3_mayMatter_33 ⟨Nat.le_of_ble_eq_true rfl, Nat.le_of_ble_eq_true rfl⟩) hB (fun v u H locs hp_8 hB => ?_)
        obtain ⟨rfl, rfl⟩ := hp_8
        show W _ _ _ _ _ _ _ _ _ _ _ _ _ _ _ (F0 m 36 ls [.int (iI (b2 (rmh σ lo hi)))])
        exact m_zret hx hb hr (b2_nb _) hlocks hB (by decide) (by decide) dX3_mayMatter_36 ⟨ret_c ⟨fun q => ⟨by omega, by omega, Or.inl ⟨c_5, q⟩⟩, fun q => q.2.2.elim (fun w => w.2) (fun w => absurd c_5 w.1)⟩, rfl⟩
    · refine j_iconst hx hb dX3_mayMatter_14 ?_
      exact m_zret hx hb hr (by decide) hlocks hB (by decide) (by decide) dX3_mayMatter_15 ⟨ret_f (fun q => by have := q.1; have := q.2.1; omega), rfl⟩

abbrev rmX3_leavesThatMayMatter : Room := { frames := 4, cells := 0, slots := 0, locals := 96 }
set_option maxHeartbeats 4000000 in
set_option maxRecDepth 100000 in
theorem k_X3_leavesThatMayMatter {l : Launch} {D : va_G} {z : Nat} {cI cP cR cJ : ClassId} {h : Hp} {x xp xr : Nat} {pa ra : Nat → Nat} {σ : Sg} (hC : CR cP cR x xp xr pa ra σ h) (hI : Ib σ) {qa : Nat} {lo hi so : Int} (hq : h qa = some (qst lo hi so)) (l0 : 0 ≤ lo) (l9 : lo ≤ 999) (h0 : lo ≤ hi) (h9 : hi ≤ 999) (o0 : 0 ≤ so) (o9 : so ≤ 1023) {i : Nat} (hi1 : (i : Int) ≤ σ 9 0) : Ct l D z (tyL cI cP cR cJ) yX3_leavesThatMayMatter wsX3_leavesThatMayMatter rmX3_leavesThatMayMatter [.ref x, .ref (pa i), .ref qa] h (fun v u => v = some (.int (iI (rdp σ i lo hi so))) ∧ h = u) := by
  refine Ct.of (cc := cX3_leavesThatMayMatter) (maxL := 5) (ret := (some .int)) (by decide) rfl (Nat.le_of_ble_eq_true rfl) ?_
  intro p e s m args below meth c hx hb hr hts hown hlocks hml hnm hK hB ls hl
  have hl : lv_has ls 5 [(0, .ref x), (1, .ref (pa i)), (2, .ref qa)] := hl
  have hnp := hI.hnp
  have lvr := lvs_rg hI (i := i) hi1
  obtain ⟨nl, enl⟩ : ∃ nl : Nat, nl = (lvs (σ 2 i) (σ 3 i)).toNat := ⟨_, rfl⟩
  have enl2 : (nl : Int) = lvs (σ 2 i) (σ 3 i) := by rw [enl]; exact Int.toNat_of_nonneg (by omega)
  refine j_iconst hx hb dX3_leavesThatMayMatter_0 ?_
  refine lv_istore_n (lv' := [(3, .int (iI 0)), (0, .ref x), (1, .ref (pa i)), (2, .ref qa)]) hx hb dX3_leavesThatMayMatter_1 rfl hl (by decide) rfl (fun ls hl => ?_)
  refine j_iconst hx hb dX3_leavesThatMayMatter_2 ?_
  refine lv_istore (lv' := [(4, .int (iI 0)), (3, .int (iI 0)), (0, .ref x), (1, .ref (pa i)), (2, .ref qa)]) hx hb dX3_leavesThatMayMatter_3 hl (by decide) rfl (fun ls hl => ?_)
  have lp_5 : ∀ (fuel w : Nat) (a : Int), w ≤ nl → nl + 1 ≤ w + fuel → ∀ (ea : a = cnt (fun w => mayM σ i (w : Int) lo hi so) w) (H : Heap) (locs : List Loc), Bk D z s.heap h H locs → ∀ ls : Array Slot, lv_has ls 5 [(4, .int (iI (w : Int))), (3, .int (iI a)), (0, .ref x), (1, .ref (pa i)), (2, .ref qa)] → W p l e rmX3_leavesThatMayMatter s m args below meth c H locs 0 0 (MQ below (Qx D z (fun v u => v = some (.int (iI (rdp σ i lo hi so))) ∧ h = u)) args s (rmX3_leavesThatMayMatter).cells (rmX3_leavesThatMayMatter).slots (zA z)) (F0 m 5 ls []) := by
    intro fuel
    induction fuel with
    | zero => intro w a w1 w2; exact absurd w2 (by omega)
    | succ fuel ih =>
      intro w a w1 w2 ea H locs hB ls hl
      have ear := cnt_rg (fun w => mayM σ i (w : Int) lo hi so) w
      refine lv_iload hx hb dX3_leavesThatMayMatter_5 (lv_at hl 0 rfl) ?_
      refine lv_aload_n hx hb dX3_leavesThatMayMatter_7 rfl (lv_at hl 3 rfl) ?_
      have pf_1 := hI.part i (by omega)
      have bd_2 := hI.bd 2 i
      refine m_run (va_runV (As := []) (rest := [.int (iI (w : Int))]) ⟨hx, hb, hml, hown, hts⟩ (k_X0_leaves (l := l) (hC.pt i (by omega)) ⟨by omega, by omega⟩) (cwV 0 hts gX3_leavesThatMayMatter_X0_leaves rfl rfl rfl (by decide +kernel) ⟨by decide, by decide⟩) ⟨Kp.blind _ _ _ _ _, m_recv hK hB (ci := 0) rfl (hC.pt i (by omega)), fun U hU hW => hK.pass hB U hU hW⟩ rfl rfl hl.1 rfl (lv_room (Nat.le_of_ble_eq_true rfl)) dX3_leavesThatMayMatter_8 ⟨Nat.le_of_ble_eq_true rfl, Nat.le_of_ble_eq_true rfl⟩) hB (fun v u H locs hp_3 hB => ?_)
      obtain ⟨rfl, rfl⟩ := hp_3
      show W _ _ _ _ _ _ _ _ _ _ _ _ _ _ _ (F0 m 11 ls [.int (iI (lvs (σ 2 i) (σ 3 i))), .int (iI (w : Int))])
      have bd_4 := hI.bd 3 i
      refine j_icmp_ge (tgt := 34) hx hb dX3_leavesThatMayMatter_11 (by decide) ⟨by omega, by omega⟩ ⟨by omega, by omega⟩ (fun c_5 => ?_) (fun c_5 => ?_)
      · refine lv_iload_n hx hb dX3_leavesThatMayMatter_34 rfl (lv_at hl 1 rfl) ?_
        exact m_zret hx hb hr rfl hlocks hB (by decide) (by decide) dX3_leavesThatMayMatter_35 ⟨ret_e (by rw [ea, show w = nl by omega, enl]; rfl), rfl⟩
      · refine lv_aload_n hx hb dX3_leavesThatMayMatter_14 rfl (lv_at hl 2 rfl) ?_
        refine lv_aload_n hx hb dX3_leavesThatMayMatter_15 rfl (lv_at hl 3 rfl) ?_
        refine lv_iload hx hb dX3_leavesThatMayMatter_16 (lv_at hl 0 rfl) ?_
        refine lv_aload_n hx hb dX3_leavesThatMayMatter_18 rfl (lv_at hl 4 rfl) ?_
        refine m_run (va_runV (As := [.ref (pa i), .int (iI (w : Int)), .ref qa]) (rest := []) ⟨hx, hb, hml, hown, hts⟩ (k_X3_mayMatter (l := l) hC hI hq (by omega) (by omega) (by omega) (by omega) (by omega) (by omega) (i := i) (leaf := (w : Int)) (by omega) ⟨by omega, by omega⟩) (cwV 3 hts gX3_leavesThatMayMatter_X3_mayMatter rfl rfl rfl (by decide +kernel) ⟨by decide, by decide⟩) ⟨Kp.blind _ _ _ _ _, m_recv hK hB (ci := 3) rfl hC.tb, fun U hU hW => hK.pass hB U hU hW⟩ rfl rfl hl.1 rfl (lv_room (Nat.le_of_ble_eq_true rfl)) dX3_leavesThatMayMatter_19 ⟨Nat.le_of_ble_eq_true rfl, Nat.le_of_ble_eq_true rfl⟩) hB (fun v u H locs hp_6 hB => ?_)
        obtain ⟨rfl, rfl⟩ := hp_6
        show W _ _ _ _ _ _ _ _ _ _ _ _ _ _ _ (F0 m 22 ls [.int (iI (b2 (mayM σ i (w : Int) lo hi so)))])
        refine j_ifeqP (tgt := 28) hx hb dX3_leavesThatMayMatter_22 (by decide) (fun c_7 => ?_) (fun c_7 => ?_)
        · refine j_iinc (lv' := [(4, .int (iI ((w + 1 : Nat) : Int))), (3, .int (iI a)), (0, .ref x), (1, .ref (pa i)), (2, .ref qa)]) hx hb dX3_leavesThatMayMatter_28 hl (k := 0) rfl (by decide) rfl (fun ls hl => ?_)
          refine lv_goto (tgt := 5) hx hb dX3_leavesThatMayMatter_31 (by decide) ?_
          exact ih (w + 1) a (by omega) (by omega) (cs_f ea c_7) _ _ hB ls (lv_sub hl [0, 1, 2, 3, 4] rfl)
        · refine j_iinc (lv' := [(3, .int (iI (a + 1))), (4, .int (iI (w : Int))), (0, .ref x), (1, .ref (pa i)), (2, .ref qa)]) hx hb dX3_leavesThatMayMatter_25 hl (k := 1) rfl (by decide) rfl (fun ls hl => ?_)
          refine j_iinc (lv' := [(4, .int (iI ((w + 1 : Nat) : Int))), (3, .int (iI (a + 1))), (0, .ref x), (1, .ref (pa i)), (2, .ref qa)]) hx hb dX3_leavesThatMayMatter_28 hl (k := 1) rfl (by decide) rfl (fun ls hl => ?_)
          refine lv_goto (tgt := 5) hx hb dX3_leavesThatMayMatter_31 (by decide) ?_
          exact ih (w + 1) (a + 1) (by omega) (by omega) (cs_t ea c_7) _ _ hB ls (lv_sub hl [0, 1, 2, 3, 4] rfl)
  exact lp_5 (nl + 1) 0 0 (by omega) (by omega) rfl _ _ hB ls (lv_sub hl [0, 1, 2, 3, 4] rfl)

abbrev rmX3_countInLeaf : Room := { frames := 3, cells := 0, slots := 0, locals := 65 }
set_option maxHeartbeats 4000000 in
set_option maxRecDepth 100000 in
theorem k_X3_countInLeaf {l : Launch} {D : va_G} {z : Nat} {cI cP cR cJ : ClassId} {h : Hp} {x xp xr : Nat} {pa ra : Nat → Nat} {σ : Sg} (hC : CR cP cR x xp xr pa ra σ h) (hI : Ib σ) {qa : Nat} {lo hi so : Int} (hq : h qa = some (qst lo hi so)) (l0 : 0 ≤ lo) (l9 : lo ≤ 999) (h0 : lo ≤ hi) (h9 : hi ≤ 999) (o0 : 0 ≤ so) (o9 : so ≤ 1023) {i : Nat} {leaf : Int} (hi1 : (i : Int) ≤ σ 9 0) (rl : rg leaf) : Ct l D z (tyL cI cP cR cJ) yX3_countInLeaf wsX3_countInLeaf rmX3_countInLeaf [.ref x, .ref (pa i), .int (iI leaf), .ref qa] h (fun v u => v = some (.int (iI (cil σ i leaf lo hi so))) ∧ h = u) := by
  refine Ct.of (cc := cX3_countInLeaf) (maxL := 9) (ret := (some .int)) (by decide) rfl (Nat.le_of_ble_eq_true rfl) ?_
  intro p e s m args below meth c hx hb hr hts hown hlocks hml hnm hK hB ls hl
  have hl : lv_has ls 9 [(0, .ref x), (1, .ref (pa i)), (2, .int (iI leaf)), (3, .ref qa)] := hl
  have hnp := hI.hnp
  have hnr := hI.hnr
  refine j_iconst hx hb dX3_countInLeaf_0 ?_
  refine lv_istore (lv' := [(4, .int (iI 0)), (0, .ref x), (1, .ref (pa i)), (2, .int (iI leaf)), (3, .ref qa)]) hx hb dX3_countInLeaf_1 hl (by decide) rfl (fun ls hl => ?_)
  refine lv_aload_n hx hb dX3_countInLeaf_3 rfl (lv_at hl 1 rfl) ?_
  refine m_get hx hb hts (fun _ q => List.mem_cons_of_mem _ (List.mem_append_left _ (List.mem_append_left _ (List.mem_append_left _ (List.mem_append_right _ q))))) hown hK hB hC.tb (ci := 3) rfl 3 (by decide) (List.mem_of_getElem? (i := 1) rfl) rfl rfl dX3_countInLeaf_4 ?_
  refine lv_astore (lv' := [(5, .ref xr), (4, .int (iI 0)), (0, .ref x), (1, .ref (pa i)), (2, .int (iI leaf)), (3, .ref qa)]) hx hb dX3_countInLeaf_7 hl (by decide) rfl (fun ls hl => ?_)
  refine lv_aload hx hb dX3_countInLeaf_9 (lv_at hl 0 rfl) ?_
  refine m_lenR hx hb hK hB hC dX3_countInLeaf_11 ?_
  refine lv_istore (lv' := [(6, .int (iI 200)), (5, .ref xr), (4, .int (iI 0)), (0, .ref x), (1, .ref (pa i)), (2, .int (iI leaf)), (3, .ref qa)]) hx hb dX3_countInLeaf_12 hl (by decide) rfl (fun ls hl => ?_)
  refine j_iconst hx hb dX3_countInLeaf_14 ?_
  refine lv_istore (lv' := [(7, .int (iI 0)), (6, .int (iI 200)), (5, .ref xr), (4, .int (iI 0)), (0, .ref x), (1, .ref (pa i)), (2, .int (iI leaf)), (3, .ref qa)]) hx hb dX3_countInLeaf_15 hl (by decide) rfl (fun ls hl => ?_)
  have lp_17 : ∀ (fuel j : Nat) (a : Int), j ≤ 200 → 200 + 1 ≤ j + fuel → ∀ (ea : a = cnt (fun j => live σ j ∧ (pn σ j = i ∧ lfr σ j = leaf) ∧ (lo ≤ σ 6 j ∧ σ 6 j ≤ hi ∧ hbit so (σ 7 j))) j) (H : Heap) (locs : List Loc), Bk D z s.heap h H locs → ∀ ls : Array Slot, lv_has ls 9 [(7, .int (iI (j : Int))), (6, .int (iI 200)), (5, .ref xr), (4, .int (iI a)), (0, .ref x), (1, .ref (pa i)), (2, .int (iI leaf)), (3, .ref qa)] → W p l e rmX3_countInLeaf s m args below meth c H locs 0 0 (MQ below (Qx D z (fun v u => v = some (.int (iI (cil σ i leaf lo hi so))) ∧ h = u)) args s (rmX3_countInLeaf).cells (rmX3_countInLeaf).slots (zA z)) (F0 m 17 ls []) := by
    intro fuel
    induction fuel with
    | zero => intro j a w1 w2; exact absurd w2 (by omega)
    | succ fuel ih =>
      intro j a w1 w2 ea H locs hB ls hl
      have ear := cnt_rg (fun j => live σ j ∧ (pn σ j = i ∧ lfr σ j = leaf) ∧ (lo ≤ σ 6 j ∧ σ 6 j ≤ hi ∧ hbit so (σ 7 j))) j
      refine lv_iload hx hb dX3_countInLeaf_17 (lv_at hl 0 rfl) ?_
      refine lv_iload hx hb dX3_countInLeaf_19 (lv_at hl 1 rfl) ?_
      refine j_icmp_ge (tgt := 64) hx hb dX3_countInLeaf_21 (by decide) ⟨by omega, by omega⟩ ⟨by decide, by decide⟩ (fun c_1 => ?_) (fun c_1 => ?_)
      · refine lv_iload hx hb dX3_countInLeaf_64 (lv_at hl 3 rfl) ?_
        exact m_zret hx hb hr rfl hlocks hB (by decide) (by decide) dX3_countInLeaf_66 ⟨ret_e (cs_e hI ea (by omega) (fun _ q => q.1)), rfl⟩
      · refine lv_aload hx hb dX3_countInLeaf_24 (lv_at hl 2 rfl) ?_
        refine lv_iload hx hb dX3_countInLeaf_26 (lv_at hl 0 rfl) ?_
        refine m_ldR (j := j) hx hb hK hB hC (by omega) dX3_countInLeaf_28 (fun lv_2 => ?_) (fun lv_2 => ?_)
        · refine lv_astore (lv' := [(8, .ref (ra j)), (7, .int (iI (j : Int))), (6, .int (iI 200)), (5, .ref xr), (4, .int (iI a)), (0, .ref x), (1, .ref (pa i)), (2, .int (iI leaf)), (3, .ref qa)]) hx hb dX3_countInLeaf_29 hl (by decide) rfl (fun ls hl => ?_)
          refine lv_aload hx hb dX3_countInLeaf_31 (lv_at hl 0 rfl) ?_
          refine lv_ifnull hx hb dX3_countInLeaf_33 ?_
          refine lv_aload hx hb dX3_countInLeaf_36 (lv_at hl 0 rfl) ?_
          refine lv_aload_n hx hb dX3_countInLeaf_38 rfl (lv_at hl 6 rfl) ?_
          refine lv_iload_n hx hb dX3_countInLeaf_39 rfl (lv_at hl 7 rfl) ?_
          have rf_3 := hI.row j lv_2
          have pn_4 := hI.pnI j lv_2
          have pf_5 := hI.part (pn σ j) (by omega)
          have bd_6 := hI.bd 2 (pn σ j)
          refine m_run (va_runV (As := [.ref (pa i), .int (iI leaf)]) (rest := []) ⟨hx, hb, hml, hown, hts⟩ (k_X2_liesIn (l := l) (hC.rw j lv_2) (hC.pt (pn σ j) (by omega)) (b := (pa i)) ⟨by omega, by omega⟩ (by omega) (by omega) (by omega) (by omega) ⟨by omega, by omega⟩ (by omega) (by omega) (by omega)) (cwV 2 hts gX3_countInLeaf_X2_liesIn rfl rfl rfl (by decide +kernel) ⟨by decide, by decide⟩) ⟨Kp.blind _ _ _ _ _, m_recv hK hB (ci := 2) rfl (hC.rw j lv_2), fun U hU hW => hK.pass hB U hU hW⟩ rfl rfl hl.1 rfl (lv_room (Nat.le_of_ble_eq_true rfl)) dX3_countInLeaf_40 ⟨Nat.le_of_ble_eq_true rfl, Nat.le_of_ble_eq_true rfl⟩) hB (fun v u H locs hp_7 hB => ?_)
          obtain ⟨rfl, rfl⟩ := hp_7
          show W _ _ _ _ _ _ _ _ _ _ _ _ _ _ _ (F0 m 43 ls [.int (iI (b2 ((pa (pn σ j)) = (pa i) ∧ lf (σ 2 (pn σ j)) (σ 3 (pn σ j)) (σ 6 j) (σ 7 j) = leaf)))])
          refine j_ifeqP (tgt := 58) hx hb dX3_countInLeaf_43 (by decide) (fun c_8 => ?_) (fun c_8 => ?_)
          · refine j_iinc (lv' := [(7, .int (iI ((j + 1 : Nat) : Int))), (8, .ref (ra j)), (6, .int (iI 200)), (5, .ref xr), (4, .int (iI a)), (0, .ref x), (1, .ref (pa i)), (2, .int (iI leaf)), (3, .ref qa)]) hx hb dX3_countInLeaf_58 hl (k := 1) rfl (by decide) rfl (fun ls hl => ?_)
            refine lv_goto (tgt := 17) hx hb dX3_countInLeaf_61 (by decide) ?_
            exact ih (j + 1) a (by omega) (by omega) (cs_f ea (fun q => c_8 ⟨by rw [q.2.1.1], q.2.1.2⟩)) _ _ hB ls (lv_sub hl [0, 2, 3, 4, 5, 6, 7, 8] rfl)
          · refine lv_aload hx hb dX3_countInLeaf_46 (lv_at hl 0 rfl) ?_
            refine lv_aload_n hx hb dX3_countInLeaf_48 rfl (lv_at hl 8 rfl) ?_
            have bd_9 := hI.bd 6 j
            refine m_run (va_runV (As := [.ref qa]) (rest := []) ⟨hx, hb, hml, hown, hts⟩ (k_X2_fits (l := l) (hC.rw j lv_2) hq ⟨by omega, by omega⟩ ⟨by omega, by omega⟩ ⟨by omega, by omega⟩ (by omega) (by omega) (by omega) (by omega)) (cwV 1 hts gX3_countInLeaf_X2_fits rfl rfl rfl (by decide +kernel) ⟨by decide, by decide⟩) ⟨Kp.blind _ _ _ _ _, m_recv hK hB (ci := 2) rfl (hC.rw j lv_2), fun U hU hW => hK.pass hB U hU hW⟩ rfl rfl hl.1 rfl (lv_room (Nat.le_of_ble_eq_true rfl)) dX3_countInLeaf_49 ⟨Nat.le_of_ble_eq_true rfl, Nat.le_of_ble_eq_true rfl⟩) hB (fun v u H locs hp_10 hB => ?_)
            obtain ⟨rfl, rfl⟩ := hp_10
            show W _ _ _ _ _ _ _ _ _ _ _ _ _ _ _ (F0 m 52 ls [.int (iI (b2 (lo ≤ (σ 6 j) ∧ (σ 6 j) ≤ hi ∧ hbit so (σ 7 j))))])
            refine j_ifeqP (tgt := 58) hx hb dX3_countInLeaf_52 (by decide) (fun c_11 => ?_) (fun c_11 => ?_)
            · refine j_iinc (lv' := [(7, .int (iI ((j + 1 : Nat) : Int))), (8, .ref (ra j)), (6, .int (iI 200)), (5, .ref xr), (4, .int (iI a)), (0, .ref x), (1, .ref (pa i)), (2, .int (iI leaf)), (3, .ref qa)]) hx hb dX3_countInLeaf_58 hl (k := 1) rfl (by decide) rfl (fun ls hl => ?_)
              refine lv_goto (tgt := 17) hx hb dX3_countInLeaf_61 (by decide) ?_
              exact ih (j + 1) a (by omega) (by omega) (cs_f ea (fun q => c_11 q.2.2)) _ _ hB ls (lv_sub hl [0, 2, 3, 4, 5, 6, 7, 8] rfl)
            · refine j_iinc (lv' := [(4, .int (iI (a + 1))), (8, .ref (ra j)), (7, .int (iI (j : Int))), (6, .int (iI 200)), (5, .ref xr), (0, .ref x), (1, .ref (pa i)), (2, .int (iI leaf)), (3, .ref qa)]) hx hb dX3_countInLeaf_55 hl (k := 4) rfl (by decide) rfl (fun ls hl => ?_)
              refine j_iinc (lv' := [(7, .int (iI ((j + 1 : Nat) : Int))), (4, .int (iI (a + 1))), (8, .ref (ra j)), (6, .int (iI 200)), (5, .ref xr), (0, .ref x), (1, .ref (pa i)), (2, .int (iI leaf)), (3, .ref qa)]) hx hb dX3_countInLeaf_58 hl (k := 2) rfl (by decide) rfl (fun ls hl => ?_)
              refine lv_goto (tgt := 17) hx hb dX3_countInLeaf_61 (by decide) ?_
              exact ih (j + 1) (a + 1) (by omega) (by omega) (cs_t ea ⟨lv_2, ⟨(hC.pinj (by omega) (by omega)).mp c_8.1, c_8.2⟩, c_11⟩) _ _ hB ls (lv_sub hl [0, 3, 4, 1, 5, 6, 7, 8] rfl)
        · refine lv_astoreN (lv' := [(8, .null), (7, .int (iI (j : Int))), (6, .int (iI 200)), (5, .ref xr), (4, .int (iI a)), (0, .ref x), (1, .ref (pa i)), (2, .int (iI leaf)), (3, .ref qa)]) hx hb dX3_countInLeaf_29 hl (by decide) rfl (fun ls hl => ?_)
          refine lv_aloadN hx hb dX3_countInLeaf_31 (lv_at hl 0 rfl) ?_
          refine lv_ifnullN (tgt := 58) hx hb dX3_countInLeaf_33 (by decide) ?_
          refine j_iinc (lv' := [(7, .int (iI ((j + 1 : Nat) : Int))), (8, .null), (6, .int (iI 200)), (5, .ref xr), (4, .int (iI a)), (0, .ref x), (1, .ref (pa i)), (2, .int (iI leaf)), (3, .ref qa)]) hx hb dX3_countInLeaf_58 hl (k := 1) rfl (by decide) rfl (fun ls hl => ?_)
          refine lv_goto (tgt := 17) hx hb dX3_countInLeaf_61 (by decide) ?_
          exact ih (j + 1) a (by omega) (by omega) (cs_f ea (fun q => lv_2 q.1)) _ _ hB ls (lv_sub hl [0, 2, 3, 4, 5, 6, 7, 8] rfl)
  exact lp_17 (200 + 1) 0 0 (by omega) (by omega) rfl _ _ hB ls (lv_sub hl [0, 1, 2, 3, 4, 5, 6, 7] rfl)

abbrev rmX3_countInPart : Room := { frames := 4, cells := 0, slots := 0, locals := 96 }
set_option maxHeartbeats 4000000 in
set_option maxRecDepth 100000 in
theorem k_X3_countInPart {l : Launch} {D : va_G} {z : Nat} {cI cP cR cJ : ClassId} {h : Hp} {x xp xr : Nat} {pa ra : Nat → Nat} {σ : Sg} (hC : CR cP cR x xp xr pa ra σ h) (hI : Ib σ) {qa : Nat} {lo hi so : Int} (hq : h qa = some (qst lo hi so)) (l0 : 0 ≤ lo) (l9 : lo ≤ 999) (h0 : lo ≤ hi) (h9 : hi ≤ 999) (o0 : 0 ≤ so) (o9 : so ≤ 1023) {i : Nat} (hi1 : (i : Int) ≤ σ 9 0) : Ct l D z (tyL cI cP cR cJ) yX3_countInPart wsX3_countInPart rmX3_countInPart [.ref x, .ref (pa i), .ref qa] h (fun v u => v = some (.int (iI (cip σ i lo hi so))) ∧ h = u) := by
  refine Ct.of (cc := cX3_countInPart) (maxL := 5) (ret := (some .int)) (by decide) rfl (Nat.le_of_ble_eq_true rfl) ?_
  intro p e s m args below meth c hx hb hr hts hown hlocks hml hnm hK hB ls hl
  have hl : lv_has ls 5 [(0, .ref x), (1, .ref (pa i)), (2, .ref qa)] := hl
  have hnp := hI.hnp
  have lvr := lvs_rg hI (i := i) hi1
  obtain ⟨nl, enl⟩ : ∃ nl : Nat, nl = (lvs (σ 2 i) (σ 3 i)).toNat := ⟨_, rfl⟩
  have enl2 : (nl : Int) = lvs (σ 2 i) (σ 3 i) := by rw [enl]; exact Int.toNat_of_nonneg (by omega)
  refine j_iconst hx hb dX3_countInPart_0 ?_
  refine lv_istore_n (lv' := [(3, .int (iI 0)), (0, .ref x), (1, .ref (pa i)), (2, .ref qa)]) hx hb dX3_countInPart_1 rfl hl (by decide) rfl (fun ls hl => ?_)
  refine j_iconst hx hb dX3_countInPart_2 ?_
  refine lv_istore (lv' := [(4, .int (iI 0)), (3, .int (iI 0)), (0, .ref x), (1, .ref (pa i)), (2, .ref qa)]) hx hb dX3_countInPart_3 hl (by decide) rfl (fun ls hl => ?_)
  have lp_5 : ∀ (fuel w : Nat) (a : Int), w ≤ nl → nl + 1 ≤ w + fuel → ∀ (ea : a = csm (fun w => mayM σ i (w : Int) lo hi so) (fun w => cil σ i (w : Int) lo hi so) w) (H : Heap) (locs : List Loc), Bk D z s.heap h H locs → ∀ ls : Array Slot, lv_has ls 5 [(4, .int (iI (w : Int))), (3, .int (iI a)), (0, .ref x), (1, .ref (pa i)), (2, .ref qa)] → W p l e rmX3_countInPart s m args below meth c H locs 0 0 (MQ below (Qx D z (fun v u => v = some (.int (iI (cip σ i lo hi so))) ∧ h = u)) args s (rmX3_countInPart).cells (rmX3_countInPart).slots (zA z)) (F0 m 5 ls []) := by
    intro fuel
    induction fuel with
    | zero => intro w a w1 w2; exact absurd w2 (by omega)
    | succ fuel ih =>
      intro w a w1 w2 ea H locs hB ls hl
      refine lv_iload hx hb dX3_countInPart_5 (lv_at hl 0 rfl) ?_
      refine lv_aload_n hx hb dX3_countInPart_7 rfl (lv_at hl 3 rfl) ?_
      have pf_1 := hI.part i (by omega)
      have bd_2 := hI.bd 2 i
      refine m_run (va_runV (As := []) (rest := [.int (iI (w : Int))]) ⟨hx, hb, hml, hown, hts⟩ (k_X0_leaves (l := l) (hC.pt i (by omega)) ⟨by omega, by omega⟩) (cwV 0 hts gX3_countInPart_X0_leaves rfl rfl rfl (by decide +kernel) ⟨by decide, by decide⟩) ⟨Kp.blind _ _ _ _ _, m_recv hK hB (ci := 0) rfl (hC.pt i (by omega)), fun U hU hW => hK.pass hB U hU hW⟩ rfl rfl hl.1 rfl (lv_room (Nat.le_of_ble_eq_true rfl)) dX3_countInPart_8 ⟨Nat.le_of_ble_eq_true rfl, Nat.le_of_ble_eq_true rfl⟩) hB (fun v u H locs hp_3 hB => ?_)
      obtain ⟨rfl, rfl⟩ := hp_3
      show W _ _ _ _ _ _ _ _ _ _ _ _ _ _ _ (F0 m 11 ls [.int (iI (lvs (σ 2 i) (σ 3 i))), .int (iI (w : Int))])
      have bd_4 := hI.bd 3 i
      refine j_icmp_ge (tgt := 42) hx hb dX3_countInPart_11 (by decide) ⟨by omega, by omega⟩ ⟨by omega, by omega⟩ (fun c_5 => ?_) (fun c_5 => ?_)
      · refine lv_iload_n hx hb dX3_countInPart_42 rfl (lv_at hl 1 rfl) ?_
        exact m_zret hx hb hr rfl hlocks hB (by decide) (by decide) dX3_countInPart_43 ⟨ret_e (by rw [ea, show w = nl by omega, enl]; rfl), rfl⟩
      · refine lv_aload_n hx hb dX3_countInPart_14 rfl (lv_at hl 2 rfl) ?_
        refine lv_aload_n hx hb dX3_countInPart_15 rfl (lv_at hl 3 rfl) ?_
        refine lv_iload hx hb dX3_countInPart_16 (lv_at hl 0 rfl) ?_
        refine lv_aload_n hx hb dX3_countInPart_18 rfl (lv_at hl 4 rfl) ?_
        refine m_run (va_runV (As := [.ref (pa i), .int (iI (w : Int)), .ref qa]) (rest := []) ⟨hx, hb, hml, hown, hts⟩ (k_X3_mayMatter (l := l) hC hI hq (by omega) (by omega) (by omega) (by omega) (by omega) (by omega) (i := i) (leaf := (w : Int)) (by omega) ⟨by omega, by omega⟩) (cwV 3 hts gX3_countInPart_X3_mayMatter rfl rfl rfl (by decide +kernel) ⟨by decide, by decide⟩) ⟨Kp.blind _ _ _ _ _, m_recv hK hB (ci := 3) rfl hC.tb, fun U hU hW => hK.pass hB U hU hW⟩ rfl rfl hl.1 rfl (lv_room (Nat.le_of_ble_eq_true rfl)) dX3_countInPart_19 ⟨Nat.le_of_ble_eq_true rfl, Nat.le_of_ble_eq_true rfl⟩) hB (fun v u H locs hp_6 hB => ?_)
        obtain ⟨rfl, rfl⟩ := hp_6
        show W _ _ _ _ _ _ _ _ _ _ _ _ _ _ _ (F0 m 22 ls [.int (iI (b2 (mayM σ i (w : Int) lo hi so)))])
        refine j_ifeqP (tgt := 36) hx hb dX3_countInPart_22 (by decide) (fun c_7 => ?_) (fun c_7 => ?_)
        · refine j_iinc (lv' := [(4, .int (iI ((w + 1 : Nat) : Int))), (3, .int (iI a)), (0, .ref x), (1, .ref (pa i)), (2, .ref qa)]) hx hb dX3_countInPart_36 hl (k := 0) rfl (by decide) rfl (fun ls hl => ?_)
          refine lv_goto (tgt := 5) hx hb dX3_countInPart_39 (by decide) ?_
          exact ih (w + 1) a (by omega) (by omega) (cz_f ea c_7) _ _ hB ls (lv_sub hl [0, 1, 2, 3, 4] rfl)
        · refine lv_iload_n hx hb dX3_countInPart_25 rfl (lv_at hl 1 rfl) ?_
          refine lv_aload_n hx hb dX3_countInPart_26 rfl (lv_at hl 2 rfl) ?_
          refine lv_aload_n hx hb dX3_countInPart_27 rfl (lv_at hl 3 rfl) ?_
          refine lv_iload hx hb dX3_countInPart_28 (lv_at hl 0 rfl) ?_
          refine lv_aload_n hx hb dX3_countInPart_30 rfl (lv_at hl 4 rfl) ?_
          refine m_run (va_runV (As := [.ref (pa i), .int (iI (w : Int)), .ref qa]) (rest := [.int (iI a)]) ⟨hx, hb, hml, hown, hts⟩ (k_X3_countInLeaf (l := l) hC hI hq (by omega) (by omega) (by omega) (by omega) (by omega) (by omega) (i := i) (leaf := (w : Int)) (by omega) ⟨by omega, by omega⟩) (cwV 3 hts gX3_countInPart_X3_countInLeaf rfl rfl rfl (by decide +kernel) ⟨by decide, by decide⟩) ⟨Kp.blind _ _ _ _ _, m_recv hK hB (ci := 3) rfl hC.tb, fun U hU hW => hK.pass hB U hU hW⟩ rfl rfl hl.1 rfl (lv_room (Nat.le_of_ble_eq_true rfl)) dX3_countInPart_31 ⟨Nat.le_of_ble_eq_true rfl, Nat.le_of_ble_eq_true rfl⟩) hB (fun v u H locs hp_8 hB => ?_)
          obtain ⟨rfl, rfl⟩ := hp_8
          show W _ _ _ _ _ _ _ _ _ _ _ _ _ _ _ (F0 m 34 ls [.int (iI (cil σ i (w : Int) lo hi so)), .int (iI a)])
          refine j_iadd hx hb dX3_countInPart_34 ?_
          refine lv_istore_n (lv' := [(3, .int (iI (a + (cil σ i (w : Int) lo hi so)))), (4, .int (iI (w : Int))), (0, .ref x), (1, .ref (pa i)), (2, .ref qa)]) hx hb dX3_countInPart_35 rfl hl (by decide) rfl (fun ls hl => ?_)
          refine j_iinc (lv' := [(4, .int (iI ((w + 1 : Nat) : Int))), (3, .int (iI (a + (cil σ i (w : Int) lo hi so)))), (0, .ref x), (1, .ref (pa i)), (2, .ref qa)]) hx hb dX3_countInPart_36 hl (k := 1) rfl (by decide) rfl (fun ls hl => ?_)
          refine lv_goto (tgt := 5) hx hb dX3_countInPart_39 (by decide) ?_
          exact ih (w + 1) (a + (cil σ i (w : Int) lo hi so)) (by omega) (by omega) (cz_t ea c_7) _ _ hB ls (lv_sub hl [0, 1, 2, 3, 4] rfl)
  exact lp_5 (nl + 1) 0 0 (by omega) (by omega) rfl _ _ hB ls (lv_sub hl [0, 1, 2, 3, 4] rfl)

abbrev rmX3_parts : Room := { frames := 0, cells := 0, slots := 0, locals := 0 }
set_option maxHeartbeats 4000000 in
set_option maxRecDepth 100000 in
theorem k_X3_parts {l : Launch} {D : va_G} {z : Nat} {cI cP cR cJ : ClassId} {h : Hp} {x xp xr : Nat} {pa ra : Nat → Nat} {σ : Sg} (hC : CR cP cR x xp xr pa ra σ h) (hI : Ib σ)  : Ct l D z (tyL cI cP cR cJ) yX3_parts wsX3_parts rmX3_parts [.ref x] h (fun v u => (v = some (.int (iI (σ 9 0)))) ∧ CR cP cR x xp xr pa ra σ u ∧ FrC h u) := by
  refine Ct.of (cc := cX3_parts) (maxL := 1) (ret := (some .int)) (by decide) rfl (Nat.le_of_ble_eq_true rfl) ?_
  intro p e s m args below meth c hx hb hr hts hown hlocks hml hnm hK hB ls hl
  have hl : lv_has ls 1 [(0, .ref x)] := hl
  have hnp := hI.hnp
  have hnr := hI.hnr
  refine lv_aload_n hx hb dX3_parts_0 rfl (lv_at hl 0 rfl) ?_
  refine m_get hx hb hts (fun _ q => List.mem_cons_of_mem _ (List.mem_append_right _ q)) hown hK hB hC.tb (ci := 3) rfl 2 (by decide) (List.mem_of_getElem? (i := 1) rfl) rfl rfl dX3_parts_1 ?_
  exact m_zret hx hb hr rfl hlocks hB (by decide) (by decide) dX3_parts_4 ⟨rfl, hC, FrC.rf _⟩

abbrev rmX3_isStale : Room := { frames := 0, cells := 0, slots := 0, locals := 0 }
set_option maxHeartbeats 4000000 in
set_option maxRecDepth 100000 in
theorem k_X3_isStale {l : Launch} {D : va_G} {z : Nat} {cI cP cR cJ : ClassId} {h : Hp} {x xp xr : Nat} {pa ra : Nat → Nat} {σ : Sg} (hC : CR cP cR x xp xr pa ra σ h) (hI : Ib σ)  : Ct l D z (tyL cI cP cR cJ) yX3_isStale wsX3_isStale rmX3_isStale [.ref x] h (fun v u => (v = some (.int (iI (σ 11 0)))) ∧ CR cP cR x xp xr pa ra σ u ∧ FrC h u) := by
  refine Ct.of (cc := cX3_isStale) (maxL := 1) (ret := (some .boolean)) (by decide) rfl (Nat.le_of_ble_eq_true rfl) ?_
  intro p e s m args below meth c hx hb hr hts hown hlocks hml hnm hK hB ls hl
  have hl : lv_has ls 1 [(0, .ref x)] := hl
  have hnp := hI.hnp
  have hnr := hI.hnr
  refine lv_aload_n hx hb dX3_isStale_0 rfl (lv_at hl 0 rfl) ?_
  refine m_get hx hb hts (fun _ q => List.mem_cons_of_mem _ (List.mem_append_right _ q)) hown hK hB hC.tb (ci := 3) rfl 5 (by decide) (List.mem_of_getElem? (i := 1) rfl) rfl rfl dX3_isStale_1 ?_
  exact m_zret hx hb hr (nb01 hI.2.2.1) hlocks hB (by decide) (by decide) dX3_isStale_4 ⟨rfl, hC, FrC.rf _⟩

abbrev rmX3_rows : Room := { frames := 1, cells := 0, slots := 0, locals := 20 }
set_option maxHeartbeats 4000000 in
set_option maxRecDepth 100000 in
theorem k_X3_rows {l : Launch} {D : va_G} {z : Nat} {cI cP cR cJ : ClassId} {h : Hp} {x xp xr : Nat} {pa ra : Nat → Nat} {σ : Sg} (hC : CR cP cR x xp xr pa ra σ h) (hI : Ib σ)  : Ct l D z (tyL cI cP cR cJ) yX3_rows wsX3_rows rmX3_rows [.ref x] h (fun v u => (v = some (.int (iI (cnt (fun j => live σ j ∧ σ 4 (pn σ j) = 0) (nrN σ))))) ∧ CR cP cR x xp xr pa ra σ u ∧ FrC h u) := by
  refine Ct.of (cc := cX3_rows) (maxL := 6) (ret := (some .int)) (by decide) rfl (Nat.le_of_ble_eq_true rfl) ?_
  intro p e s m args below meth c hx hb hr hts hown hlocks hml hnm hK hB ls hl
  have hl : lv_has ls 6 [(0, .ref x)] := hl
  have hnp := hI.hnp
  have hnr := hI.hnr
  refine j_iconst hx hb dX3_rows_0 ?_
  refine lv_istore_n (lv' := [(1, .int (iI 0)), (0, .ref x)]) hx hb dX3_rows_1 rfl hl (by decide) rfl (fun ls hl => ?_)
  refine lv_aload_n hx hb dX3_rows_2 rfl (lv_at hl 1 rfl) ?_
  refine m_get hx hb hts (fun _ q => List.mem_cons_of_mem _ (List.mem_append_left _ (List.mem_append_left _ (List.mem_append_right _ q)))) hown hK hB hC.tb (ci := 3) rfl 3 (by decide) (List.mem_of_getElem? (i := 1) rfl) rfl rfl dX3_rows_3 ?_
  refine lv_astore_n (lv' := [(2, .ref xr), (1, .int (iI 0)), (0, .ref x)]) hx hb dX3_rows_6 rfl hl (by decide) rfl (fun ls hl => ?_)
  refine lv_aload_n hx hb dX3_rows_7 rfl (lv_at hl 0 rfl) ?_
  refine m_lenR hx hb hK hB hC dX3_rows_8 ?_
  refine lv_istore_n (lv' := [(3, .int (iI 200)), (2, .ref xr), (1, .int (iI 0)), (0, .ref x)]) hx hb dX3_rows_9 rfl hl (by decide) rfl (fun ls hl => ?_)
  refine j_iconst hx hb dX3_rows_10 ?_
  refine lv_istore (lv' := [(4, .int (iI 0)), (3, .int (iI 200)), (2, .ref xr), (1, .int (iI 0)), (0, .ref x)]) hx hb dX3_rows_11 hl (by decide) rfl (fun ls hl => ?_)
  have lp_13 : ∀ (fuel j : Nat) (a : Int), j ≤ 200 → 200 + 1 ≤ j + fuel → ∀ (ea : a = cnt (fun j => live σ j ∧ σ 4 (pn σ j) = 0) j) (H : Heap) (locs : List Loc), Bk D z s.heap h H locs → ∀ ls : Array Slot, lv_has ls 6 [(4, .int (iI (j : Int))), (3, .int (iI 200)), (2, .ref xr), (1, .int (iI a)), (0, .ref x)] → W p l e rmX3_rows s m args below meth c H locs 0 0 (MQ below (Qx D z (fun v u => (v = some (.int (iI (cnt (fun j => live σ j ∧ σ 4 (pn σ j) = 0) (nrN σ))))) ∧ CR cP cR x xp xr pa ra σ u ∧ FrC h u)) args s (rmX3_rows).cells (rmX3_rows).slots (zA z)) (F0 m 13 ls []) := by
    intro fuel
    induction fuel with
    | zero => intro j a w1 w2; exact absurd w2 (by omega)
    | succ fuel ih =>
      intro j a w1 w2 ea H locs hB ls hl
      have ear := cnt_rg (fun j => live σ j ∧ σ 4 (pn σ j) = 0) j
      refine lv_iload hx hb dX3_rows_13 (lv_at hl 0 rfl) ?_
      refine lv_iload_n hx hb dX3_rows_15 rfl (lv_at hl 1 rfl) ?_
      refine j_icmp_ge (tgt := 47) hx hb dX3_rows_16 (by decide) ⟨by omega, by omega⟩ ⟨by decide, by decide⟩ (fun c_1 => ?_) (fun c_1 => ?_)
      · refine lv_iload_n hx hb dX3_rows_47 rfl (lv_at hl 3 rfl) ?_
        exact m_zret hx hb hr rfl hlocks hB (by decide) (by decide) dX3_rows_48 ⟨ret_e (cs_e hI ea (by omega) (fun _ q => q.1)), hC, FrC.rf _⟩
      · refine lv_aload_n hx hb dX3_rows_19 rfl (lv_at hl 2 rfl) ?_
        refine lv_iload hx hb dX3_rows_20 (lv_at hl 0 rfl) ?_
        refine m_ldR (j := j) hx hb hK hB hC (by omega) dX3_rows_22 (fun lv_2 => ?_) (fun lv_2 => ?_)
        · refine lv_astore (lv' := [(5, .ref (ra j)), (4, .int (iI (j : Int))), (3, .int (iI 200)), (2, .ref xr), (1, .int (iI a)), (0, .ref x)]) hx hb dX3_rows_23 hl (by decide) rfl (fun ls hl => ?_)
          refine lv_aload hx hb dX3_rows_25 (lv_at hl 0 rfl) ?_
          refine lv_ifnull hx hb dX3_rows_27 ?_
          refine lv_aload hx hb dX3_rows_30 (lv_at hl 0 rfl) ?_
          have rf_3 := hI.row j lv_2
          have pn_4 := hI.pnI j lv_2
          have pf_5 := hI.part (pn σ j) (by omega)
          have bd_6 := hI.bd 4 (pn σ j)
          refine m_run (va_runV (As := []) (rest := []) ⟨hx, hb, hml, hown, hts⟩ (k_X2_isInTable (l := l) (hC.rw j lv_2) (hC.pt (pn σ j) (by omega)) ⟨by omega, by omega⟩) (cwV 0 hts gX3_rows_X2_isInTable rfl rfl rfl (by decide +kernel) ⟨by decide, by decide⟩) ⟨Kp.blind _ _ _ _ _, m_recv hK hB (ci := 2) rfl (hC.rw j lv_2), fun U hU hW => hK.pass hB U hU hW⟩ rfl rfl hl.1 rfl (lv_room (Nat.le_of_ble_eq_true rfl)) dX3_rows_32 ⟨Nat.le_of_ble_eq_true rfl, Nat.le_of_ble_eq_true rfl⟩) hB (fun v u H locs hp_7 hB => ?_)
          obtain ⟨rfl, rfl⟩ := hp_7
          show W _ _ _ _ _ _ _ _ _ _ _ _ _ _ _ (F0 m 35 ls [.int (iI (b2 ((σ 4 (pn σ j)) = 0)))])
          refine j_ifeqP (tgt := 41) hx hb dX3_rows_35 (by decide) (fun c_8 => ?_) (fun c_8 => ?_)
          · refine j_iinc (lv' := [(4, .int (iI ((j + 1 : Nat) : Int))), (5, .ref (ra j)), (3, .int (iI 200)), (2, .ref xr), (1, .int (iI a)), (0, .ref x)]) hx hb dX3_rows_41 hl (k := 1) rfl (by decide) rfl (fun ls hl => ?_)
            refine lv_goto (tgt := 13) hx hb dX3_rows_44 (by decide) ?_
            exact ih (j + 1) a (by omega) (by omega) (cs_f ea (fun q => c_8 q.2)) _ _ hB ls (lv_sub hl [0, 2, 3, 4, 5] rfl)
          · refine j_iinc (lv' := [(1, .int (iI (a + 1))), (5, .ref (ra j)), (4, .int (iI (j : Int))), (3, .int (iI 200)), (2, .ref xr), (0, .ref x)]) hx hb dX3_rows_38 hl (k := 4) rfl (by decide) rfl (fun ls hl => ?_)
            refine j_iinc (lv' := [(4, .int (iI ((j + 1 : Nat) : Int))), (1, .int (iI (a + 1))), (5, .ref (ra j)), (3, .int (iI 200)), (2, .ref xr), (0, .ref x)]) hx hb dX3_rows_41 hl (k := 2) rfl (by decide) rfl (fun ls hl => ?_)
            refine lv_goto (tgt := 13) hx hb dX3_rows_44 (by decide) ?_
            exact ih (j + 1) (a + 1) (by omega) (by omega) (cs_t ea ⟨lv_2, c_8⟩) _ _ hB ls (lv_sub hl [0, 3, 4, 1, 5] rfl)
        · refine lv_astoreN (lv' := [(5, .null), (4, .int (iI (j : Int))), (3, .int (iI 200)), (2, .ref xr), (1, .int (iI a)), (0, .ref x)]) hx hb dX3_rows_23 hl (by decide) rfl (fun ls hl => ?_)
          refine lv_aloadN hx hb dX3_rows_25 (lv_at hl 0 rfl) ?_
          refine lv_ifnullN (tgt := 41) hx hb dX3_rows_27 (by decide) ?_
          refine j_iinc (lv' := [(4, .int (iI ((j + 1 : Nat) : Int))), (5, .null), (3, .int (iI 200)), (2, .ref xr), (1, .int (iI a)), (0, .ref x)]) hx hb dX3_rows_41 hl (k := 1) rfl (by decide) rfl (fun ls hl => ?_)
          refine lv_goto (tgt := 13) hx hb dX3_rows_44 (by decide) ?_
          exact ih (j + 1) a (by omega) (by omega) (cs_f ea (fun q => lv_2 q.1)) _ _ hB ls (lv_sub hl [0, 2, 3, 4, 5] rfl)
  exact lp_13 (200 + 1) 0 0 (by omega) (by omega) rfl _ _ hB ls (lv_sub hl [0, 1, 2, 3, 4] rfl)

abbrev rmX3_stateOf : Room := { frames := 7, cells := 1, slots := 6, locals := 112 }
set_option maxHeartbeats 4000000 in
set_option maxRecDepth 100000 in
theorem k_X3_stateOf {l : Launch} {D : va_G} {z : Nat} {cI cP cR cJ : ClassId} {h : Hp} (hfl : l.stackTraces = false) {x xp xr : Nat} {pa ra : Nat → Nat} {σ : Sg} (hC : CR cP cR x xp xr pa ra σ h) (hI : Ib σ) {n : Int} (rn : rg n) : Cx l D z (tyL cI cP cR cJ) yX3_stateOf wsX3_stateOf rmX3_stateOf [.ref x, .int (iI n)] h (fun v u => ((0 ≤ n ∧ n ≤ σ 9 0) ∧ v = some (.int (iI (σ 4 n.toNat)))) ∧ CR cP cR x xp xr pa ra σ u ∧ FrC h u) (fun E u => (E = nE3 ∧ ¬ (0 ≤ n ∧ n ≤ σ 9 0)) ∧ CR cP cR x xp xr pa ra σ u ∧ FrC h u) := by
  refine Cx.of (cc := cX3_stateOf) (maxL := 2) (ret := (some .int)) (by decide) rfl (Nat.le_of_ble_eq_true rfl) ?_
  intro p e s m args below meth c hx hb hr hts hown hlocks hml hnm hout hK hB ls hl
  have hl : lv_has ls 2 [(0, .ref x), (1, .int (iI n))] := hl
  have hnp := hI.hnp
  have hnr := hI.hnr
  refine lv_aload_n hx hb dX3_stateOf_0 rfl (lv_at hl 0 rfl) ?_
  refine lv_iload_n hx hb dX3_stateOf_1 rfl (lv_at hl 1 rfl) ?_
  refine m_runX (vx_runV (As := [.int (iI n)]) (rest := []) ⟨hx, hb, hml, hown, hts⟩ (k_X3_knownPart (l := l) hfl hC hI ⟨by omega, by omega⟩) (cwV 1 hts gX3_stateOf_X3_knownPart rfl rfl rfl (by decide +kernel) ⟨by decide, by decide⟩) ⟨Kp.blind _ _ _ _ _, m_recv hK hB (ci := 3) rfl hC.tb, fun U hU hW => hK.pass hB U hU hW⟩ rfl rfl hl.1 rfl (lv_room (Nat.le_of_ble_eq_true rfl)) dX3_stateOf_2 ⟨Nat.le_of_ble_eq_true rfl, Nat.le_of_ble_eq_true rfl⟩) hB (fun E u H locs q9 ce hp_2 hB hc9 hv9 hk9 => ?_) (fun v u H locs hp_2 hB => ?_)
  · obtain ⟨rfl, rfl, hn⟩ := hp_2
    exact m_out hout hlocks hB hc9 hv9 hk9 (Nat.le_of_ble_eq_true rfl) (Nat.le_of_ble_eq_true rfl) ⟨⟨rfl, hn⟩, hC, FrC.rf _⟩
  · obtain ⟨i_1, rfl, li_i_1, rfl, rfl⟩ := hp_2
    show W _ _ _ _ _ _ _ _ _ _ _ _ _ _ _ (F0 m 5 ls [.ref (pa i_1)])
    have pf_3 := hI.part i_1 (by omega)
    refine m_get hx hb hts (fun _ q => List.mem_cons_of_mem _ (List.mem_append_left _ (List.mem_append_left _ (List.mem_append_right _ q)))) hown hK hB (hC.pt i_1 (by omega)) (ci := 0) rfl 5 (by decide) (List.mem_of_getElem? (i := 1) rfl) rfl rfl dX3_stateOf_5 ?_
    exact vx_ret (m_zret hx hb hr rfl hlocks hB (by decide) (by decide) dX3_stateOf_8 ⟨⟨by omega, by rw [Int.toNat_natCast]⟩, hC, FrC.rf _⟩)

abbrev rmX3_partOf : Room := { frames := 7, cells := 1, slots := 6, locals := 110 }
set_option maxHeartbeats 4000000 in
set_option maxRecDepth 100000 in
theorem k_X3_partOf {l : Launch} {D : va_G} {z : Nat} {cI cP cR cJ : ClassId} {h : Hp} (hfl : l.stackTraces = false) {x xp xr : Nat} {pa ra : Nat → Nat} {σ : Sg} (hC : CR cP cR x xp xr pa ra σ h) (hI : Ib σ) {ky : Int} (rk : rg ky) : Cx l D z (tyL cI cP cR cJ) yX3_partOf wsX3_partOf rmX3_partOf [.ref x, .int (iI ky)] h (fun v u => ((0 ≤ ky ∧ ky ≤ 999) ∧ v = some (.int (iI ((pw σ ky : Nat) : Int)))) ∧ CR cP cR x xp xr pa ra σ u ∧ FrC h u) (fun E u => (E = nE1 ∧ ¬ (0 ≤ ky ∧ ky ≤ 999)) ∧ CR cP cR x xp xr pa ra σ u ∧ FrC h u) := by
  refine Cx.of (cc := cX3_partOf) (maxL := 2) (ret := (some .int)) (by decide) rfl (Nat.le_of_ble_eq_true rfl) ?_
  intro p e s m args below meth c hx hb hr hts hown hlocks hml hnm hout hK hB ls hl
  have hl : lv_has ls 2 [(0, .ref x), (1, .int (iI ky))] := hl
  have hnp := hI.hnp
  have hnr := hI.hnr
  refine lv_iload_n hx hb dX3_partOf_0 rfl (lv_at hl 1 rfl) ?_
  refine m_runX (vx_runS (As := [.int (iI ky)]) (rest := []) ⟨hx, hb, hml, hown, hts⟩ (k_X3_checkKey (l := l) hfl ⟨by omega, by omega⟩) (va_cwS 1 hts gX3_partOf_X3_checkKey rfl rfl rfl (by decide +kernel) ⟨by decide, by decide⟩) ⟨Kp.blind _ _ _ _ _, fun U hU hW => hK.pass hB U hU hW⟩ rfl rfl hl.1 rfl (lv_room (Nat.le_of_ble_eq_true rfl)) dX3_partOf_1 ⟨Nat.le_of_ble_eq_true rfl, Nat.le_of_ble_eq_true rfl⟩) hB (fun E u H locs q9 ce hp_1 hB hc9 hv9 hk9 => ?_) (fun v u H locs hp_1 hB => ?_)
  · obtain ⟨rfl, rfl, hn⟩ := hp_1
    exact m_out hout hlocks hB hc9 hv9 hk9 (Nat.le_of_ble_eq_true rfl) (Nat.le_of_ble_eq_true rfl) ⟨⟨rfl, hn⟩, hC, FrC.rf _⟩
  · obtain ⟨rfl, rfl, hp_1'⟩ := hp_1
    show W _ _ _ _ _ _ _ _ _ _ _ _ _ _ _ (F0 m 4 ls [])
    refine lv_aload_n hx hb dX3_partOf_4 rfl (lv_at hl 0 rfl) ?_
    refine lv_iload_n hx hb dX3_partOf_5 rfl (lv_at hl 1 rfl) ?_
    refine m_run (va_runV (As := [.int (iI ky)]) (rest := []) ⟨hx, hb, hml, hown, hts⟩ (k_X3_holderOf (l := l) hC hI (key := ky) (by omega) (by omega)) (cwV 1 hts gX3_partOf_X3_holderOf rfl rfl rfl (by decide +kernel) ⟨by decide, by decide⟩) ⟨Kp.blind _ _ _ _ _, m_recv hK hB (ci := 3) rfl hC.tb, fun U hU hW => hK.pass hB U hU hW⟩ rfl rfl hl.1 rfl (lv_room (Nat.le_of_ble_eq_true rfl)) dX3_partOf_6 ⟨Nat.le_of_ble_eq_true rfl, Nat.le_of_ble_eq_true rfl⟩) hB (fun v u H locs hp_3 hB => ?_)
    obtain ⟨rfl, rfl⟩ := hp_3
    show W _ _ _ _ _ _ _ _ _ _ _ _ _ _ _ (F0 m 9 ls [.ref (pa (pw σ ky))])
    have pwl_2 := pw_le hI ky
    have pf_4 := hI.part (pw σ ky) (by omega)
    refine m_get hx hb hts (fun _ q => List.mem_cons_of_mem _ (List.mem_append_left _ (List.mem_append_left _ (List.mem_append_right _ q)))) hown hK hB (hC.pt (pw σ ky) (by omega)) (ci := 0) rfl 0 (by decide) (List.mem_of_getElem? (i := 1) rfl) rfl rfl dX3_partOf_9 ?_
    exact vx_ret (m_zret hx hb hr rfl hlocks hB (by decide) (by decide) dX3_partOf_12 ⟨⟨by omega, rfl⟩, hC, FrC.rf _⟩)

abbrev rmX3_leafOf : Room := { frames := 7, cells := 1, slots := 6, locals := 112 }
set_option maxHeartbeats 4000000 in
set_option maxRecDepth 100000 in
theorem k_X3_leafOf {l : Launch} {D : va_G} {z : Nat} {cI cP cR cJ : ClassId} {h : Hp} (hfl : l.stackTraces = false) {x xp xr : Nat} {pa ra : Nat → Nat} {σ : Sg} (hC : CR cP cR x xp xr pa ra σ h) (hI : Ib σ) {n : Int} (rn : rg n) : Cx l D z (tyL cI cP cR cJ) yX3_leafOf wsX3_leafOf rmX3_leafOf [.ref x, .int (iI n)] h (fun v u => (isR σ n ∧ v = some (.int (iI (10 * ((pn σ n.toNat : Nat) : Int) + lfr σ n.toNat)))) ∧ CR cP cR x xp xr pa ra σ u ∧ FrC h u) (fun E u => (E = nE3 ∧ ¬ isR σ n) ∧ CR cP cR x xp xr pa ra σ u ∧ FrC h u) := by
  refine Cx.of (cc := cX3_leafOf) (maxL := 2) (ret := (some .int)) (by decide) rfl (Nat.le_of_ble_eq_true rfl) ?_
  intro p e s m args below meth c hx hb hr hts hown hlocks hml hnm hout hK hB ls hl
  have hl : lv_has ls 2 [(0, .ref x), (1, .int (iI n))] := hl
  have hnp := hI.hnp
  have hnr := hI.hnr
  refine lv_aload_n hx hb dX3_leafOf_0 rfl (lv_at hl 0 rfl) ?_
  refine lv_iload_n hx hb dX3_leafOf_1 rfl (lv_at hl 1 rfl) ?_
  refine m_runX (vx_runV (As := [.int (iI n)]) (rest := []) ⟨hx, hb, hml, hown, hts⟩ (k_X3_presentRow (l := l) hfl hC hI ⟨by omega, by omega⟩) (cwV 1 hts gX3_leafOf_X3_presentRow rfl rfl rfl (by decide +kernel) ⟨by decide, by decide⟩) ⟨Kp.blind _ _ _ _ _, m_recv hK hB (ci := 3) rfl hC.tb, fun U hU hW => hK.pass hB U hU hW⟩ rfl rfl hl.1 rfl (lv_room (Nat.le_of_ble_eq_true rfl)) dX3_leafOf_2 ⟨Nat.le_of_ble_eq_true rfl, Nat.le_of_ble_eq_true rfl⟩) hB (fun E u H locs q9 ce hp_2 hB hc9 hv9 hk9 => ?_) (fun v u H locs hp_2 hB => ?_)
  · obtain ⟨rfl, rfl, hn⟩ := hp_2
    exact m_out hout hlocks hB hc9 hv9 hk9 (Nat.le_of_ble_eq_true rfl) (Nat.le_of_ble_eq_true rfl) ⟨⟨rfl, hn⟩, hC, FrC.rf _⟩
  · obtain ⟨j_1, rfl, lj_j_1, rfl, rfl⟩ := hp_2
    show W _ _ _ _ _ _ _ _ _ _ _ _ _ _ _ (F0 m 5 ls [.ref (ra j_1)])
    have hkd := hI.kd (pn σ j_1) (by have := hI.pnI j_1 lj_j_1; omega)
    have rf_3 := hI.row j_1 lj_j_1
    have pn_4 := hI.pnI j_1 lj_j_1
    have pf_5 := hI.part (pn σ j_1) (by omega)
    have bd_6 := hI.bd 2 (pn σ j_1)
    refine m_run (va_runV (As := []) (rest := []) ⟨hx, hb, hml, hown, hts⟩ (k_X2_place (l := l) (hC.rw j_1 lj_j_1) (hC.pt (pn σ j_1) (by omega)) (by omega) (by omega) (by omega) (by omega) ⟨by omega, by omega⟩ (by omega) (by omega) (by omega)) (cwV 0 hts gX3_leafOf_X2_place rfl rfl rfl (by decide +kernel) ⟨by decide, by decide⟩) ⟨Kp.blind _ _ _ _ _, m_recv hK hB (ci := 2) rfl (hC.rw j_1 lj_j_1), fun U hU hW => hK.pass hB U hU hW⟩ rfl rfl hl.1 rfl (lv_room (Nat.le_of_ble_eq_true rfl)) dX3_leafOf_5 ⟨Nat.le_of_ble_eq_true rfl, Nat.le_of_ble_eq_true rfl⟩) hB (fun v u H locs hp_7 hB => ?_)
    obtain ⟨rfl, rfl⟩ := hp_7
    show W _ _ _ _ _ _ _ _ _ _ _ _ _ _ _ (F0 m 8 ls [.int (iI (10 * (((pn σ j_1) : Nat) : Int) + lf (σ 2 (pn σ j_1)) (σ 3 (pn σ j_1)) (σ 6 j_1) (σ 7 j_1)))])
    exact vx_ret (m_zret hx hb hr rfl hlocks hB (by decide) (by decide) dX3_leafOf_8 ⟨⟨isR_j.mpr lj_j_1, by rw [Int.toNat_natCast]; rfl⟩, hC, FrC.rf _⟩)

