abbrev rmX0_hashReaches : Room := { frames := 1, cells := 0, slots := 0, locals := 24 }
set_option maxHeartbeats 4000000 in
set_option maxRecDepth 100000 in
theorem k_X0_hashReaches {l : Launch} {D : va_G} {z : Nat} {cI cP cR cJ : ClassId} {h : Hp} {a : Nat} {n f t k d st : Int} (he : h a = some (prt n f t k d st)) {leaf fi la : Int} (rl : rg leaf) (f0 : 0 ≤ fi) (f9 : fi ≤ 999) (l0 : 0 ≤ la) (l9 : la ≤ 999) (d0 : 0 < d) (d5 : d ≤ 5) : Ct l D z (tyL cI cP cR cJ) yX0_hashReaches wsX0_hashReaches rmX0_hashReaches [.ref a, .int (iI leaf), .int (iI fi), .int (iI la)] h (fun v u => v = some (.int (iI (b2 (hre d leaf fi la)))) ∧ h = u) := by
  refine Ct.of (cc := cX0_hashReaches) (maxL := 6) (ret := (some .boolean)) (by decide) rfl (Nat.le_of_ble_eq_true rfl) ?_
  intro p e s m args below meth c hx hb hr hts hown hlocks hml hnm hK hB ls hl
  have hl : lv_has ls 6 [(0, .ref a), (1, .int (iI leaf)), (2, .int (iI fi)), (3, .int (iI la))] := hl
  refine lv_iload_n hx hb dX0_hashReaches_0 rfl (lv_at hl 3 rfl) ?_
  refine lv_iload_n hx hb dX0_hashReaches_1 rfl (lv_at hl 2 rfl) ?_
  refine lv_aload_n hx hb dX0_hashReaches_2 rfl (lv_at hl 0 rfl) ?_
  refine m_get hx hb hts (fun _ q => List.mem_cons_of_mem _ (List.mem_append_right _ q)) hown hK hB he (ci := 0) rfl 4 (by decide) (List.mem_of_getElem? (i := 1) rfl) rfl rfl dX0_hashReaches_3 ?_
  refine j_iadd hx hb dX0_hashReaches_6 ?_
  refine j_iconst hx hb dX0_hashReaches_7 ?_
  refine j_isub hx hb dX0_hashReaches_8 ?_
  refine j_mmin hx hb (hml.trans hl.1.symm) hown (hts _ (List.mem_of_getElem? (i := 2) rfl)) (hts _ (List.mem_of_getElem? (i := 3) rfl)) (hts _ (List.mem_of_getElem? (i := 4) rfl)) (hts _ (List.mem_of_getElem? (i := 5) rfl)) (Nat.le_of_ble_eq_true rfl) (Nat.le_of_ble_eq_true rfl) (Nat.le_of_ble_eq_true rfl) (Nat.le_of_ble_eq_true rfl) ⟨by omega, by omega⟩ ⟨by omega, by omega⟩ dX0_hashReaches_9 ?_
  refine j_top (fun en een => ?_)
  refine lv_istore (lv' := [(4, .int (iI en)), (0, .ref a), (1, .int (iI leaf)), (2, .int (iI fi)), (3, .int (iI la))]) hx hb dX0_hashReaches_12 hl (by decide) rfl (fun ls hl => ?_)
  refine lv_iload_n hx hb dX0_hashReaches_14 rfl (lv_at hl 3 rfl) ?_
  refine lv_istore (lv' := [(5, .int (iI fi)), (4, .int (iI en)), (0, .ref a), (1, .int (iI leaf)), (2, .int (iI fi)), (3, .int (iI la))]) hx hb dX0_hashReaches_15 hl (by decide) rfl (fun ls hl => ?_)
  have lp_17 : ∀ (fuel j : Nat) (ky : Int), j ≤ 1000 → 1000 + 1 ≤ j + fuel → ∀ (ek : ky = fi + (j : Int)) (ea : ∀ i : Nat, i < j → (7 * (fi + i) + 3) % d ≠ leaf) (H : Heap) (locs : List Loc), Bk D z s.heap h H locs → ∀ ls : Array Slot, lv_has ls 6 [(5, .int (iI ky)), (4, .int (iI en)), (0, .ref a), (1, .int (iI leaf)), (2, .int (iI fi)), (3, .int (iI la))] → W p l e rmX0_hashReaches s m args below meth c H locs 0 0 (MQ below (Qx D z (fun v u => v = some (.int (iI (b2 (hre d leaf fi la)))) ∧ h = u)) args s (rmX0_hashReaches).cells (rmX0_hashReaches).slots (zA z)) (F0 m 17 ls []) := by
    intro fuel
    induction fuel with
    | zero => intro j ky w1 w2; exact absurd w2 (by omega)
    | succ fuel ih =>
      intro j ky w1 w2 ek ea H locs hB ls hl
      refine lv_iload hx hb dX0_hashReaches_17 (lv_at hl 0 rfl) ?_
      refine lv_iload hx hb dX0_hashReaches_19 (lv_at hl 1 rfl) ?_
      refine j_icmp_gt (tgt := 42) hx hb dX0_hashReaches_21 (by decide) ⟨by omega, by omega⟩ ⟨by omega, by omega⟩ (fun c_1 => ?_) (fun c_1 => ?_)
      · refine j_iconst hx hb dX0_hashReaches_42 ?_
        exact m_zret hx hb hr (by decide) hlocks hB (by decide) (by decide) dX0_hashReaches_43 ⟨ret_f (fun ⟨i, q1, q2⟩ => ea i (by omega) q2), rfl⟩
      · refine lv_aload_n hx hb dX0_hashReaches_24 rfl (lv_at hl 2 rfl) ?_
        refine lv_iload hx hb dX0_hashReaches_25 (lv_at hl 0 rfl) ?_
        refine m_run (va_runV (As := [.int (iI ky)]) (rest := []) ⟨hx, hb, hml, hown, hts⟩ (k_X0_leafByHash (l := l) he (key := ky) (by omega) (by omega) (by omega) (by omega)) (cwV 1 hts gX0_hashReaches_X0_leafByHash rfl rfl rfl (by decide +kernel) ⟨by decide, by decide⟩) ⟨Kp.blind _ _ _ _ _, m_recv hK hB (ci := 0) rfl he, fun U hU hW => hK.pass hB U hU hW⟩ rfl rfl hl.1 rfl (lv_room (Nat.le_of_ble_eq_true rfl)) dX0_hashReaches_27 ⟨Nat.le_of_ble_eq_true rfl, Nat.le_of_ble_eq_true rfl⟩) hB (fun v u H locs hp_2 hB => ?_)
        obtain ⟨rfl, rfl⟩ := hp_2
        show W _ _ _ _ _ _ _ _ _ _ _ _ _ _ _ (F0 m 30 ls [.int (iI ((7 * ky + 3) % d))])
        have em1 := Int.emod_nonneg (7 * ky + 3) (b := d) (by omega)
        have em2 := Int.emod_lt_of_pos (7 * ky + 3) (b := d) (by omega)
        refine lv_iload_n hx hb dX0_hashReaches_30 rfl (lv_at hl 3 rfl) ?_
        refine j_icmp_ne (tgt := 36) hx hb dX0_hashReaches_31 (by decide) ⟨by omega, by omega⟩ ⟨by omega, by omega⟩ (fun c_3 => ?_) (fun c_3 => ?_)
        · refine j_iinc (lv' := [(5, .int (iI (ky + 1))), (4, .int (iI en)), (0, .ref a), (1, .int (iI leaf)), (2, .int (iI fi)), (3, .int (iI la))]) hx hb dX0_hashReaches_36 hl (k := 0) rfl (by decide) rfl (fun ls hl => ?_)
          refine lv_goto (tgt := 17) hx hb dX0_hashReaches_39 (by decide) ?_
          exact ih (j + 1) (ky + 1) (by omega) (by omega) (by omega) (fa_s ea (by rw [← ek]; exact c_3)) _ _ hB ls (lv_sub hl [0, 1, 2, 3, 4, 5] rfl)
        · refine j_iconst hx hb dX0_hashReaches_34 ?_
          exact m_zret hx hb hr (by decide) hlocks hB (by decide) (by decide) dX0_hashReaches_35 ⟨ret_t ⟨j, by omega, by rw [← ek]; exact c_3⟩, rfl⟩
  exact lp_17 (1000 + 1) 0 fi (by omega) (by omega) (by omega) (fun i hi => absurd hi (by omega)) _ _ hB ls (lv_sub hl [0, 1, 2, 3, 4, 5] rfl)

abbrev rmX0_mayHold : Room := { frames := 2, cells := 0, slots := 0, locals := 49 }
set_option maxHeartbeats 4000000 in
set_option maxRecDepth 100000 in
theorem k_X0_mayHold {l : Launch} {D : va_G} {z : Nat} {cI cP cR cJ : ClassId} {h : Hp} {a : Nat} {n f t k d st : Int} (he : h a = some (prt n f t k d st)) {qa : Nat} {lo hi so leaf : Int} (hq : h qa = some (qst lo hi so)) (rl : rg leaf) (f0 : 0 ≤ f) (f9 : f ≤ 999) (t0 : 0 ≤ t) (t9 : t ≤ 1000) (l0 : 0 ≤ lo) (l9 : lo ≤ 999) (h0 : 0 ≤ hi) (h9 : hi ≤ 999) (o0 : 0 ≤ so) (o9 : so ≤ 1023) (rk : rg k) (d0 : 0 ≤ d) (d9 : d ≤ 1022) (hd : k = 2 → 0 < d ∧ d ≤ 5) : Ct l D z (tyL cI cP cR cJ) yX0_mayHold wsX0_mayHold rmX0_mayHold [.ref a, .int (iI leaf), .ref qa] h (fun v u => v = some (.int (iI (b2 (mayH f t k d leaf lo hi so)))) ∧ h = u) := by
  refine Ct.of (cc := cX0_mayHold) (maxL := 5) (ret := (some .boolean)) (by decide) rfl (Nat.le_of_ble_eq_true rfl) ?_
  intro p e s m args below meth c hx hb hr hts hown hlocks hml hnm hK hB ls hl
  have hl : lv_has ls 5 [(0, .ref a), (1, .int (iI leaf)), (2, .ref qa)] := hl
  refine lv_aload_n hx hb dX0_mayHold_0 rfl (lv_at hl 0 rfl) ?_
  refine m_get hx hb hts (fun _ q => List.mem_cons_of_mem _ (List.mem_append_left _ (List.mem_append_right _ q))) hown hK hB he (ci := 0) rfl 1 (by decide) (List.mem_of_getElem? (i := 1) rfl) rfl rfl dX0_mayHold_1 ?_
  refine lv_aload_n hx hb dX0_mayHold_4 rfl (lv_at hl 2 rfl) ?_
  refine m_get hx hb hts (fun _ q => List.mem_cons_of_mem _ (List.mem_append_right _ q)) hown hK hB hq (ci := 1) rfl 0 (by decide) (List.mem_of_getElem? (i := 2) rfl) rfl rfl dX0_mayHold_5 ?_
  refine j_mmax hx hb (hml.trans hl.1.symm) hown (hts _ (List.mem_of_getElem? (i := 3) rfl)) (hts _ (List.mem_of_getElem? (i := 4) rfl)) (hts _ (List.mem_of_getElem? (i := 5) rfl)) (hts _ (List.mem_of_getElem? (i := 6) rfl)) (Nat.le_of_ble_eq_true rfl) (Nat.le_of_ble_eq_true rfl) (Nat.le_of_ble_eq_true rfl) (Nat.le_of_ble_eq_true rfl) ⟨by omega, by omega⟩ ⟨by omega, by omega⟩ dX0_mayHold_8 ?_
  refine j_top (fun fi efi => ?_)
  refine lv_istore_n (lv' := [(3, .int (iI fi)), (0, .ref a), (1, .int (iI leaf)), (2, .ref qa)]) hx hb dX0_mayHold_11 rfl hl (by decide) rfl (fun ls hl => ?_)
  refine lv_aload_n hx hb dX0_mayHold_12 rfl (lv_at hl 1 rfl) ?_
  refine m_get hx hb hts (fun _ q => List.mem_cons_of_mem _ (List.mem_append_left _ (List.mem_append_right _ q))) hown hK hB he (ci := 0) rfl 2 (by decide) (List.mem_of_getElem? (i := 7) rfl) rfl rfl dX0_mayHold_13 ?_
  refine j_iconst hx hb dX0_mayHold_16 ?_
  refine j_isub hx hb dX0_mayHold_17 ?_
  refine lv_aload_n hx hb dX0_mayHold_18 rfl (lv_at hl 3 rfl) ?_
  refine m_get hx hb hts (fun _ q => List.mem_cons_of_mem _ (List.mem_append_right _ q)) hown hK hB hq (ci := 1) rfl 1 (by decide) (List.mem_of_getElem? (i := 8) rfl) rfl rfl dX0_mayHold_19 ?_
  refine j_mmin hx hb (hml.trans hl.1.symm) hown (hts _ (List.mem_of_getElem? (i := 9) rfl)) (hts _ (List.mem_of_getElem? (i := 10) rfl)) (hts _ (List.mem_of_getElem? (i := 5) rfl)) (hts _ (List.mem_of_getElem? (i := 11) rfl)) (Nat.le_of_ble_eq_true rfl) (Nat.le_of_ble_eq_true rfl) (Nat.le_of_ble_eq_true rfl) (Nat.le_of_ble_eq_true rfl) ⟨by omega, by omega⟩ ⟨by omega, by omega⟩ dX0_mayHold_22 ?_
  refine j_top (fun la ela => ?_)
  refine lv_istore (lv' := [(4, .int (iI la)), (3, .int (iI fi)), (0, .ref a), (1, .int (iI leaf)), (2, .ref qa)]) hx hb dX0_mayHold_25 hl (by decide) rfl (fun ls hl => ?_)
  refine lv_iload_n hx hb dX0_mayHold_27 rfl (lv_at hl 1 rfl) ?_
  refine lv_iload hx hb dX0_mayHold_28 (lv_at hl 0 rfl) ?_
  refine j_icmp_le (tgt := 35) hx hb dX0_mayHold_30 (by decide) ⟨by omega, by omega⟩ ⟨by omega, by omega⟩ (fun c_1 => ?_) (fun c_1 => ?_)
  · refine lv_aload_n hx hb dX0_mayHold_35 rfl (lv_at hl 2 rfl) ?_
    refine m_get hx hb hts (fun _ q => List.mem_cons_of_mem _ (List.mem_append_left _ (List.mem_append_right _ q))) hown hK hB he (ci := 0) rfl 3 (by decide) (List.mem_of_getElem? (i := 12) rfl) rfl rfl dX0_mayHold_36 ?_
    refine j_look12 (t0 := 107) (t1 := 64) (t2 := 83) hx hb dX0_mayHold_39 (by decide) (by decide) (by decide) ⟨by omega, by omega⟩ (fun c_2 => ?_) (fun c_2 => ?_) (fun c_2 c_2' => ?_)
    · refine lv_aload_n hx hb dX0_mayHold_64 rfl (lv_at hl 4 rfl) ?_
      refine m_get hx hb hts (fun _ q => List.mem_cons_of_mem _ (List.mem_append_right _ q)) hown hK hB hq (ci := 1) rfl 2 (by decide) (List.mem_of_getElem? (i := 13) rfl) rfl rfl dX0_mayHold_65 ?_
      refine lv_aload_n hx hb dX0_mayHold_68 rfl (lv_at hl 2 rfl) ?_
      refine lv_iload_n hx hb dX0_mayHold_69 rfl (lv_at hl 3 rfl) ?_
      have sr := sbl_rg (leaf := leaf) d0 d9
      refine m_run (va_runV (As := [.int (iI leaf)]) (rest := [.int (iI so)]) ⟨hx, hb, hml, hown, hts⟩ (k_X0_sortsByList (l := l) he ⟨by omega, by omega⟩) (cwV 1 hts gX0_mayHold_X0_sortsByList rfl rfl rfl (by decide +kernel) ⟨by decide, by decide⟩) ⟨Kp.blind _ _ _ _ _, m_recv hK hB (ci := 0) rfl he, fun U hU hW => hK.pass hB U hU hW⟩ rfl rfl hl.1 rfl (lv_room (Nat.le_of_ble_eq_true rfl)) dX0_mayHold_70 ⟨Nat.le_of_ble_eq_true rfl, Nat.le_of_ble_eq_true rfl⟩) hB (fun v u H locs hp_3 hB => ?_)
      obtain ⟨rfl, rfl⟩ := hp_3
      show W _ _ _ _ _ _ _ _ _ _ _ _ _ _ _ (F0 m 73 ls [.int (iI (sbl d leaf)), .int (iI so)])
      refine j_iand hx hb o0 sr.1 dX0_mayHold_73 ?_
      refine j_top (fun w ew => ?_)
      have wr := and_rg (y := sbl d leaf) o0 o9
      rw [← ew] at wr
      refine j_if_eq (tgt := 81) hx hb dX0_mayHold_74 (by decide) ⟨by omega, by omega⟩ (fun c_4 => ?_) (fun c_4 => ?_)
      · refine j_iconst hx hb dX0_mayHold_81 ?_
        exact m_zret hx hb hr (by decide) hlocks hB (by decide) (by decide) dX0_mayHold_82 ⟨ret_f (fun q => by rcases q.2 with ⟨_, q⟩ | ⟨q, _⟩ | ⟨q, _⟩; (exact q (by rw [← ew]; exact c_4)); omega; omega), rfl⟩
      · refine j_iconst hx hb dX0_mayHold_77 ?_
        refine lv_goto (tgt := 82) hx hb dX0_mayHold_78 (by decide) ?_
        exact m_zret hx hb hr (by decide) hlocks hB (by decide) (by decide) dX0_mayHold_82 ⟨ret_t ⟨by omega, Or.inl ⟨c_2, by rw [← ew]; exact c_4⟩⟩, rfl⟩
    · refine lv_aload_n hx hb dX0_mayHold_83 rfl (lv_at hl 4 rfl) ?_
      refine m_get hx hb hts (fun _ q => List.mem_cons_of_mem _ (List.mem_append_right _ q)) hown hK hB hq (ci := 1) rfl 2 (by decide) (List.mem_of_getElem? (i := 13) rfl) rfl rfl dX0_mayHold_84 ?_
      refine j_if_eq (tgt := 105) hx hb dX0_mayHold_87 (by decide) ⟨by omega, by omega⟩ (fun c_5 => ?_) (fun c_5 => ?_)
      · refine j_iconst hx hb dX0_mayHold_105 ?_
        exact m_zret hx hb hr (by decide) hlocks hB (by decide) (by decide) dX0_mayHold_106 ⟨ret_f (fun q => by rcases q.2 with ⟨q, _⟩ | ⟨_, q, _⟩ | ⟨_, q, _⟩ <;> omega), rfl⟩
      · refine lv_aload_n hx hb dX0_mayHold_90 rfl (lv_at hl 2 rfl) ?_
        refine lv_iload_n hx hb dX0_mayHold_91 rfl (lv_at hl 3 rfl) ?_
        refine lv_iload_n hx hb dX0_mayHold_92 rfl (lv_at hl 1 rfl) ?_
        refine lv_iload hx hb dX0_mayHold_93 (lv_at hl 0 rfl) ?_
        refine m_run (va_runV (As := [.int (iI leaf), .int (iI fi), .int (iI la)]) (rest := []) ⟨hx, hb, hml, hown, hts⟩ (k_X0_hashReaches (l := l) he (leaf := leaf) (fi := fi) (la := la) ⟨by omega, by omega⟩ (by omega) (by omega) (by omega) (by omega) (by omega) (by omega)) (cwV 3 hts gX0_mayHold_X0_hashReaches rfl rfl rfl (by decide +kernel) ⟨by decide, by decide⟩) ⟨Kp.blind _ _ _ _ _, m_recv hK hB (ci := 0) rfl he, fun U hU hW => hK.pass hB U hU hW⟩ rfl rfl hl.1 rfl (lv_room (Nat.le_of_ble_eq_true rfl)) dX0_mayHold_95 ⟨Nat.le_of_ble_eq_true rfl, Nat.le_of_ble_eq_true rfl⟩) hB (fun v u H locs hp_6 hB => ?_)
        obtain ⟨rfl, rfl⟩ := hp_6
        show W _ _ _ _ _ _ _ _ _ _ _ _ _ _ _ (F0 m 98 ls [.int (iI (b2 (hre d leaf fi la)))])
        refine j_ifeqP (tgt := 105) hx hb dX0_mayHold_98 (by decide) (fun c_7 => ?_) (fun c_7 => ?_)
        · refine j_iconst hx hb dX0_mayHold_105 ?_
          exact m_zret hx hb hr (by decide) hlocks hB (by decide) (by decide) dX0_mayHold_106 ⟨ret_f (fun q => by rcases q.2 with ⟨q, _⟩ | ⟨_, q, q2⟩ | ⟨_, q, _⟩; omega; (rw [← efi, ← ela] at q2; exact c_7 q2); omega), rfl⟩
        · refine j_iconst hx hb dX0_mayHold_101 ?_
          refine lv_goto (tgt := 106) hx hb dX0_mayHold_102 (by decide) ?_
          exact m_zret hx hb hr (by decide) hlocks hB (by decide) (by decide) dX0_mayHold_106 ⟨ret_t ⟨by omega, Or.inr (Or.inl ⟨c_2, c_5, by rw [← efi, ← ela]; exact c_7⟩)⟩, rfl⟩
    · refine lv_aload_n hx hb dX0_mayHold_107 rfl (lv_at hl 4 rfl) ?_
      refine m_get hx hb hts (fun _ q => List.mem_cons_of_mem _ (List.mem_append_right _ q)) hown hK hB hq (ci := 1) rfl 2 (by decide) (List.mem_of_getElem? (i := 13) rfl) rfl rfl dX0_mayHold_108 ?_
      refine j_if_eq (tgt := 118) hx hb dX0_mayHold_111 (by decide) ⟨by omega, by omega⟩ (fun c_8 => ?_) (fun c_8 => ?_)
      · refine j_iconst hx hb dX0_mayHold_118 ?_
        exact m_zret hx hb hr (by decide) hlocks hB (by decide) (by decide) dX0_mayHold_119 ⟨ret_f (fun q => by rcases q.2 with ⟨q, _⟩ | ⟨q, _⟩ | ⟨_, _, q⟩ <;> omega), rfl⟩
      · refine j_iconst hx hb dX0_mayHold_114 ?_
        refine lv_goto (tgt := 119) hx hb dX0_mayHold_115 (by decide) ?_
        exact m_zret hx hb hr (by decide) hlocks hB (by decide) (by decide) dX0_mayHold_119 ⟨ret_t ⟨by omega, Or.inr (Or.inr ⟨c_2, c_2', by omega⟩)⟩, rfl⟩
  · refine j_iconst hx hb dX0_mayHold_33 ?_
    exact m_zret hx hb hr (by decide) hlocks hB (by decide) (by decide) dX0_mayHold_34 ⟨ret_f (fun q => by have := q.1; omega), rfl⟩

abbrev rmX0_init : Room := { frames := 1, cells := 0, slots := 0, locals := 24 }
set_option maxHeartbeats 4000000 in
set_option maxRecDepth 100000 in
theorem k_X0_init {l : Launch} {D : va_G} {z : Nat} {cI cP cR cJ : ClassId} {h : Hp} {a : Nat} {v0 v1 v2 v3 v4 v5 : Value} (he : h a = some (.inr (0, [v0, v1, v2, v3, v4, v5]))) {n : Int} {f : Int} {t : Int} {k : Int} {d : Int} : Ct l D z (tyL cI cP cR cJ) yX0_init wsX0_init rmX0_init [.ref a, .int (iI n), .int (iI f), .int (iI t), .int (iI k), .int (iI d)] h (fun v u => v = none ∧ u = hup h a (prt n f t k d 0)) := by
  refine Ct.of (cc := cX0_init) (maxL := 6) (ret := none) (by decide) rfl (Nat.le_of_ble_eq_true rfl) ?_
  intro p e s m args below meth c hx hb hr hts hown hlocks hml hnm hK hB ls hl
  have hl : lv_has ls 6 [(0, .ref a), (1, .int (iI n)), (2, .int (iI f)), (3, .int (iI t)), (4, .int (iI k)), (5, .int (iI d))] := hl
  refine lv_aload_n hx hb dX0_init_0 rfl (lv_at hl 0 rfl) ?_
  refine W.objInit hx hb hown (hts _ (List.mem_of_getElem? (i := 1) rfl)) (hts _ (List.mem_of_getElem? (i := 2) rfl)) (hts _ (List.mem_of_getElem? (i := 3) rfl)) rfl (by rw [hml]; exact hl.1) rfl dX0_init_1 (Nat.le_of_ble_eq_true rfl) (Nat.le_of_ble_eq_true rfl) ?_
  refine W.eq (g2 := F0 m 4 ls []) rfl ?_
  refine lv_aload_n hx hb dX0_init_4 rfl (lv_at hl 0 rfl) ?_
  refine lv_iload_n hx hb dX0_init_5 rfl (lv_at hl 1 rfl) ?_
  refine m_putF hx hb hts (fun _ q => List.mem_cons_of_mem _ (List.mem_append_right _ q)) tyX0 tyX0_ok nmX0 hown hK hB he (ci := 0) rfl 0 (by decide) (List.mem_of_getElem? (i := 4) rfl) rfl rfl hnm rfl rfl rfl (Nat.le_of_ble_eq_true rfl) dX0_init_6 (fun H locs hB => ?_)
  have hB : Bk D z s.heap (hup h a (.inr (0, [.int (iI n), v1, v2, v3, v4, v5]))) H locs := hB
  have he : hup h a (.inr (0, [.int (iI n), v1, v2, v3, v4, v5])) a = some (.inr (0, [.int (iI n), v1, v2, v3, v4, v5])) := hup_s _ _ _
  refine lv_aload_n hx hb dX0_init_9 rfl (lv_at hl 0 rfl) ?_
  refine lv_iload_n hx hb dX0_init_10 rfl (lv_at hl 2 rfl) ?_
  refine m_putF hx hb hts (fun _ q => List.mem_cons_of_mem _ (List.mem_append_right _ q)) tyX0 tyX0_ok nmX0 hown hK hB he (ci := 0) rfl 1 (by decide) (List.mem_of_getElem? (i := 5) rfl) rfl rfl hnm rfl rfl rfl (Nat.le_of_ble_eq_true rfl) dX0_init_11 (fun H locs hB => ?_)
  have hB : Bk D z s.heap (hup h a (.inr (0, [.int (iI n), .int (iI f), v2, v3, v4, v5]))) H locs := by rw [hup_hup] at hB; exact hB
  have he : hup h a (.inr (0, [.int (iI n), .int (iI f), v2, v3, v4, v5])) a = some (.inr (0, [.int (iI n), .int (iI f), v2, v3, v4, v5])) := hup_s _ _ _
  refine lv_aload_n hx hb dX0_init_14 rfl (lv_at hl 0 rfl) ?_
  refine lv_iload_n hx hb dX0_init_15 rfl (lv_at hl 3 rfl) ?_
  refine m_put hx hb hts (fun _ q => List.mem_cons_of_mem _ (List.mem_append_right _ q)) tyX0 tyX0_ok nmX0 hown hK hB he (ci := 0) rfl 2 (by decide) (List.mem_of_getElem? (i := 6) rfl) rfl rfl rfl rfl (Nat.le_of_ble_eq_true rfl) dX0_init_16 (fun H locs hB => ?_)
  have hB : Bk D z s.heap (hup h a (.inr (0, [.int (iI n), .int (iI f), .int (iI t), v3, v4, v5]))) H locs := by rw [hup_hup] at hB; exact hB
  have he : hup h a (.inr (0, [.int (iI n), .int (iI f), .int (iI t), v3, v4, v5])) a = some (.inr (0, [.int (iI n), .int (iI f), .int (iI t), v3, v4, v5])) := hup_s _ _ _
  refine lv_aload_n hx hb dX0_init_19 rfl (lv_at hl 0 rfl) ?_
  refine lv_iload hx hb dX0_init_20 (lv_at hl 4 rfl) ?_
  refine m_putF hx hb hts (fun _ q => List.mem_cons_of_mem _ (List.mem_append_right _ q)) tyX0 tyX0_ok nmX0 hown hK hB he (ci := 0) rfl 3 (by decide) (List.mem_of_getElem? (i := 7) rfl) rfl rfl hnm rfl rfl rfl (Nat.le_of_ble_eq_true rfl) dX0_init_22 (fun H locs hB => ?_)
  have hB : Bk D z s.heap (hup h a (.inr (0, [.int (iI n), .int (iI f), .int (iI t), .int (iI k), v4, v5]))) H locs := by rw [hup_hup] at hB; exact hB
  have he : hup h a (.inr (0, [.int (iI n), .int (iI f), .int (iI t), .int (iI k), v4, v5])) a = some (.inr (0, [.int (iI n), .int (iI f), .int (iI t), .int (iI k), v4, v5])) := hup_s _ _ _
  refine lv_aload_n hx hb dX0_init_25 rfl (lv_at hl 0 rfl) ?_
  refine lv_iload hx hb dX0_init_26 (lv_at hl 5 rfl) ?_
  refine m_putF hx hb hts (fun _ q => List.mem_cons_of_mem _ (List.mem_append_right _ q)) tyX0 tyX0_ok nmX0 hown hK hB he (ci := 0) rfl 4 (by decide) (List.mem_of_getElem? (i := 8) rfl) rfl rfl hnm rfl rfl rfl (Nat.le_of_ble_eq_true rfl) dX0_init_28 (fun H locs hB => ?_)
  have hB : Bk D z s.heap (hup h a (.inr (0, [.int (iI n), .int (iI f), .int (iI t), .int (iI k), .int (iI d), v5]))) H locs := by rw [hup_hup] at hB; exact hB
  have he : hup h a (.inr (0, [.int (iI n), .int (iI f), .int (iI t), .int (iI k), .int (iI d), v5])) a = some (.inr (0, [.int (iI n), .int (iI f), .int (iI t), .int (iI k), .int (iI d), v5])) := hup_s _ _ _
  refine lv_aload_n hx hb dX0_init_31 rfl (lv_at hl 0 rfl) ?_
  refine j_iconst hx hb dX0_init_32 ?_
  refine m_put hx hb hts (fun _ q => List.mem_cons_of_mem _ (List.mem_append_right _ q)) tyX0 tyX0_ok nmX0 hown hK hB he (ci := 0) rfl 5 (by decide) (List.mem_of_getElem? (i := 9) rfl) rfl rfl rfl rfl (Nat.le_of_ble_eq_true rfl) dX0_init_33 (fun H locs hB => ?_)
  have hB : Bk D z s.heap (hup h a (.inr (0, [.int (iI n), .int (iI f), .int (iI t), .int (iI k), .int (iI d), .int (iI 0)]))) H locs := by rw [hup_hup] at hB; exact hB
  have he : hup h a (.inr (0, [.int (iI n), .int (iI f), .int (iI t), .int (iI k), .int (iI d), .int (iI 0)])) a = some (.inr (0, [.int (iI n), .int (iI f), .int (iI t), .int (iI k), .int (iI d), .int (iI 0)])) := hup_s _ _ _
  exact m_vret hx hb hr hlocks hB (by decide) (by decide) dX0_init_36 ⟨rfl, rfl⟩

abbrev rmX1_init : Room := { frames := 1, cells := 0, slots := 0, locals := 24 }
set_option maxHeartbeats 4000000 in
set_option maxRecDepth 100000 in
theorem k_X1_init {l : Launch} {D : va_G} {z : Nat} {cI cP cR cJ : ClassId} {h : Hp} {a : Nat} {v0 v1 v2 : Value} (he : h a = some (.inr (1, [v0, v1, v2]))) {lo : Int} {hi : Int} {so : Int} : Ct l D z (tyL cI cP cR cJ) yX1_init wsX1_init rmX1_init [.ref a, .int (iI lo), .int (iI hi), .int (iI so)] h (fun v u => v = none ∧ u = hup h a (qst lo hi so)) := by
  refine Ct.of (cc := cX1_init) (maxL := 4) (ret := none) (by decide) rfl (Nat.le_of_ble_eq_true rfl) ?_
  intro p e s m args below meth c hx hb hr hts hown hlocks hml hnm hK hB ls hl
  have hl : lv_has ls 4 [(0, .ref a), (1, .int (iI lo)), (2, .int (iI hi)), (3, .int (iI so))] := hl
  refine lv_aload_n hx hb dX1_init_0 rfl (lv_at hl 0 rfl) ?_
  refine W.objInit hx hb hown (hts _ (List.mem_of_getElem? (i := 1) rfl)) (hts _ (List.mem_of_getElem? (i := 2) rfl)) (hts _ (List.mem_of_getElem? (i := 3) rfl)) rfl (by rw [hml]; exact hl.1) rfl dX1_init_1 (Nat.le_of_ble_eq_true rfl) (Nat.le_of_ble_eq_true rfl) ?_
  refine W.eq (g2 := F0 m 4 ls []) rfl ?_
  refine lv_aload_n hx hb dX1_init_4 rfl (lv_at hl 0 rfl) ?_
  refine lv_iload_n hx hb dX1_init_5 rfl (lv_at hl 1 rfl) ?_
  refine m_putF hx hb hts (fun _ q => List.mem_cons_of_mem _ (List.mem_append_right _ q)) tyX1 tyX1_ok nmX1 hown hK hB he (ci := 1) rfl 0 (by decide) (List.mem_of_getElem? (i := 4) rfl) rfl rfl hnm rfl rfl rfl (Nat.le_of_ble_eq_true rfl) dX1_init_6 (fun H locs hB => ?_)
  have hB : Bk D z s.heap (hup h a (.inr (1, [.int (iI lo), v1, v2]))) H locs := hB
  have he : hup h a (.inr (1, [.int (iI lo), v1, v2])) a = some (.inr (1, [.int (iI lo), v1, v2])) := hup_s _ _ _
  refine lv_aload_n hx hb dX1_init_9 rfl (lv_at hl 0 rfl) ?_
  refine lv_iload_n hx hb dX1_init_10 rfl (lv_at hl 2 rfl) ?_
  refine m_putF hx hb hts (fun _ q => List.mem_cons_of_mem _ (List.mem_append_right _ q)) tyX1 tyX1_ok nmX1 hown hK hB he (ci := 1) rfl 1 (by decide) (List.mem_of_getElem? (i := 5) rfl) rfl rfl hnm rfl rfl rfl (Nat.le_of_ble_eq_true rfl) dX1_init_11 (fun H locs hB => ?_)
  have hB : Bk D z s.heap (hup h a (.inr (1, [.int (iI lo), .int (iI hi), v2]))) H locs := by rw [hup_hup] at hB; exact hB
  have he : hup h a (.inr (1, [.int (iI lo), .int (iI hi), v2])) a = some (.inr (1, [.int (iI lo), .int (iI hi), v2])) := hup_s _ _ _
  refine lv_aload_n hx hb dX1_init_14 rfl (lv_at hl 0 rfl) ?_
  refine lv_iload_n hx hb dX1_init_15 rfl (lv_at hl 3 rfl) ?_
  refine m_putF hx hb hts (fun _ q => List.mem_cons_of_mem _ (List.mem_append_right _ q)) tyX1 tyX1_ok nmX1 hown hK hB he (ci := 1) rfl 2 (by decide) (List.mem_of_getElem? (i := 6) rfl) rfl rfl hnm rfl rfl rfl (Nat.le_of_ble_eq_true rfl) dX1_init_16 (fun H locs hB => ?_)
  have hB : Bk D z s.heap (hup h a (.inr (1, [.int (iI lo), .int (iI hi), .int (iI so)]))) H locs := by rw [hup_hup] at hB; exact hB
  have he : hup h a (.inr (1, [.int (iI lo), .int (iI hi), .int (iI so)])) a = some (.inr (1, [.int (iI lo), .int (iI hi), .int (iI so)])) := hup_s _ _ _
  exact m_vret hx hb hr hlocks hB (by decide) (by decide) dX1_init_19 ⟨rfl, rfl⟩

abbrev rmX2_init : Room := { frames := 1, cells := 0, slots := 0, locals := 24 }
set_option maxHeartbeats 4000000 in
set_option maxRecDepth 100000 in
theorem k_X2_init {l : Launch} {D : va_G} {z : Nat} {cI cP cR cJ : ClassId} {h : Hp} {a : Nat} {v0 v1 v2 v3 : Value} (he : h a = some (.inr (2, [v0, v1, v2, v3]))) {ky : Int} {sr : Int} {vl : Int} {pt : Nat} : Ct l D z (tyL cI cP cR cJ) yX2_init wsX2_init rmX2_init [.ref a, .int (iI ky), .int (iI sr), .int (iI vl), .ref pt] h (fun v u => v = none ∧ u = hup h a (rwE ky sr vl pt)) := by
  refine Ct.of (cc := cX2_init) (maxL := 5) (ret := none) (by decide) rfl (Nat.le_of_ble_eq_true rfl) ?_
  intro p e s m args below meth c hx hb hr hts hown hlocks hml hnm hK hB ls hl
  have hl : lv_has ls 5 [(0, .ref a), (1, .int (iI ky)), (2, .int (iI sr)), (3, .int (iI vl)), (4, .ref pt)] := hl
  refine lv_aload_n hx hb dX2_init_0 rfl (lv_at hl 0 rfl) ?_
  refine W.objInit hx hb hown (hts _ (List.mem_of_getElem? (i := 1) rfl)) (hts _ (List.mem_of_getElem? (i := 2) rfl)) (hts _ (List.mem_of_getElem? (i := 3) rfl)) rfl (by rw [hml]; exact hl.1) rfl dX2_init_1 (Nat.le_of_ble_eq_true rfl) (Nat.le_of_ble_eq_true rfl) ?_
  refine W.eq (g2 := F0 m 4 ls []) rfl ?_
  refine lv_aload_n hx hb dX2_init_4 rfl (lv_at hl 0 rfl) ?_
  refine lv_iload_n hx hb dX2_init_5 rfl (lv_at hl 1 rfl) ?_
  refine m_put hx hb hts (fun _ q => List.mem_cons_of_mem _ (List.mem_append_right _ q)) tyX2 tyX2_ok nmX2 hown hK hB he (ci := 2) rfl 0 (by decide) (List.mem_of_getElem? (i := 4) rfl) rfl rfl rfl rfl (Nat.le_of_ble_eq_true rfl) dX2_init_6 (fun H locs hB => ?_)
  have hB : Bk D z s.heap (hup h a (.inr (2, [.int (iI ky), v1, v2, v3]))) H locs := hB
  have he : hup h a (.inr (2, [.int (iI ky), v1, v2, v3])) a = some (.inr (2, [.int (iI ky), v1, v2, v3])) := hup_s _ _ _
  refine lv_aload_n hx hb dX2_init_9 rfl (lv_at hl 0 rfl) ?_
  refine lv_iload_n hx hb dX2_init_10 rfl (lv_at hl 2 rfl) ?_
  refine m_put hx hb hts (fun _ q => List.mem_cons_of_mem _ (List.mem_append_right _ q)) tyX2 tyX2_ok nmX2 hown hK hB he (ci := 2) rfl 1 (by decide) (List.mem_of_getElem? (i := 5) rfl) rfl rfl rfl rfl (Nat.le_of_ble_eq_true rfl) dX2_init_11 (fun H locs hB => ?_)
  have hB : Bk D z s.heap (hup h a (.inr (2, [.int (iI ky), .int (iI sr), v2, v3]))) H locs := by rw [hup_hup] at hB; exact hB
  have he : hup h a (.inr (2, [.int (iI ky), .int (iI sr), v2, v3])) a = some (.inr (2, [.int (iI ky), .int (iI sr), v2, v3])) := hup_s _ _ _
  refine lv_aload_n hx hb dX2_init_14 rfl (lv_at hl 0 rfl) ?_
  refine lv_iload_n hx hb dX2_init_15 rfl (lv_at hl 3 rfl) ?_
  refine m_putF hx hb hts (fun _ q => List.mem_cons_of_mem _ (List.mem_append_right _ q)) tyX2 tyX2_ok nmX2 hown hK hB he (ci := 2) rfl 2 (by decide) (List.mem_of_getElem? (i := 6) rfl) rfl rfl hnm rfl rfl rfl (Nat.le_of_ble_eq_true rfl) dX2_init_16 (fun H locs hB => ?_)
  have hB : Bk D z s.heap (hup h a (.inr (2, [.int (iI ky), .int (iI sr), .int (iI vl), v3]))) H locs := by rw [hup_hup] at hB; exact hB
  have he : hup h a (.inr (2, [.int (iI ky), .int (iI sr), .int (iI vl), v3])) a = some (.inr (2, [.int (iI ky), .int (iI sr), .int (iI vl), v3])) := hup_s _ _ _
  refine lv_aload_n hx hb dX2_init_19 rfl (lv_at hl 0 rfl) ?_
  refine lv_aload hx hb dX2_init_20 (lv_at hl 4 rfl) ?_
  refine m_put hx hb hts (fun _ q => List.mem_cons_of_mem _ (List.mem_append_right _ q)) tyX2 tyX2_ok nmX2 hown hK hB he (ci := 2) rfl 3 (by decide) (List.mem_of_getElem? (i := 7) rfl) rfl rfl rfl rfl (Nat.le_of_ble_eq_true rfl) dX2_init_22 (fun H locs hB => ?_)
  have hB : Bk D z s.heap (hup h a (.inr (2, [.int (iI ky), .int (iI sr), .int (iI vl), .ref pt]))) H locs := by rw [hup_hup] at hB; exact hB
  have he : hup h a (.inr (2, [.int (iI ky), .int (iI sr), .int (iI vl), .ref pt])) a = some (.inr (2, [.int (iI ky), .int (iI sr), .int (iI vl), .ref pt])) := hup_s _ _ _
  exact m_vret hx hb hr hlocks hB (by decide) (by decide) dX2_init_25 ⟨rfl, rfl⟩

abbrev rmX2_isInTable : Room := { frames := 0, cells := 0, slots := 0, locals := 0 }
set_option maxHeartbeats 4000000 in
set_option maxRecDepth 100000 in
theorem k_X2_isInTable {l : Launch} {D : va_G} {z : Nat} {cI cP cR cJ : ClassId} {h : Hp} {ra0 pt : Nat} {ky sr vl : Int} (hw : h ra0 = some (rwE ky sr vl pt)) {n f t k d st : Int} (he : h pt = some (prt n f t k d st)) (rs : rg st) : Ct l D z (tyL cI cP cR cJ) yX2_isInTable wsX2_isInTable rmX2_isInTable [.ref ra0] h (fun v u => v = some (.int (iI (b2 (st = 0)))) ∧ h = u) := by
  refine Ct.of (cc := cX2_isInTable) (maxL := 1) (ret := (some .boolean)) (by decide) rfl (Nat.le_of_ble_eq_true rfl) ?_
  intro p e s m args below meth c hx hb hr hts hown hlocks hml hnm hK hB ls hl
  have hl : lv_has ls 1 [(0, .ref ra0)] := hl
  refine lv_aload_n hx hb dX2_isInTable_0 rfl (lv_at hl 0 rfl) ?_
  refine m_get hx hb hts (fun _ q => List.mem_cons_of_mem _ (List.mem_append_left _ (List.mem_append_right _ q))) hown hK hB hw (ci := 2) rfl 3 (by decide) (List.mem_of_getElem? (i := 1) rfl) rfl rfl dX2_isInTable_1 ?_
  refine m_get hx hb hts (fun _ q => List.mem_cons_of_mem _ (List.mem_append_right _ q)) hown hK hB he (ci := 0) rfl 5 (by decide) (List.mem_of_getElem? (i := 2) rfl) rfl rfl dX2_isInTable_4 ?_
  refine j_if_ne (tgt := 14) hx hb dX2_isInTable_7 (by decide) ⟨by omega, by omega⟩ (fun c_1 => ?_) (fun c_1 => ?_)
  · refine j_iconst hx hb dX2_isInTable_14 ?_
    exact m_zret hx hb hr (by decide) hlocks hB (by decide) (by decide) dX2_isInTable_15 ⟨ret_f (by omega), rfl⟩
  · refine j_iconst hx hb dX2_isInTable_10 ?_
    refine lv_goto (tgt := 15) hx hb dX2_isInTable_11 (by decide) ?_
    exact m_zret hx hb hr (by decide) hlocks hB (by decide) (by decide) dX2_isInTable_15 ⟨ret_t (by omega), rfl⟩

abbrev rmX2_liesIn : Room := { frames := 2, cells := 0, slots := 0, locals := 43 }
set_option maxHeartbeats 4000000 in
set_option maxRecDepth 100000 in
theorem k_X2_liesIn {l : Launch} {D : va_G} {z : Nat} {cI cP cR cJ : ClassId} {h : Hp} {ra0 pt : Nat} {ky sr vl : Int} (hw : h ra0 = some (rwE ky sr vl pt)) {n f t k d st : Int} (he : h pt = some (prt n f t k d st)) {b : Nat} {leaf : Int} (rl : rg leaf) (k0 : 0 ≤ ky) (k9 : ky ≤ 999) (s0 : 0 ≤ sr) (s9 : sr ≤ 9) (rk : rg k) (d0 : 0 ≤ d) (d9 : d ≤ 1022) (hd : k = 2 → 0 < d ∧ d ≤ 5) : Ct l D z (tyL cI cP cR cJ) yX2_liesIn wsX2_liesIn rmX2_liesIn [.ref ra0, .ref b, .int (iI leaf)] h (fun v u => v = some (.int (iI (b2 (pt = b ∧ lf k d ky sr = leaf)))) ∧ h = u) := by
  refine Ct.of (cc := cX2_liesIn) (maxL := 3) (ret := (some .boolean)) (by decide) rfl (Nat.le_of_ble_eq_true rfl) ?_
  intro p e s m args below meth c hx hb hr hts hown hlocks hml hnm hK hB ls hl
  have hl : lv_has ls 3 [(0, .ref ra0), (1, .ref b), (2, .int (iI leaf))] := hl
  refine lv_aload_n hx hb dX2_liesIn_0 rfl (lv_at hl 0 rfl) ?_
  refine m_get hx hb hts (fun _ q => List.mem_cons_of_mem _ (List.mem_append_left _ (List.mem_append_right _ q))) hown hK hB hw (ci := 2) rfl 3 (by decide) (List.mem_of_getElem? (i := 1) rfl) rfl rfl dX2_liesIn_1 ?_
  refine lv_aload_n hx hb dX2_liesIn_4 rfl (lv_at hl 1 rfl) ?_
  refine j_acmp_ne (tgt := 31) hx hb dX2_liesIn_5 (by decide) (fun c_1 => ?_) (fun c_1 => ?_)
  · refine j_iconst hx hb dX2_liesIn_31 ?_
    exact m_zret hx hb hr (by decide) hlocks hB (by decide) (by decide) dX2_liesIn_32 ⟨ret_f (fun q => c_1 q.1), rfl⟩
  · refine lv_aload_n hx hb dX2_liesIn_8 rfl (lv_at hl 0 rfl) ?_
    refine m_get hx hb hts (fun _ q => List.mem_cons_of_mem _ (List.mem_append_left _ (List.mem_append_right _ q))) hown hK hB hw (ci := 2) rfl 3 (by decide) (List.mem_of_getElem? (i := 1) rfl) rfl rfl dX2_liesIn_9 ?_
    refine lv_aload_n hx hb dX2_liesIn_12 rfl (lv_at hl 0 rfl) ?_
    refine m_get hx hb hts (fun _ q => List.mem_cons_of_mem _ (List.mem_append_left _ (List.mem_append_right _ q))) hown hK hB hw (ci := 2) rfl 0 (by decide) (List.mem_of_getElem? (i := 2) rfl) rfl rfl dX2_liesIn_13 ?_
    refine lv_aload_n hx hb dX2_liesIn_16 rfl (lv_at hl 0 rfl) ?_
    refine m_get hx hb hts (fun _ q => List.mem_cons_of_mem _ (List.mem_append_left _ (List.mem_append_right _ q))) hown hK hB hw (ci := 2) rfl 1 (by decide) (List.mem_of_getElem? (i := 3) rfl) rfl rfl dX2_liesIn_17 ?_
    refine m_run (va_runV (As := [.int (iI ky), .int (iI sr)]) (rest := []) ⟨hx, hb, hml, hown, hts⟩ (k_X0_leafFor (l := l) he (key := ky) (sr := sr) (by omega) (by omega) (by omega) (by omega) ⟨by omega, by omega⟩ (by omega) (by omega) (by omega)) (cwV 2 hts gX2_liesIn_X0_leafFor rfl rfl rfl (by decide +kernel) ⟨by decide, by decide⟩) ⟨Kp.blind _ _ _ _ _, m_recv hK hB (ci := 0) rfl he, fun U hU hW => hK.pass hB U hU hW⟩ rfl rfl hl.1 rfl (lv_room (Nat.le_of_ble_eq_true rfl)) dX2_liesIn_20 ⟨Nat.le_of_ble_eq_true rfl, Nat.le_of_ble_eq_true rfl⟩) hB (fun v u H locs hp_2 hB => ?_)
    obtain ⟨rfl, rfl⟩ := hp_2
    show W _ _ _ _ _ _ _ _ _ _ _ _ _ _ _ (F0 m 23 ls [.int (iI (lf k d ky sr))])
    refine lv_iload_n hx hb dX2_liesIn_23 rfl (lv_at hl 2 rfl) ?_
    have lr := lf_rg (k := k) (d := d) (key := ky) (sr := sr) hd
    refine j_icmp_ne (tgt := 31) hx hb dX2_liesIn_24 (by decide) ⟨by omega, by omega⟩ ⟨by omega, by omega⟩ (fun c_3 => ?_) (fun c_3 => ?_)
    · refine j_iconst hx hb dX2_liesIn_31 ?_
      exact m_zret hx hb hr (by decide) hlocks hB (by decide) (by decide) dX2_liesIn_32 ⟨ret_f (fun q => c_3 q.2), rfl⟩
    · refine j_iconst hx hb dX2_liesIn_27 ?_
      refine lv_goto (tgt := 32) hx hb dX2_liesIn_28 (by decide) ?_
      exact m_zret hx hb hr (by decide) hlocks hB (by decide) (by decide) dX2_liesIn_32 ⟨ret_t ⟨c_1, c_3⟩, rfl⟩

abbrev rmX2_fits : Room := { frames := 1, cells := 0, slots := 0, locals := 21 }
set_option maxHeartbeats 4000000 in
set_option maxRecDepth 100000 in
theorem k_X2_fits {l : Launch} {D : va_G} {z : Nat} {cI cP cR cJ : ClassId} {h : Hp} {ra0 pt : Nat} {ky sr vl : Int} (hw : h ra0 = some (rwE ky sr vl pt)) {qa : Nat} {lo hi so : Int} (hq : h qa = some (qst lo hi so)) (rk : rg ky) (rl : rg lo) (rh : rg hi) (o0 : 0 ≤ so) (o9 : so ≤ 1023) (s0 : 0 ≤ sr) (s9 : sr ≤ 9) : Ct l D z (tyL cI cP cR cJ) yX2_fits wsX2_fits rmX2_fits [.ref ra0, .ref qa] h (fun v u => v = some (.int (iI (b2 (lo ≤ ky ∧ ky ≤ hi ∧ hbit so sr)))) ∧ h = u) := by
  refine Ct.of (cc := cX2_fits) (maxL := 2) (ret := (some .boolean)) (by decide) rfl (Nat.le_of_ble_eq_true rfl) ?_
  intro p e s m args below meth c hx hb hr hts hown hlocks hml hnm hK hB ls hl
  have hl : lv_has ls 2 [(0, .ref ra0), (1, .ref qa)] := hl
  refine lv_aload_n hx hb dX2_fits_0 rfl (lv_at hl 0 rfl) ?_
  refine m_get hx hb hts (fun _ q => List.mem_cons_of_mem _ (List.mem_append_left _ (List.mem_append_right _ q))) hown hK hB hw (ci := 2) rfl 0 (by decide) (List.mem_of_getElem? (i := 1) rfl) rfl rfl dX2_fits_1 ?_
  refine lv_aload_n hx hb dX2_fits_4 rfl (lv_at hl 1 rfl) ?_
  refine m_get hx hb hts (fun _ q => List.mem_cons_of_mem _ (List.mem_append_right _ q)) hown hK hB hq (ci := 1) rfl 0 (by decide) (List.mem_of_getElem? (i := 2) rfl) rfl rfl dX2_fits_5 ?_
  refine j_icmp_lt (tgt := 40) hx hb dX2_fits_8 (by decide) ⟨by omega, by omega⟩ ⟨by omega, by omega⟩ (fun c_1 => ?_) (fun c_1 => ?_)
  · refine j_iconst hx hb dX2_fits_40 ?_
    exact m_zret hx hb hr (by decide) hlocks hB (by decide) (by decide) dX2_fits_41 ⟨ret_f (fun q => by have := q.1; have := q.2.1; omega), rfl⟩
  · refine lv_aload_n hx hb dX2_fits_11 rfl (lv_at hl 0 rfl) ?_
    refine m_get hx hb hts (fun _ q => List.mem_cons_of_mem _ (List.mem_append_left _ (List.mem_append_right _ q))) hown hK hB hw (ci := 2) rfl 0 (by decide) (List.mem_of_getElem? (i := 1) rfl) rfl rfl dX2_fits_12 ?_
    refine lv_aload_n hx hb dX2_fits_15 rfl (lv_at hl 1 rfl) ?_
    refine m_get hx hb hts (fun _ q => List.mem_cons_of_mem _ (List.mem_append_right _ q)) hown hK hB hq (ci := 1) rfl 1 (by decide) (List.mem_of_getElem? (i := 3) rfl) rfl rfl dX2_fits_16 ?_
    refine j_icmp_gt (tgt := 40) hx hb dX2_fits_19 (by decide) ⟨by omega, by omega⟩ ⟨by omega, by omega⟩ (fun c_2 => ?_) (fun c_2 => ?_)
    · refine j_iconst hx hb dX2_fits_40 ?_
      exact m_zret hx hb hr (by decide) hlocks hB (by decide) (by decide) dX2_fits_41 ⟨ret_f (fun q => by have := q.1; have := q.2.1; omega), rfl⟩
    · refine lv_aload_n hx hb dX2_fits_22 rfl (lv_at hl 1 rfl) ?_
      refine m_get hx hb hts (fun _ q => List.mem_cons_of_mem _ (List.mem_append_right _ q)) hown hK hB hq (ci := 1) rfl 2 (by decide) (List.mem_of_getElem? (i := 4) rfl) rfl rfl dX2_fits_23 ?_
      refine lv_aload_n hx hb dX2_fits_26 rfl (lv_at hl 0 rfl) ?_
      refine m_get hx hb hts (fun _ q => List.mem_cons_of_mem _ (List.mem_append_left _ (List.mem_append_right _ q))) hown hK hB hw (ci := 2) rfl 1 (by decide) (List.mem_of_getElem? (i := 5) rfl) rfl rfl dX2_fits_27 ?_
      refine m_run (va_runSN (As := [.int (iI so), .int (iI sr)]) (rest := []) ⟨hx, hb, hml, hown, hts⟩ (k_X3_hasSort (l := l) (so := so) (sr := sr) (by omega) (by omega) (by omega) (by omega)) ⟨va_cnB 2 hts gX2_fits_X3_hasSort_n45 rfl rfl rfl hK.2.1.2.1 (hts _ (List.mem_of_getElem? (i := 7) rfl)) (by decide +kernel) ⟨by decide, by decide⟩, hts _ (List.mem_of_getElem? (i := 6) rfl), trivial⟩ ⟨Kp.blind _ _ _ _ _, fun U hU hW => hK.pass hB U hU hW⟩ rfl rfl hl.1 rfl (lv_room (Nat.le_of_ble_eq_true rfl)) dX2_fits_30 ⟨Nat.le_of_ble_eq_true rfl, Nat.le_of_ble_eq_true rfl⟩) hB (fun v u H locs hp_3 hB => ?_)
      obtain ⟨rfl, rfl⟩ := hp_3
      show W _ _ _ _ _ _ _ _ _ _ _ _ _ _ _ (F0 m 33 ls [.int (iI (b2 (hbit so sr)))])
      refine j_ifeqP (tgt := 40) hx hb dX2_fits_33 (by decide) (fun c_4 => ?_) (fun c_4 => ?_)
      · refine j_iconst hx hb dX2_fits_40 ?_
        exact m_zret hx hb hr (by decide) hlocks hB (by decide) (by decide) dX2_fits_41 ⟨ret_f (fun q => c_4 q.2.2), rfl⟩
      · refine j_iconst hx hb dX2_fits_36 ?_
        refine lv_goto (tgt := 41) hx hb dX2_fits_37 (by decide) ?_
        exact m_zret hx hb hr (by decide) hlocks hB (by decide) (by decide) dX2_fits_41 ⟨ret_t ⟨by omega, by omega, c_4⟩, rfl⟩

abbrev rmX2_place : Room := { frames := 2, cells := 0, slots := 0, locals := 43 }
set_option maxHeartbeats 4000000 in
set_option maxRecDepth 100000 in
theorem k_X2_place {l : Launch} {D : va_G} {z : Nat} {cI cP cR cJ : ClassId} {h : Hp} {ra0 pt : Nat} {ky sr vl : Int} (hw : h ra0 = some (rwE ky sr vl pt)) {n f t k d st : Int} (he : h pt = some (prt n f t k d st)) (k0 : 0 ≤ ky) (k9 : ky ≤ 999) (s0 : 0 ≤ sr) (s9 : sr ≤ 9) (rk : rg k) (d0 : 0 ≤ d) (d9 : d ≤ 1022) (hd : k = 2 → 0 < d ∧ d ≤ 5) : Ct l D z (tyL cI cP cR cJ) yX2_place wsX2_place rmX2_place [.ref ra0] h (fun v u => v = some (.int (iI (10 * n + lf k d ky sr))) ∧ h = u) := by
  refine Ct.of (cc := cX2_place) (maxL := 1) (ret := (some .int)) (by decide) rfl (Nat.le_of_ble_eq_true rfl) ?_
  intro p e s m args below meth c hx hb hr hts hown hlocks hml hnm hK hB ls hl
  have hl : lv_has ls 1 [(0, .ref ra0)] := hl
  refine j_bipush hx hb dX2_place_0 (by decide) ?_
  refine lv_aload_n hx hb dX2_place_2 rfl (lv_at hl 0 rfl) ?_
  refine m_get hx hb hts (fun _ q => List.mem_cons_of_mem _ (List.mem_append_left _ (List.mem_append_right _ q))) hown hK hB hw (ci := 2) rfl 3 (by decide) (List.mem_of_getElem? (i := 1) rfl) rfl rfl dX2_place_3 ?_
  refine m_get hx hb hts (fun _ q => List.mem_cons_of_mem _ (List.mem_append_right _ q)) hown hK hB he (ci := 0) rfl 0 (by decide) (List.mem_of_getElem? (i := 2) rfl) rfl rfl dX2_place_6 ?_
  refine j_imul hx hb dX2_place_9 ?_
  refine lv_aload_n hx hb dX2_place_10 rfl (lv_at hl 0 rfl) ?_
  refine m_get hx hb hts (fun _ q => List.mem_cons_of_mem _ (List.mem_append_left _ (List.mem_append_right _ q))) hown hK hB hw (ci := 2) rfl 3 (by decide) (List.mem_of_getElem? (i := 1) rfl) rfl rfl dX2_place_11 ?_
  refine lv_aload_n hx hb dX2_place_14 rfl (lv_at hl 0 rfl) ?_
  refine m_get hx hb hts (fun _ q => List.mem_cons_of_mem _ (List.mem_append_left _ (List.mem_append_right _ q))) hown hK hB hw (ci := 2) rfl 0 (by decide) (List.mem_of_getElem? (i := 3) rfl) rfl rfl dX2_place_15 ?_
  refine lv_aload_n hx hb dX2_place_18 rfl (lv_at hl 0 rfl) ?_
  refine m_get hx hb hts (fun _ q => List.mem_cons_of_mem _ (List.mem_append_left _ (List.mem_append_right _ q))) hown hK hB hw (ci := 2) rfl 1 (by decide) (List.mem_of_getElem? (i := 4) rfl) rfl rfl dX2_place_19 ?_
  refine m_run (va_runV (As := [.int (iI ky), .int (iI sr)]) (rest := [.int (iI (10 * n))]) ⟨hx, hb, hml, hown, hts⟩ (k_X0_leafFor (l := l) he (key := ky) (sr := sr) (by omega) (by omega) (by omega) (by omega) ⟨by omega, by omega⟩ (by omega) (by omega) (by omega)) (cwV 2 hts gX2_place_X0_leafFor rfl rfl rfl (by decide +kernel) ⟨by decide, by decide⟩) ⟨Kp.blind _ _ _ _ _, m_recv hK hB (ci := 0) rfl he, fun U hU hW => hK.pass hB U hU hW⟩ rfl rfl hl.1 rfl (lv_room (Nat.le_of_ble_eq_true rfl)) dX2_place_22 ⟨Nat.le_of_ble_eq_true rfl, Nat.le_of_ble_eq_true rfl⟩) hB (fun v u H locs hp_1 hB => ?_)
  obtain ⟨rfl, rfl⟩ := hp_1
  show W _ _ _ _ _ _ _ _ _ _ _ _ _ _ _ (F0 m 25 ls [.int (iI (lf k d ky sr)), .int (iI (10 * n))])
  refine j_iadd hx hb dX2_place_25 ?_
  exact m_zret hx hb hr rfl hlocks hB (by decide) (by decide) dX2_place_26 ⟨rfl, rfl⟩

abbrev rmX3_checkKey : Room := { frames := 6, cells := 1, slots := 6, locals := 90 }
set_option maxHeartbeats 4000000 in
set_option maxRecDepth 100000 in
theorem k_X3_checkKey {l : Launch} {D : va_G} {z : Nat} {cI cP cR cJ : ClassId} {h : Hp} (hfl : l.stackTraces = false) {ky : Int} (rk : rg ky) : Cx l D z (tyL cI cP cR cJ) yX3_checkKey wsX3_checkKey rmX3_checkKey [.int (iI ky)] h (fun v u => v = none ∧ h = u ∧ (0 ≤ ky ∧ ky ≤ 999)) (fun E u => E = nE1 ∧ h = u ∧ ¬ (0 ≤ ky ∧ ky ≤ 999)) := by
  refine Cx.of (cc := cX3_checkKey) (maxL := 1) (ret := none) (by decide) rfl (Nat.le_of_ble_eq_true rfl) ?_
  intro p e s m args below meth c hx hb hr hts hown hlocks hml hnm hout hK hB ls hl
  have hl : lv_has ls 1 [(0, .int (iI ky))] := hl
  refine lv_iload_n hx hb dX3_checkKey_0 rfl (lv_at hl 0 rfl) ?_
  refine j_if_lt (tgt := 11) hx hb dX3_checkKey_1 (by decide) ⟨by omega, by omega⟩ (fun c_1 => ?_) (fun c_1 => ?_)
  · exact m_throw (cls := nE1) (Ts := wsX3_checkKey) hx hb hfl hown fitE1 hts (List.mem_of_getElem? (i := 1) rfl) (List.mem_of_getElem? (i := 2) rfl) (fun _ q => List.mem_cons_of_mem _ (List.mem_append_right _ q)) ngE1 otE1 (List.mem_of_getElem? (i := 2) rfl) hK hB (hl.1.trans hml.symm) hout hlocks dX3_checkKey_11 dX3_checkKey_14 dX3_checkKey_15 dX3_checkKey_17 dX3_checkKey_20 (Nat.le_of_ble_eq_true rfl) (Nat.le_of_ble_eq_true rfl) (Nat.le_of_ble_eq_true rfl) (Nat.le_of_ble_eq_true rfl) (Nat.le_of_ble_eq_true rfl) (Nat.le_of_ble_eq_true rfl) ⟨rfl, rfl, by omega⟩
  · refine lv_iload_n hx hb dX3_checkKey_4 rfl (lv_at hl 0 rfl) ?_
    refine j_sipush hx hb dX3_checkKey_5 (by decide) ?_
    refine j_icmp_lt (tgt := 21) hx hb dX3_checkKey_8 (by decide) ⟨by omega, by omega⟩ ⟨by decide, by decide⟩ (fun c_2 => ?_) (fun c_2 => ?_)
    · exact vx_ret (m_vret hx hb hr hlocks hB (by decide) (by decide) dX3_checkKey_21 ⟨rfl, rfl, by omega⟩)
    · exact m_throw (cls := nE1) (Ts := wsX3_checkKey) hx hb hfl hown fitE1 hts (List.mem_of_getElem? (i := 1) rfl) (List.mem_of_getElem? (i := 2) rfl) (fun _ q => List.mem_cons_of_mem _ (List.mem_append_right _ q)) ngE1 otE1 (List.mem_of_getElem? (i := 2) rfl) hK hB (hl.1.trans hml.symm) hout hlocks dX3_checkKey_11 dX3_checkKey_14 dX3_checkKey_15 dX3_checkKey_17 dX3_checkKey_20 (Nat.le_of_ble_eq_true rfl) (Nat.le_of_ble_eq_true rfl) (Nat.le_of_ble_eq_true rfl) (Nat.le_of_ble_eq_true rfl) (Nat.le_of_ble_eq_true rfl) (Nat.le_of_ble_eq_true rfl) ⟨rfl, rfl, by omega⟩

abbrev rmX3_checkSort : Room := { frames := 6, cells := 1, slots := 6, locals := 90 }
set_option maxHeartbeats 4000000 in
set_option maxRecDepth 100000 in
theorem k_X3_checkSort {l : Launch} {D : va_G} {z : Nat} {cI cP cR cJ : ClassId} {h : Hp} (hfl : l.stackTraces = false) {sr : Int} (rk : rg sr) : Cx l D z (tyL cI cP cR cJ) yX3_checkSort wsX3_checkSort rmX3_checkSort [.int (iI sr)] h (fun v u => v = none ∧ h = u ∧ (0 ≤ sr ∧ sr ≤ 9)) (fun E u => E = nE1 ∧ h = u ∧ ¬ (0 ≤ sr ∧ sr ≤ 9)) := by
  refine Cx.of (cc := cX3_checkSort) (maxL := 1) (ret := none) (by decide) rfl (Nat.le_of_ble_eq_true rfl) ?_
  intro p e s m args below meth c hx hb hr hts hown hlocks hml hnm hout hK hB ls hl
  have hl : lv_has ls 1 [(0, .int (iI sr))] := hl
  refine lv_iload_n hx hb dX3_checkSort_0 rfl (lv_at hl 0 rfl) ?_
  refine j_if_lt (tgt := 10) hx hb dX3_checkSort_1 (by decide) ⟨by omega, by omega⟩ (fun c_1 => ?_) (fun c_1 => ?_)
  · exact m_throw (cls := nE1) (Ts := wsX3_checkSort) hx hb hfl hown fitE1 hts (List.mem_of_getElem? (i := 1) rfl) (List.mem_of_getElem? (i := 2) rfl) (fun _ q => List.mem_cons_of_mem _ (List.mem_append_right _ q)) ngE1 otE1 (List.mem_of_getElem? (i := 3) rfl) hK hB (hl.1.trans hml.symm) hout hlocks dX3_checkSort_10 dX3_checkSort_13 dX3_checkSort_14 dX3_checkSort_16 dX3_checkSort_19 (Nat.le_of_ble_eq_true rfl) (Nat.le_of_ble_eq_true rfl) (Nat.le_of_ble_eq_true rfl) (Nat.le_of_ble_eq_true rfl) (Nat.le_of_ble_eq_true rfl) (Nat.le_of_ble_eq_true rfl) ⟨rfl, rfl, by omega⟩
  · refine lv_iload_n hx hb dX3_checkSort_4 rfl (lv_at hl 0 rfl) ?_
    refine j_bipush hx hb dX3_checkSort_5 (by decide) ?_
    refine j_icmp_lt (tgt := 20) hx hb dX3_checkSort_7 (by decide) ⟨by omega, by omega⟩ ⟨by decide, by decide⟩ (fun c_2 => ?_) (fun c_2 => ?_)
    · exact vx_ret (m_vret hx hb hr hlocks hB (by decide) (by decide) dX3_checkSort_20 ⟨rfl, rfl, by omega⟩)
    · exact m_throw (cls := nE1) (Ts := wsX3_checkSort) hx hb hfl hown fitE1 hts (List.mem_of_getElem? (i := 1) rfl) (List.mem_of_getElem? (i := 2) rfl) (fun _ q => List.mem_cons_of_mem _ (List.mem_append_right _ q)) ngE1 otE1 (List.mem_of_getElem? (i := 3) rfl) hK hB (hl.1.trans hml.symm) hout hlocks dX3_checkSort_10 dX3_checkSort_13 dX3_checkSort_14 dX3_checkSort_16 dX3_checkSort_19 (Nat.le_of_ble_eq_true rfl) (Nat.le_of_ble_eq_true rfl) (Nat.le_of_ble_eq_true rfl) (Nat.le_of_ble_eq_true rfl) (Nat.le_of_ble_eq_true rfl) (Nat.le_of_ble_eq_true rfl) ⟨rfl, rfl, by omega⟩

abbrev rmX3_checkValue : Room := { frames := 6, cells := 1, slots := 6, locals := 90 }
set_option maxHeartbeats 4000000 in
set_option maxRecDepth 100000 in
theorem k_X3_checkValue {l : Launch} {D : va_G} {z : Nat} {cI cP cR cJ : ClassId} {h : Hp} (hfl : l.stackTraces = false) {vl : Int} (rk : rg vl) : Cx l D z (tyL cI cP cR cJ) yX3_checkValue wsX3_checkValue rmX3_checkValue [.int (iI vl)] h (fun v u => v = none ∧ h = u ∧ (0 ≤ vl ∧ vl ≤ 99)) (fun E u => E = nE1 ∧ h = u ∧ ¬ (0 ≤ vl ∧ vl ≤ 99)) := by
  refine Cx.of (cc := cX3_checkValue) (maxL := 1) (ret := none) (by decide) rfl (Nat.le_of_ble_eq_true rfl) ?_
  intro p e s m args below meth c hx hb hr hts hown hlocks hml hnm hout hK hB ls hl
  have hl : lv_has ls 1 [(0, .int (iI vl))] := hl
  refine lv_iload_n hx hb dX3_checkValue_0 rfl (lv_at hl 0 rfl) ?_
  refine j_if_lt (tgt := 10) hx hb dX3_checkValue_1 (by decide) ⟨by omega, by omega⟩ (fun c_1 => ?_) (fun c_1 => ?_)
  · exact m_throw (cls := nE1) (Ts := wsX3_checkValue) hx hb hfl hown fitE1 hts (List.mem_of_getElem? (i := 1) rfl) (List.mem_of_getElem? (i := 2) rfl) (fun _ q => List.mem_cons_of_mem _ (List.mem_append_right _ q)) ngE1 otE1 (List.mem_of_getElem? (i := 4) rfl) hK hB (hl.1.trans hml.symm) hout hlocks dX3_checkValue_10 dX3_checkValue_13 dX3_checkValue_14 dX3_checkValue_16 dX3_checkValue_19 (Nat.le_of_ble_eq_true rfl) (Nat.le_of_ble_eq_true rfl) (Nat.le_of_ble_eq_true rfl) (Nat.le_of_ble_eq_true rfl) (Nat.le_of_ble_eq_true rfl) (Nat.le_of_ble_eq_true rfl) ⟨rfl, rfl, by omega⟩
  · refine lv_iload_n hx hb dX3_checkValue_4 rfl (lv_at hl 0 rfl) ?_
    refine j_bipush hx hb dX3_checkValue_5 (by decide) ?_
    refine j_icmp_lt (tgt := 20) hx hb dX3_checkValue_7 (by decide) ⟨by omega, by omega⟩ ⟨by decide, by decide⟩ (fun c_2 => ?_) (fun c_2 => ?_)
    · exact vx_ret (m_vret hx hb hr hlocks hB (by decide) (by decide) dX3_checkValue_20 ⟨rfl, rfl, by omega⟩)
    · exact m_throw (cls := nE1) (Ts := wsX3_checkValue) hx hb hfl hown fitE1 hts (List.mem_of_getElem? (i := 1) rfl) (List.mem_of_getElem? (i := 2) rfl) (fun _ q => List.mem_cons_of_mem _ (List.mem_append_right _ q)) ngE1 otE1 (List.mem_of_getElem? (i := 4) rfl) hK hB (hl.1.trans hml.symm) hout hlocks dX3_checkValue_10 dX3_checkValue_13 dX3_checkValue_14 dX3_checkValue_16 dX3_checkValue_19 (Nat.le_of_ble_eq_true rfl) (Nat.le_of_ble_eq_true rfl) (Nat.le_of_ble_eq_true rfl) (Nat.le_of_ble_eq_true rfl) (Nat.le_of_ble_eq_true rfl) (Nat.le_of_ble_eq_true rfl) ⟨rfl, rfl, by omega⟩

abbrev rmX3_checkRange : Room := { frames := 7, cells := 2, slots := 12, locals := 110 }
set_option maxHeartbeats 4000000 in
set_option maxRecDepth 100000 in
theorem k_X3_checkRange {l : Launch} {D : va_G} {z : Nat} {cI cP cR cJ : ClassId} {h : Hp} (hfl : l.stackTraces = false) {lo en : Int} (rl : rg lo) (re : rg en) : Cx l D z (tyL cI cP cR cJ) yX3_checkRange wsX3_checkRange rmX3_checkRange [.int (iI lo), .int (iI en)] h (fun v u => v = none ∧ h = u ∧ okR lo en) (fun E u => E = nE1 ∧ h = u ∧ ¬ okR lo en) := by
  refine Cx.of (cc := cX3_checkRange) (maxL := 2) (ret := none) (by decide) rfl (Nat.le_of_ble_eq_true rfl) ?_
  intro p e s m args below meth c hx hb hr hts hown hlocks hml hnm hout hK hB ls hl
  have hl : lv_has ls 2 [(0, .int (iI lo)), (1, .int (iI en))] := hl
  refine lv_iload_n hx hb dX3_checkRange_0 rfl (lv_at hl 0 rfl) ?_
  refine m_runX (vx_runS (As := [.int (iI lo)]) (rest := []) ⟨hx, hb, hml, hown, hts⟩ (k_X3_checkKey (l := l) hfl ⟨by omega, by omega⟩) (va_cwS 1 hts gX3_checkRange_X3_checkKey rfl rfl rfl (by decide +kernel) ⟨by decide, by decide⟩) ⟨Kp.blind _ _ _ _ _, fun U hU hW => hK.pass hB U hU hW⟩ rfl rfl hl.1 rfl (lv_room (Nat.le_of_ble_eq_true rfl)) dX3_checkRange_1 ⟨Nat.le_of_ble_eq_true rfl, Nat.le_of_ble_eq_true rfl⟩) hB (fun E u H locs q9 ce hp_1 hB hc9 hv9 hk9 => ?_) (fun v u H locs hp_1 hB => ?_)
  · obtain ⟨rfl, rfl, hn⟩ := hp_1
    exact m_out hout hlocks hB hc9 hv9 hk9 (Nat.le_of_ble_eq_true rfl) (Nat.le_of_ble_eq_true rfl) ⟨rfl, rfl, by unfold okR; omega⟩
  · obtain ⟨rfl, rfl, hp_1'⟩ := hp_1
    show W _ _ _ _ _ _ _ _ _ _ _ _ _ _ _ (F0 m 4 ls [])
    refine lv_iload_n hx hb dX3_checkRange_4 rfl (lv_at hl 1 rfl) ?_
    refine lv_iload_n hx hb dX3_checkRange_5 rfl (lv_at hl 0 rfl) ?_
    refine j_icmp_le (tgt := 16) hx hb dX3_checkRange_6 (by decide) ⟨by omega, by omega⟩ ⟨by omega, by omega⟩ (fun c_2 => ?_) (fun c_2 => ?_)
    · exact m_throw (cls := nE1) (Ts := wsX3_checkRange) hx hb hfl hown fitE1 hts (List.mem_of_getElem? (i := 1) rfl) (List.mem_of_getElem? (i := 2) rfl) (fun _ q => List.mem_cons_of_mem _ (List.mem_append_right _ q)) ngE1 otE1 (List.mem_of_getElem? (i := 5) rfl) hK hB (hl.1.trans hml.symm) hout hlocks dX3_checkRange_16 dX3_checkRange_19 dX3_checkRange_20 dX3_checkRange_22 dX3_checkRange_25 (Nat.le_of_ble_eq_true rfl) (Nat.le_of_ble_eq_true rfl) (Nat.le_of_ble_eq_true rfl) (Nat.le_of_ble_eq_true rfl) (Nat.le_of_ble_eq_true rfl) (Nat.le_of_ble_eq_true rfl) ⟨rfl, rfl, by unfold okR; omega⟩
    · refine lv_iload_n hx hb dX3_checkRange_9 rfl (lv_at hl 1 rfl) ?_
      refine j_sipush hx hb dX3_checkRange_10 (by decide) ?_
      refine j_icmp_le (tgt := 26) hx hb dX3_checkRange_13 (by decide) ⟨by omega, by omega⟩ ⟨by decide, by decide⟩ (fun c_3 => ?_) (fun c_3 => ?_)
      · exact vx_ret (m_vret hx hb hr hlocks hB (by decide) (by decide) dX3_checkRange_26 ⟨rfl, rfl, by unfold okR; omega⟩)
      · exact m_throw (cls := nE1) (Ts := wsX3_checkRange) hx hb hfl hown fitE1 hts (List.mem_of_getElem? (i := 1) rfl) (List.mem_of_getElem? (i := 2) rfl) (fun _ q => List.mem_cons_of_mem _ (List.mem_append_right _ q)) ngE1 otE1 (List.mem_of_getElem? (i := 5) rfl) hK hB (hl.1.trans hml.symm) hout hlocks dX3_checkRange_16 dX3_checkRange_19 dX3_checkRange_20 dX3_checkRange_22 dX3_checkRange_25 (Nat.le_of_ble_eq_true rfl) (Nat.le_of_ble_eq_true rfl) (Nat.le_of_ble_eq_true rfl) (Nat.le_of_ble_eq_true rfl) (Nat.le_of_ble_eq_true rfl) (Nat.le_of_ble_eq_true rfl) ⟨rfl, rfl, by unfold okR; omega⟩

abbrev rmX3_leastDetail : Room := { frames := 0, cells := 0, slots := 0, locals := 0 }
set_option maxHeartbeats 4000000 in
set_option maxRecDepth 100000 in
theorem k_X3_leastDetail {l : Launch} {D : va_G} {z : Nat} {cI cP cR cJ : ClassId} {h : Hp} {k : Int} (rk : rg k) : Ct l D z (tyL cI cP cR cJ) yX3_leastDetail wsX3_leastDetail rmX3_leastDetail [.int (iI k)] h (fun v u => v = some (.int (iI (1 - b2 (k = 0)))) ∧ h = u) := by
  refine Ct.of (cc := cX3_leastDetail) (maxL := 1) (ret := (some .int)) (by decide) rfl (Nat.le_of_ble_eq_true rfl) ?_
  intro p e s m args below meth c hx hb hr hts hown hlocks hml hnm hK hB ls hl
  have hl : lv_has ls 1 [(0, .int (iI k))] := hl
  refine lv_iload_n hx hb dX3_leastDetail_0 rfl (lv_at hl 0 rfl) ?_
  refine j_if_ne (tgt := 8) hx hb dX3_leastDetail_1 (by decide) ⟨by omega, by omega⟩ (fun c_1 => ?_) (fun c_1 => ?_)
  · refine j_iconst hx hb dX3_leastDetail_8 ?_
    exact m_zret hx hb hr rfl hlocks hB (by decide) (by decide) dX3_leastDetail_9 ⟨ret_e (by rw [b2_f c_1]; rfl), rfl⟩
  · refine j_iconst hx hb dX3_leastDetail_4 ?_
    refine lv_goto (tgt := 9) hx hb dX3_leastDetail_5 (by decide) ?_
    exact m_zret hx hb hr rfl hlocks hB (by decide) (by decide) dX3_leastDetail_9 ⟨ret_e (by rw [b2_t c_1]; rfl), rfl⟩

abbrev rmX3_mostDetail : Room := { frames := 0, cells := 0, slots := 0, locals := 0 }
set_option maxHeartbeats 4000000 in
set_option maxRecDepth 100000 in
theorem k_X3_mostDetail {l : Launch} {D : va_G} {z : Nat} {cI cP cR cJ : ClassId} {h : Hp} {k : Int} (rk : rg k) : Ct l D z (tyL cI cP cR cJ) yX3_mostDetail wsX3_mostDetail rmX3_mostDetail [.int (iI k)] h (fun v u => v = some (.int (iI (mdt k))) ∧ h = u) := by
  refine Ct.of (cc := cX3_mostDetail) (maxL := 1) (ret := (some .int)) (by decide) rfl (Nat.le_of_ble_eq_true rfl) ?_
  intro p e s m args below meth c hx hb hr hts hown hlocks hml hnm hK hB ls hl
  have hl : lv_has ls 1 [(0, .int (iI k))] := hl
  refine lv_iload_n hx hb dX3_mostDetail_0 rfl (lv_at hl 0 rfl) ?_
  refine j_look12 (t0 := 34) (t1 := 28) (t2 := 32) hx hb dX3_mostDetail_1 (by decide) (by decide) (by decide) ⟨by omega, by omega⟩ (fun c_1 => ?_) (fun c_1 => ?_) (fun c_1 c_1' => ?_)
  · refine j_sipush hx hb dX3_mostDetail_28 (by decide) ?_
    exact m_zret hx hb hr rfl hlocks hB (by decide) (by decide) dX3_mostDetail_31 ⟨ret_e (mdt_1 c_1).symm, rfl⟩
  · refine j_iconst hx hb dX3_mostDetail_32 ?_
    exact m_zret hx hb hr rfl hlocks hB (by decide) (by decide) dX3_mostDetail_33 ⟨ret_e (mdt_2 c_1).symm, rfl⟩
  · refine j_iconst hx hb dX3_mostDetail_34 ?_
    exact m_zret hx hb hr rfl hlocks hB (by decide) (by decide) dX3_mostDetail_35 ⟨ret_e (mdt_0 c_1 c_1').symm, rfl⟩

abbrev rmX3_checkKind : Room := { frames := 6, cells := 1, slots := 6, locals := 90 }
set_option maxHeartbeats 4000000 in
set_option maxRecDepth 100000 in
theorem k_X3_checkKind {l : Launch} {D : va_G} {z : Nat} {cI cP cR cJ : ClassId} {h : Hp} (hfl : l.stackTraces = false) {k d : Int} (rk : rg k) (rd : rg d) : Cx l D z (tyL cI cP cR cJ) yX3_checkKind wsX3_checkKind rmX3_checkKind [.int (iI k), .int (iI d)] h (fun v u => v = none ∧ h = u ∧ okK k d) (fun E u => E = nE1 ∧ h = u ∧ ¬ okK k d) := by
  refine Cx.of (cc := cX3_checkKind) (maxL := 2) (ret := none) (by decide) rfl (Nat.le_of_ble_eq_true rfl) ?_
  intro p e s m args below meth c hx hb hr hts hown hlocks hml hnm hout hK hB ls hl
  have hl : lv_has ls 2 [(0, .int (iI k)), (1, .int (iI d))] := hl
  have w1 := b2_01 (k = 0)
  have w2 := b2_iff (k = 0)
  have w3 := mdt_c k
  refine lv_iload_n hx hb dX3_checkKind_0 rfl (lv_at hl 0 rfl) ?_
  refine j_if_eq (tgt := 24) hx hb dX3_checkKind_1 (by decide) ⟨by omega, by omega⟩ (fun c_1 => ?_) (fun c_1 => ?_)
  · refine lv_iload_n hx hb dX3_checkKind_24 rfl (lv_at hl 1 rfl) ?_
    refine lv_iload_n hx hb dX3_checkKind_25 rfl (lv_at hl 0 rfl) ?_
    refine m_run (va_runS (As := [.int (iI k)]) (rest := [.int (iI d)]) ⟨hx, hb, hml, hown, hts⟩ (k_X3_leastDetail (l := l) ⟨by omega, by omega⟩) (va_cwS 1 hts gX3_checkKind_X3_leastDetail rfl rfl rfl (by decide +kernel) ⟨by decide, by decide⟩) ⟨Kp.blind _ _ _ _ _, fun U hU hW => hK.pass hB U hU hW⟩ rfl rfl hl.1 rfl (lv_room (Nat.le_of_ble_eq_true rfl)) dX3_checkKind_26 ⟨Nat.le_of_ble_eq_true rfl, Nat.le_of_ble_eq_true rfl⟩) hB (fun v u H locs hp_2 hB => ?_)
    obtain ⟨rfl, rfl⟩ := hp_2
    show W _ _ _ _ _ _ _ _ _ _ _ _ _ _ _ (F0 m 29 ls [.int (iI (1 - b2 (k = 0))), .int (iI d)])
    refine j_icmp_lt (tgt := 40) hx hb dX3_checkKind_29 (by decide) ⟨by omega, by omega⟩ ⟨by omega, by omega⟩ (fun c_3 => ?_) (fun c_3 => ?_)
    · exact m_throw (cls := nE1) (Ts := wsX3_checkKind) hx hb hfl hown fitE1 hts (List.mem_of_getElem? (i := 1) rfl) (List.mem_of_getElem? (i := 2) rfl) (fun _ q => List.mem_cons_of_mem _ (List.mem_append_right _ q)) ngE1 otE1 (List.mem_of_getElem? (i := 7) rfl) hK hB (hl.1.trans hml.symm) hout hlocks dX3_checkKind_40 dX3_checkKind_43 dX3_checkKind_44 dX3_checkKind_46 dX3_checkKind_49 (Nat.le_of_ble_eq_true rfl) (Nat.le_of_ble_eq_true rfl) (Nat.le_of_ble_eq_true rfl) (Nat.le_of_ble_eq_true rfl) (Nat.le_of_ble_eq_true rfl) (Nat.le_of_ble_eq_true rfl) ⟨rfl, rfl, by unfold okK; rcases w3 with ⟨w3, w4⟩ | ⟨w3, w4⟩ | ⟨w3, w5, w4⟩ <;> omega⟩
    · refine lv_iload_n hx hb dX3_checkKind_32 rfl (lv_at hl 1 rfl) ?_
      refine lv_iload_n hx hb dX3_checkKind_33 rfl (lv_at hl 0 rfl) ?_
      refine m_run (va_runS (As := [.int (iI k)]) (rest := [.int (iI d)]) ⟨hx, hb, hml, hown, hts⟩ (k_X3_mostDetail (l := l) ⟨by omega, by omega⟩) (va_cwS 1 hts gX3_checkKind_X3_mostDetail rfl rfl rfl (by decide +kernel) ⟨by decide, by decide⟩) ⟨Kp.blind _ _ _ _ _, fun U hU hW => hK.pass hB U hU hW⟩ rfl rfl hl.1 rfl (lv_room (Nat.le_of_ble_eq_true rfl)) dX3_checkKind_34 ⟨Nat.le_of_ble_eq_true rfl, Nat.le_of_ble_eq_true rfl⟩) hB (fun v u H locs hp_4 hB => ?_)
      obtain ⟨rfl, rfl⟩ := hp_4
      show W _ _ _ _ _ _ _ _ _ _ _ _ _ _ _ (F0 m 37 ls [.int (iI (mdt k)), .int (iI d)])
      have w5 : rg (mdt k) := by rcases w3 with ⟨_, w4⟩ | ⟨_, w4⟩ | ⟨_, _, w4⟩ <;> omega
      refine j_icmp_le (tgt := 50) hx hb dX3_checkKind_37 (by decide) ⟨by omega, by omega⟩ ⟨by omega, by omega⟩ (fun c_5 => ?_) (fun c_5 => ?_)
      · exact vx_ret (m_vret hx hb hr hlocks hB (by decide) (by decide) dX3_checkKind_50 ⟨rfl, rfl, by unfold okK; rcases w3 with ⟨w3, w4⟩ | ⟨w3, w4⟩ | ⟨w3, w5, w4⟩ <;> omega⟩)
      · exact m_throw (cls := nE1) (Ts := wsX3_checkKind) hx hb hfl hown fitE1 hts (List.mem_of_getElem? (i := 1) rfl) (List.mem_of_getElem? (i := 2) rfl) (fun _ q => List.mem_cons_of_mem _ (List.mem_append_right _ q)) ngE1 otE1 (List.mem_of_getElem? (i := 7) rfl) hK hB (hl.1.trans hml.symm) hout hlocks dX3_checkKind_40 dX3_checkKind_43 dX3_checkKind_44 dX3_checkKind_46 dX3_checkKind_49 (Nat.le_of_ble_eq_true rfl) (Nat.le_of_ble_eq_true rfl) (Nat.le_of_ble_eq_true rfl) (Nat.le_of_ble_eq_true rfl) (Nat.le_of_ble_eq_true rfl) (Nat.le_of_ble_eq_true rfl) ⟨rfl, rfl, by unfold okK; rcases w3 with ⟨w3, w4⟩ | ⟨w3, w4⟩ | ⟨w3, w5, w4⟩ <;> omega⟩
  · refine lv_iload_n hx hb dX3_checkKind_4 rfl (lv_at hl 0 rfl) ?_
    refine j_iconst hx hb dX3_checkKind_5 ?_
    refine j_icmp_eq (tgt := 24) hx hb dX3_checkKind_6 (by decide) ⟨by omega, by omega⟩ ⟨by decide, by decide⟩ (fun c_6 => ?_) (fun c_6 => ?_)
    · refine lv_iload_n hx hb dX3_checkKind_24 rfl (lv_at hl 1 rfl) ?_
      refine lv_iload_n hx hb dX3_checkKind_25 rfl (lv_at hl 0 rfl) ?_
      refine m_run (va_runS (As := [.int (iI k)]) (rest := [.int (iI d)]) ⟨hx, hb, hml, hown, hts⟩ (k_X3_leastDetail (l := l) ⟨by omega, by omega⟩) (va_cwS 1 hts gX3_checkKind_X3_leastDetail rfl rfl rfl (by decide +kernel) ⟨by decide, by decide⟩) ⟨Kp.blind _ _ _ _ _, fun U hU hW => hK.pass hB U hU hW⟩ rfl rfl hl.1 rfl (lv_room (Nat.le_of_ble_eq_true rfl)) dX3_checkKind_26 ⟨Nat.le_of_ble_eq_true rfl, Nat.le_of_ble_eq_true rfl⟩) hB (fun v u H locs hp_7 hB => ?_)
      obtain ⟨rfl, rfl⟩ := hp_7
      show W _ _ _ _ _ _ _ _ _ _ _ _ _ _ _ (F0 m 29 ls [.int (iI (1 - b2 (k = 0))), .int (iI d)])
      refine j_icmp_lt (tgt := 40) hx hb dX3_checkKind_29 (by decide) ⟨by omega, by omega⟩ ⟨by omega, by omega⟩ (fun c_8 => ?_) (fun c_8 => ?_)
      · exact m_throw (cls := nE1) (Ts := wsX3_checkKind) hx hb hfl hown fitE1 hts (List.mem_of_getElem? (i := 1) rfl) (List.mem_of_getElem? (i := 2) rfl) (fun _ q => List.mem_cons_of_mem _ (List.mem_append_right _ q)) ngE1 otE1 (List.mem_of_getElem? (i := 7) rfl) hK hB (hl.1.trans hml.symm) hout hlocks dX3_checkKind_40 dX3_checkKind_43 dX3_checkKind_44 dX3_checkKind_46 dX3_checkKind_49 (Nat.le_of_ble_eq_true rfl) (Nat.le_of_ble_eq_true rfl) (Nat.le_of_ble_eq_true rfl) (Nat.le_of_ble_eq_true rfl) (Nat.le_of_ble_eq_true rfl) (Nat.le_of_ble_eq_true rfl) ⟨rfl, rfl, by unfold okK; rcases w3 with ⟨w3, w4⟩ | ⟨w3, w4⟩ | ⟨w3, w5, w4⟩ <;> omega⟩
      · refine lv_iload_n hx hb dX3_checkKind_32 rfl (lv_at hl 1 rfl) ?_
        refine lv_iload_n hx hb dX3_checkKind_33 rfl (lv_at hl 0 rfl) ?_
        refine m_run (va_runS (As := [.int (iI k)]) (rest := [.int (iI d)]) ⟨hx, hb, hml, hown, hts⟩ (k_X3_mostDetail (l := l) ⟨by omega, by omega⟩) (va_cwS 1 hts gX3_checkKind_X3_mostDetail rfl rfl rfl (by decide +kernel) ⟨by decide, by decide⟩) ⟨Kp.blind _ _ _ _ _, fun U hU hW => hK.pass hB U hU hW⟩ rfl rfl hl.1 rfl (lv_room (Nat.le_of_ble_eq_true rfl)) dX3_checkKind_34 ⟨Nat.le_of_ble_eq_true rfl, Nat.le_of_ble_eq_true rfl⟩) hB (fun v u H locs hp_9 hB => ?_)
        obtain ⟨rfl, rfl⟩ := hp_9
        show W _ _ _ _ _ _ _ _ _ _ _ _ _ _ _ (F0 m 37 ls [.int (iI (mdt k)), .int (iI d)])
        have w5 : rg (mdt k) := by rcases w3 with ⟨_, w4⟩ | ⟨_, w4⟩ | ⟨_, _, w4⟩ <;> omega
        refine j_icmp_le (tgt := 50) hx hb dX3_checkKind_37 (by decide) ⟨by omega, by omega⟩ ⟨by omega, by omega⟩ (fun c_10 => ?_) (fun c_10 => ?_)
        · exact vx_ret (m_vret hx hb hr hlocks hB (by decide) (by decide) dX3_checkKind_50 ⟨rfl, rfl, by unfold okK; rcases w3 with ⟨w3, w4⟩ | ⟨w3, w4⟩ | ⟨w3, w5, w4⟩ <;> omega⟩)
        · exact m_throw (cls := nE1) (Ts := wsX3_checkKind) hx hb hfl hown fitE1 hts (List.mem_of_getElem? (i := 1) rfl) (List.mem_of_getElem? (i := 2) rfl) (fun _ q => List.mem_cons_of_mem _ (List.mem_append_right _ q)) ngE1 otE1 (List.mem_of_getElem? (i := 7) rfl) hK hB (hl.1.trans hml.symm) hout hlocks dX3_checkKind_40 dX3_checkKind_43 dX3_checkKind_44 dX3_checkKind_46 dX3_checkKind_49 (Nat.le_of_ble_eq_true rfl) (Nat.le_of_ble_eq_true rfl) (Nat.le_of_ble_eq_true rfl) (Nat.le_of_ble_eq_true rfl) (Nat.le_of_ble_eq_true rfl) (Nat.le_of_ble_eq_true rfl) ⟨rfl, rfl, by unfold okK; rcases w3 with ⟨w3, w4⟩ | ⟨w3, w4⟩ | ⟨w3, w5, w4⟩ <;> omega⟩
    · refine lv_iload_n hx hb dX3_checkKind_9 rfl (lv_at hl 0 rfl) ?_
      refine j_iconst hx hb dX3_checkKind_10 ?_
      refine j_icmp_eq (tgt := 24) hx hb dX3_checkKind_11 (by decide) ⟨by omega, by omega⟩ ⟨by decide, by decide⟩ (fun c_11 => ?_) (fun c_11 => ?_)
      · refine lv_iload_n hx hb dX3_checkKind_24 rfl (lv_at hl 1 rfl) ?_
        refine lv_iload_n hx hb dX3_checkKind_25 rfl (lv_at hl 0 rfl) ?_
        refine m_run (va_runS (As := [.int (iI k)]) (rest := [.int (iI d)]) ⟨hx, hb, hml, hown, hts⟩ (k_X3_leastDetail (l := l) ⟨by omega, by omega⟩) (va_cwS 1 hts gX3_checkKind_X3_leastDetail rfl rfl rfl (by decide +kernel) ⟨by decide, by decide⟩) ⟨Kp.blind _ _ _ _ _, fun U hU hW => hK.pass hB U hU hW⟩ rfl rfl hl.1 rfl (lv_room (Nat.le_of_ble_eq_true rfl)) dX3_checkKind_26 ⟨Nat.le_of_ble_eq_true rfl, Nat.le_of_ble_eq_true rfl⟩) hB (fun v u H locs hp_12 hB => ?_)
        obtain ⟨rfl, rfl⟩ := hp_12
        show W _ _ _ _ _ _ _ _ _ _ _ _ _ _ _ (F0 m 29 ls [.int (iI (1 - b2 (k = 0))), .int (iI d)])
        refine j_icmp_lt (tgt := 40) hx hb dX3_checkKind_29 (by decide) ⟨by omega, by omega⟩ ⟨by omega, by omega⟩ (fun c_13 => ?_) (fun c_13 => ?_)
        · exact m_throw (cls := nE1) (Ts := wsX3_checkKind) hx hb hfl hown fitE1 hts (List.mem_of_getElem? (i := 1) rfl) (List.mem_of_getElem? (i := 2) rfl) (fun _ q => List.mem_cons_of_mem _ (List.mem_append_right _ q)) ngE1 otE1 (List.mem_of_getElem? (i := 7) rfl) hK hB (hl.1.trans hml.symm) hout hlocks dX3_checkKind_40 dX3_checkKind_43 dX3_checkKind_44 dX3_checkKind_46 dX3_checkKind_49 (Nat.le_of_ble_eq_true rfl) (Nat.le_of_ble_eq_true rfl) (Nat.le_of_ble_eq_true rfl) (Nat.le_of_ble_eq_true rfl) (Nat.le_of_ble_eq_true rfl) (Nat.le_of_ble_eq_true rfl) ⟨rfl, rfl, by unfold okK; rcases w3 with ⟨w3, w4⟩ | ⟨w3, w4⟩ | ⟨w3, w5, w4⟩ <;> omega⟩
        · refine lv_iload_n hx hb dX3_checkKind_32 rfl (lv_at hl 1 rfl) ?_
          refine lv_iload_n hx hb dX3_checkKind_33 rfl (lv_at hl 0 rfl) ?_
          refine m_run (va_runS (As := [.int (iI k)]) (rest := [.int (iI d)]) ⟨hx, hb, hml, hown, hts⟩ (k_X3_mostDetail (l := l) ⟨by omega, by omega⟩) (va_cwS 1 hts gX3_checkKind_X3_mostDetail rfl rfl rfl (by decide +kernel) ⟨by decide, by decide⟩) ⟨Kp.blind _ _ _ _ _, fun U hU hW => hK.pass hB U hU hW⟩ rfl rfl hl.1 rfl (lv_room (Nat.le_of_ble_eq_true rfl)) dX3_checkKind_34 ⟨Nat.le_of_ble_eq_true rfl, Nat.le_of_ble_eq_true rfl⟩) hB (fun v u H locs hp_14 hB => ?_)
          obtain ⟨rfl, rfl⟩ := hp_14
          show W _ _ _ _ _ _ _ _ _ _ _ _ _ _ _ (F0 m 37 ls [.int (iI (mdt k)), .int (iI d)])
          have w5 : rg (mdt k) := by rcases w3 with ⟨_, w4⟩ | ⟨_, w4⟩ | ⟨_, _, w4⟩ <;> omega
          refine j_icmp_le (tgt := 50) hx hb dX3_checkKind_37 (by decide) ⟨by omega, by omega⟩ ⟨by omega, by omega⟩ (fun c_15 => ?_) (fun c_15 => ?_)
          · exact vx_ret (m_vret hx hb hr hlocks hB (by decide) (by decide) dX3_checkKind_50 ⟨rfl, rfl, by unfold okK; rcases w3 with ⟨w3, w4⟩ | ⟨w3, w4⟩ | ⟨w3, w5, w4⟩ <;> omega⟩)
          · exact m_throw (cls := nE1) (Ts := wsX3_checkKind) hx hb hfl hown fitE1 hts (List.mem_of_getElem? (i := 1) rfl) (List.mem_of_getElem? (i := 2) rfl) (fun _ q => List.mem_cons_of_mem _ (List.mem_append_right _ q)) ngE1 otE1 (List.mem_of_getElem? (i := 7) rfl) hK hB (hl.1.trans hml.symm) hout hlocks dX3_checkKind_40 dX3_checkKind_43 dX3_checkKind_44 dX3_checkKind_46 dX3_checkKind_49 (Nat.le_of_ble_eq_true rfl) (Nat.le_of_ble_eq_true rfl) (Nat.le_of_ble_eq_true rfl) (Nat.le_of_ble_eq_true rfl) (Nat.le_of_ble_eq_true rfl) (Nat.le_of_ble_eq_true rfl) ⟨rfl, rfl, by unfold okK; rcases w3 with ⟨w3, w4⟩ | ⟨w3, w4⟩ | ⟨w3, w5, w4⟩ <;> omega⟩
      · exact m_throw (cls := nE1) (Ts := wsX3_checkKind) hx hb hfl hown fitE1 hts (List.mem_of_getElem? (i := 1) rfl) (List.mem_of_getElem? (i := 2) rfl) (fun _ q => List.mem_cons_of_mem _ (List.mem_append_right _ q)) ngE1 otE1 (List.mem_of_getElem? (i := 6) rfl) hK hB (hl.1.trans hml.symm) hout hlocks dX3_checkKind_14 dX3_checkKind_17 dX3_checkKind_18 dX3_checkKind_20 dX3_checkKind_23 (Nat.le_of_ble_eq_true rfl) (Nat.le_of_ble_eq_true rfl) (Nat.le_of_ble_eq_true rfl) (Nat.le_of_ble_eq_true rfl) (Nat.le_of_ble_eq_true rfl) (Nat.le_of_ble_eq_true rfl) ⟨rfl, rfl, by unfold okK; rcases w3 with ⟨w3, w4⟩ | ⟨w3, w4⟩ | ⟨w3, w5, w4⟩ <;> omega⟩

abbrev rmX3_checkedQuestion : Room := { frames := 7, cells := 3, slots := 15, locals := 110 }
set_option maxHeartbeats 4000000 in
set_option maxRecDepth 100000 in
theorem k_X3_checkedQuestion {l : Launch} {D : va_G} {z : Nat} {cI cP cR cJ : ClassId} {h : Hp} (hfl : l.stackTraces = false) {lo hi so : Int} (rl : rg lo) (rh : rg hi) (ro : rg so) : Cx l D z (tyL cI cP cR cJ) yX3_checkedQuestion wsX3_checkedQuestion rmX3_checkedQuestion [.int (iI lo), .int (iI hi), .int (iI so)] h (fun v u => ∃ q : Nat, v = some (.ref q) ∧ h q = none ∧ u = hup h q (qst lo hi so) ∧ okQ lo hi so) (fun E u => E = nE1 ∧ h = u ∧ ¬ okQ lo hi so) := by
  refine Cx.of (cc := cX3_checkedQuestion) (maxL := 3) (ret := (some (.object "ParcelledTable$Question"))) (by decide) rfl (Nat.le_of_ble_eq_true rfl) ?_
  intro p e s m args below meth c hx hb hr hts hown hlocks hml hnm hout hK hB ls hl
  have hl : lv_has ls 3 [(0, .int (iI lo)), (1, .int (iI hi)), (2, .int (iI so))] := hl
  refine lv_iload_n hx hb dX3_checkedQuestion_0 rfl (lv_at hl 0 rfl) ?_
  refine m_runX (vx_runS (As := [.int (iI lo)]) (rest := []) ⟨hx, hb, hml, hown, hts⟩ (k_X3_checkKey (l := l) hfl ⟨by omega, by omega⟩) (va_cwS 1 hts gX3_checkedQuestion_X3_checkKey rfl rfl rfl (by decide +kernel) ⟨by decide, by decide⟩) ⟨Kp.blind _ _ _ _ _, fun U hU hW => hK.pass hB U hU hW⟩ rfl rfl hl.1 rfl (lv_room (Nat.le_of_ble_eq_true rfl)) dX3_checkedQuestion_1 ⟨Nat.le_of_ble_eq_true rfl, Nat.le_of_ble_eq_true rfl⟩) hB (fun E u H locs q9 ce hp_1 hB hc9 hv9 hk9 => ?_) (fun v u H locs hp_1 hB => ?_)
  · obtain ⟨rfl, rfl, hn⟩ := hp_1
    exact m_out hout hlocks hB hc9 hv9 hk9 (Nat.le_of_ble_eq_true rfl) (Nat.le_of_ble_eq_true rfl) ⟨rfl, rfl, by unfold okQ; omega⟩
  · obtain ⟨rfl, rfl, hp_1'⟩ := hp_1
    show W _ _ _ _ _ _ _ _ _ _ _ _ _ _ _ (F0 m 4 ls [])
    refine lv_iload_n hx hb dX3_checkedQuestion_4 rfl (lv_at hl 1 rfl) ?_
    refine lv_iload_n hx hb dX3_checkedQuestion_5 rfl (lv_at hl 0 rfl) ?_
    refine j_icmp_lt (tgt := 16) hx hb dX3_checkedQuestion_6 (by decide) ⟨by omega, by omega⟩ ⟨by omega, by omega⟩ (fun c_2 => ?_) (fun c_2 => ?_)
    · exact m_throw (cls := nE1) (Ts := wsX3_checkedQuestion) hx hb hfl hown fitE1 hts (List.mem_of_getElem? (i := 1) rfl) (List.mem_of_getElem? (i := 2) rfl) (fun _ q => List.mem_cons_of_mem _ (List.mem_append_right _ q)) ngE1 otE1 (List.mem_of_getElem? (i := 8) rfl) hK hB (hl.1.trans hml.symm) hout hlocks dX3_checkedQuestion_16 dX3_checkedQuestion_19 dX3_checkedQuestion_20 dX3_checkedQuestion_22 dX3_checkedQuestion_25 (Nat.le_of_ble_eq_true rfl) (Nat.le_of_ble_eq_true rfl) (Nat.le_of_ble_eq_true rfl) (Nat.le_of_ble_eq_true rfl) (Nat.le_of_ble_eq_true rfl) (Nat.le_of_ble_eq_true rfl) ⟨rfl, rfl, by unfold okQ; omega⟩
    · refine lv_iload_n hx hb dX3_checkedQuestion_9 rfl (lv_at hl 1 rfl) ?_
      refine j_sipush hx hb dX3_checkedQuestion_10 (by decide) ?_
      refine j_icmp_lt (tgt := 26) hx hb dX3_checkedQuestion_13 (by decide) ⟨by omega, by omega⟩ ⟨by decide, by decide⟩ (fun c_3 => ?_) (fun c_3 => ?_)
      · refine lv_iload_n hx hb dX3_checkedQuestion_26 rfl (lv_at hl 2 rfl) ?_
        refine j_if_lt (tgt := 37) hx hb dX3_checkedQuestion_27 (by decide) ⟨by omega, by omega⟩ (fun c_4 => ?_) (fun c_4 => ?_)
        · exact m_throw (cls := nE1) (Ts := wsX3_checkedQuestion) hx hb hfl hown fitE1 hts (List.mem_of_getElem? (i := 1) rfl) (List.mem_of_getElem? (i := 2) rfl) (fun _ q => List.mem_cons_of_mem _ (List.mem_append_right _ q)) ngE1 otE1 (List.mem_of_getElem? (i := 9) rfl) hK hB (hl.1.trans hml.symm) hout hlocks dX3_checkedQuestion_37 dX3_checkedQuestion_40 dX3_checkedQuestion_41 dX3_checkedQuestion_43 dX3_checkedQuestion_46 (Nat.le_of_ble_eq_true rfl) (Nat.le_of_ble_eq_true rfl) (Nat.le_of_ble_eq_true rfl) (Nat.le_of_ble_eq_true rfl) (Nat.le_of_ble_eq_true rfl) (Nat.le_of_ble_eq_true rfl) ⟨rfl, rfl, by unfold okQ; omega⟩
        · refine lv_iload_n hx hb dX3_checkedQuestion_30 rfl (lv_at hl 2 rfl) ?_
          refine j_sipush hx hb dX3_checkedQuestion_31 (by decide) ?_
          refine j_icmp_le (tgt := 47) hx hb dX3_checkedQuestion_34 (by decide) ⟨by omega, by omega⟩ ⟨by decide, by decide⟩ (fun c_5 => ?_) (fun c_5 => ?_)
          · refine m_new hx hb hts (fun _ q => List.mem_cons_of_mem _ (List.mem_append_left _ (List.mem_append_right _ q))) tyX1 tyX1_ok hown (List.mem_of_getElem? (i := 3) rfl) (List.mem_of_getElem? (i := 4) rfl) (List.mem_of_getElem? (i := 5) rfl) hK hB (ci := 1) rfl (fs := [.int 0, .int 0, .int 0]) (fun j hj => by rcases (show j = 0 ∨ j = 1 ∨ j = 2 by omega) with rfl | rfl | rfl <;> rfl) (by decide) (by decide) dX3_checkedQuestion_47 (fun q_6 H hq_q_6 hB => ?_)
            refine lv_dup hx hb dX3_checkedQuestion_50 rfl ?_
            refine lv_iload_n hx hb dX3_checkedQuestion_51 rfl (lv_at hl 0 rfl) ?_
            refine lv_iload_n hx hb dX3_checkedQuestion_52 rfl (lv_at hl 1 rfl) ?_
            refine lv_iload_n hx hb dX3_checkedQuestion_53 rfl (lv_at hl 2 rfl) ?_
            refine m_run (va_runI (As := [.int (iI lo), .int (iI hi), .int (iI so)]) (rest := [.ref q_6]) ⟨hx, hb, hml, hown, hts⟩ (k_X1_init (l := l) (a := q_6) (lo := lo) (hi := hi) (so := so) (hup_s _ _ _)) (cwI 3 hts gX3_checkedQuestion_X1_init rfl rfl rfl (hts _ (List.mem_of_getElem? (i := 5) rfl)) (hts _ (List.mem_of_getElem? (i := 10) rfl)) (hts _ (List.mem_of_getElem? (i := 11) rfl)) rfl (by decide +kernel) ⟨by decide, by decide⟩) ⟨Kp.blind _ _ _ _ _, fun U hU hW => hK.pass hB U hU hW⟩ rfl rfl hl.1 rfl (lv_room (Nat.le_of_ble_eq_true rfl)) dX3_checkedQuestion_54 ⟨Nat.le_of_ble_eq_true rfl, Nat.le_of_ble_eq_true rfl⟩) hB (fun v u H locs hp_7 hB => ?_)
            obtain ⟨rfl, eu⟩ := hp_7
            rw [hup_hup] at eu
            subst eu
            show W _ _ _ _ _ _ _ _ _ _ _ _ _ _ _ (F0 m 57 ls [.ref q_6])
            exact vx_ret (m_aret hx hb hr hlocks hB (by decide) (by decide) dX3_checkedQuestion_57 ⟨q_6, rfl, hq_q_6, rfl, by unfold okQ; omega⟩)
          · exact m_throw (cls := nE1) (Ts := wsX3_checkedQuestion) hx hb hfl hown fitE1 hts (List.mem_of_getElem? (i := 1) rfl) (List.mem_of_getElem? (i := 2) rfl) (fun _ q => List.mem_cons_of_mem _ (List.mem_append_right _ q)) ngE1 otE1 (List.mem_of_getElem? (i := 9) rfl) hK hB (hl.1.trans hml.symm) hout hlocks dX3_checkedQuestion_37 dX3_checkedQuestion_40 dX3_checkedQuestion_41 dX3_checkedQuestion_43 dX3_checkedQuestion_46 (Nat.le_of_ble_eq_true rfl) (Nat.le_of_ble_eq_true rfl) (Nat.le_of_ble_eq_true rfl) (Nat.le_of_ble_eq_true rfl) (Nat.le_of_ble_eq_true rfl) (Nat.le_of_ble_eq_true rfl) ⟨rfl, rfl, by unfold okQ; omega⟩
      · exact m_throw (cls := nE1) (Ts := wsX3_checkedQuestion) hx hb hfl hown fitE1 hts (List.mem_of_getElem? (i := 1) rfl) (List.mem_of_getElem? (i := 2) rfl) (fun _ q => List.mem_cons_of_mem _ (List.mem_append_right _ q)) ngE1 otE1 (List.mem_of_getElem? (i := 8) rfl) hK hB (hl.1.trans hml.symm) hout hlocks dX3_checkedQuestion_16 dX3_checkedQuestion_19 dX3_checkedQuestion_20 dX3_checkedQuestion_22 dX3_checkedQuestion_25 (Nat.le_of_ble_eq_true rfl) (Nat.le_of_ble_eq_true rfl) (Nat.le_of_ble_eq_true rfl) (Nat.le_of_ble_eq_true rfl) (Nat.le_of_ble_eq_true rfl) (Nat.le_of_ble_eq_true rfl) ⟨rfl, rfl, by unfold okQ; omega⟩

