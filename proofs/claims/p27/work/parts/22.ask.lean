abbrev rmX3_rowsOf : Room := { frames := 0, cells := 0, slots := 0, locals := 0 }
set_option maxHeartbeats 4000000 in
set_option maxRecDepth 100000 in
theorem k_X3_rowsOf {l : Launch} {D : va_G} {z : Nat} {cI cP cR cJ : ClassId} {h : Hp} {x xp xr : Nat} {pa ra : Nat → Nat} {σ : Sg} (hC : CR cP cR x xp xr pa ra σ h) (hI : Ib σ) {i : Nat} (hi : (i : Int) ≤ σ 9 0) : Ct l D z (tyL cI cP cR cJ) yX3_rowsOf wsX3_rowsOf rmX3_rowsOf [.ref x, .ref (pa i)] h (fun v u => v = some (.int (iI (cnt (fun j => live σ j ∧ pn σ j = i) (nrN σ)))) ∧ h = u) := by
  refine Ct.of (cc := cX3_rowsOf) (maxL := 7) (ret := (some .int)) (by decide) rfl (Nat.le_of_ble_eq_true rfl) ?_
  intro p e s m args below meth c hx hb hr hts hown hlocks hml hnm hK hB ls hl
  have hl : lv_has ls 7 [(0, .ref x), (1, .ref (pa i))] := hl
  refine j_iconst hx hb dX3_rowsOf_0 ?_
  refine lv_istore_n (lv' := [(2, .int (iI 0)), (0, .ref x), (1, .ref (pa i))]) hx hb dX3_rowsOf_1 rfl hl (by decide) rfl (fun ls hl => ?_)
  refine lv_aload_n hx hb dX3_rowsOf_2 rfl (lv_at hl 1 rfl) ?_
  refine m_get hx hb hts (fun _ q => List.mem_cons_of_mem _ (List.mem_append_left _ (List.mem_append_right _ q))) hown hK hB hC.tb (ci := 3) rfl 3 (by decide) (List.mem_of_getElem? (i := 1) rfl) rfl rfl dX3_rowsOf_3 ?_
  refine lv_astore_n (lv' := [(3, .ref xr), (2, .int (iI 0)), (0, .ref x), (1, .ref (pa i))]) hx hb dX3_rowsOf_6 rfl hl (by decide) rfl (fun ls hl => ?_)
  refine lv_aload_n hx hb dX3_rowsOf_7 rfl (lv_at hl 0 rfl) ?_
  refine m_lenR hx hb hK hB hC dX3_rowsOf_8 ?_
  refine lv_istore (lv' := [(4, .int (iI 200)), (3, .ref xr), (2, .int (iI 0)), (0, .ref x), (1, .ref (pa i))]) hx hb dX3_rowsOf_9 hl (by decide) rfl (fun ls hl => ?_)
  refine j_iconst hx hb dX3_rowsOf_11 ?_
  refine lv_istore (lv' := [(5, .int (iI 0)), (4, .int (iI 200)), (3, .ref xr), (2, .int (iI 0)), (0, .ref x), (1, .ref (pa i))]) hx hb dX3_rowsOf_12 hl (by decide) rfl (fun ls hl => ?_)
  have lp_14 : ∀ (fuel j : Nat) (a : Int), j ≤ 200 → 200 + 1 ≤ j + fuel → ∀ (ea : a = cnt (fun j => live σ j ∧ pn σ j = i) j) (H : Heap) (locs : List Loc), Bk D z s.heap h H locs → ∀ ls : Array Slot, lv_has ls 7 [(5, .int (iI (j : Int))), (4, .int (iI 200)), (3, .ref xr), (2, .int (iI a)), (0, .ref x), (1, .ref (pa i))] → W p l e rmX3_rowsOf s m args below meth c H locs 0 0 (MQ below (Qx D z (fun v u => v = some (.int (iI (cnt (fun j => live σ j ∧ pn σ j = i) (nrN σ)))) ∧ h = u)) args s (rmX3_rowsOf).cells (rmX3_rowsOf).slots (zA z)) (F0 m 14 ls []) := by
    intro fuel
    induction fuel with
    | zero => intro j a w1 w2; exact absurd w2 (by omega)
    | succ fuel ih =>
      intro j a w1 w2 ea H locs hB ls hl
      have ear := cnt_rg (fun j => live σ j ∧ pn σ j = i) j
      refine lv_iload hx hb dX3_rowsOf_14 (lv_at hl 0 rfl) ?_
      refine lv_iload hx hb dX3_rowsOf_16 (lv_at hl 1 rfl) ?_
      refine j_icmp_ge (tgt := 50) hx hb dX3_rowsOf_18 (by decide) ⟨by omega, by omega⟩ ⟨by decide, by decide⟩ (fun c_1 => ?_) (fun c_1 => ?_)
      · refine lv_iload_n hx hb dX3_rowsOf_50 rfl (lv_at hl 3 rfl) ?_
        exact m_zret hx hb hr rfl hlocks hB (by decide) (by decide) dX3_rowsOf_51 ⟨ret_e (cs_e hI ea (by omega) (fun _ q => q.1)), rfl⟩
      · refine lv_aload_n hx hb dX3_rowsOf_21 rfl (lv_at hl 2 rfl) ?_
        refine lv_iload hx hb dX3_rowsOf_22 (lv_at hl 0 rfl) ?_
        refine m_ldR (j := j) hx hb hK hB hC (by omega) dX3_rowsOf_24 (fun lv_2 => ?_) (fun lv_2 => ?_)
        · refine lv_astore (lv' := [(6, .ref (ra j)), (5, .int (iI (j : Int))), (4, .int (iI 200)), (3, .ref xr), (2, .int (iI a)), (0, .ref x), (1, .ref (pa i))]) hx hb dX3_rowsOf_25 hl (by decide) rfl (fun ls hl => ?_)
          refine lv_aload hx hb dX3_rowsOf_27 (lv_at hl 0 rfl) ?_
          refine lv_ifnull hx hb dX3_rowsOf_29 ?_
          refine lv_aload hx hb dX3_rowsOf_32 (lv_at hl 0 rfl) ?_
          have rf_3 := hI.row j lv_2
          have pn_4 := hI.pnI j lv_2
          refine m_get hx hb hts (fun _ q => List.mem_cons_of_mem _ (List.mem_append_right _ q)) hown hK hB (hC.rw j lv_2) (ci := 2) rfl 3 (by decide) (List.mem_of_getElem? (i := 2) rfl) rfl rfl dX3_rowsOf_34 ?_
          refine lv_aload_n hx hb dX3_rowsOf_37 rfl (lv_at hl 6 rfl) ?_
          refine m_acmpP_ne (tgt := 44) hx hb hC (by omega) (by omega) dX3_rowsOf_38 (by decide) (fun c_5 => ?_) (fun c_5 => ?_)
          · refine j_iinc (lv' := [(5, .int (iI ((j + 1 : Nat) : Int))), (6, .ref (ra j)), (4, .int (iI 200)), (3, .ref xr), (2, .int (iI a)), (0, .ref x), (1, .ref (pa i))]) hx hb dX3_rowsOf_44 hl (k := 1) rfl (by decide) rfl (fun ls hl => ?_)
            refine lv_goto (tgt := 14) hx hb dX3_rowsOf_47 (by decide) ?_
            exact ih (j + 1) a (by omega) (by omega) (cs_f ea (fun q => c_5 q.2)) _ _ hB ls (lv_sub hl [0, 2, 3, 4, 5, 6] rfl)
          · refine j_iinc (lv' := [(2, .int (iI (a + 1))), (6, .ref (ra j)), (5, .int (iI (j : Int))), (4, .int (iI 200)), (3, .ref xr), (0, .ref x), (1, .ref (pa i))]) hx hb dX3_rowsOf_41 hl (k := 4) rfl (by decide) rfl (fun ls hl => ?_)
            refine j_iinc (lv' := [(5, .int (iI ((j + 1 : Nat) : Int))), (2, .int (iI (a + 1))), (6, .ref (ra j)), (4, .int (iI 200)), (3, .ref xr), (0, .ref x), (1, .ref (pa i))]) hx hb dX3_rowsOf_44 hl (k := 2) rfl (by decide) rfl (fun ls hl => ?_)
            refine lv_goto (tgt := 14) hx hb dX3_rowsOf_47 (by decide) ?_
            exact ih (j + 1) (a + 1) (by omega) (by omega) (cs_t ea ⟨lv_2, c_5⟩) _ _ hB ls (lv_sub hl [0, 3, 4, 1, 5, 6] rfl)
        · refine lv_astoreN (lv' := [(6, .null), (5, .int (iI (j : Int))), (4, .int (iI 200)), (3, .ref xr), (2, .int (iI a)), (0, .ref x), (1, .ref (pa i))]) hx hb dX3_rowsOf_25 hl (by decide) rfl (fun ls hl => ?_)
          refine lv_aloadN hx hb dX3_rowsOf_27 (lv_at hl 0 rfl) ?_
          refine lv_ifnullN (tgt := 44) hx hb dX3_rowsOf_29 (by decide) ?_
          refine j_iinc (lv' := [(5, .int (iI ((j + 1 : Nat) : Int))), (6, .null), (4, .int (iI 200)), (3, .ref xr), (2, .int (iI a)), (0, .ref x), (1, .ref (pa i))]) hx hb dX3_rowsOf_44 hl (k := 1) rfl (by decide) rfl (fun ls hl => ?_)
          refine lv_goto (tgt := 14) hx hb dX3_rowsOf_47 (by decide) ?_
          exact ih (j + 1) a (by omega) (by omega) (cs_f ea (fun q => lv_2 q.1)) _ _ hB ls (lv_sub hl [0, 2, 3, 4, 5, 6] rfl)
  exact lp_14 (200 + 1) 0 0 (by omega) (by omega) rfl _ _ hB ls (lv_sub hl [0, 1, 2, 3, 4, 5] rfl)

abbrev rmX3_refuseOverlap : Room := { frames := 6, cells := 1, slots := 6, locals := 90 }
set_option maxHeartbeats 4000000 in
set_option maxRecDepth 100000 in
theorem k_X3_refuseOverlap {l : Launch} {D : va_G} {z : Nat} {cI cP cR cJ : ClassId} {h : Hp} (hfl : l.stackTraces = false) {x xp xr : Nat} {pa ra : Nat → Nat} {σ : Sg} (hC : CR cP cR x xp xr pa ra σ h) (hI : Ib σ) {ca : Nat} {n f t k d st : Int} (hca : h ca = some (prt n f t k d st)) (f0 : 0 ≤ f) (f9 : f ≤ 999) (t0 : 0 ≤ t) (t9 : t ≤ 1000)  : Cx l D z (tyL cI cP cR cJ) yX3_refuseOverlap wsX3_refuseOverlap rmX3_refuseOverlap [.ref x, .ref ca] h (fun v u => v = none ∧ h = u ∧ ¬ ovl σ f t) (fun E u => E = nE2 ∧ h = u ∧ ovl σ f t) := by
  refine Cx.of (cc := cX3_refuseOverlap) (maxL := 6) (ret := none) (by decide) rfl (Nat.le_of_ble_eq_true rfl) ?_
  intro p e s m args below meth c hx hb hr hts hown hlocks hml hnm hout hK hB ls hl
  have hl : lv_has ls 6 [(0, .ref x), (1, .ref ca)] := hl
  have hnp := hI.hnp
  have hre := hI.rest
  refine lv_aload_n hx hb dX3_refuseOverlap_0 rfl (lv_at hl 0 rfl) ?_
  refine m_get hx hb hts (fun _ q => List.mem_cons_of_mem _ (List.mem_append_left _ (List.mem_append_left _ (List.mem_append_right _ q)))) hown hK hB hC.tb (ci := 3) rfl 1 (by decide) (List.mem_of_getElem? (i := 3) rfl) rfl rfl dX3_refuseOverlap_1 ?_
  refine lv_astore_n (lv' := [(2, .ref xp), (0, .ref x), (1, .ref ca)]) hx hb dX3_refuseOverlap_4 rfl hl (by decide) rfl (fun ls hl => ?_)
  refine lv_aload_n hx hb dX3_refuseOverlap_5 rfl (lv_at hl 0 rfl) ?_
  refine m_lenP hx hb hK hB hC dX3_refuseOverlap_6 ?_
  refine lv_istore_n (lv' := [(3, .int (iI 16)), (2, .ref xp), (0, .ref x), (1, .ref ca)]) hx hb dX3_refuseOverlap_7 rfl hl (by decide) rfl (fun ls hl => ?_)
  refine j_iconst hx hb dX3_refuseOverlap_8 ?_
  refine lv_istore (lv' := [(4, .int (iI 0)), (3, .int (iI 16)), (2, .ref xp), (0, .ref x), (1, .ref ca)]) hx hb dX3_refuseOverlap_9 hl (by decide) rfl (fun ls hl => ?_)
  have lp_11 : ∀ (fuel i : Nat), i ≤ 16 → 16 + 1 ≤ i + fuel → ∀ (ea : ∀ i2 : Nat, i2 < i → ¬ (1 ≤ i2 ∧ (i2 : Int) ≤ σ 9 0 ∧ σ 4 i2 = 0 ∧ f < σ 1 i2 ∧ σ 0 i2 < t)) (H : Heap) (locs : List Loc), Bk D z s.heap h H locs → ∀ ls : Array Slot, lv_has ls 6 [(4, .int (iI (i : Int))), (3, .int (iI 16)), (2, .ref xp), (0, .ref x), (1, .ref ca)] → W p l e rmX3_refuseOverlap s m args below meth c H locs 0 0 (vx_MQ below (Qx D z (fun v u => v = none ∧ h = u ∧ ¬ ovl σ f t)) (Xp D z (fun E u => E = nE2 ∧ h = u ∧ ovl σ f t)) args s (rmX3_refuseOverlap).cells (rmX3_refuseOverlap).slots (zA z)) (F0 m 11 ls []) := by
    intro fuel
    induction fuel with
    | zero => intro i w1 w2; exact absurd w2 (by omega)
    | succ fuel ih =>
      intro i w1 w2 ea H locs hB ls hl
      refine lv_iload hx hb dX3_refuseOverlap_11 (lv_at hl 0 rfl) ?_
      refine lv_iload_n hx hb dX3_refuseOverlap_13 rfl (lv_at hl 1 rfl) ?_
      refine j_icmp_ge (tgt := 61) hx hb dX3_refuseOverlap_14 (by decide) ⟨by omega, by omega⟩ ⟨by decide, by decide⟩ (fun c_1 => ?_) (fun c_1 => ?_)
      · exact vx_ret (m_vret hx hb hr hlocks hB (by decide) (by decide) dX3_refuseOverlap_61 ⟨rfl, rfl, fun ⟨i2, q⟩ => ea i2 (by omega) q⟩)
      · refine lv_aload_n hx hb dX3_refuseOverlap_17 rfl (lv_at hl 2 rfl) ?_
        refine lv_iload hx hb dX3_refuseOverlap_18 (lv_at hl 0 rfl) ?_
        refine m_ldP (i := i) hx hb hK hB hC (by omega) dX3_refuseOverlap_20 (fun lv_2 => ?_) (fun lv_2 => ?_)
        · refine lv_astore (lv' := [(5, .ref (pa i)), (4, .int (iI (i : Int))), (3, .int (iI 16)), (2, .ref xp), (0, .ref x), (1, .ref ca)]) hx hb dX3_refuseOverlap_21 hl (by decide) rfl (fun ls hl => ?_)
          refine lv_aload hx hb dX3_refuseOverlap_23 (lv_at hl 0 rfl) ?_
          refine lv_ifnull hx hb dX3_refuseOverlap_25 ?_
          refine lv_aload hx hb dX3_refuseOverlap_28 (lv_at hl 0 rfl) ?_
          have pf_3 := hI.part i (by omega)
          refine m_get hx hb hts (fun _ q => List.mem_cons_of_mem _ (List.mem_append_left _ (List.mem_append_right _ q))) hown hK hB (hC.pt i (by omega)) (ci := 0) rfl 5 (by decide) (List.mem_of_getElem? (i := 4) rfl) rfl rfl dX3_refuseOverlap_30 ?_
          have bd_5 := hI.bd 4 i
          refine j_if_ne (tgt := 55) hx hb dX3_refuseOverlap_33 (by decide) ⟨by omega, by omega⟩ (fun c_4 => ?_) (fun c_4 => ?_)
          · refine j_iinc (lv' := [(4, .int (iI ((i + 1 : Nat) : Int))), (5, .ref (pa i)), (3, .int (iI 16)), (2, .ref xp), (0, .ref x), (1, .ref ca)]) hx hb dX3_refuseOverlap_55 hl (k := 1) rfl (by decide) rfl (fun ls hl => ?_)
            refine lv_goto (tgt := 11) hx hb dX3_refuseOverlap_58 (by decide) ?_
            exact ih (i + 1) (by omega) (by omega) (fa_s ea (fun q => c_4 q.2.2.1)) _ _ hB ls (lv_sub hl [0, 2, 3, 4, 5] rfl)
          · refine lv_aload hx hb dX3_refuseOverlap_36 (lv_at hl 0 rfl) ?_
            refine lv_aload_n hx hb dX3_refuseOverlap_38 rfl (lv_at hl 5 rfl) ?_
            have bd_6 := hI.bd 0 i
            have bd_7 := hI.bd 1 i
            refine m_run (va_runV (As := [.ref ca]) (rest := []) ⟨hx, hb, hml, hown, hts⟩ (k_X0_overlaps (l := l) (hC.pt i (by omega)) hca ⟨by omega, by omega⟩ ⟨by omega, by omega⟩ ⟨by omega, by omega⟩ ⟨by omega, by omega⟩) (cwV 1 hts gX3_refuseOverlap_X0_overlaps rfl rfl rfl (by decide +kernel) ⟨by decide, by decide⟩) ⟨Kp.blind _ _ _ _ _, m_recv hK hB (ci := 0) rfl (hC.pt i (by omega)), fun U hU hW => hK.pass hB U hU hW⟩ rfl rfl hl.1 rfl (lv_room (Nat.le_of_ble_eq_true rfl)) dX3_refuseOverlap_39 ⟨Nat.le_of_ble_eq_true rfl, Nat.le_of_ble_eq_true rfl⟩) hB (fun v u H locs hp_8 hB => ?_)
            obtain ⟨rfl, rfl⟩ := hp_8
            show W _ _ _ _ _ _ _ _ _ _ _ _ _ _ _ (F0 m 42 ls [.int (iI (b2 ((σ 0 i) < t ∧ f < (σ 1 i))))])
            refine j_ifeqP (tgt := 55) hx hb dX3_refuseOverlap_42 (by decide) (fun c_9 => ?_) (fun c_9 => ?_)
            · refine j_iinc (lv' := [(4, .int (iI ((i + 1 : Nat) : Int))), (5, .ref (pa i)), (3, .int (iI 16)), (2, .ref xp), (0, .ref x), (1, .ref ca)]) hx hb dX3_refuseOverlap_55 hl (k := 1) rfl (by decide) rfl (fun ls hl => ?_)
              refine lv_goto (tgt := 11) hx hb dX3_refuseOverlap_58 (by decide) ?_
              exact ih (i + 1) (by omega) (by omega) (fa_s ea (fun q => c_9 ⟨q.2.2.2.2, q.2.2.2.1⟩)) _ _ hB ls (lv_sub hl [0, 2, 3, 4, 5] rfl)
            · exact m_throw (cls := nE2) (Ts := wsX3_refuseOverlap) hx hb hfl hown fitE2 hts (List.mem_of_getElem? (i := 1) rfl) (List.mem_of_getElem? (i := 2) rfl) (fun _ q => List.mem_cons_of_mem _ (List.mem_append_right _ q)) ngE2 otE2 (List.mem_of_getElem? (i := 17) rfl) hK hB (hl.1.trans hml.symm) hout hlocks dX3_refuseOverlap_45 dX3_refuseOverlap_48 dX3_refuseOverlap_49 dX3_refuseOverlap_51 dX3_refuseOverlap_54 (Nat.le_of_ble_eq_true rfl) (Nat.le_of_ble_eq_true rfl) (Nat.le_of_ble_eq_true rfl) (Nat.le_of_ble_eq_true rfl) (Nat.le_of_ble_eq_true rfl) (Nat.le_of_ble_eq_true rfl) ⟨rfl, rfl, ⟨i, by rcases Nat.eq_zero_or_pos i with q | q; (subst q; omega); exact q, by omega, by omega, by omega, by omega⟩⟩
        · refine lv_astoreN (lv' := [(5, .null), (4, .int (iI (i : Int))), (3, .int (iI 16)), (2, .ref xp), (0, .ref x), (1, .ref ca)]) hx hb dX3_refuseOverlap_21 hl (by decide) rfl (fun ls hl => ?_)
          refine lv_aloadN hx hb dX3_refuseOverlap_23 (lv_at hl 0 rfl) ?_
          refine lv_ifnullN (tgt := 55) hx hb dX3_refuseOverlap_25 (by decide) ?_
          refine j_iinc (lv' := [(4, .int (iI ((i + 1 : Nat) : Int))), (5, .null), (3, .int (iI 16)), (2, .ref xp), (0, .ref x), (1, .ref ca)]) hx hb dX3_refuseOverlap_55 hl (k := 1) rfl (by decide) rfl (fun ls hl => ?_)
          refine lv_goto (tgt := 11) hx hb dX3_refuseOverlap_58 (by decide) ?_
          exact ih (i + 1) (by omega) (by omega) (fa_s ea (fun q => lv_2 q.2.1)) _ _ hB ls (lv_sub hl [0, 2, 3, 4, 5] rfl)
  exact lp_11 (16 + 1) 0 (by omega) (by omega) (fun i hi => absurd hi (by omega)) _ _ hB ls (lv_sub hl [0, 1, 2, 3, 4] rfl)

abbrev rmX3_refuseRowsOfRest : Room := { frames := 6, cells := 1, slots := 6, locals := 90 }
set_option maxHeartbeats 4000000 in
set_option maxRecDepth 100000 in
theorem k_X3_refuseRowsOfRest {l : Launch} {D : va_G} {z : Nat} {cI cP cR cJ : ClassId} {h : Hp} (hfl : l.stackTraces = false) {x xp xr : Nat} {pa ra : Nat → Nat} {σ : Sg} (hC : CR cP cR x xp xr pa ra σ h) (hI : Ib σ) {ca : Nat} {n f t k d st : Int} (hca : h ca = some (prt n f t k d st)) (f0 : 0 ≤ f) (f9 : f ≤ 999) (t0 : 0 ≤ t) (t9 : t ≤ 1000)  : Cx l D z (tyL cI cP cR cJ) yX3_refuseRowsOfRest wsX3_refuseRowsOfRest rmX3_refuseRowsOfRest [.ref x, .ref ca] h (fun v u => v = none ∧ h = u ∧ ¬ inR σ f t) (fun E u => E = nE2 ∧ h = u ∧ inR σ f t) := by
  refine Cx.of (cc := cX3_refuseRowsOfRest) (maxL := 6) (ret := none) (by decide) rfl (Nat.le_of_ble_eq_true rfl) ?_
  intro p e s m args below meth c hx hb hr hts hown hlocks hml hnm hout hK hB ls hl
  have hl : lv_has ls 6 [(0, .ref x), (1, .ref ca)] := hl
  have hnp := hI.hnp
  have hnr := hI.hnr
  refine lv_aload_n hx hb dX3_refuseRowsOfRest_0 rfl (lv_at hl 0 rfl) ?_
  refine m_get hx hb hts (fun _ q => List.mem_cons_of_mem _ (List.mem_append_left _ (List.mem_append_left _ (List.mem_append_left _ (List.mem_append_right _ q))))) hown hK hB hC.tb (ci := 3) rfl 3 (by decide) (List.mem_of_getElem? (i := 3) rfl) rfl rfl dX3_refuseRowsOfRest_1 ?_
  refine lv_astore_n (lv' := [(2, .ref xr), (0, .ref x), (1, .ref ca)]) hx hb dX3_refuseRowsOfRest_4 rfl hl (by decide) rfl (fun ls hl => ?_)
  refine lv_aload_n hx hb dX3_refuseRowsOfRest_5 rfl (lv_at hl 0 rfl) ?_
  refine m_lenR hx hb hK hB hC dX3_refuseRowsOfRest_6 ?_
  refine lv_istore_n (lv' := [(3, .int (iI 200)), (2, .ref xr), (0, .ref x), (1, .ref ca)]) hx hb dX3_refuseRowsOfRest_7 rfl hl (by decide) rfl (fun ls hl => ?_)
  refine j_iconst hx hb dX3_refuseRowsOfRest_8 ?_
  refine lv_istore (lv' := [(4, .int (iI 0)), (3, .int (iI 200)), (2, .ref xr), (0, .ref x), (1, .ref ca)]) hx hb dX3_refuseRowsOfRest_9 hl (by decide) rfl (fun ls hl => ?_)
  have lp_11 : ∀ (fuel j : Nat), j ≤ 200 → 200 + 1 ≤ j + fuel → ∀ (ea : ∀ j2 : Nat, j2 < j → ¬ (live σ j2 ∧ σ 5 j2 = 0 ∧ f ≤ σ 6 j2 ∧ σ 6 j2 < t)) (H : Heap) (locs : List Loc), Bk D z s.heap h H locs → ∀ ls : Array Slot, lv_has ls 6 [(4, .int (iI (j : Int))), (3, .int (iI 200)), (2, .ref xr), (0, .ref x), (1, .ref ca)] → W p l e rmX3_refuseRowsOfRest s m args below meth c H locs 0 0 (vx_MQ below (Qx D z (fun v u => v = none ∧ h = u ∧ ¬ inR σ f t)) (Xp D z (fun E u => E = nE2 ∧ h = u ∧ inR σ f t)) args s (rmX3_refuseRowsOfRest).cells (rmX3_refuseRowsOfRest).slots (zA z)) (F0 m 11 ls []) := by
    intro fuel
    induction fuel with
    | zero => intro j w1 w2; exact absurd w2 (by omega)
    | succ fuel ih =>
      intro j w1 w2 ea H locs hB ls hl
      refine lv_iload hx hb dX3_refuseRowsOfRest_11 (lv_at hl 0 rfl) ?_
      refine lv_iload_n hx hb dX3_refuseRowsOfRest_13 rfl (lv_at hl 1 rfl) ?_
      refine j_icmp_ge (tgt := 68) hx hb dX3_refuseRowsOfRest_14 (by decide) ⟨by omega, by omega⟩ ⟨by decide, by decide⟩ (fun c_1 => ?_) (fun c_1 => ?_)
      · exact vx_ret (m_vret hx hb hr hlocks hB (by decide) (by decide) dX3_refuseRowsOfRest_68 ⟨rfl, rfl, fun ⟨j2, q⟩ => ea j2 (by have := q.1.1; omega) q⟩)
      · refine lv_aload_n hx hb dX3_refuseRowsOfRest_17 rfl (lv_at hl 2 rfl) ?_
        refine lv_iload hx hb dX3_refuseRowsOfRest_18 (lv_at hl 0 rfl) ?_
        refine m_ldR (j := j) hx hb hK hB hC (by omega) dX3_refuseRowsOfRest_20 (fun lv_2 => ?_) (fun lv_2 => ?_)
        · refine lv_astore (lv' := [(5, .ref (ra j)), (4, .int (iI (j : Int))), (3, .int (iI 200)), (2, .ref xr), (0, .ref x), (1, .ref ca)]) hx hb dX3_refuseRowsOfRest_21 hl (by decide) rfl (fun ls hl => ?_)
          refine lv_aload hx hb dX3_refuseRowsOfRest_23 (lv_at hl 0 rfl) ?_
          refine lv_ifnull hx hb dX3_refuseRowsOfRest_25 ?_
          refine lv_aload hx hb dX3_refuseRowsOfRest_28 (lv_at hl 0 rfl) ?_
          have rf_3 := hI.row j lv_2
          have pn_4 := hI.pnI j lv_2
          refine m_get hx hb hts (fun _ q => List.mem_cons_of_mem _ (List.mem_append_left _ (List.mem_append_left _ (List.mem_append_right _ q)))) hown hK hB (hC.rw j lv_2) (ci := 2) rfl 3 (by decide) (List.mem_of_getElem? (i := 4) rfl) rfl rfl dX3_refuseRowsOfRest_30 ?_
          refine lv_aload_n hx hb dX3_refuseRowsOfRest_33 rfl (lv_at hl 4 rfl) ?_
          refine m_get hx hb hts (fun _ q => List.mem_cons_of_mem _ (List.mem_append_left _ (List.mem_append_left _ (List.mem_append_left _ (List.mem_append_right _ q))))) hown hK hB hC.tb (ci := 3) rfl 0 (by decide) (List.mem_of_getElem? (i := 5) rfl) rfl rfl dX3_refuseRowsOfRest_34 ?_
          refine m_acmpP_ne (tgt := 62) hx hb hC (by omega) (by omega) dX3_refuseRowsOfRest_37 (by decide) (fun c_5 => ?_) (fun c_5 => ?_)
          · refine j_iinc (lv' := [(4, .int (iI ((j + 1 : Nat) : Int))), (5, .ref (ra j)), (3, .int (iI 200)), (2, .ref xr), (0, .ref x), (1, .ref ca)]) hx hb dX3_refuseRowsOfRest_62 hl (k := 1) rfl (by decide) rfl (fun ls hl => ?_)
            refine lv_goto (tgt := 11) hx hb dX3_refuseRowsOfRest_65 (by decide) ?_
            exact ih (j + 1) (by omega) (by omega) (fa_s ea (fun q => c_5 (by omega))) _ _ hB ls (lv_sub hl [0, 2, 3, 4, 5] rfl)
          · refine lv_aload_n hx hb dX3_refuseRowsOfRest_40 rfl (lv_at hl 5 rfl) ?_
            refine lv_aload hx hb dX3_refuseRowsOfRest_41 (lv_at hl 0 rfl) ?_
            refine m_get hx hb hts (fun _ q => List.mem_cons_of_mem _ (List.mem_append_left _ (List.mem_append_left _ (List.mem_append_right _ q)))) hown hK hB (hC.rw j lv_2) (ci := 2) rfl 0 (by decide) (List.mem_of_getElem? (i := 6) rfl) rfl rfl dX3_refuseRowsOfRest_43 ?_
            have bd_6 := hI.bd 6 j
            refine m_run (va_runV (As := [.int (iI (σ 6 j))]) (rest := []) ⟨hx, hb, hml, hown, hts⟩ (k_X0_covers (l := l) hca ⟨by omega, by omega⟩ ⟨by omega, by omega⟩ ⟨by omega, by omega⟩) (cwV 1 hts gX3_refuseRowsOfRest_X0_covers rfl rfl rfl (by decide +kernel) ⟨by decide, by decide⟩) ⟨Kp.blind _ _ _ _ _, m_recv hK hB (ci := 0) rfl hca, fun U hU hW => hK.pass hB U hU hW⟩ rfl rfl hl.1 rfl (lv_room (Nat.le_of_ble_eq_true rfl)) dX3_refuseRowsOfRest_46 ⟨Nat.le_of_ble_eq_true rfl, Nat.le_of_ble_eq_true rfl⟩) hB (fun v u H locs hp_7 hB => ?_)
            obtain ⟨rfl, rfl⟩ := hp_7
            show W _ _ _ _ _ _ _ _ _ _ _ _ _ _ _ (F0 m 49 ls [.int (iI (b2 (f ≤ (σ 6 j) ∧ (σ 6 j) < t)))])
            refine j_ifeqP (tgt := 62) hx hb dX3_refuseRowsOfRest_49 (by decide) (fun c_8 => ?_) (fun c_8 => ?_)
            · refine j_iinc (lv' := [(4, .int (iI ((j + 1 : Nat) : Int))), (5, .ref (ra j)), (3, .int (iI 200)), (2, .ref xr), (0, .ref x), (1, .ref ca)]) hx hb dX3_refuseRowsOfRest_62 hl (k := 1) rfl (by decide) rfl (fun ls hl => ?_)
              refine lv_goto (tgt := 11) hx hb dX3_refuseRowsOfRest_65 (by decide) ?_
              exact ih (j + 1) (by omega) (by omega) (fa_s ea (fun q => c_8 q.2.2)) _ _ hB ls (lv_sub hl [0, 2, 3, 4, 5] rfl)
            · exact m_throw (cls := nE2) (Ts := wsX3_refuseRowsOfRest) hx hb hfl hown fitE2 hts (List.mem_of_getElem? (i := 1) rfl) (List.mem_of_getElem? (i := 2) rfl) (fun _ q => List.mem_cons_of_mem _ (List.mem_append_right _ q)) ngE2 otE2 (List.mem_of_getElem? (i := 18) rfl) hK hB (hl.1.trans hml.symm) hout hlocks dX3_refuseRowsOfRest_52 dX3_refuseRowsOfRest_55 dX3_refuseRowsOfRest_56 dX3_refuseRowsOfRest_58 dX3_refuseRowsOfRest_61 (Nat.le_of_ble_eq_true rfl) (Nat.le_of_ble_eq_true rfl) (Nat.le_of_ble_eq_true rfl) (Nat.le_of_ble_eq_true rfl) (Nat.le_of_ble_eq_true rfl) (Nat.le_of_ble_eq_true rfl) ⟨rfl, rfl, ⟨j, lv_2, by omega, c_8⟩⟩
        · refine lv_astoreN (lv' := [(5, .null), (4, .int (iI (j : Int))), (3, .int (iI 200)), (2, .ref xr), (0, .ref x), (1, .ref ca)]) hx hb dX3_refuseRowsOfRest_21 hl (by decide) rfl (fun ls hl => ?_)
          refine lv_aloadN hx hb dX3_refuseRowsOfRest_23 (lv_at hl 0 rfl) ?_
          refine lv_ifnullN (tgt := 62) hx hb dX3_refuseRowsOfRest_25 (by decide) ?_
          refine j_iinc (lv' := [(4, .int (iI ((j + 1 : Nat) : Int))), (5, .null), (3, .int (iI 200)), (2, .ref xr), (0, .ref x), (1, .ref ca)]) hx hb dX3_refuseRowsOfRest_62 hl (k := 1) rfl (by decide) rfl (fun ls hl => ?_)
          refine lv_goto (tgt := 11) hx hb dX3_refuseRowsOfRest_65 (by decide) ?_
          exact ih (j + 1) (by omega) (by omega) (fa_s ea (fun q => lv_2 q.1)) _ _ hB ls (lv_sub hl [0, 2, 3, 4, 5] rfl)
  exact lp_11 (200 + 1) 0 (by omega) (by omega) (fun i hi => absurd hi (by omega)) _ _ hB ls (lv_sub hl [0, 1, 2, 3, 4] rfl)

abbrev rmX3_refuseForeignRows : Room := { frames := 6, cells := 1, slots := 6, locals := 90 }
set_option maxHeartbeats 4000000 in
set_option maxRecDepth 100000 in
theorem k_X3_refuseForeignRows {l : Launch} {D : va_G} {z : Nat} {cI cP cR cJ : ClassId} {h : Hp} (hfl : l.stackTraces = false) {x xp xr : Nat} {pa ra : Nat → Nat} {σ : Sg} (hC : CR cP cR x xp xr pa ra σ h) (hI : Ib σ) {i k : Nat} (hi : (i : Int) ≤ σ 9 0) (hk : (k : Int) ≤ σ 9 0) : Cx l D z (tyL cI cP cR cJ) yX3_refuseForeignRows wsX3_refuseForeignRows rmX3_refuseForeignRows [.ref x, .ref (pa i), .ref (pa k)] h (fun v u => v = none ∧ h = u ∧ ¬ forn σ i k) (fun E u => E = nE2 ∧ h = u ∧ forn σ i k) := by
  refine Cx.of (cc := cX3_refuseForeignRows) (maxL := 7) (ret := none) (by decide) rfl (Nat.le_of_ble_eq_true rfl) ?_
  intro p e s m args below meth c hx hb hr hts hown hlocks hml hnm hout hK hB ls hl
  have hl : lv_has ls 7 [(0, .ref x), (1, .ref (pa i)), (2, .ref (pa k))] := hl
  have hnr := hI.hnr
  refine lv_aload_n hx hb dX3_refuseForeignRows_0 rfl (lv_at hl 0 rfl) ?_
  refine m_get hx hb hts (fun _ q => List.mem_cons_of_mem _ (List.mem_append_left _ (List.mem_append_left _ (List.mem_append_left _ (List.mem_append_right _ q))))) hown hK hB hC.tb (ci := 3) rfl 3 (by decide) (List.mem_of_getElem? (i := 3) rfl) rfl rfl dX3_refuseForeignRows_1 ?_
  refine lv_astore_n (lv' := [(3, .ref xr), (0, .ref x), (1, .ref (pa i)), (2, .ref (pa k))]) hx hb dX3_refuseForeignRows_4 rfl hl (by decide) rfl (fun ls hl => ?_)
  refine lv_aload_n hx hb dX3_refuseForeignRows_5 rfl (lv_at hl 0 rfl) ?_
  refine m_lenR hx hb hK hB hC dX3_refuseForeignRows_6 ?_
  refine lv_istore (lv' := [(4, .int (iI 200)), (3, .ref xr), (0, .ref x), (1, .ref (pa i)), (2, .ref (pa k))]) hx hb dX3_refuseForeignRows_7 hl (by decide) rfl (fun ls hl => ?_)
  refine j_iconst hx hb dX3_refuseForeignRows_9 ?_
  refine lv_istore (lv' := [(5, .int (iI 0)), (4, .int (iI 200)), (3, .ref xr), (0, .ref x), (1, .ref (pa i)), (2, .ref (pa k))]) hx hb dX3_refuseForeignRows_10 hl (by decide) rfl (fun ls hl => ?_)
  have lp_12 : ∀ (fuel j : Nat), j ≤ 200 → 200 + 1 ≤ j + fuel → ∀ (ea : ∀ j2 : Nat, j2 < j → ¬ (live σ j2 ∧ pn σ j2 = i ∧ ¬ (σ 0 k ≤ σ 6 j2 ∧ σ 6 j2 < σ 1 k))) (H : Heap) (locs : List Loc), Bk D z s.heap h H locs → ∀ ls : Array Slot, lv_has ls 7 [(5, .int (iI (j : Int))), (4, .int (iI 200)), (3, .ref xr), (0, .ref x), (1, .ref (pa i)), (2, .ref (pa k))] → W p l e rmX3_refuseForeignRows s m args below meth c H locs 0 0 (vx_MQ below (Qx D z (fun v u => v = none ∧ h = u ∧ ¬ forn σ i k)) (Xp D z (fun E u => E = nE2 ∧ h = u ∧ forn σ i k)) args s (rmX3_refuseForeignRows).cells (rmX3_refuseForeignRows).slots (zA z)) (F0 m 12 ls []) := by
    intro fuel
    induction fuel with
    | zero => intro j w1 w2; exact absurd w2 (by omega)
    | succ fuel ih =>
      intro j w1 w2 ea H locs hB ls hl
      refine lv_iload hx hb dX3_refuseForeignRows_12 (lv_at hl 0 rfl) ?_
      refine lv_iload hx hb dX3_refuseForeignRows_14 (lv_at hl 1 rfl) ?_
      refine j_icmp_ge (tgt := 67) hx hb dX3_refuseForeignRows_16 (by decide) ⟨by omega, by omega⟩ ⟨by decide, by decide⟩ (fun c_1 => ?_) (fun c_1 => ?_)
      · exact vx_ret (m_vret hx hb hr hlocks hB (by decide) (by decide) dX3_refuseForeignRows_67 ⟨rfl, rfl, fun ⟨j2, q⟩ => ea j2 (by have := q.1.1; omega) q⟩)
      · refine lv_aload_n hx hb dX3_refuseForeignRows_19 rfl (lv_at hl 2 rfl) ?_
        refine lv_iload hx hb dX3_refuseForeignRows_20 (lv_at hl 0 rfl) ?_
        refine m_ldR (j := j) hx hb hK hB hC (by omega) dX3_refuseForeignRows_22 (fun lv_2 => ?_) (fun lv_2 => ?_)
        · refine lv_astore (lv' := [(6, .ref (ra j)), (5, .int (iI (j : Int))), (4, .int (iI 200)), (3, .ref xr), (0, .ref x), (1, .ref (pa i)), (2, .ref (pa k))]) hx hb dX3_refuseForeignRows_23 hl (by decide) rfl (fun ls hl => ?_)
          refine lv_aload hx hb dX3_refuseForeignRows_25 (lv_at hl 0 rfl) ?_
          refine lv_ifnull hx hb dX3_refuseForeignRows_27 ?_
          refine lv_aload hx hb dX3_refuseForeignRows_30 (lv_at hl 0 rfl) ?_
          have rf_3 := hI.row j lv_2
          have pn_4 := hI.pnI j lv_2
          refine m_get hx hb hts (fun _ q => List.mem_cons_of_mem _ (List.mem_append_left _ (List.mem_append_left _ (List.mem_append_right _ q)))) hown hK hB (hC.rw j lv_2) (ci := 2) rfl 3 (by decide) (List.mem_of_getElem? (i := 4) rfl) rfl rfl dX3_refuseForeignRows_32 ?_
          refine lv_aload_n hx hb dX3_refuseForeignRows_35 rfl (lv_at hl 5 rfl) ?_
          refine m_acmpP_ne (tgt := 61) hx hb hC (by omega) (by omega) dX3_refuseForeignRows_36 (by decide) (fun c_5 => ?_) (fun c_5 => ?_)
          · refine j_iinc (lv' := [(5, .int (iI ((j + 1 : Nat) : Int))), (6, .ref (ra j)), (4, .int (iI 200)), (3, .ref xr), (0, .ref x), (1, .ref (pa i)), (2, .ref (pa k))]) hx hb dX3_refuseForeignRows_61 hl (k := 1) rfl (by decide) rfl (fun ls hl => ?_)
            refine lv_goto (tgt := 12) hx hb dX3_refuseForeignRows_64 (by decide) ?_
            exact ih (j + 1) (by omega) (by omega) (fa_s ea (fun q => c_5 q.2.1)) _ _ hB ls (lv_sub hl [0, 2, 3, 4, 5, 6] rfl)
          · refine lv_aload_n hx hb dX3_refuseForeignRows_39 rfl (lv_at hl 6 rfl) ?_
            refine lv_aload hx hb dX3_refuseForeignRows_40 (lv_at hl 0 rfl) ?_
            refine m_get hx hb hts (fun _ q => List.mem_cons_of_mem _ (List.mem_append_left _ (List.mem_append_left _ (List.mem_append_right _ q)))) hown hK hB (hC.rw j lv_2) (ci := 2) rfl 0 (by decide) (List.mem_of_getElem? (i := 5) rfl) rfl rfl dX3_refuseForeignRows_42 ?_
            have pf_6 := hI.part k (by omega)
            have bd_7 := hI.bd 0 k
            have bd_8 := hI.bd 1 k
            have bd_9 := hI.bd 6 j
            refine m_run (va_runV (As := [.int (iI (σ 6 j))]) (rest := []) ⟨hx, hb, hml, hown, hts⟩ (k_X0_covers (l := l) (hC.pt k (by omega)) ⟨by omega, by omega⟩ ⟨by omega, by omega⟩ ⟨by omega, by omega⟩) (cwV 1 hts gX3_refuseForeignRows_X0_covers rfl rfl rfl (by decide +kernel) ⟨by decide, by decide⟩) ⟨Kp.blind _ _ _ _ _, m_recv hK hB (ci := 0) rfl (hC.pt k (by omega)), fun U hU hW => hK.pass hB U hU hW⟩ rfl rfl hl.1 rfl (lv_room (Nat.le_of_ble_eq_true rfl)) dX3_refuseForeignRows_45 ⟨Nat.le_of_ble_eq_true rfl, Nat.le_of_ble_eq_true rfl⟩) hB (fun v u H locs hp_10 hB => ?_)
            obtain ⟨rfl, rfl⟩ := hp_10
            show W _ _ _ _ _ _ _ _ _ _ _ _ _ _ _ (F0 m 48 ls [.int (iI (b2 ((σ 0 k) ≤ (σ 6 j) ∧ (σ 6 j) < (σ 1 k))))])
            refine j_ifneP (tgt := 61) hx hb dX3_refuseForeignRows_48 (by decide) (fun c_11 => ?_) (fun c_11 => ?_)
            · refine j_iinc (lv' := [(5, .int (iI ((j + 1 : Nat) : Int))), (6, .ref (ra j)), (4, .int (iI 200)), (3, .ref xr), (0, .ref x), (1, .ref (pa i)), (2, .ref (pa k))]) hx hb dX3_refuseForeignRows_61 hl (k := 1) rfl (by decide) rfl (fun ls hl => ?_)
              refine lv_goto (tgt := 12) hx hb dX3_refuseForeignRows_64 (by decide) ?_
              exact ih (j + 1) (by omega) (by omega) (fa_s ea (fun q => q.2.2 c_11)) _ _ hB ls (lv_sub hl [0, 2, 3, 4, 5, 6] rfl)
            · exact m_throw (cls := nE2) (Ts := wsX3_refuseForeignRows) hx hb hfl hown fitE2 hts (List.mem_of_getElem? (i := 1) rfl) (List.mem_of_getElem? (i := 2) rfl) (fun _ q => List.mem_cons_of_mem _ (List.mem_append_right _ q)) ngE2 otE2 (List.mem_of_getElem? (i := 19) rfl) hK hB (hl.1.trans hml.symm) hout hlocks dX3_refuseForeignRows_51 dX3_refuseForeignRows_54 dX3_refuseForeignRows_55 dX3_refuseForeignRows_57 dX3_refuseForeignRows_60 (Nat.le_of_ble_eq_true rfl) (Nat.le_of_ble_eq_true rfl) (Nat.le_of_ble_eq_true rfl) (Nat.le_of_ble_eq_true rfl) (Nat.le_of_ble_eq_true rfl) (Nat.le_of_ble_eq_true rfl) ⟨rfl, rfl, ⟨j, lv_2, c_5, c_11⟩⟩
        · refine lv_astoreN (lv' := [(6, .null), (5, .int (iI (j : Int))), (4, .int (iI 200)), (3, .ref xr), (0, .ref x), (1, .ref (pa i)), (2, .ref (pa k))]) hx hb dX3_refuseForeignRows_23 hl (by decide) rfl (fun ls hl => ?_)
          refine lv_aloadN hx hb dX3_refuseForeignRows_25 (lv_at hl 0 rfl) ?_
          refine lv_ifnullN (tgt := 61) hx hb dX3_refuseForeignRows_27 (by decide) ?_
          refine j_iinc (lv' := [(5, .int (iI ((j + 1 : Nat) : Int))), (6, .null), (4, .int (iI 200)), (3, .ref xr), (0, .ref x), (1, .ref (pa i)), (2, .ref (pa k))]) hx hb dX3_refuseForeignRows_61 hl (k := 1) rfl (by decide) rfl (fun ls hl => ?_)
          refine lv_goto (tgt := 12) hx hb dX3_refuseForeignRows_64 (by decide) ?_
          exact ih (j + 1) (by omega) (by omega) (fa_s ea (fun q => lv_2 q.1)) _ _ hB ls (lv_sub hl [0, 2, 3, 4, 5, 6] rfl)
  exact lp_12 (200 + 1) 0 (by omega) (by omega) (fun i hi => absurd hi (by omega)) _ _ hB ls (lv_sub hl [0, 1, 2, 3, 4, 5] rfl)

abbrev rmX3_holderOf : Room := { frames := 1, cells := 0, slots := 0, locals := 21 }
set_option maxHeartbeats 4000000 in
set_option maxRecDepth 100000 in
theorem k_X3_holderOf {l : Launch} {D : va_G} {z : Nat} {cI cP cR cJ : ClassId} {h : Hp} {x xp xr : Nat} {pa ra : Nat → Nat} {σ : Sg} (hC : CR cP cR x xp xr pa ra σ h) (hI : Ib σ) {key : Int} (k0 : 0 ≤ key) (k9 : key ≤ 999) : Ct l D z (tyL cI cP cR cJ) yX3_holderOf wsX3_holderOf rmX3_holderOf [.ref x, .int (iI key)] h (fun v u => v = some (.ref (pa (pw σ key))) ∧ h = u) := by
  refine Ct.of (cc := cX3_holderOf) (maxL := 6) (ret := (some (.object "ParcelledTable$Part"))) (by decide) rfl (Nat.le_of_ble_eq_true rfl) ?_
  intro p e s m args below meth c hx hb hr hts hown hlocks hml hnm hK hB ls hl
  have hl : lv_has ls 6 [(0, .ref x), (1, .int (iI key))] := hl
  have hnp := hI.hnp
  have hre := hI.rest
  refine lv_aload_n hx hb dX3_holderOf_0 rfl (lv_at hl 0 rfl) ?_
  refine m_get hx hb hts (fun _ q => List.mem_cons_of_mem _ (List.mem_append_left _ (List.mem_append_right _ q))) hown hK hB hC.tb (ci := 3) rfl 1 (by decide) (List.mem_of_getElem? (i := 1) rfl) rfl rfl dX3_holderOf_1 ?_
  refine lv_astore_n (lv' := [(2, .ref xp), (0, .ref x), (1, .int (iI key))]) hx hb dX3_holderOf_4 rfl hl (by decide) rfl (fun ls hl => ?_)
  refine lv_aload_n hx hb dX3_holderOf_5 rfl (lv_at hl 0 rfl) ?_
  refine m_lenP hx hb hK hB hC dX3_holderOf_6 ?_
  refine lv_istore_n (lv' := [(3, .int (iI 16)), (2, .ref xp), (0, .ref x), (1, .int (iI key))]) hx hb dX3_holderOf_7 rfl hl (by decide) rfl (fun ls hl => ?_)
  refine j_iconst hx hb dX3_holderOf_8 ?_
  refine lv_istore (lv' := [(4, .int (iI 0)), (3, .int (iI 16)), (2, .ref xp), (0, .ref x), (1, .int (iI key))]) hx hb dX3_holderOf_9 hl (by decide) rfl (fun ls hl => ?_)
  have lp_11 : ∀ (fuel i : Nat), i ≤ 16 → 16 + 1 ≤ i + fuel → ∀ (ea : ∀ i2 : Nat, i2 < i → 1 ≤ i2 → (i2 : Int) ≤ σ 9 0 → ¬ (σ 4 i2 = 0 ∧ σ 0 i2 ≤ key ∧ key < σ 1 i2)) (H : Heap) (locs : List Loc), Bk D z s.heap h H locs → ∀ ls : Array Slot, lv_has ls 6 [(4, .int (iI (i : Int))), (3, .int (iI 16)), (2, .ref xp), (0, .ref x), (1, .int (iI key))] → W p l e rmX3_holderOf s m args below meth c H locs 0 0 (MQ below (Qx D z (fun v u => v = some (.ref (pa (pw σ key))) ∧ h = u)) args s (rmX3_holderOf).cells (rmX3_holderOf).slots (zA z)) (F0 m 11 ls []) := by
    intro fuel
    induction fuel with
    | zero => intro i w1 w2; exact absurd w2 (by omega)
    | succ fuel ih =>
      intro i w1 w2 ea H locs hB ls hl
      refine lv_iload hx hb dX3_holderOf_11 (lv_at hl 0 rfl) ?_
      refine lv_iload_n hx hb dX3_holderOf_13 rfl (lv_at hl 1 rfl) ?_
      refine j_icmp_ge (tgt := 54) hx hb dX3_holderOf_14 (by decide) ⟨by omega, by omega⟩ ⟨by decide, by decide⟩ (fun c_1 => ?_) (fun c_1 => ?_)
      · refine lv_aload_n hx hb dX3_holderOf_54 rfl (lv_at hl 3 rfl) ?_
        refine m_get hx hb hts (fun _ q => List.mem_cons_of_mem _ (List.mem_append_left _ (List.mem_append_right _ q))) hown hK hB hC.tb (ci := 3) rfl 0 (by decide) (List.mem_of_getElem? (i := 3) rfl) rfl rfl dX3_holderOf_55 ?_
        exact m_aret hx hb hr hlocks hB (by decide) (by decide) dX3_holderOf_58 ⟨by rw [pw_no hI (fun i2 a => ea i2 (by omega))], rfl⟩
      · refine lv_aload_n hx hb dX3_holderOf_17 rfl (lv_at hl 2 rfl) ?_
        refine lv_iload hx hb dX3_holderOf_18 (lv_at hl 0 rfl) ?_
        refine m_ldP (i := i) hx hb hK hB hC (by omega) dX3_holderOf_20 (fun lv_2 => ?_) (fun lv_2 => ?_)
        · refine lv_astore (lv' := [(5, .ref (pa i)), (4, .int (iI (i : Int))), (3, .int (iI 16)), (2, .ref xp), (0, .ref x), (1, .int (iI key))]) hx hb dX3_holderOf_21 hl (by decide) rfl (fun ls hl => ?_)
          refine lv_aload hx hb dX3_holderOf_23 (lv_at hl 0 rfl) ?_
          refine lv_ifnull hx hb dX3_holderOf_25 ?_
          refine lv_aload hx hb dX3_holderOf_28 (lv_at hl 0 rfl) ?_
          have pf_3 := hI.part i (by omega)
          refine m_get hx hb hts (fun _ q => List.mem_cons_of_mem _ (List.mem_append_right _ q)) hown hK hB (hC.pt i (by omega)) (ci := 0) rfl 5 (by decide) (List.mem_of_getElem? (i := 2) rfl) rfl rfl dX3_holderOf_30 ?_
          have bd_5 := hI.bd 4 i
          refine j_if_ne (tgt := 48) hx hb dX3_holderOf_33 (by decide) ⟨by omega, by omega⟩ (fun c_4 => ?_) (fun c_4 => ?_)
          · refine j_iinc (lv' := [(4, .int (iI ((i + 1 : Nat) : Int))), (5, .ref (pa i)), (3, .int (iI 16)), (2, .ref xp), (0, .ref x), (1, .int (iI key))]) hx hb dX3_holderOf_48 hl (k := 1) rfl (by decide) rfl (fun ls hl => ?_)
            refine lv_goto (tgt := 11) hx hb dX3_holderOf_51 (by decide) ?_
            exact ih (i + 1) (by omega) (by omega) (fa_s ea (fun _ _ q => c_4 q.1)) _ _ hB ls (lv_sub hl [0, 2, 3, 4, 5] rfl)
          · refine lv_aload hx hb dX3_holderOf_36 (lv_at hl 0 rfl) ?_
            refine lv_iload_n hx hb dX3_holderOf_38 rfl (lv_at hl 5 rfl) ?_
            have bd_6 := hI.bd 0 i
            have bd_7 := hI.bd 1 i
            refine m_run (va_runV (As := [.int (iI key)]) (rest := []) ⟨hx, hb, hml, hown, hts⟩ (k_X0_covers (l := l) (hC.pt i (by omega)) ⟨by omega, by omega⟩ ⟨by omega, by omega⟩ ⟨by omega, by omega⟩) (cwV 1 hts gX3_holderOf_X0_covers rfl rfl rfl (by decide +kernel) ⟨by decide, by decide⟩) ⟨Kp.blind _ _ _ _ _, m_recv hK hB (ci := 0) rfl (hC.pt i (by omega)), fun U hU hW => hK.pass hB U hU hW⟩ rfl rfl hl.1 rfl (lv_room (Nat.le_of_ble_eq_true rfl)) dX3_holderOf_39 ⟨Nat.le_of_ble_eq_true rfl, Nat.le_of_ble_eq_true rfl⟩) hB (fun v u H locs hp_8 hB => ?_)
            obtain ⟨rfl, rfl⟩ := hp_8
            show W _ _ _ _ _ _ _ _ _ _ _ _ _ _ _ (F0 m 42 ls [.int (iI (b2 ((σ 0 i) ≤ key ∧ key < (σ 1 i))))])
            refine j_ifeqP (tgt := 48) hx hb dX3_holderOf_42 (by decide) (fun c_9 => ?_) (fun c_9 => ?_)
            · refine j_iinc (lv' := [(4, .int (iI ((i + 1 : Nat) : Int))), (5, .ref (pa i)), (3, .int (iI 16)), (2, .ref xp), (0, .ref x), (1, .int (iI key))]) hx hb dX3_holderOf_48 hl (k := 1) rfl (by decide) rfl (fun ls hl => ?_)
              refine lv_goto (tgt := 11) hx hb dX3_holderOf_51 (by decide) ?_
              exact ih (i + 1) (by omega) (by omega) (fa_s ea (fun _ _ q => c_9 q.2)) _ _ hB ls (lv_sub hl [0, 2, 3, 4, 5] rfl)
            · refine lv_aload hx hb dX3_holderOf_45 (lv_at hl 0 rfl) ?_
              exact m_aret hx hb hr hlocks hB (by decide) (by decide) dX3_holderOf_47 ⟨by rw [pw_at hI (i := i) (by rcases Nat.eq_zero_or_pos i with q | q; (subst q; omega); exact q) (by omega) (fun i2 a b => ea i2 a b (by omega)) (by omega)], rfl⟩
        · refine lv_astoreN (lv' := [(5, .null), (4, .int (iI (i : Int))), (3, .int (iI 16)), (2, .ref xp), (0, .ref x), (1, .int (iI key))]) hx hb dX3_holderOf_21 hl (by decide) rfl (fun ls hl => ?_)
          refine lv_aloadN hx hb dX3_holderOf_23 (lv_at hl 0 rfl) ?_
          refine lv_ifnullN (tgt := 48) hx hb dX3_holderOf_25 (by decide) ?_
          refine j_iinc (lv' := [(4, .int (iI ((i + 1 : Nat) : Int))), (5, .null), (3, .int (iI 16)), (2, .ref xp), (0, .ref x), (1, .int (iI key))]) hx hb dX3_holderOf_48 hl (k := 1) rfl (by decide) rfl (fun ls hl => ?_)
          refine lv_goto (tgt := 11) hx hb dX3_holderOf_51 (by decide) ?_
          exact ih (i + 1) (by omega) (by omega) (fa_s ea (fun _ q => absurd q lv_2)) _ _ hB ls (lv_sub hl [0, 2, 3, 4, 5] rfl)
  exact lp_11 (16 + 1) 0 (by omega) (by omega) (fun i hi => absurd hi (by omega)) _ _ hB ls (lv_sub hl [0, 1, 2, 3, 4] rfl)

abbrev rmX3_knownPart : Room := { frames := 6, cells := 1, slots := 6, locals := 90 }
set_option maxHeartbeats 4000000 in
set_option maxRecDepth 100000 in
theorem k_X3_knownPart {l : Launch} {D : va_G} {z : Nat} {cI cP cR cJ : ClassId} {h : Hp} (hfl : l.stackTraces = false) {x xp xr : Nat} {pa ra : Nat → Nat} {σ : Sg} (hC : CR cP cR x xp xr pa ra σ h) (hI : Ib σ) {n : Int} (rn : rg n) : Cx l D z (tyL cI cP cR cJ) yX3_knownPart wsX3_knownPart rmX3_knownPart [.ref x, .int (iI n)] h (fun v u => ∃ i : Nat, n = (i : Int) ∧ (i : Int) ≤ σ 9 0 ∧ v = some (.ref (pa i)) ∧ h = u) (fun E u => E = nE3 ∧ h = u ∧ ¬ (0 ≤ n ∧ n ≤ σ 9 0)) := by
  refine Cx.of (cc := cX3_knownPart) (maxL := 3) (ret := (some (.object "ParcelledTable$Part"))) (by decide) rfl (Nat.le_of_ble_eq_true rfl) ?_
  intro p e s m args below meth c hx hb hr hts hown hlocks hml hnm hout hK hB ls hl
  have hl : lv_has ls 3 [(0, .ref x), (1, .int (iI n))] := hl
  have hnp := hI.hnp
  refine lv_iload_n hx hb dX3_knownPart_0 rfl (lv_at hl 1 rfl) ?_
  refine j_if_lt (tgt := 22) hx hb dX3_knownPart_1 (by decide) ⟨by omega, by omega⟩ (fun c_1 => ?_) (fun c_1 => ?_)
  · refine lv_null hx hb dX3_knownPart_22 ?_
    refine lv_astore_nN (lv' := [(2, .null), (0, .ref x), (1, .int (iI n))]) hx hb dX3_knownPart_23 rfl hl (by decide) rfl (fun ls hl => ?_)
    refine lv_aload_nN hx hb dX3_knownPart_24 rfl (lv_at hl 0 rfl) ?_
    refine lv_ifnonnullN hx hb dX3_knownPart_25 ?_
    exact m_throw (cls := nE3) (Ts := wsX3_knownPart) hx hb hfl hown fitE3 hts (List.mem_of_getElem? (i := 1) rfl) (List.mem_of_getElem? (i := 2) rfl) (fun _ q => List.mem_cons_of_mem _ (List.mem_append_right _ q)) ngE3 otE3 (List.mem_of_getElem? (i := 10) rfl) hK hB (hl.1.trans hml.symm) hout hlocks dX3_knownPart_28 dX3_knownPart_31 dX3_knownPart_32 dX3_knownPart_34 dX3_knownPart_37 (Nat.le_of_ble_eq_true rfl) (Nat.le_of_ble_eq_true rfl) (Nat.le_of_ble_eq_true rfl) (Nat.le_of_ble_eq_true rfl) (Nat.le_of_ble_eq_true rfl) (Nat.le_of_ble_eq_true rfl) ⟨rfl, rfl, by omega⟩
  · refine lv_iload_n hx hb dX3_knownPart_4 rfl (lv_at hl 1 rfl) ?_
    refine lv_aload_n hx hb dX3_knownPart_5 rfl (lv_at hl 0 rfl) ?_
    refine m_get hx hb hts (fun _ q => List.mem_cons_of_mem _ (List.mem_append_left _ (List.mem_append_right _ q))) hown hK hB hC.tb (ci := 3) rfl 1 (by decide) (List.mem_of_getElem? (i := 3) rfl) rfl rfl dX3_knownPart_6 ?_
    refine m_lenP hx hb hK hB hC dX3_knownPart_9 ?_
    refine j_icmp_ge (tgt := 22) hx hb dX3_knownPart_10 (by decide) ⟨by omega, by omega⟩ ⟨by decide, by decide⟩ (fun c_2 => ?_) (fun c_2 => ?_)
    · refine lv_null hx hb dX3_knownPart_22 ?_
      refine lv_astore_nN (lv' := [(2, .null), (0, .ref x), (1, .int (iI n))]) hx hb dX3_knownPart_23 rfl hl (by decide) rfl (fun ls hl => ?_)
      refine lv_aload_nN hx hb dX3_knownPart_24 rfl (lv_at hl 0 rfl) ?_
      refine lv_ifnonnullN hx hb dX3_knownPart_25 ?_
      exact m_throw (cls := nE3) (Ts := wsX3_knownPart) hx hb hfl hown fitE3 hts (List.mem_of_getElem? (i := 1) rfl) (List.mem_of_getElem? (i := 2) rfl) (fun _ q => List.mem_cons_of_mem _ (List.mem_append_right _ q)) ngE3 otE3 (List.mem_of_getElem? (i := 10) rfl) hK hB (hl.1.trans hml.symm) hout hlocks dX3_knownPart_28 dX3_knownPart_31 dX3_knownPart_32 dX3_knownPart_34 dX3_knownPart_37 (Nat.le_of_ble_eq_true rfl) (Nat.le_of_ble_eq_true rfl) (Nat.le_of_ble_eq_true rfl) (Nat.le_of_ble_eq_true rfl) (Nat.le_of_ble_eq_true rfl) (Nat.le_of_ble_eq_true rfl) ⟨rfl, rfl, by omega⟩
    · obtain ⟨i, rfl⟩ : ∃ i : Nat, n = (i : Int) := ⟨n.toNat, by omega⟩
      refine lv_aload_n hx hb dX3_knownPart_13 rfl (lv_at hl 0 rfl) ?_
      refine m_get hx hb hts (fun _ q => List.mem_cons_of_mem _ (List.mem_append_left _ (List.mem_append_right _ q))) hown hK hB hC.tb (ci := 3) rfl 1 (by decide) (List.mem_of_getElem? (i := 3) rfl) rfl rfl dX3_knownPart_14 ?_
      refine lv_iload_n hx hb dX3_knownPart_17 rfl (lv_at hl 1 rfl) ?_
      refine m_ldP (i := i) hx hb hK hB hC (by omega) dX3_knownPart_18 (fun lv_3 => ?_) (fun lv_3 => ?_)
      · refine lv_goto (tgt := 23) hx hb dX3_knownPart_19 (by decide) ?_
        refine lv_astore_n (lv' := [(2, .ref (pa i)), (0, .ref x), (1, .int (iI (i : Int)))]) hx hb dX3_knownPart_23 rfl hl (by decide) rfl (fun ls hl => ?_)
        refine lv_aload_n hx hb dX3_knownPart_24 rfl (lv_at hl 0 rfl) ?_
        refine lv_ifnonnull (tgt := 38) hx hb dX3_knownPart_25 (by decide) ?_
        refine lv_aload_n hx hb dX3_knownPart_38 rfl (lv_at hl 0 rfl) ?_
        exact vx_ret (m_aret hx hb hr hlocks hB (by decide) (by decide) dX3_knownPart_39 ⟨i, rfl, by omega, rfl, rfl⟩)
      · refine lv_goto (tgt := 23) hx hb dX3_knownPart_19 (by decide) ?_
        refine lv_astore_nN (lv' := [(2, .null), (0, .ref x), (1, .int (iI (i : Int)))]) hx hb dX3_knownPart_23 rfl hl (by decide) rfl (fun ls hl => ?_)
        refine lv_aload_nN hx hb dX3_knownPart_24 rfl (lv_at hl 0 rfl) ?_
        refine lv_ifnonnullN hx hb dX3_knownPart_25 ?_
        exact m_throw (cls := nE3) (Ts := wsX3_knownPart) hx hb hfl hown fitE3 hts (List.mem_of_getElem? (i := 1) rfl) (List.mem_of_getElem? (i := 2) rfl) (fun _ q => List.mem_cons_of_mem _ (List.mem_append_right _ q)) ngE3 otE3 (List.mem_of_getElem? (i := 10) rfl) hK hB (hl.1.trans hml.symm) hout hlocks dX3_knownPart_28 dX3_knownPart_31 dX3_knownPart_32 dX3_knownPart_34 dX3_knownPart_37 (Nat.le_of_ble_eq_true rfl) (Nat.le_of_ble_eq_true rfl) (Nat.le_of_ble_eq_true rfl) (Nat.le_of_ble_eq_true rfl) (Nat.le_of_ble_eq_true rfl) (Nat.le_of_ble_eq_true rfl) ⟨rfl, rfl, by omega⟩

abbrev rmX3_livingPart : Room := { frames := 7, cells := 2, slots := 12, locals := 112 }
set_option maxHeartbeats 4000000 in
set_option maxRecDepth 100000 in
theorem k_X3_livingPart {l : Launch} {D : va_G} {z : Nat} {cI cP cR cJ : ClassId} {h : Hp} (hfl : l.stackTraces = false) {x xp xr : Nat} {pa ra : Nat → Nat} {σ : Sg} (hC : CR cP cR x xp xr pa ra σ h) (hI : Ib σ) {n : Int} (rn : rg n) : Cx l D z (tyL cI cP cR cJ) yX3_livingPart wsX3_livingPart rmX3_livingPart [.ref x, .int (iI n)] h (fun v u => ∃ i : Nat, n = (i : Int) ∧ (i : Int) ≤ σ 9 0 ∧ σ 4 i ≠ 2 ∧ v = some (.ref (pa i)) ∧ h = u) (fun E u => E = nE3 ∧ h = u ∧ ¬ isA σ n) := by
  refine Cx.of (cc := cX3_livingPart) (maxL := 3) (ret := (some (.object "ParcelledTable$Part"))) (by decide) rfl (Nat.le_of_ble_eq_true rfl) ?_
  intro p e s m args below meth c hx hb hr hts hown hlocks hml hnm hout hK hB ls hl
  have hl : lv_has ls 3 [(0, .ref x), (1, .int (iI n))] := hl
  have hnp := hI.hnp
  refine lv_aload_n hx hb dX3_livingPart_0 rfl (lv_at hl 0 rfl) ?_
  refine lv_iload_n hx hb dX3_livingPart_1 rfl (lv_at hl 1 rfl) ?_
  refine m_runX (vx_runV (As := [.int (iI n)]) (rest := []) ⟨hx, hb, hml, hown, hts⟩ (k_X3_knownPart (l := l) hfl hC hI ⟨by omega, by omega⟩) (cwV 1 hts gX3_livingPart_X3_knownPart rfl rfl rfl (by decide +kernel) ⟨by decide, by decide⟩) ⟨Kp.blind _ _ _ _ _, m_recv hK hB (ci := 3) rfl hC.tb, fun U hU hW => hK.pass hB U hU hW⟩ rfl rfl hl.1 rfl (lv_room (Nat.le_of_ble_eq_true rfl)) dX3_livingPart_2 ⟨Nat.le_of_ble_eq_true rfl, Nat.le_of_ble_eq_true rfl⟩) hB (fun E u H locs q9 ce hp_2 hB hc9 hv9 hk9 => ?_) (fun v u H locs hp_2 hB => ?_)
  · obtain ⟨rfl, rfl, hn⟩ := hp_2
    exact m_out hout hlocks hB hc9 hv9 hk9 (Nat.le_of_ble_eq_true rfl) (Nat.le_of_ble_eq_true rfl) ⟨rfl, rfl, fun q => hn (by unfold isA isP at q; omega)⟩
  · obtain ⟨i_1, rfl, li_i_1, rfl, rfl⟩ := hp_2
    show W _ _ _ _ _ _ _ _ _ _ _ _ _ _ _ (F0 m 5 ls [.ref (pa i_1)])
    refine lv_astore_n (lv' := [(2, .ref (pa i_1)), (0, .ref x), (1, .int (iI (i_1 : Int)))]) hx hb dX3_livingPart_5 rfl hl (by decide) rfl (fun ls hl => ?_)
    refine lv_aload_n hx hb dX3_livingPart_6 rfl (lv_at hl 0 rfl) ?_
    have pf_3 := hI.part i_1 (by omega)
    refine m_get hx hb hts (fun _ q => List.mem_cons_of_mem _ (List.mem_append_left _ (List.mem_append_left _ (List.mem_append_right _ q)))) hown hK hB (hC.pt i_1 (by omega)) (ci := 0) rfl 5 (by decide) (List.mem_of_getElem? (i := 3) rfl) rfl rfl dX3_livingPart_7 ?_
    refine j_iconst hx hb dX3_livingPart_10 ?_
    have bd_4 := hI.bd 4 i_1
    refine j_icmp_ne (tgt := 24) hx hb dX3_livingPart_11 (by decide) ⟨by omega, by omega⟩ ⟨by decide, by decide⟩ (fun c_5 => ?_) (fun c_5 => ?_)
    · refine lv_aload_n hx hb dX3_livingPart_24 rfl (lv_at hl 0 rfl) ?_
      exact vx_ret (m_aret hx hb hr hlocks hB (by decide) (by decide) dX3_livingPart_25 ⟨_, rfl, by omega, by omega, rfl, rfl⟩)
    · exact m_throw (cls := nE3) (Ts := wsX3_livingPart) hx hb hfl hown fitE3 hts (List.mem_of_getElem? (i := 1) rfl) (List.mem_of_getElem? (i := 2) rfl) (fun _ q => List.mem_cons_of_mem _ (List.mem_append_right _ q)) ngE3 otE3 (List.mem_of_getElem? (i := 11) rfl) hK hB (hl.1.trans hml.symm) hout hlocks dX3_livingPart_14 dX3_livingPart_17 dX3_livingPart_18 dX3_livingPart_20 dX3_livingPart_23 (Nat.le_of_ble_eq_true rfl) (Nat.le_of_ble_eq_true rfl) (Nat.le_of_ble_eq_true rfl) (Nat.le_of_ble_eq_true rfl) (Nat.le_of_ble_eq_true rfl) (Nat.le_of_ble_eq_true rfl) ⟨rfl, rfl, fun q => ((isA_i hI).mp q).2 (by omega)⟩

abbrev rmX3_livingPartWithRange : Room := { frames := 8, cells := 3, slots := 18, locals := 134 }
set_option maxHeartbeats 4000000 in
set_option maxRecDepth 100000 in
theorem k_X3_livingPartWithRange {l : Launch} {D : va_G} {z : Nat} {cI cP cR cJ : ClassId} {h : Hp} (hfl : l.stackTraces = false) {x xp xr : Nat} {pa ra : Nat → Nat} {σ : Sg} (hC : CR cP cR x xp xr pa ra σ h) (hI : Ib σ) {n : Int} (rn : rg n) : Cx l D z (tyL cI cP cR cJ) yX3_livingPartWithRange wsX3_livingPartWithRange rmX3_livingPartWithRange [.ref x, .int (iI n)] h (fun v u => ∃ i : Nat, n = (i : Int) ∧ (i : Int) ≤ σ 9 0 ∧ σ 4 i ≠ 2 ∧ 1 ≤ i ∧ v = some (.ref (pa i)) ∧ h = u) (fun E u => E = nE3 ∧ h = u ∧ ¬ isP σ n) := by
  refine Cx.of (cc := cX3_livingPartWithRange) (maxL := 3) (ret := (some (.object "ParcelledTable$Part"))) (by decide) rfl (Nat.le_of_ble_eq_true rfl) ?_
  intro p e s m args below meth c hx hb hr hts hown hlocks hml hnm hout hK hB ls hl
  have hl : lv_has ls 3 [(0, .ref x), (1, .int (iI n))] := hl
  have hnp := hI.hnp
  refine lv_aload_n hx hb dX3_livingPartWithRange_0 rfl (lv_at hl 0 rfl) ?_
  refine lv_iload_n hx hb dX3_livingPartWithRange_1 rfl (lv_at hl 1 rfl) ?_
  refine m_runX (vx_runV (As := [.int (iI n)]) (rest := []) ⟨hx, hb, hml, hown, hts⟩ (k_X3_livingPart (l := l) hfl hC hI ⟨by omega, by omega⟩) (cwV 1 hts gX3_livingPartWithRange_X3_livingPart rfl rfl rfl (by decide +kernel) ⟨by decide, by decide⟩) ⟨Kp.blind _ _ _ _ _, m_recv hK hB (ci := 3) rfl hC.tb, fun U hU hW => hK.pass hB U hU hW⟩ rfl rfl hl.1 rfl (lv_room (Nat.le_of_ble_eq_true rfl)) dX3_livingPartWithRange_2 ⟨Nat.le_of_ble_eq_true rfl, Nat.le_of_ble_eq_true rfl⟩) hB (fun E u H locs q9 ce hp_2 hB hc9 hv9 hk9 => ?_) (fun v u H locs hp_2 hB => ?_)
  · obtain ⟨rfl, rfl, hn⟩ := hp_2
    exact m_out hout hlocks hB hc9 hv9 hk9 (Nat.le_of_ble_eq_true rfl) (Nat.le_of_ble_eq_true rfl) ⟨rfl, rfl, fun q => hn (Or.inr q)⟩
  · obtain ⟨i_1, rfl, li_i_1, ls_i_1, rfl, rfl⟩ := hp_2
    show W _ _ _ _ _ _ _ _ _ _ _ _ _ _ _ (F0 m 5 ls [.ref (pa i_1)])
    refine lv_astore_n (lv' := [(2, .ref (pa i_1)), (0, .ref x), (1, .int (iI (i_1 : Int)))]) hx hb dX3_livingPartWithRange_5 rfl hl (by decide) rfl (fun ls hl => ?_)
    refine lv_aload_n hx hb dX3_livingPartWithRange_6 rfl (lv_at hl 0 rfl) ?_
    refine lv_aload_n hx hb dX3_livingPartWithRange_7 rfl (lv_at hl 1 rfl) ?_
    refine m_get hx hb hts (fun _ q => List.mem_cons_of_mem _ (List.mem_append_left _ (List.mem_append_left _ (List.mem_append_right _ q)))) hown hK hB hC.tb (ci := 3) rfl 0 (by decide) (List.mem_of_getElem? (i := 3) rfl) rfl rfl dX3_livingPartWithRange_8 ?_
    refine m_acmpP_ne (tgt := 24) hx hb hC (by omega) (by omega) dX3_livingPartWithRange_11 (by decide) (fun c_3 => ?_) (fun c_3 => ?_)
    · refine lv_aload_n hx hb dX3_livingPartWithRange_24 rfl (lv_at hl 0 rfl) ?_
      exact vx_ret (m_aret hx hb hr hlocks hB (by decide) (by decide) dX3_livingPartWithRange_25 ⟨_, rfl, by omega, by omega, by omega, rfl, rfl⟩)
    · exact m_throw (cls := nE3) (Ts := wsX3_livingPartWithRange) hx hb hfl hown fitE3 hts (List.mem_of_getElem? (i := 1) rfl) (List.mem_of_getElem? (i := 2) rfl) (fun _ q => List.mem_cons_of_mem _ (List.mem_append_right _ q)) ngE3 otE3 (List.mem_of_getElem? (i := 12) rfl) hK hB (hl.1.trans hml.symm) hout hlocks dX3_livingPartWithRange_14 dX3_livingPartWithRange_17 dX3_livingPartWithRange_18 dX3_livingPartWithRange_20 dX3_livingPartWithRange_23 (Nat.le_of_ble_eq_true rfl) (Nat.le_of_ble_eq_true rfl) (Nat.le_of_ble_eq_true rfl) (Nat.le_of_ble_eq_true rfl) (Nat.le_of_ble_eq_true rfl) (Nat.le_of_ble_eq_true rfl) ⟨rfl, rfl, fun q => by have := (isP_i.mp q).1; omega⟩

abbrev rmX3_livingPartWithLeaf : Room := { frames := 8, cells := 3, slots := 18, locals := 134 }
set_option maxHeartbeats 4000000 in
set_option maxRecDepth 100000 in
theorem k_X3_livingPartWithLeaf {l : Launch} {D : va_G} {z : Nat} {cI cP cR cJ : ClassId} {h : Hp} (hfl : l.stackTraces = false) {x xp xr : Nat} {pa ra : Nat → Nat} {σ : Sg} (hC : CR cP cR x xp xr pa ra σ h) (hI : Ib σ) {n leaf : Int} (rn : rg n) (rl : rg leaf) : Cx l D z (tyL cI cP cR cJ) yX3_livingPartWithLeaf wsX3_livingPartWithLeaf rmX3_livingPartWithLeaf [.ref x, .int (iI n), .int (iI leaf)] h (fun v u => ∃ i : Nat, n = (i : Int) ∧ (i : Int) ≤ σ 9 0 ∧ σ 4 i ≠ 2 ∧ (0 ≤ leaf ∧ leaf < lvs (σ 2 i) (σ 3 i)) ∧ v = some (.ref (pa i)) ∧ h = u) (fun E u => E = nE3 ∧ h = u ∧ ¬ isL σ n leaf) := by
  refine Cx.of (cc := cX3_livingPartWithLeaf) (maxL := 4) (ret := (some (.object "ParcelledTable$Part"))) (by decide) rfl (Nat.le_of_ble_eq_true rfl) ?_
  intro p e s m args below meth c hx hb hr hts hown hlocks hml hnm hout hK hB ls hl
  have hl : lv_has ls 4 [(0, .ref x), (1, .int (iI n)), (2, .int (iI leaf))] := hl
  have hnp := hI.hnp
  refine lv_aload_n hx hb dX3_livingPartWithLeaf_0 rfl (lv_at hl 0 rfl) ?_
  refine lv_iload_n hx hb dX3_livingPartWithLeaf_1 rfl (lv_at hl 1 rfl) ?_
  refine m_runX (vx_runV (As := [.int (iI n)]) (rest := []) ⟨hx, hb, hml, hown, hts⟩ (k_X3_livingPart (l := l) hfl hC hI ⟨by omega, by omega⟩) (cwV 1 hts gX3_livingPartWithLeaf_X3_livingPart rfl rfl rfl (by decide +kernel) ⟨by decide, by decide⟩) ⟨Kp.blind _ _ _ _ _, m_recv hK hB (ci := 3) rfl hC.tb, fun U hU hW => hK.pass hB U hU hW⟩ rfl rfl hl.1 rfl (lv_room (Nat.le_of_ble_eq_true rfl)) dX3_livingPartWithLeaf_2 ⟨Nat.le_of_ble_eq_true rfl, Nat.le_of_ble_eq_true rfl⟩) hB (fun E u H locs q9 ce hp_2 hB hc9 hv9 hk9 => ?_) (fun v u H locs hp_2 hB => ?_)
  · obtain ⟨rfl, rfl, hn⟩ := hp_2
    exact m_out hout hlocks hB hc9 hv9 hk9 (Nat.le_of_ble_eq_true rfl) (Nat.le_of_ble_eq_true rfl) ⟨rfl, rfl, fun q => hn q.1⟩
  · obtain ⟨i_1, rfl, li_i_1, ls_i_1, rfl, rfl⟩ := hp_2
    show W _ _ _ _ _ _ _ _ _ _ _ _ _ _ _ (F0 m 5 ls [.ref (pa i_1)])
    refine lv_astore_n (lv' := [(3, .ref (pa i_1)), (0, .ref x), (1, .int (iI (i_1 : Int))), (2, .int (iI leaf))]) hx hb dX3_livingPartWithLeaf_5 rfl hl (by decide) rfl (fun ls hl => ?_)
    refine lv_iload_n hx hb dX3_livingPartWithLeaf_6 rfl (lv_at hl 3 rfl) ?_
    refine j_if_lt (tgt := 18) hx hb dX3_livingPartWithLeaf_7 (by decide) ⟨by omega, by omega⟩ (fun c_3 => ?_) (fun c_3 => ?_)
    · exact m_throw (cls := nE3) (Ts := wsX3_livingPartWithLeaf) hx hb hfl hown fitE3 hts (List.mem_of_getElem? (i := 1) rfl) (List.mem_of_getElem? (i := 2) rfl) (fun _ q => List.mem_cons_of_mem _ (List.mem_append_right _ q)) ngE3 otE3 (List.mem_of_getElem? (i := 13) rfl) hK hB (hl.1.trans hml.symm) hout hlocks dX3_livingPartWithLeaf_18 dX3_livingPartWithLeaf_21 dX3_livingPartWithLeaf_22 dX3_livingPartWithLeaf_24 dX3_livingPartWithLeaf_27 (Nat.le_of_ble_eq_true rfl) (Nat.le_of_ble_eq_true rfl) (Nat.le_of_ble_eq_true rfl) (Nat.le_of_ble_eq_true rfl) (Nat.le_of_ble_eq_true rfl) (Nat.le_of_ble_eq_true rfl) ⟨rfl, rfl, fun q => by have := ((isL_i hI).mp q).2; omega⟩
    · refine lv_iload_n hx hb dX3_livingPartWithLeaf_10 rfl (lv_at hl 3 rfl) ?_
      refine lv_aload_n hx hb dX3_livingPartWithLeaf_11 rfl (lv_at hl 0 rfl) ?_
      have pf_4 := hI.part i_1 (by omega)
      have bd_5 := hI.bd 2 i_1
      refine m_run (va_runV (As := []) (rest := [.int (iI leaf)]) ⟨hx, hb, hml, hown, hts⟩ (k_X0_leaves (l := l) (hC.pt i_1 (by omega)) ⟨by omega, by omega⟩) (cwV 0 hts gX3_livingPartWithLeaf_X0_leaves rfl rfl rfl (by decide +kernel) ⟨by decide, by decide⟩) ⟨Kp.blind _ _ _ _ _, m_recv hK hB (ci := 0) rfl (hC.pt i_1 (by omega)), fun U hU hW => hK.pass hB U hU hW⟩ rfl rfl hl.1 rfl (lv_room (Nat.le_of_ble_eq_true rfl)) dX3_livingPartWithLeaf_12 ⟨Nat.le_of_ble_eq_true rfl, Nat.le_of_ble_eq_true rfl⟩) hB (fun v u H locs hp_6 hB => ?_)
      obtain ⟨rfl, rfl⟩ := hp_6
      show W _ _ _ _ _ _ _ _ _ _ _ _ _ _ _ (F0 m 15 ls [.int (iI (lvs (σ 2 i_1) (σ 3 i_1))), .int (iI leaf)])
      have lvr := lvs_rg hI (i := i_1) (by omega)
      have bd_7 := hI.bd 3 i_1
      refine j_icmp_lt (tgt := 28) hx hb dX3_livingPartWithLeaf_15 (by decide) ⟨by omega, by omega⟩ ⟨by omega, by omega⟩ (fun c_8 => ?_) (fun c_8 => ?_)
      · refine lv_aload_n hx hb dX3_livingPartWithLeaf_28 rfl (lv_at hl 0 rfl) ?_
        exact vx_ret (m_aret hx hb hr hlocks hB (by decide) (by decide) dX3_livingPartWithLeaf_29 ⟨_, rfl, by omega, by omega, by omega, rfl, rfl⟩)
      · exact m_throw (cls := nE3) (Ts := wsX3_livingPartWithLeaf) hx hb hfl hown fitE3 hts (List.mem_of_getElem? (i := 1) rfl) (List.mem_of_getElem? (i := 2) rfl) (fun _ q => List.mem_cons_of_mem _ (List.mem_append_right _ q)) ngE3 otE3 (List.mem_of_getElem? (i := 13) rfl) hK hB (hl.1.trans hml.symm) hout hlocks dX3_livingPartWithLeaf_18 dX3_livingPartWithLeaf_21 dX3_livingPartWithLeaf_22 dX3_livingPartWithLeaf_24 dX3_livingPartWithLeaf_27 (Nat.le_of_ble_eq_true rfl) (Nat.le_of_ble_eq_true rfl) (Nat.le_of_ble_eq_true rfl) (Nat.le_of_ble_eq_true rfl) (Nat.le_of_ble_eq_true rfl) (Nat.le_of_ble_eq_true rfl) ⟨rfl, rfl, fun q => by have := ((isL_i hI).mp q).2; omega⟩

abbrev rmX3_presentRow : Room := { frames := 6, cells := 1, slots := 6, locals := 90 }
set_option maxHeartbeats 4000000 in
set_option maxRecDepth 100000 in
theorem k_X3_presentRow {l : Launch} {D : va_G} {z : Nat} {cI cP cR cJ : ClassId} {h : Hp} (hfl : l.stackTraces = false) {x xp xr : Nat} {pa ra : Nat → Nat} {σ : Sg} (hC : CR cP cR x xp xr pa ra σ h) (hI : Ib σ) {n : Int} (rn : rg n) : Cx l D z (tyL cI cP cR cJ) yX3_presentRow wsX3_presentRow rmX3_presentRow [.ref x, .int (iI n)] h (fun v u => ∃ j : Nat, n = (j : Int) ∧ live σ j ∧ v = some (.ref (ra j)) ∧ h = u) (fun E u => E = nE3 ∧ h = u ∧ ¬ isR σ n) := by
  refine Cx.of (cc := cX3_presentRow) (maxL := 3) (ret := (some (.object "ParcelledTable$Row"))) (by decide) rfl (Nat.le_of_ble_eq_true rfl) ?_
  intro p e s m args below meth c hx hb hr hts hown hlocks hml hnm hout hK hB ls hl
  have hl : lv_has ls 3 [(0, .ref x), (1, .int (iI n))] := hl
  have hnr := hI.hnr
  refine lv_iload_n hx hb dX3_presentRow_0 rfl (lv_at hl 1 rfl) ?_
  refine j_if_lt (tgt := 22) hx hb dX3_presentRow_1 (by decide) ⟨by omega, by omega⟩ (fun c_1 => ?_) (fun c_1 => ?_)
  · refine lv_null hx hb dX3_presentRow_22 ?_
    refine lv_astore_nN (lv' := [(2, .null), (0, .ref x), (1, .int (iI n))]) hx hb dX3_presentRow_23 rfl hl (by decide) rfl (fun ls hl => ?_)
    refine lv_aload_nN hx hb dX3_presentRow_24 rfl (lv_at hl 0 rfl) ?_
    refine lv_ifnonnullN hx hb dX3_presentRow_25 ?_
    exact m_throw (cls := nE3) (Ts := wsX3_presentRow) hx hb hfl hown fitE3 hts (List.mem_of_getElem? (i := 1) rfl) (List.mem_of_getElem? (i := 2) rfl) (fun _ q => List.mem_cons_of_mem _ (List.mem_append_right _ q)) ngE3 otE3 (List.mem_of_getElem? (i := 14) rfl) hK hB (hl.1.trans hml.symm) hout hlocks dX3_presentRow_28 dX3_presentRow_31 dX3_presentRow_32 dX3_presentRow_34 dX3_presentRow_37 (Nat.le_of_ble_eq_true rfl) (Nat.le_of_ble_eq_true rfl) (Nat.le_of_ble_eq_true rfl) (Nat.le_of_ble_eq_true rfl) (Nat.le_of_ble_eq_true rfl) (Nat.le_of_ble_eq_true rfl) ⟨rfl, rfl, fun q => by unfold isR at q; omega⟩
  · refine lv_iload_n hx hb dX3_presentRow_4 rfl (lv_at hl 1 rfl) ?_
    refine lv_aload_n hx hb dX3_presentRow_5 rfl (lv_at hl 0 rfl) ?_
    refine m_get hx hb hts (fun _ q => List.mem_cons_of_mem _ (List.mem_append_left _ (List.mem_append_right _ q))) hown hK hB hC.tb (ci := 3) rfl 3 (by decide) (List.mem_of_getElem? (i := 3) rfl) rfl rfl dX3_presentRow_6 ?_
    refine m_lenR hx hb hK hB hC dX3_presentRow_9 ?_
    refine j_icmp_ge (tgt := 22) hx hb dX3_presentRow_10 (by decide) ⟨by omega, by omega⟩ ⟨by decide, by decide⟩ (fun c_2 => ?_) (fun c_2 => ?_)
    · refine lv_null hx hb dX3_presentRow_22 ?_
      refine lv_astore_nN (lv' := [(2, .null), (0, .ref x), (1, .int (iI n))]) hx hb dX3_presentRow_23 rfl hl (by decide) rfl (fun ls hl => ?_)
      refine lv_aload_nN hx hb dX3_presentRow_24 rfl (lv_at hl 0 rfl) ?_
      refine lv_ifnonnullN hx hb dX3_presentRow_25 ?_
      exact m_throw (cls := nE3) (Ts := wsX3_presentRow) hx hb hfl hown fitE3 hts (List.mem_of_getElem? (i := 1) rfl) (List.mem_of_getElem? (i := 2) rfl) (fun _ q => List.mem_cons_of_mem _ (List.mem_append_right _ q)) ngE3 otE3 (List.mem_of_getElem? (i := 14) rfl) hK hB (hl.1.trans hml.symm) hout hlocks dX3_presentRow_28 dX3_presentRow_31 dX3_presentRow_32 dX3_presentRow_34 dX3_presentRow_37 (Nat.le_of_ble_eq_true rfl) (Nat.le_of_ble_eq_true rfl) (Nat.le_of_ble_eq_true rfl) (Nat.le_of_ble_eq_true rfl) (Nat.le_of_ble_eq_true rfl) (Nat.le_of_ble_eq_true rfl) ⟨rfl, rfl, fun q => by unfold isR at q; omega⟩
    · obtain ⟨i, rfl⟩ : ∃ i : Nat, n = (i : Int) := ⟨n.toNat, by omega⟩
      refine lv_aload_n hx hb dX3_presentRow_13 rfl (lv_at hl 0 rfl) ?_
      refine m_get hx hb hts (fun _ q => List.mem_cons_of_mem _ (List.mem_append_left _ (List.mem_append_right _ q))) hown hK hB hC.tb (ci := 3) rfl 3 (by decide) (List.mem_of_getElem? (i := 3) rfl) rfl rfl dX3_presentRow_14 ?_
      refine lv_iload_n hx hb dX3_presentRow_17 rfl (lv_at hl 1 rfl) ?_
      refine m_ldR (j := i) hx hb hK hB hC (by omega) dX3_presentRow_18 (fun lv_3 => ?_) (fun lv_3 => ?_)
      · refine lv_goto (tgt := 23) hx hb dX3_presentRow_19 (by decide) ?_
        refine lv_astore_n (lv' := [(2, .ref (ra i)), (0, .ref x), (1, .int (iI (i : Int)))]) hx hb dX3_presentRow_23 rfl hl (by decide) rfl (fun ls hl => ?_)
        refine lv_aload_n hx hb dX3_presentRow_24 rfl (lv_at hl 0 rfl) ?_
        refine lv_ifnonnull (tgt := 38) hx hb dX3_presentRow_25 (by decide) ?_
        refine lv_aload_n hx hb dX3_presentRow_38 rfl (lv_at hl 0 rfl) ?_
        exact vx_ret (m_aret hx hb hr hlocks hB (by decide) (by decide) dX3_presentRow_39 ⟨i, rfl, lv_3, rfl, rfl⟩)
      · refine lv_goto (tgt := 23) hx hb dX3_presentRow_19 (by decide) ?_
        refine lv_astore_nN (lv' := [(2, .null), (0, .ref x), (1, .int (iI (i : Int)))]) hx hb dX3_presentRow_23 rfl hl (by decide) rfl (fun ls hl => ?_)
        refine lv_aload_nN hx hb dX3_presentRow_24 rfl (lv_at hl 0 rfl) ?_
        refine lv_ifnonnullN hx hb dX3_presentRow_25 ?_
        exact m_throw (cls := nE3) (Ts := wsX3_presentRow) hx hb hfl hown fitE3 hts (List.mem_of_getElem? (i := 1) rfl) (List.mem_of_getElem? (i := 2) rfl) (fun _ q => List.mem_cons_of_mem _ (List.mem_append_right _ q)) ngE3 otE3 (List.mem_of_getElem? (i := 14) rfl) hK hB (hl.1.trans hml.symm) hout hlocks dX3_presentRow_28 dX3_presentRow_31 dX3_presentRow_32 dX3_presentRow_34 dX3_presentRow_37 (Nat.le_of_ble_eq_true rfl) (Nat.le_of_ble_eq_true rfl) (Nat.le_of_ble_eq_true rfl) (Nat.le_of_ble_eq_true rfl) (Nat.le_of_ble_eq_true rfl) (Nat.le_of_ble_eq_true rfl) ⟨rfl, rfl, fun q => lv_3 (isR_j.mp q)⟩

abbrev rmX3_refuseUnlessAttached : Room := { frames := 6, cells := 1, slots := 6, locals := 90 }
set_option maxHeartbeats 4000000 in
set_option maxRecDepth 100000 in
theorem k_X3_refuseUnlessAttached {l : Launch} {D : va_G} {z : Nat} {cI cP cR cJ : ClassId} {h : Hp} (hfl : l.stackTraces = false) {a : Nat} {n f t k d st : Int} (he : h a = some (prt n f t k d st)) (rs : rg st) : Cx l D z (tyL cI cP cR cJ) yX3_refuseUnlessAttached wsX3_refuseUnlessAttached rmX3_refuseUnlessAttached [.ref a] h (fun v u => v = none ∧ h = u ∧ st = 0) (fun E u => E = nE2 ∧ h = u ∧ st ≠ 0) := by
  refine Cx.of (cc := cX3_refuseUnlessAttached) (maxL := 1) (ret := none) (by decide) rfl (Nat.le_of_ble_eq_true rfl) ?_
  intro p e s m args below meth c hx hb hr hts hown hlocks hml hnm hout hK hB ls hl
  have hl : lv_has ls 1 [(0, .ref a)] := hl
  refine lv_aload_n hx hb dX3_refuseUnlessAttached_0 rfl (lv_at hl 0 rfl) ?_
  refine m_get hx hb hts (fun _ q => List.mem_cons_of_mem _ (List.mem_append_left _ (List.mem_append_right _ q))) hown hK hB he (ci := 0) rfl 5 (by decide) (List.mem_of_getElem? (i := 3) rfl) rfl rfl dX3_refuseUnlessAttached_1 ?_
  refine j_if_eq (tgt := 17) hx hb dX3_refuseUnlessAttached_4 (by decide) ⟨by omega, by omega⟩ (fun c_1 => ?_) (fun c_1 => ?_)
  · exact vx_ret (m_vret hx hb hr hlocks hB (by decide) (by decide) dX3_refuseUnlessAttached_17 ⟨rfl, rfl, by omega⟩)
  · exact m_throw (cls := nE2) (Ts := wsX3_refuseUnlessAttached) hx hb hfl hown fitE2 hts (List.mem_of_getElem? (i := 1) rfl) (List.mem_of_getElem? (i := 2) rfl) (fun _ q => List.mem_cons_of_mem _ (List.mem_append_right _ q)) ngE2 otE2 (List.mem_of_getElem? (i := 15) rfl) hK hB (hl.1.trans hml.symm) hout hlocks dX3_refuseUnlessAttached_7 dX3_refuseUnlessAttached_10 dX3_refuseUnlessAttached_11 dX3_refuseUnlessAttached_13 dX3_refuseUnlessAttached_16 (Nat.le_of_ble_eq_true rfl) (Nat.le_of_ble_eq_true rfl) (Nat.le_of_ble_eq_true rfl) (Nat.le_of_ble_eq_true rfl) (Nat.le_of_ble_eq_true rfl) (Nat.le_of_ble_eq_true rfl) ⟨rfl, rfl, by omega⟩

abbrev rmX3_refuseUnlessDetached : Room := { frames := 6, cells := 1, slots := 6, locals := 90 }
set_option maxHeartbeats 4000000 in
set_option maxRecDepth 100000 in
theorem k_X3_refuseUnlessDetached {l : Launch} {D : va_G} {z : Nat} {cI cP cR cJ : ClassId} {h : Hp} (hfl : l.stackTraces = false) {a : Nat} {n f t k d st : Int} (he : h a = some (prt n f t k d st)) (rs : rg st) : Cx l D z (tyL cI cP cR cJ) yX3_refuseUnlessDetached wsX3_refuseUnlessDetached rmX3_refuseUnlessDetached [.ref a] h (fun v u => v = none ∧ h = u ∧ st = 1) (fun E u => E = nE2 ∧ h = u ∧ st ≠ 1) := by
  refine Cx.of (cc := cX3_refuseUnlessDetached) (maxL := 1) (ret := none) (by decide) rfl (Nat.le_of_ble_eq_true rfl) ?_
  intro p e s m args below meth c hx hb hr hts hown hlocks hml hnm hout hK hB ls hl
  have hl : lv_has ls 1 [(0, .ref a)] := hl
  refine lv_aload_n hx hb dX3_refuseUnlessDetached_0 rfl (lv_at hl 0 rfl) ?_
  refine m_get hx hb hts (fun _ q => List.mem_cons_of_mem _ (List.mem_append_left _ (List.mem_append_right _ q))) hown hK hB he (ci := 0) rfl 5 (by decide) (List.mem_of_getElem? (i := 3) rfl) rfl rfl dX3_refuseUnlessDetached_1 ?_
  refine j_iconst hx hb dX3_refuseUnlessDetached_4 ?_
  refine j_icmp_eq (tgt := 18) hx hb dX3_refuseUnlessDetached_5 (by decide) ⟨by omega, by omega⟩ ⟨by decide, by decide⟩ (fun c_1 => ?_) (fun c_1 => ?_)
  · exact vx_ret (m_vret hx hb hr hlocks hB (by decide) (by decide) dX3_refuseUnlessDetached_18 ⟨rfl, rfl, by omega⟩)
  · exact m_throw (cls := nE2) (Ts := wsX3_refuseUnlessDetached) hx hb hfl hown fitE2 hts (List.mem_of_getElem? (i := 1) rfl) (List.mem_of_getElem? (i := 2) rfl) (fun _ q => List.mem_cons_of_mem _ (List.mem_append_right _ q)) ngE2 otE2 (List.mem_of_getElem? (i := 16) rfl) hK hB (hl.1.trans hml.symm) hout hlocks dX3_refuseUnlessDetached_8 dX3_refuseUnlessDetached_11 dX3_refuseUnlessDetached_12 dX3_refuseUnlessDetached_14 dX3_refuseUnlessDetached_17 (Nat.le_of_ble_eq_true rfl) (Nat.le_of_ble_eq_true rfl) (Nat.le_of_ble_eq_true rfl) (Nat.le_of_ble_eq_true rfl) (Nat.le_of_ble_eq_true rfl) (Nat.le_of_ble_eq_true rfl) ⟨rfl, rfl, by omega⟩

abbrev rmX3_plannedPart : Room := { frames := 8, cells := 4, slots := 24, locals := 131 }
set_option maxHeartbeats 4000000 in
set_option maxRecDepth 100000 in
theorem k_X3_plannedPart {l : Launch} {D : va_G} {z : Nat} {cI cP cR cJ : ClassId} {h : Hp} (hfl : l.stackTraces = false) {x xp xr : Nat} {pa ra : Nat → Nat} {σ : Sg} (hC : CR cP cR x xp xr pa ra σ h) (hI : Ib σ) {f t k d : Int} (rf : rg f) (rt : rg t) (rk : rg k) (rd : rg d) : Cx l D z (tyL cI cP cR cJ) yX3_plannedPart wsX3_plannedPart rmX3_plannedPart [.ref x, .int (iI f), .int (iI t), .int (iI k), .int (iI d)] h (fun v u => ∃ q : Nat, v = some (.ref q) ∧ h q = none ∧ u = hup h q (prt (σ 9 0 + 1) f t k d 0) ∧ okR f t ∧ okK k d) (fun E u => E = nE1 ∧ h = u ∧ ¬ (okR f t ∧ okK k d)) := by
  refine Cx.of (cc := cX3_plannedPart) (maxL := 5) (ret := (some (.object "ParcelledTable$Part"))) (by decide) rfl (Nat.le_of_ble_eq_true rfl) ?_
  intro p e s m args below meth c hx hb hr hts hown hlocks hml hnm hout hK hB ls hl
  have hl : lv_has ls 5 [(0, .ref x), (1, .int (iI f)), (2, .int (iI t)), (3, .int (iI k)), (4, .int (iI d))] := hl
  have hnp := hI.hnp
  refine lv_iload_n hx hb dX3_plannedPart_0 rfl (lv_at hl 1 rfl) ?_
  refine lv_iload_n hx hb dX3_plannedPart_1 rfl (lv_at hl 2 rfl) ?_
  refine m_runX (vx_runS (As := [.int (iI f), .int (iI t)]) (rest := []) ⟨hx, hb, hml, hown, hts⟩ (k_X3_checkRange (l := l) hfl ⟨by omega, by omega⟩ ⟨by omega, by omega⟩) (va_cwS 2 hts gX3_plannedPart_X3_checkRange rfl rfl rfl (by decide +kernel) ⟨by decide, by decide⟩) ⟨Kp.blind _ _ _ _ _, fun U hU hW => hK.pass hB U hU hW⟩ rfl rfl hl.1 rfl (lv_room (Nat.le_of_ble_eq_true rfl)) dX3_plannedPart_2 ⟨Nat.le_of_ble_eq_true rfl, Nat.le_of_ble_eq_true rfl⟩) hB (fun E u H locs q9 ce hp_1 hB hc9 hv9 hk9 => ?_) (fun v u H locs hp_1 hB => ?_)
  · obtain ⟨rfl, rfl, hn⟩ := hp_1
    exact m_out hout hlocks hB hc9 hv9 hk9 (Nat.le_of_ble_eq_true rfl) (Nat.le_of_ble_eq_true rfl) ⟨rfl, rfl, fun q => hn q.1⟩
  · obtain ⟨rfl, rfl, hp_1'⟩ := hp_1
    show W _ _ _ _ _ _ _ _ _ _ _ _ _ _ _ (F0 m 5 ls [])
    refine lv_iload_n hx hb dX3_plannedPart_5 rfl (lv_at hl 3 rfl) ?_
    refine lv_iload hx hb dX3_plannedPart_6 (lv_at hl 4 rfl) ?_
    refine m_runX (vx_runS (As := [.int (iI k), .int (iI d)]) (rest := []) ⟨hx, hb, hml, hown, hts⟩ (k_X3_checkKind (l := l) hfl ⟨by omega, by omega⟩ ⟨by omega, by omega⟩) (va_cwS 2 hts gX3_plannedPart_X3_checkKind rfl rfl rfl (by decide +kernel) ⟨by decide, by decide⟩) ⟨Kp.blind _ _ _ _ _, fun U hU hW => hK.pass hB U hU hW⟩ rfl rfl hl.1 rfl (lv_room (Nat.le_of_ble_eq_true rfl)) dX3_plannedPart_8 ⟨Nat.le_of_ble_eq_true rfl, Nat.le_of_ble_eq_true rfl⟩) hB (fun E u H locs q9 ce hp_2 hB hc9 hv9 hk9 => ?_) (fun v u H locs hp_2 hB => ?_)
    · obtain ⟨rfl, rfl, hn⟩ := hp_2
      exact m_out hout hlocks hB hc9 hv9 hk9 (Nat.le_of_ble_eq_true rfl) (Nat.le_of_ble_eq_true rfl) ⟨rfl, rfl, fun q => hn q.2⟩
    · obtain ⟨rfl, rfl, hp_2'⟩ := hp_2
      show W _ _ _ _ _ _ _ _ _ _ _ _ _ _ _ (F0 m 11 ls [])
      refine m_new hx hb hts (fun _ q => List.mem_cons_of_mem _ (List.mem_append_left _ (List.mem_append_left _ (List.mem_append_right _ q)))) tyX0 tyX0_ok hown (List.mem_of_getElem? (i := 1) rfl) (List.mem_of_getElem? (i := 2) rfl) (List.mem_of_getElem? (i := 3) rfl) hK hB (ci := 0) rfl (fs := [.int 0, .int 0, .int 0, .int 0, .int 0, .int 0]) (fun j hj => by rcases (show j = 0 ∨ j = 1 ∨ j = 2 ∨ j = 3 ∨ j = 4 ∨ j = 5 by omega) with rfl | rfl | rfl | rfl | rfl | rfl <;> rfl) (by decide) (by decide) dX3_plannedPart_11 (fun q_3 H hq_q_3 hB => ?_)
      have hC0 := hC
      have hC := hC0.new (e1 := .inr (0, [.int 0, .int 0, .int 0, .int 0, .int 0, .int 0])) hq_q_3
      refine lv_dup hx hb dX3_plannedPart_14 rfl ?_
      refine lv_aload_n hx hb dX3_plannedPart_15 rfl (lv_at hl 0 rfl) ?_
      refine m_get hx hb hts (fun _ q => List.mem_cons_of_mem _ (List.mem_append_left _ (List.mem_append_right _ q))) hown hK hB hC.tb (ci := 3) rfl 2 (by decide) (List.mem_of_getElem? (i := 4) rfl) rfl rfl dX3_plannedPart_16 ?_
      refine j_iconst hx hb dX3_plannedPart_19 ?_
      refine j_iadd hx hb dX3_plannedPart_20 ?_
      refine lv_iload_n hx hb dX3_plannedPart_21 rfl (lv_at hl 1 rfl) ?_
      refine lv_iload_n hx hb dX3_plannedPart_22 rfl (lv_at hl 2 rfl) ?_
      refine lv_iload_n hx hb dX3_plannedPart_23 rfl (lv_at hl 3 rfl) ?_
      refine lv_iload hx hb dX3_plannedPart_24 (lv_at hl 4 rfl) ?_
      refine m_run (va_runI (As := [.int (iI ((σ 9 0) + 1)), .int (iI f), .int (iI t), .int (iI k), .int (iI d)]) (rest := [.ref q_3]) ⟨hx, hb, hml, hown, hts⟩ (k_X0_init (l := l) (a := q_3) (n := ((σ 9 0) + 1)) (f := f) (t := t) (k := k) (d := d) (hup_s _ _ _)) (cwI 5 hts gX3_plannedPart_X0_init rfl rfl rfl (hts _ (List.mem_of_getElem? (i := 3) rfl)) (hts _ (List.mem_of_getElem? (i := 23) rfl)) (hts _ (List.mem_of_getElem? (i := 24) rfl)) rfl (by decide +kernel) ⟨by decide, by decide⟩) ⟨Kp.blind _ _ _ _ _, fun U hU hW => hK.pass hB U hU hW⟩ rfl rfl hl.1 rfl (lv_room (Nat.le_of_ble_eq_true rfl)) dX3_plannedPart_26 ⟨Nat.le_of_ble_eq_true rfl, Nat.le_of_ble_eq_true rfl⟩) hB (fun v u H locs hp_4 hB => ?_)
      obtain ⟨rfl, eu⟩ := hp_4
      rw [hup_hup] at eu
      subst eu
      show W _ _ _ _ _ _ _ _ _ _ _ _ _ _ _ (F0 m 29 ls [.ref q_3])
      exact vx_ret (m_aret hx hb hr hlocks hB (by decide) (by decide) dX3_plannedPart_29 ⟨q_3, rfl, hq_q_3, rfl, hp_1', hp_2'⟩)

