abbrev rmX3_rowsIn : Room := { frames := 9, cells := 3, slots := 18, locals := 157 }
set_option maxHeartbeats 4000000 in
set_option maxRecDepth 100000 in
theorem k_X3_rowsIn {l : Launch} {D : va_G} {z : Nat} {cI cP cR cJ : ClassId} {h : Hp} (hfl : l.stackTraces = false) {x xp xr : Nat} {pa ra : Nat → Nat} {σ : Sg} (hC : CR cP cR x xp xr pa ra σ h) (hI : Ib σ) {nn le : Int} (rn : rg nn) (rl : rg le) : Cx l D z (tyL cI cP cR cJ) yX3_rowsIn wsX3_rowsIn rmX3_rowsIn [.ref x, .int (iI nn), .int (iI le)] h (fun v u => (isL σ nn le ∧ v = some (.int (iI (cnt (fun j => live σ j ∧ (pn σ j = nn.toNat ∧ lfr σ j = le)) (nrN σ))))) ∧ CR cP cR x xp xr pa ra σ u ∧ FrC h u) (fun E u => (E = nE3 ∧ ¬ isL σ nn le) ∧ CR cP cR x xp xr pa ra σ u ∧ FrC h u) := by
  refine Cx.of (cc := cX3_rowsIn) (maxL := 9) (ret := (some .int)) (by decide) rfl (Nat.le_of_ble_eq_true rfl) ?_
  intro p e s m args below meth c hx hb hr hts hown hlocks hml hnm hout hK hB ls hl
  have hl : lv_has ls 9 [(0, .ref x), (1, .int (iI nn)), (2, .int (iI le))] := hl
  have hnp := hI.hnp
  have hnr := hI.hnr
  refine lv_aload_n hx hb dX3_rowsIn_0 rfl (lv_at hl 0 rfl) ?_
  refine lv_iload_n hx hb dX3_rowsIn_1 rfl (lv_at hl 1 rfl) ?_
  refine lv_iload_n hx hb dX3_rowsIn_2 rfl (lv_at hl 2 rfl) ?_
  refine m_runX (vx_runV (As := [.int (iI nn), .int (iI le)]) (rest := []) ⟨hx, hb, hml, hown, hts⟩ (k_X3_livingPartWithLeaf (l := l) hfl hC hI ⟨by omega, by omega⟩ ⟨by omega, by omega⟩) (cwV 2 hts gX3_rowsIn_X3_livingPartWithLeaf rfl rfl rfl (by decide +kernel) ⟨by decide, by decide⟩) ⟨Kp.blind _ _ _ _ _, m_recv hK hB (ci := 3) rfl hC.tb, fun U hU hW => hK.pass hB U hU hW⟩ rfl rfl hl.1 rfl (lv_room (Nat.le_of_ble_eq_true rfl)) dX3_rowsIn_3 ⟨Nat.le_of_ble_eq_true rfl, Nat.le_of_ble_eq_true rfl⟩) hB (fun E u H locs q9 ce hp_1 hB hc9 hv9 hk9 => ?_) (fun v u H locs hp_1 hB => ?_)
  · obtain ⟨rfl, rfl, hn⟩ := hp_1
    exact m_out hout hlocks hB hc9 hv9 hk9 (Nat.le_of_ble_eq_true rfl) (Nat.le_of_ble_eq_true rfl) ⟨⟨rfl, hn⟩, hC, FrC.rf _⟩
  · obtain ⟨ii, ei_ii, li_ii, ls_ii, ll_ii, rfl, rfl⟩ := hp_1
    show W _ _ _ _ _ _ _ _ _ _ _ _ _ _ _ (F0 m 6 ls [.ref (pa ii)])
    refine lv_astore_n (lv' := [(3, .ref (pa ii)), (0, .ref x), (1, .int (iI nn)), (2, .int (iI le))]) hx hb dX3_rowsIn_6 rfl hl (by decide) rfl (fun ls hl => ?_)
    refine j_iconst hx hb dX3_rowsIn_7 ?_
    refine lv_istore (lv' := [(4, .int (iI 0)), (3, .ref (pa ii)), (0, .ref x), (1, .int (iI nn)), (2, .int (iI le))]) hx hb dX3_rowsIn_8 hl (by decide) rfl (fun ls hl => ?_)
    refine lv_aload_n hx hb dX3_rowsIn_10 rfl (lv_at hl 2 rfl) ?_
    refine m_get hx hb hts (fun _ q => List.mem_cons_of_mem _ (List.mem_append_left _ (List.mem_append_left _ (List.mem_append_left _ (List.mem_append_right _ q))))) hown hK hB hC.tb (ci := 3) rfl 3 (by decide) (List.mem_of_getElem? (i := 1) rfl) rfl rfl dX3_rowsIn_11 ?_
    refine lv_astore (lv' := [(5, .ref xr), (4, .int (iI 0)), (3, .ref (pa ii)), (0, .ref x), (1, .int (iI nn)), (2, .int (iI le))]) hx hb dX3_rowsIn_14 hl (by decide) rfl (fun ls hl => ?_)
    refine lv_aload hx hb dX3_rowsIn_16 (lv_at hl 0 rfl) ?_
    refine m_lenR hx hb hK hB hC dX3_rowsIn_18 ?_
    refine lv_istore (lv' := [(6, .int (iI 200)), (5, .ref xr), (4, .int (iI 0)), (3, .ref (pa ii)), (0, .ref x), (1, .int (iI nn)), (2, .int (iI le))]) hx hb dX3_rowsIn_19 hl (by decide) rfl (fun ls hl => ?_)
    refine j_iconst hx hb dX3_rowsIn_21 ?_
    refine lv_istore (lv' := [(7, .int (iI 0)), (6, .int (iI 200)), (5, .ref xr), (4, .int (iI 0)), (3, .ref (pa ii)), (0, .ref x), (1, .int (iI nn)), (2, .int (iI le))]) hx hb dX3_rowsIn_22 hl (by decide) rfl (fun ls hl => ?_)
    have lp_24 : ∀ (fuel j : Nat) (a : Int), j ≤ 200 → 200 + 1 ≤ j + fuel → ∀ (ea : a = cnt (fun j => live σ j ∧ (pn σ j = ii ∧ lfr σ j = le)) j) (H : Heap) (locs : List Loc), Bk D z s.heap h H locs → ∀ ls : Array Slot, lv_has ls 9 [(7, .int (iI (j : Int))), (6, .int (iI 200)), (5, .ref xr), (4, .int (iI a)), (3, .ref (pa ii)), (0, .ref x), (1, .int (iI nn)), (2, .int (iI le))] → W p l e rmX3_rowsIn s m args below meth c H locs 3 18 (vx_MQ below (Qx D z (fun v u => (isL σ nn le ∧ v = some (.int (iI (cnt (fun j => live σ j ∧ (pn σ j = nn.toNat ∧ lfr σ j = le)) (nrN σ))))) ∧ CR cP cR x xp xr pa ra σ u ∧ FrC h u)) (Xp D z (fun E u => (E = nE3 ∧ ¬ isL σ nn le) ∧ CR cP cR x xp xr pa ra σ u ∧ FrC h u)) args s (rmX3_rowsIn).cells (rmX3_rowsIn).slots (zA z)) (F0 m 24 ls []) := by
      intro fuel
      induction fuel with
      | zero => intro j a w1 w2; exact absurd w2 (by omega)
      | succ fuel ih =>
        intro j a w1 w2 ea H locs hB ls hl
        have ear := cnt_rg (fun j => live σ j ∧ (pn σ j = ii ∧ lfr σ j = le)) j
        refine lv_iload hx hb dX3_rowsIn_24 (lv_at hl 0 rfl) ?_
        refine lv_iload hx hb dX3_rowsIn_26 (lv_at hl 1 rfl) ?_
        refine j_icmp_ge (tgt := 62) hx hb dX3_rowsIn_28 (by decide) ⟨by omega, by omega⟩ ⟨by decide, by decide⟩ (fun c_2 => ?_) (fun c_2 => ?_)
        · refine lv_iload hx hb dX3_rowsIn_62 (lv_at hl 3 rfl) ?_
          exact vx_ret (m_zret hx hb hr rfl hlocks hB (by decide) (by decide) dX3_rowsIn_64 (by subst ei_ii; exact ⟨⟨(isL_i hI).mpr ⟨⟨by omega, by omega⟩, by omega⟩, ret_e (cs_e hI ea (by omega) (fun _ q => q.1))⟩, hC, FrC.rf _⟩))
        · refine lv_aload hx hb dX3_rowsIn_31 (lv_at hl 2 rfl) ?_
          refine lv_iload hx hb dX3_rowsIn_33 (lv_at hl 0 rfl) ?_
          refine m_ldR (j := j) hx hb hK hB hC (by omega) dX3_rowsIn_35 (fun lv_3 => ?_) (fun lv_3 => ?_)
          · refine lv_astore (lv' := [(8, .ref (ra j)), (7, .int (iI (j : Int))), (6, .int (iI 200)), (5, .ref xr), (4, .int (iI a)), (3, .ref (pa ii)), (0, .ref x), (1, .int (iI nn)), (2, .int (iI le))]) hx hb dX3_rowsIn_36 hl (by decide) rfl (fun ls hl => ?_)
            refine lv_aload hx hb dX3_rowsIn_38 (lv_at hl 0 rfl) ?_
            refine lv_ifnull hx hb dX3_rowsIn_40 ?_
            refine lv_aload hx hb dX3_rowsIn_43 (lv_at hl 0 rfl) ?_
            refine lv_aload_n hx hb dX3_rowsIn_45 rfl (lv_at hl 5 rfl) ?_
            refine lv_iload_n hx hb dX3_rowsIn_46 rfl (lv_at hl 8 rfl) ?_
            have rf_4 := hI.row j lv_3
            have pn_5 := hI.pnI j lv_3
            have pf_6 := hI.part (pn σ j) (by omega)
            have bd_7 := hI.bd 2 (pn σ j)
            refine m_run (va_runV (As := [.ref (pa ii), .int (iI le)]) (rest := []) ⟨hx, hb, hml, hown, hts⟩ (k_X2_liesIn (l := l) (hC.rw j lv_3) (hC.pt (pn σ j) (by omega)) (b := (pa ii)) ⟨by omega, by omega⟩ (by omega) (by omega) (by omega) (by omega) ⟨by omega, by omega⟩ (by omega) (by omega) (by omega)) (cwV 2 hts gX3_rowsIn_X2_liesIn rfl rfl rfl (by decide +kernel) ⟨by decide, by decide⟩) ⟨Kp.blind _ _ _ _ _, m_recv hK hB (ci := 2) rfl (hC.rw j lv_3), fun U hU hW => hK.pass hB U hU hW⟩ rfl rfl hl.1 rfl (lv_room (Nat.le_of_ble_eq_true rfl)) dX3_rowsIn_47 ⟨Nat.le_of_ble_eq_true rfl, Nat.le_of_ble_eq_true rfl⟩) hB (fun v u H locs hp_8 hB => ?_)
            obtain ⟨rfl, rfl⟩ := hp_8
            show W _ _ _ _ _ _ _ _ _ _ _ _ _ _ _ (F0 m 50 ls [.int (iI (b2 ((pa (pn σ j)) = (pa ii) ∧ lf (σ 2 (pn σ j)) (σ 3 (pn σ j)) (σ 6 j) (σ 7 j) = le)))])
            refine j_ifeqP (tgt := 56) hx hb dX3_rowsIn_50 (by decide) (fun c_9 => ?_) (fun c_9 => ?_)
            · refine j_iinc (lv' := [(7, .int (iI ((j + 1 : Nat) : Int))), (8, .ref (ra j)), (6, .int (iI 200)), (5, .ref xr), (4, .int (iI a)), (3, .ref (pa ii)), (0, .ref x), (1, .int (iI nn)), (2, .int (iI le))]) hx hb dX3_rowsIn_56 hl (k := 1) rfl (by decide) rfl (fun ls hl => ?_)
              refine lv_goto (tgt := 24) hx hb dX3_rowsIn_59 (by decide) ?_
              exact ih (j + 1) a (by omega) (by omega) (cs_f ea (fun q => c_9 ⟨by rw [q.2.1], q.2.2⟩)) _ _ hB ls (lv_sub hl [0, 2, 3, 4, 5, 6, 7, 8] rfl)
            · refine j_iinc (lv' := [(4, .int (iI (a + 1))), (8, .ref (ra j)), (7, .int (iI (j : Int))), (6, .int (iI 200)), (5, .ref xr), (3, .ref (pa ii)), (0, .ref x), (1, .int (iI nn)), (2, .int (iI le))]) hx hb dX3_rowsIn_53 hl (k := 4) rfl (by decide) rfl (fun ls hl => ?_)
              refine j_iinc (lv' := [(7, .int (iI ((j + 1 : Nat) : Int))), (4, .int (iI (a + 1))), (8, .ref (ra j)), (6, .int (iI 200)), (5, .ref xr), (3, .ref (pa ii)), (0, .ref x), (1, .int (iI nn)), (2, .int (iI le))]) hx hb dX3_rowsIn_56 hl (k := 2) rfl (by decide) rfl (fun ls hl => ?_)
              refine lv_goto (tgt := 24) hx hb dX3_rowsIn_59 (by decide) ?_
              exact ih (j + 1) (a + 1) (by omega) (by omega) (cs_t ea ⟨lv_3, ⟨(hC.pinj (by omega) (by omega)).mp c_9.1, c_9.2⟩⟩) _ _ hB ls (lv_sub hl [0, 3, 4, 1, 5, 6, 7, 8] rfl)
          · refine lv_astoreN (lv' := [(8, .null), (7, .int (iI (j : Int))), (6, .int (iI 200)), (5, .ref xr), (4, .int (iI a)), (3, .ref (pa ii)), (0, .ref x), (1, .int (iI nn)), (2, .int (iI le))]) hx hb dX3_rowsIn_36 hl (by decide) rfl (fun ls hl => ?_)
            refine lv_aloadN hx hb dX3_rowsIn_38 (lv_at hl 0 rfl) ?_
            refine lv_ifnullN (tgt := 56) hx hb dX3_rowsIn_40 (by decide) ?_
            refine j_iinc (lv' := [(7, .int (iI ((j + 1 : Nat) : Int))), (8, .null), (6, .int (iI 200)), (5, .ref xr), (4, .int (iI a)), (3, .ref (pa ii)), (0, .ref x), (1, .int (iI nn)), (2, .int (iI le))]) hx hb dX3_rowsIn_56 hl (k := 1) rfl (by decide) rfl (fun ls hl => ?_)
            refine lv_goto (tgt := 24) hx hb dX3_rowsIn_59 (by decide) ?_
            exact ih (j + 1) a (by omega) (by omega) (cs_f ea (fun q => lv_3 q.1)) _ _ hB ls (lv_sub hl [0, 2, 3, 4, 5, 6, 7, 8] rfl)
    exact lp_24 (200 + 1) 0 0 (by omega) (by omega) rfl _ _ hB ls (lv_sub hl [0, 1, 2, 3, 4, 5, 6, 7] rfl)

abbrev rmX3_find : Room := { frames := 7, cells := 2, slots := 12, locals := 110 }
set_option maxHeartbeats 4000000 in
set_option maxRecDepth 100000 in
theorem k_X3_find {l : Launch} {D : va_G} {z : Nat} {cI cP cR cJ : ClassId} {h : Hp} (hfl : l.stackTraces = false) {x xp xr : Nat} {pa ra : Nat → Nat} {σ : Sg} (hC : CR cP cR x xp xr pa ra σ h) (hI : Ib σ) {vl : Int} (rv : rg vl) : Cx l D z (tyL cI cP cR cJ) yX3_find wsX3_find rmX3_find [.ref x, .int (iI vl)] h (fun v u => ((0 ≤ vl ∧ vl ≤ 99) ∧ σ 11 0 = 0 ∧ v = some (.int (iI (cnt (fun j => live σ j ∧ σ 4 (pn σ j) = 0 ∧ σ 8 j = vl) (nrN σ))))) ∧ CR cP cR x xp xr pa ra σ u ∧ FrC h u) (fun E u => ((E = nE1 ∧ ¬ (0 ≤ vl ∧ vl ≤ 99)) ∨ (E = nE2 ∧ (0 ≤ vl ∧ vl ≤ 99) ∧ σ 11 0 ≠ 0)) ∧ CR cP cR x xp xr pa ra σ u ∧ FrC h u) := by
  refine Cx.of (cc := cX3_find) (maxL := 7) (ret := (some .int)) (by decide) rfl (Nat.le_of_ble_eq_true rfl) ?_
  intro p e s m args below meth c hx hb hr hts hown hlocks hml hnm hout hK hB ls hl
  have hl : lv_has ls 7 [(0, .ref x), (1, .int (iI vl))] := hl
  have hnp := hI.hnp
  have hnr := hI.hnr
  refine lv_iload_n hx hb dX3_find_0 rfl (lv_at hl 1 rfl) ?_
  refine m_runX (vx_runS (As := [.int (iI vl)]) (rest := []) ⟨hx, hb, hml, hown, hts⟩ (k_X3_checkValue (l := l) hfl ⟨by omega, by omega⟩) (va_cwS 1 hts gX3_find_X3_checkValue rfl rfl rfl (by decide +kernel) ⟨by decide, by decide⟩) ⟨Kp.blind _ _ _ _ _, fun U hU hW => hK.pass hB U hU hW⟩ rfl rfl hl.1 rfl (lv_room (Nat.le_of_ble_eq_true rfl)) dX3_find_1 ⟨Nat.le_of_ble_eq_true rfl, Nat.le_of_ble_eq_true rfl⟩) hB (fun E u H locs q9 ce hp_1 hB hc9 hv9 hk9 => ?_) (fun v u H locs hp_1 hB => ?_)
  · obtain ⟨rfl, rfl, hn⟩ := hp_1
    exact m_out hout hlocks hB hc9 hv9 hk9 (Nat.le_of_ble_eq_true rfl) (Nat.le_of_ble_eq_true rfl) ⟨Or.inl ⟨rfl, hn⟩, hC, FrC.rf _⟩
  · obtain ⟨rfl, rfl, hp_1'⟩ := hp_1
    show W _ _ _ _ _ _ _ _ _ _ _ _ _ _ _ (F0 m 4 ls [])
    refine lv_aload_n hx hb dX3_find_4 rfl (lv_at hl 0 rfl) ?_
    refine m_get hx hb hts (fun _ q => List.mem_cons_of_mem _ (List.mem_append_left _ (List.mem_append_left _ (List.mem_append_left _ (List.mem_append_left _ (List.mem_append_right _ q)))))) hown hK hB hC.tb (ci := 3) rfl 5 (by decide) (List.mem_of_getElem? (i := 3) rfl) rfl rfl dX3_find_5 ?_
    have bd_3 := hI.bd 11 0
    refine j_if_eq (tgt := 21) hx hb dX3_find_8 (by decide) ⟨by omega, by omega⟩ (fun c_2 => ?_) (fun c_2 => ?_)
    · refine j_iconst hx hb dX3_find_21 ?_
      refine lv_istore_n (lv' := [(2, .int (iI 0)), (0, .ref x), (1, .int (iI vl))]) hx hb dX3_find_22 rfl hl (by decide) rfl (fun ls hl => ?_)
      refine lv_aload_n hx hb dX3_find_23 rfl (lv_at hl 1 rfl) ?_
      refine m_get hx hb hts (fun _ q => List.mem_cons_of_mem _ (List.mem_append_left _ (List.mem_append_left _ (List.mem_append_left _ (List.mem_append_left _ (List.mem_append_right _ q)))))) hown hK hB hC.tb (ci := 3) rfl 3 (by decide) (List.mem_of_getElem? (i := 4) rfl) rfl rfl dX3_find_24 ?_
      refine lv_astore_n (lv' := [(3, .ref xr), (2, .int (iI 0)), (0, .ref x), (1, .int (iI vl))]) hx hb dX3_find_27 rfl hl (by decide) rfl (fun ls hl => ?_)
      refine lv_aload_n hx hb dX3_find_28 rfl (lv_at hl 0 rfl) ?_
      refine m_lenR hx hb hK hB hC dX3_find_29 ?_
      refine lv_istore (lv' := [(4, .int (iI 200)), (3, .ref xr), (2, .int (iI 0)), (0, .ref x), (1, .int (iI vl))]) hx hb dX3_find_30 hl (by decide) rfl (fun ls hl => ?_)
      refine j_iconst hx hb dX3_find_32 ?_
      refine lv_istore (lv' := [(5, .int (iI 0)), (4, .int (iI 200)), (3, .ref xr), (2, .int (iI 0)), (0, .ref x), (1, .int (iI vl))]) hx hb dX3_find_33 hl (by decide) rfl (fun ls hl => ?_)
      have lp_35 : ∀ (fuel j : Nat) (a : Int), j ≤ 200 → 200 + 1 ≤ j + fuel → ∀ (ea : a = cnt (fun j => live σ j ∧ σ 4 (pn σ j) = 0 ∧ σ 8 j = vl) j) (H : Heap) (locs : List Loc), Bk D z s.heap h H locs → ∀ ls : Array Slot, lv_has ls 7 [(5, .int (iI (j : Int))), (4, .int (iI 200)), (3, .ref xr), (2, .int (iI a)), (0, .ref x), (1, .int (iI vl))] → W p l e rmX3_find s m args below meth c H locs 1 6 (vx_MQ below (Qx D z (fun v u => ((0 ≤ vl ∧ vl ≤ 99) ∧ σ 11 0 = 0 ∧ v = some (.int (iI (cnt (fun j => live σ j ∧ σ 4 (pn σ j) = 0 ∧ σ 8 j = vl) (nrN σ))))) ∧ CR cP cR x xp xr pa ra σ u ∧ FrC h u)) (Xp D z (fun E u => ((E = nE1 ∧ ¬ (0 ≤ vl ∧ vl ≤ 99)) ∨ (E = nE2 ∧ (0 ≤ vl ∧ vl ≤ 99) ∧ σ 11 0 ≠ 0)) ∧ CR cP cR x xp xr pa ra σ u ∧ FrC h u)) args s (rmX3_find).cells (rmX3_find).slots (zA z)) (F0 m 35 ls []) := by
        intro fuel
        induction fuel with
        | zero => intro j a w1 w2; exact absurd w2 (by omega)
        | succ fuel ih =>
          intro j a w1 w2 ea H locs hB ls hl
          have ear := cnt_rg (fun j => live σ j ∧ σ 4 (pn σ j) = 0 ∧ σ 8 j = vl) j
          refine lv_iload hx hb dX3_find_35 (lv_at hl 0 rfl) ?_
          refine lv_iload hx hb dX3_find_37 (lv_at hl 1 rfl) ?_
          refine j_icmp_ge (tgt := 79) hx hb dX3_find_39 (by decide) ⟨by omega, by omega⟩ ⟨by decide, by decide⟩ (fun c_4 => ?_) (fun c_4 => ?_)
          · refine lv_iload_n hx hb dX3_find_79 rfl (lv_at hl 3 rfl) ?_
            exact vx_ret (m_zret hx hb hr rfl hlocks hB (by decide) (by decide) dX3_find_80 ⟨⟨by omega, by omega, ret_e (cs_e hI ea (by omega) (fun _ q => q.1))⟩, hC, FrC.rf _⟩)
          · refine lv_aload_n hx hb dX3_find_42 rfl (lv_at hl 2 rfl) ?_
            refine lv_iload hx hb dX3_find_43 (lv_at hl 0 rfl) ?_
            refine m_ldR (j := j) hx hb hK hB hC (by omega) dX3_find_45 (fun lv_5 => ?_) (fun lv_5 => ?_)
            · refine lv_astore (lv' := [(6, .ref (ra j)), (5, .int (iI (j : Int))), (4, .int (iI 200)), (3, .ref xr), (2, .int (iI a)), (0, .ref x), (1, .int (iI vl))]) hx hb dX3_find_46 hl (by decide) rfl (fun ls hl => ?_)
              refine lv_aload hx hb dX3_find_48 (lv_at hl 0 rfl) ?_
              refine lv_ifnull hx hb dX3_find_50 ?_
              refine lv_aload hx hb dX3_find_53 (lv_at hl 0 rfl) ?_
              have rf_6 := hI.row j lv_5
              have pn_7 := hI.pnI j lv_5
              have pf_8 := hI.part (pn σ j) (by omega)
              have bd_9 := hI.bd 4 (pn σ j)
              refine m_run (va_runV (As := []) (rest := []) ⟨hx, hb, hml, hown, hts⟩ (k_X2_isInTable (l := l) (hC.rw j lv_5) (hC.pt (pn σ j) (by omega)) ⟨by omega, by omega⟩) (cwV 0 hts gX3_find_X2_isInTable rfl rfl rfl (by decide +kernel) ⟨by decide, by decide⟩) ⟨Kp.blind _ _ _ _ _, m_recv hK hB (ci := 2) rfl (hC.rw j lv_5), fun U hU hW => hK.pass hB U hU hW⟩ rfl rfl hl.1 rfl (lv_room (Nat.le_of_ble_eq_true rfl)) dX3_find_55 ⟨Nat.le_of_ble_eq_true rfl, Nat.le_of_ble_eq_true rfl⟩) hB (fun v u H locs hp_10 hB => ?_)
              obtain ⟨rfl, rfl⟩ := hp_10
              show W _ _ _ _ _ _ _ _ _ _ _ _ _ _ _ (F0 m 58 ls [.int (iI (b2 ((σ 4 (pn σ j)) = 0)))])
              refine j_ifeqP (tgt := 73) hx hb dX3_find_58 (by decide) (fun c_11 => ?_) (fun c_11 => ?_)
              · refine j_iinc (lv' := [(5, .int (iI ((j + 1 : Nat) : Int))), (6, .ref (ra j)), (4, .int (iI 200)), (3, .ref xr), (2, .int (iI a)), (0, .ref x), (1, .int (iI vl))]) hx hb dX3_find_73 hl (k := 1) rfl (by decide) rfl (fun ls hl => ?_)
                refine lv_goto (tgt := 35) hx hb dX3_find_76 (by decide) ?_
                exact ih (j + 1) a (by omega) (by omega) (cs_f ea (fun q => c_11 q.2.1)) _ _ hB ls (lv_sub hl [0, 2, 3, 4, 5, 6] rfl)
              · refine lv_aload hx hb dX3_find_61 (lv_at hl 0 rfl) ?_
                refine m_get hx hb hts (fun _ q => List.mem_cons_of_mem _ (List.mem_append_left _ (List.mem_append_left _ (List.mem_append_left _ (List.mem_append_right _ q))))) hown hK hB (hC.rw j lv_5) (ci := 2) rfl 2 (by decide) (List.mem_of_getElem? (i := 5) rfl) rfl rfl dX3_find_63 ?_
                refine lv_iload_n hx hb dX3_find_66 rfl (lv_at hl 6 rfl) ?_
                have bd_12 := hI.bd 8 j
                refine j_icmp_ne (tgt := 73) hx hb dX3_find_67 (by decide) ⟨by omega, by omega⟩ ⟨by omega, by omega⟩ (fun c_13 => ?_) (fun c_13 => ?_)
                · refine j_iinc (lv' := [(5, .int (iI ((j + 1 : Nat) : Int))), (6, .ref (ra j)), (4, .int (iI 200)), (3, .ref xr), (2, .int (iI a)), (0, .ref x), (1, .int (iI vl))]) hx hb dX3_find_73 hl (k := 1) rfl (by decide) rfl (fun ls hl => ?_)
                  refine lv_goto (tgt := 35) hx hb dX3_find_76 (by decide) ?_
                  exact ih (j + 1) a (by omega) (by omega) (cs_f ea (fun q => c_13 q.2.2)) _ _ hB ls (lv_sub hl [0, 2, 3, 4, 5, 6] rfl)
                · refine j_iinc (lv' := [(2, .int (iI (a + 1))), (6, .ref (ra j)), (5, .int (iI (j : Int))), (4, .int (iI 200)), (3, .ref xr), (0, .ref x), (1, .int (iI vl))]) hx hb dX3_find_70 hl (k := 4) rfl (by decide) rfl (fun ls hl => ?_)
                  refine j_iinc (lv' := [(5, .int (iI ((j + 1 : Nat) : Int))), (2, .int (iI (a + 1))), (6, .ref (ra j)), (4, .int (iI 200)), (3, .ref xr), (0, .ref x), (1, .int (iI vl))]) hx hb dX3_find_73 hl (k := 2) rfl (by decide) rfl (fun ls hl => ?_)
                  refine lv_goto (tgt := 35) hx hb dX3_find_76 (by decide) ?_
                  exact ih (j + 1) (a + 1) (by omega) (by omega) (cs_t ea ⟨lv_5, c_11, c_13⟩) _ _ hB ls (lv_sub hl [0, 3, 4, 1, 5, 6] rfl)
            · refine lv_astoreN (lv' := [(6, .null), (5, .int (iI (j : Int))), (4, .int (iI 200)), (3, .ref xr), (2, .int (iI a)), (0, .ref x), (1, .int (iI vl))]) hx hb dX3_find_46 hl (by decide) rfl (fun ls hl => ?_)
              refine lv_aloadN hx hb dX3_find_48 (lv_at hl 0 rfl) ?_
              refine lv_ifnullN (tgt := 73) hx hb dX3_find_50 (by decide) ?_
              refine j_iinc (lv' := [(5, .int (iI ((j + 1 : Nat) : Int))), (6, .null), (4, .int (iI 200)), (3, .ref xr), (2, .int (iI a)), (0, .ref x), (1, .int (iI vl))]) hx hb dX3_find_73 hl (k := 1) rfl (by decide) rfl (fun ls hl => ?_)
              refine lv_goto (tgt := 35) hx hb dX3_find_76 (by decide) ?_
              exact ih (j + 1) a (by omega) (by omega) (cs_f ea (fun q => lv_5 q.1)) _ _ hB ls (lv_sub hl [0, 2, 3, 4, 5, 6] rfl)
      exact lp_35 (200 + 1) 0 0 (by omega) (by omega) rfl _ _ hB ls (lv_sub hl [0, 1, 2, 3, 4, 5] rfl)
    · exact m_throw (cls := nE2) (Ts := wsX3_find) hx hb hfl hown fitE2 hts (List.mem_of_getElem? (i := 1) rfl) (List.mem_of_getElem? (i := 2) rfl) (fun _ q => List.mem_cons_of_mem _ (List.mem_append_left _ (List.mem_append_right _ q))) ngE2 otE2 (List.mem_of_getElem? (i := 1) rfl) hK hB (hl.1.trans hml.symm) hout hlocks dX3_find_11 dX3_find_14 dX3_find_15 dX3_find_17 dX3_find_20 (Nat.le_of_ble_eq_true rfl) (Nat.le_of_ble_eq_true rfl) (Nat.le_of_ble_eq_true rfl) (Nat.le_of_ble_eq_true rfl) (Nat.le_of_ble_eq_true rfl) (Nat.le_of_ble_eq_true rfl) ⟨Or.inr ⟨rfl, by omega, by omega⟩, hC, FrC.rf _⟩

abbrev rmX3_countPlain : Room := { frames := 8, cells := 3, slots := 15, locals := 132 }
set_option maxHeartbeats 4000000 in
set_option maxRecDepth 100000 in
theorem k_X3_countPlain {l : Launch} {D : va_G} {z : Nat} {cI cP cR cJ : ClassId} {h : Hp} (hfl : l.stackTraces = false) {x xp xr : Nat} {pa ra : Nat → Nat} {σ : Sg} (hC : CR cP cR x xp xr pa ra σ h) (hI : Ib σ) {lo hi so : Int} (rl : rg lo) (rh : rg hi) (ro : rg so) : Cx l D z (tyL cI cP cR cJ) yX3_countPlain wsX3_countPlain rmX3_countPlain [.ref x, .int (iI lo), .int (iI hi), .int (iI so)] h (fun v u => (okQ lo hi so ∧ v = some (.int (iI (cnt (fun j => live σ j ∧ σ 4 (pn σ j) = 0 ∧ (lo ≤ σ 6 j ∧ σ 6 j ≤ hi ∧ hbit so (σ 7 j))) (nrN σ))))) ∧ CR cP cR x xp xr pa ra σ u ∧ FrC h u) (fun E u => (E = nE1 ∧ ¬ okQ lo hi so) ∧ CR cP cR x xp xr pa ra σ u ∧ FrC h u) := by
  refine Cx.of (cc := cX3_countPlain) (maxL := 10) (ret := (some .int)) (by decide) rfl (Nat.le_of_ble_eq_true rfl) ?_
  intro p e s m args below meth c hx hb hr hts hown hlocks hml hnm hout hK hB ls hl
  have hl : lv_has ls 10 [(0, .ref x), (1, .int (iI lo)), (2, .int (iI hi)), (3, .int (iI so))] := hl
  have hnp := hI.hnp
  have hnr := hI.hnr
  refine lv_iload_n hx hb dX3_countPlain_0 rfl (lv_at hl 1 rfl) ?_
  refine lv_iload_n hx hb dX3_countPlain_1 rfl (lv_at hl 2 rfl) ?_
  refine lv_iload_n hx hb dX3_countPlain_2 rfl (lv_at hl 3 rfl) ?_
  refine m_runX (vx_runS (As := [.int (iI lo), .int (iI hi), .int (iI so)]) (rest := []) ⟨hx, hb, hml, hown, hts⟩ (k_X3_checkedQuestion (l := l) hfl ⟨by omega, by omega⟩ ⟨by omega, by omega⟩ ⟨by omega, by omega⟩) (va_cwS 3 hts gX3_countPlain_X3_checkedQuestion rfl rfl rfl (by decide +kernel) ⟨by decide, by decide⟩) ⟨Kp.blind _ _ _ _ _, fun U hU hW => hK.pass hB U hU hW⟩ rfl rfl hl.1 rfl (lv_room (Nat.le_of_ble_eq_true rfl)) dX3_countPlain_3 ⟨Nat.le_of_ble_eq_true rfl, Nat.le_of_ble_eq_true rfl⟩) hB (fun E u H locs q9 ce hp_2 hB hc9 hv9 hk9 => ?_) (fun v u H locs hp_2 hB => ?_)
  · obtain ⟨rfl, rfl, hn⟩ := hp_2
    exact m_out hout hlocks hB hc9 hv9 hk9 (Nat.le_of_ble_eq_true rfl) (Nat.le_of_ble_eq_true rfl) ⟨⟨rfl, hn⟩, hC, FrC.rf _⟩
  · obtain ⟨qq_1, rfl, hqq_1, rfl, hok⟩ := hp_2
    unfold okQ at hok
    show W _ _ _ _ _ _ _ _ _ _ _ _ _ _ _ (F0 m 6 ls [.ref qq_1])
    have hC := hC.new (e1 := qst lo hi so) hqq_1
    refine lv_astore (lv' := [(4, .ref qq_1), (0, .ref x), (1, .int (iI lo)), (2, .int (iI hi)), (3, .int (iI so))]) hx hb dX3_countPlain_6 hl (by decide) rfl (fun ls hl => ?_)
    refine j_iconst hx hb dX3_countPlain_8 ?_
    refine lv_istore (lv' := [(5, .int (iI 0)), (4, .ref qq_1), (0, .ref x), (1, .int (iI lo)), (2, .int (iI hi)), (3, .int (iI so))]) hx hb dX3_countPlain_9 hl (by decide) rfl (fun ls hl => ?_)
    refine lv_aload_n hx hb dX3_countPlain_11 rfl (lv_at hl 2 rfl) ?_
    refine m_get hx hb hts (fun _ q => List.mem_cons_of_mem _ (List.mem_append_left _ (List.mem_append_left _ (List.mem_append_left _ (List.mem_append_left _ (List.mem_append_right _ q)))))) hown hK hB hC.tb (ci := 3) rfl 3 (by decide) (List.mem_of_getElem? (i := 1) rfl) rfl rfl dX3_countPlain_12 ?_
    refine lv_astore (lv' := [(6, .ref xr), (5, .int (iI 0)), (4, .ref qq_1), (0, .ref x), (1, .int (iI lo)), (2, .int (iI hi)), (3, .int (iI so))]) hx hb dX3_countPlain_15 hl (by decide) rfl (fun ls hl => ?_)
    refine lv_aload hx hb dX3_countPlain_17 (lv_at hl 0 rfl) ?_
    refine m_lenR hx hb hK hB hC dX3_countPlain_19 ?_
    refine lv_istore (lv' := [(7, .int (iI 200)), (6, .ref xr), (5, .int (iI 0)), (4, .ref qq_1), (0, .ref x), (1, .int (iI lo)), (2, .int (iI hi)), (3, .int (iI so))]) hx hb dX3_countPlain_20 hl (by decide) rfl (fun ls hl => ?_)
    refine j_iconst hx hb dX3_countPlain_22 ?_
    refine lv_istore (lv' := [(8, .int (iI 0)), (7, .int (iI 200)), (6, .ref xr), (5, .int (iI 0)), (4, .ref qq_1), (0, .ref x), (1, .int (iI lo)), (2, .int (iI hi)), (3, .int (iI so))]) hx hb dX3_countPlain_23 hl (by decide) rfl (fun ls hl => ?_)
    have lp_25 : ∀ (fuel j : Nat) (a : Int), j ≤ 200 → 200 + 1 ≤ j + fuel → ∀ (ea : a = cnt (fun j => live σ j ∧ σ 4 (pn σ j) = 0 ∧ (lo ≤ σ 6 j ∧ σ 6 j ≤ hi ∧ hbit so (σ 7 j))) j) (H : Heap) (locs : List Loc), Bk D z s.heap (hup h qq_1 (qst lo hi so)) H locs → ∀ ls : Array Slot, lv_has ls 10 [(8, .int (iI (j : Int))), (7, .int (iI 200)), (6, .ref xr), (5, .int (iI a)), (4, .ref qq_1), (0, .ref x), (1, .int (iI lo)), (2, .int (iI hi)), (3, .int (iI so))] → W p l e rmX3_countPlain s m args below meth c H locs 3 15 (vx_MQ below (Qx D z (fun v u => (okQ lo hi so ∧ v = some (.int (iI (cnt (fun j => live σ j ∧ σ 4 (pn σ j) = 0 ∧ (lo ≤ σ 6 j ∧ σ 6 j ≤ hi ∧ hbit so (σ 7 j))) (nrN σ))))) ∧ CR cP cR x xp xr pa ra σ u ∧ FrC h u)) (Xp D z (fun E u => (E = nE1 ∧ ¬ okQ lo hi so) ∧ CR cP cR x xp xr pa ra σ u ∧ FrC h u)) args s (rmX3_countPlain).cells (rmX3_countPlain).slots (zA z)) (F0 m 25 ls []) := by
      intro fuel
      induction fuel with
      | zero => intro j a w1 w2; exact absurd w2 (by omega)
      | succ fuel ih =>
        intro j a w1 w2 ea H locs hB ls hl
        have ear := cnt_rg (fun j => live σ j ∧ σ 4 (pn σ j) = 0 ∧ (lo ≤ σ 6 j ∧ σ 6 j ≤ hi ∧ hbit so (σ 7 j))) j
        refine lv_iload hx hb dX3_countPlain_25 (lv_at hl 0 rfl) ?_
        refine lv_iload hx hb dX3_countPlain_27 (lv_at hl 1 rfl) ?_
        refine j_icmp_ge (tgt := 71) hx hb dX3_countPlain_29 (by decide) ⟨by omega, by omega⟩ ⟨by decide, by decide⟩ (fun c_3 => ?_) (fun c_3 => ?_)
        · refine lv_iload hx hb dX3_countPlain_71 (lv_at hl 3 rfl) ?_
          exact vx_ret (m_zret hx hb hr rfl hlocks hB (by decide) (by decide) dX3_countPlain_73 ⟨⟨(by unfold okQ; omega), ret_e (cs_e hI ea (by omega) (fun _ q => q.1))⟩, hC, FrC.new hqq_1⟩)
        · refine lv_aload hx hb dX3_countPlain_32 (lv_at hl 2 rfl) ?_
          refine lv_iload hx hb dX3_countPlain_34 (lv_at hl 0 rfl) ?_
          refine m_ldR (j := j) hx hb hK hB hC (by omega) dX3_countPlain_36 (fun lv_4 => ?_) (fun lv_4 => ?_)
          · refine lv_astore (lv' := [(9, .ref (ra j)), (8, .int (iI (j : Int))), (7, .int (iI 200)), (6, .ref xr), (5, .int (iI a)), (4, .ref qq_1), (0, .ref x), (1, .int (iI lo)), (2, .int (iI hi)), (3, .int (iI so))]) hx hb dX3_countPlain_37 hl (by decide) rfl (fun ls hl => ?_)
            refine lv_aload hx hb dX3_countPlain_39 (lv_at hl 0 rfl) ?_
            refine lv_ifnull hx hb dX3_countPlain_41 ?_
            refine lv_aload hx hb dX3_countPlain_44 (lv_at hl 0 rfl) ?_
            have rf_5 := hI.row j lv_4
            have pn_6 := hI.pnI j lv_4
            have pf_7 := hI.part (pn σ j) (by omega)
            have bd_8 := hI.bd 4 (pn σ j)
            refine m_run (va_runV (As := []) (rest := []) ⟨hx, hb, hml, hown, hts⟩ (k_X2_isInTable (l := l) (hC.rw j lv_4) (hC.pt (pn σ j) (by omega)) ⟨by omega, by omega⟩) (cwV 0 hts gX3_countPlain_X2_isInTable rfl rfl rfl (by decide +kernel) ⟨by decide, by decide⟩) ⟨Kp.blind _ _ _ _ _, m_recv hK hB (ci := 2) rfl (hC.rw j lv_4), fun U hU hW => hK.pass hB U hU hW⟩ rfl rfl hl.1 rfl (lv_room (Nat.le_of_ble_eq_true rfl)) dX3_countPlain_46 ⟨Nat.le_of_ble_eq_true rfl, Nat.le_of_ble_eq_true rfl⟩) hB (fun v u H locs hp_9 hB => ?_)
            obtain ⟨rfl, rfl⟩ := hp_9
            show W _ _ _ _ _ _ _ _ _ _ _ _ _ _ _ (F0 m 49 ls [.int (iI (b2 ((σ 4 (pn σ j)) = 0)))])
            refine j_ifeqP (tgt := 65) hx hb dX3_countPlain_49 (by decide) (fun c_10 => ?_) (fun c_10 => ?_)
            · refine j_iinc (lv' := [(8, .int (iI ((j + 1 : Nat) : Int))), (9, .ref (ra j)), (7, .int (iI 200)), (6, .ref xr), (5, .int (iI a)), (4, .ref qq_1), (0, .ref x), (1, .int (iI lo)), (2, .int (iI hi)), (3, .int (iI so))]) hx hb dX3_countPlain_65 hl (k := 1) rfl (by decide) rfl (fun ls hl => ?_)
              refine lv_goto (tgt := 25) hx hb dX3_countPlain_68 (by decide) ?_
              exact ih (j + 1) a (by omega) (by omega) (cs_f ea (fun q => c_10 q.2.1)) _ _ hB ls (lv_sub hl [0, 2, 3, 4, 5, 6, 7, 8, 9] rfl)
            · refine lv_aload hx hb dX3_countPlain_52 (lv_at hl 0 rfl) ?_
              refine lv_aload hx hb dX3_countPlain_54 (lv_at hl 5 rfl) ?_
              have bd_11 := hI.bd 6 j
              refine m_run (va_runV (As := [.ref qq_1]) (rest := []) ⟨hx, hb, hml, hown, hts⟩ (k_X2_fits (l := l) (hC.rw j lv_4) (hup_s _ _ _) ⟨by omega, by omega⟩ ⟨by omega, by omega⟩ ⟨by omega, by omega⟩ (by omega) (by omega) (by omega) (by omega)) (cwV 1 hts gX3_countPlain_X2_fits rfl rfl rfl (by decide +kernel) ⟨by decide, by decide⟩) ⟨Kp.blind _ _ _ _ _, m_recv hK hB (ci := 2) rfl (hC.rw j lv_4), fun U hU hW => hK.pass hB U hU hW⟩ rfl rfl hl.1 rfl (lv_room (Nat.le_of_ble_eq_true rfl)) dX3_countPlain_56 ⟨Nat.le_of_ble_eq_true rfl, Nat.le_of_ble_eq_true rfl⟩) hB (fun v u H locs hp_12 hB => ?_)
              obtain ⟨rfl, rfl⟩ := hp_12
              show W _ _ _ _ _ _ _ _ _ _ _ _ _ _ _ (F0 m 59 ls [.int (iI (b2 (lo ≤ (σ 6 j) ∧ (σ 6 j) ≤ hi ∧ hbit so (σ 7 j))))])
              refine j_ifeqP (tgt := 65) hx hb dX3_countPlain_59 (by decide) (fun c_13 => ?_) (fun c_13 => ?_)
              · refine j_iinc (lv' := [(8, .int (iI ((j + 1 : Nat) : Int))), (9, .ref (ra j)), (7, .int (iI 200)), (6, .ref xr), (5, .int (iI a)), (4, .ref qq_1), (0, .ref x), (1, .int (iI lo)), (2, .int (iI hi)), (3, .int (iI so))]) hx hb dX3_countPlain_65 hl (k := 1) rfl (by decide) rfl (fun ls hl => ?_)
                refine lv_goto (tgt := 25) hx hb dX3_countPlain_68 (by decide) ?_
                exact ih (j + 1) a (by omega) (by omega) (cs_f ea (fun q => c_13 q.2.2)) _ _ hB ls (lv_sub hl [0, 2, 3, 4, 5, 6, 7, 8, 9] rfl)
              · refine j_iinc (lv' := [(5, .int (iI (a + 1))), (9, .ref (ra j)), (8, .int (iI (j : Int))), (7, .int (iI 200)), (6, .ref xr), (4, .ref qq_1), (0, .ref x), (1, .int (iI lo)), (2, .int (iI hi)), (3, .int (iI so))]) hx hb dX3_countPlain_62 hl (k := 4) rfl (by decide) rfl (fun ls hl => ?_)
                refine j_iinc (lv' := [(8, .int (iI ((j + 1 : Nat) : Int))), (5, .int (iI (a + 1))), (9, .ref (ra j)), (7, .int (iI 200)), (6, .ref xr), (4, .ref qq_1), (0, .ref x), (1, .int (iI lo)), (2, .int (iI hi)), (3, .int (iI so))]) hx hb dX3_countPlain_65 hl (k := 2) rfl (by decide) rfl (fun ls hl => ?_)
                refine lv_goto (tgt := 25) hx hb dX3_countPlain_68 (by decide) ?_
                exact ih (j + 1) (a + 1) (by omega) (by omega) (cs_t ea ⟨lv_4, c_10, c_13⟩) _ _ hB ls (lv_sub hl [0, 3, 4, 1, 5, 6, 7, 8, 9] rfl)
          · refine lv_astoreN (lv' := [(9, .null), (8, .int (iI (j : Int))), (7, .int (iI 200)), (6, .ref xr), (5, .int (iI a)), (4, .ref qq_1), (0, .ref x), (1, .int (iI lo)), (2, .int (iI hi)), (3, .int (iI so))]) hx hb dX3_countPlain_37 hl (by decide) rfl (fun ls hl => ?_)
            refine lv_aloadN hx hb dX3_countPlain_39 (lv_at hl 0 rfl) ?_
            refine lv_ifnullN (tgt := 65) hx hb dX3_countPlain_41 (by decide) ?_
            refine j_iinc (lv' := [(8, .int (iI ((j + 1 : Nat) : Int))), (9, .null), (7, .int (iI 200)), (6, .ref xr), (5, .int (iI a)), (4, .ref qq_1), (0, .ref x), (1, .int (iI lo)), (2, .int (iI hi)), (3, .int (iI so))]) hx hb dX3_countPlain_65 hl (k := 1) rfl (by decide) rfl (fun ls hl => ?_)
            refine lv_goto (tgt := 25) hx hb dX3_countPlain_68 (by decide) ?_
            exact ih (j + 1) a (by omega) (by omega) (cs_f ea (fun q => lv_4 q.1)) _ _ hB ls (lv_sub hl [0, 2, 3, 4, 5, 6, 7, 8, 9] rfl)
    exact lp_25 (200 + 1) 0 0 (by omega) (by omega) rfl _ _ hB ls (lv_sub hl [0, 1, 2, 3, 4, 5, 6, 7, 8] rfl)

abbrev rmX3_count : Room := { frames := 8, cells := 3, slots := 15, locals := 132 }
set_option maxHeartbeats 4000000 in
set_option maxRecDepth 100000 in
theorem k_X3_count {l : Launch} {D : va_G} {z : Nat} {cI cP cR cJ : ClassId} {h : Hp} (hfl : l.stackTraces = false) {x xp xr : Nat} {pa ra : Nat → Nat} {σ : Sg} (hC : CR cP cR x xp xr pa ra σ h) (hI : Ib σ) {lo hi so : Int} (rl : rg lo) (rh : rg hi) (ro : rg so) : Cx l D z (tyL cI cP cR cJ) yX3_count wsX3_count rmX3_count [.ref x, .int (iI lo), .int (iI hi), .int (iI so)] h (fun v u => (okQ lo hi so ∧ v = some (.int (iI (cntA σ lo hi so)))) ∧ CR cP cR x xp xr pa ra σ u ∧ FrC h u) (fun E u => (E = nE1 ∧ ¬ okQ lo hi so) ∧ CR cP cR x xp xr pa ra σ u ∧ FrC h u) := by
  refine Cx.of (cc := cX3_count) (maxL := 10) (ret := (some .int)) (by decide) rfl (Nat.le_of_ble_eq_true rfl) ?_
  intro p e s m args below meth c hx hb hr hts hown hlocks hml hnm hout hK hB ls hl
  have hl : lv_has ls 10 [(0, .ref x), (1, .int (iI lo)), (2, .int (iI hi)), (3, .int (iI so))] := hl
  have hnp := hI.hnp
  have hnr := hI.hnr
  refine lv_iload_n hx hb dX3_count_0 rfl (lv_at hl 1 rfl) ?_
  refine lv_iload_n hx hb dX3_count_1 rfl (lv_at hl 2 rfl) ?_
  refine lv_iload_n hx hb dX3_count_2 rfl (lv_at hl 3 rfl) ?_
  refine m_runX (vx_runS (As := [.int (iI lo), .int (iI hi), .int (iI so)]) (rest := []) ⟨hx, hb, hml, hown, hts⟩ (k_X3_checkedQuestion (l := l) hfl ⟨by omega, by omega⟩ ⟨by omega, by omega⟩ ⟨by omega, by omega⟩) (va_cwS 3 hts gX3_count_X3_checkedQuestion rfl rfl rfl (by decide +kernel) ⟨by decide, by decide⟩) ⟨Kp.blind _ _ _ _ _, fun U hU hW => hK.pass hB U hU hW⟩ rfl rfl hl.1 rfl (lv_room (Nat.le_of_ble_eq_true rfl)) dX3_count_3 ⟨Nat.le_of_ble_eq_true rfl, Nat.le_of_ble_eq_true rfl⟩) hB (fun E u H locs q9 ce hp_2 hB hc9 hv9 hk9 => ?_) (fun v u H locs hp_2 hB => ?_)
  · obtain ⟨rfl, rfl, hn⟩ := hp_2
    exact m_out hout hlocks hB hc9 hv9 hk9 (Nat.le_of_ble_eq_true rfl) (Nat.le_of_ble_eq_true rfl) ⟨⟨rfl, hn⟩, hC, FrC.rf _⟩
  · obtain ⟨qq_1, rfl, hqq_1, rfl, hok⟩ := hp_2
    unfold okQ at hok
    show W _ _ _ _ _ _ _ _ _ _ _ _ _ _ _ (F0 m 6 ls [.ref qq_1])
    have hC := hC.new (e1 := qst lo hi so) hqq_1
    refine lv_astore (lv' := [(4, .ref qq_1), (0, .ref x), (1, .int (iI lo)), (2, .int (iI hi)), (3, .int (iI so))]) hx hb dX3_count_6 hl (by decide) rfl (fun ls hl => ?_)
    refine j_iconst hx hb dX3_count_8 ?_
    refine lv_istore (lv' := [(5, .int (iI 0)), (4, .ref qq_1), (0, .ref x), (1, .int (iI lo)), (2, .int (iI hi)), (3, .int (iI so))]) hx hb dX3_count_9 hl (by decide) rfl (fun ls hl => ?_)
    refine lv_aload_n hx hb dX3_count_11 rfl (lv_at hl 2 rfl) ?_
    refine m_get hx hb hts (fun _ q => List.mem_cons_of_mem _ (List.mem_append_left _ (List.mem_append_left _ (List.mem_append_left _ (List.mem_append_left _ (List.mem_append_right _ q)))))) hown hK hB hC.tb (ci := 3) rfl 1 (by decide) (List.mem_of_getElem? (i := 1) rfl) rfl rfl dX3_count_12 ?_
    refine lv_astore (lv' := [(6, .ref xp), (5, .int (iI 0)), (4, .ref qq_1), (0, .ref x), (1, .int (iI lo)), (2, .int (iI hi)), (3, .int (iI so))]) hx hb dX3_count_15 hl (by decide) rfl (fun ls hl => ?_)
    refine lv_aload hx hb dX3_count_17 (lv_at hl 0 rfl) ?_
    refine m_lenP hx hb hK hB hC dX3_count_19 ?_
    refine lv_istore (lv' := [(7, .int (iI 16)), (6, .ref xp), (5, .int (iI 0)), (4, .ref qq_1), (0, .ref x), (1, .int (iI lo)), (2, .int (iI hi)), (3, .int (iI so))]) hx hb dX3_count_20 hl (by decide) rfl (fun ls hl => ?_)
    refine j_iconst hx hb dX3_count_22 ?_
    refine lv_istore (lv' := [(8, .int (iI 0)), (7, .int (iI 16)), (6, .ref xp), (5, .int (iI 0)), (4, .ref qq_1), (0, .ref x), (1, .int (iI lo)), (2, .int (iI hi)), (3, .int (iI so))]) hx hb dX3_count_23 hl (by decide) rfl (fun ls hl => ?_)
    have lp_25 : ∀ (fuel w : Nat) (a : Int), w ≤ 16 → 16 + 1 ≤ w + fuel → ∀ (ea : a = csm (fun i => (i : Int) ≤ σ 9 0) (fun i => cip σ i lo hi so) w) (H : Heap) (locs : List Loc), Bk D z s.heap (hup h qq_1 (qst lo hi so)) H locs → ∀ ls : Array Slot, lv_has ls 10 [(8, .int (iI (w : Int))), (7, .int (iI 16)), (6, .ref xp), (5, .int (iI a)), (4, .ref qq_1), (0, .ref x), (1, .int (iI lo)), (2, .int (iI hi)), (3, .int (iI so))] → W p l e rmX3_count s m args below meth c H locs 3 15 (vx_MQ below (Qx D z (fun v u => (okQ lo hi so ∧ v = some (.int (iI (cntA σ lo hi so)))) ∧ CR cP cR x xp xr pa ra σ u ∧ FrC h u)) (Xp D z (fun E u => (E = nE1 ∧ ¬ okQ lo hi so) ∧ CR cP cR x xp xr pa ra σ u ∧ FrC h u)) args s (rmX3_count).cells (rmX3_count).slots (zA z)) (F0 m 25 ls []) := by
      intro fuel
      induction fuel with
      | zero => intro w a w1 w2; exact absurd w2 (by omega)
      | succ fuel ih =>
        intro w a w1 w2 ea H locs hB ls hl
        refine lv_iload hx hb dX3_count_25 (lv_at hl 0 rfl) ?_
        refine lv_iload hx hb dX3_count_27 (lv_at hl 1 rfl) ?_
        refine j_icmp_ge (tgt := 63) hx hb dX3_count_29 (by decide) ⟨by omega, by omega⟩ ⟨by decide, by decide⟩ (fun c_3 => ?_) (fun c_3 => ?_)
        · refine lv_iload hx hb dX3_count_63 (lv_at hl 3 rfl) ?_
          exact vx_ret (m_zret hx hb hr rfl hlocks hB (by decide) (by decide) dX3_count_65 ⟨⟨(by unfold okQ; omega), ret_e (by rw [ea, show w = 16 by omega]; rfl)⟩, hC, FrC.new hqq_1⟩)
        · refine lv_aload hx hb dX3_count_32 (lv_at hl 2 rfl) ?_
          refine lv_iload hx hb dX3_count_34 (lv_at hl 0 rfl) ?_
          refine m_ldP (i := w) hx hb hK hB hC (by omega) dX3_count_36 (fun lv_4 => ?_) (fun lv_4 => ?_)
          · refine lv_astore (lv' := [(9, .ref (pa w)), (8, .int (iI (w : Int))), (7, .int (iI 16)), (6, .ref xp), (5, .int (iI a)), (4, .ref qq_1), (0, .ref x), (1, .int (iI lo)), (2, .int (iI hi)), (3, .int (iI so))]) hx hb dX3_count_37 hl (by decide) rfl (fun ls hl => ?_)
            refine lv_aload hx hb dX3_count_39 (lv_at hl 0 rfl) ?_
            refine lv_ifnull hx hb dX3_count_41 ?_
            refine lv_iload hx hb dX3_count_44 (lv_at hl 4 rfl) ?_
            refine lv_aload_n hx hb dX3_count_46 rfl (lv_at hl 6 rfl) ?_
            refine lv_aload hx hb dX3_count_47 (lv_at hl 0 rfl) ?_
            refine lv_aload hx hb dX3_count_49 (lv_at hl 5 rfl) ?_
            refine m_run (va_runV (As := [.ref (pa w), .ref qq_1]) (rest := [.int (iI a)]) ⟨hx, hb, hml, hown, hts⟩ (k_X3_countInPart (l := l) hC hI (hup_s _ _ _) (by omega) (by omega) (by omega) (by omega) (by omega) (by omega) (i := w) (by omega)) (cwV 2 hts gX3_count_X3_countInPart rfl rfl rfl (by decide +kernel) ⟨by decide, by decide⟩) ⟨Kp.blind _ _ _ _ _, m_recv hK hB (ci := 3) rfl hC.tb, fun U hU hW => hK.pass hB U hU hW⟩ rfl rfl hl.1 rfl (lv_room (Nat.le_of_ble_eq_true rfl)) dX3_count_51 ⟨Nat.le_of_ble_eq_true rfl, Nat.le_of_ble_eq_true rfl⟩) hB (fun v u H locs hp_5 hB => ?_)
            obtain ⟨rfl, rfl⟩ := hp_5
            show W _ _ _ _ _ _ _ _ _ _ _ _ _ _ _ (F0 m 54 ls [.int (iI (cip σ w lo hi so)), .int (iI a)])
            refine j_iadd hx hb dX3_count_54 ?_
            refine lv_istore (lv' := [(5, .int (iI (a + (cip σ w lo hi so)))), (9, .ref (pa w)), (8, .int (iI (w : Int))), (7, .int (iI 16)), (6, .ref xp), (4, .ref qq_1), (0, .ref x), (1, .int (iI lo)), (2, .int (iI hi)), (3, .int (iI so))]) hx hb dX3_count_55 hl (by decide) rfl (fun ls hl => ?_)
            refine j_iinc (lv' := [(8, .int (iI ((w + 1 : Nat) : Int))), (5, .int (iI (a + (cip σ w lo hi so)))), (9, .ref (pa w)), (7, .int (iI 16)), (6, .ref xp), (4, .ref qq_1), (0, .ref x), (1, .int (iI lo)), (2, .int (iI hi)), (3, .int (iI so))]) hx hb dX3_count_57 hl (k := 2) rfl (by decide) rfl (fun ls hl => ?_)
            refine lv_goto (tgt := 25) hx hb dX3_count_60 (by decide) ?_
            exact ih (w + 1) (a + (cip σ w lo hi so)) (by omega) (by omega) (cz_t ea lv_4) _ _ hB ls (lv_sub hl [0, 3, 4, 1, 5, 6, 7, 8, 9] rfl)
          · refine lv_astoreN (lv' := [(9, .null), (8, .int (iI (w : Int))), (7, .int (iI 16)), (6, .ref xp), (5, .int (iI a)), (4, .ref qq_1), (0, .ref x), (1, .int (iI lo)), (2, .int (iI hi)), (3, .int (iI so))]) hx hb dX3_count_37 hl (by decide) rfl (fun ls hl => ?_)
            refine lv_aloadN hx hb dX3_count_39 (lv_at hl 0 rfl) ?_
            refine lv_ifnullN (tgt := 57) hx hb dX3_count_41 (by decide) ?_
            refine j_iinc (lv' := [(8, .int (iI ((w + 1 : Nat) : Int))), (9, .null), (7, .int (iI 16)), (6, .ref xp), (5, .int (iI a)), (4, .ref qq_1), (0, .ref x), (1, .int (iI lo)), (2, .int (iI hi)), (3, .int (iI so))]) hx hb dX3_count_57 hl (k := 1) rfl (by decide) rfl (fun ls hl => ?_)
            refine lv_goto (tgt := 25) hx hb dX3_count_60 (by decide) ?_
            exact ih (w + 1) a (by omega) (by omega) (cz_f ea lv_4) _ _ hB ls (lv_sub hl [0, 2, 3, 4, 5, 6, 7, 8, 9] rfl)
    exact lp_25 (16 + 1) 0 0 (by omega) (by omega) rfl _ _ hB ls (lv_sub hl [0, 1, 2, 3, 4, 5, 6, 7, 8] rfl)

abbrev rmX3_read : Room := { frames := 8, cells := 3, slots := 15, locals := 132 }
set_option maxHeartbeats 4000000 in
set_option maxRecDepth 100000 in
theorem k_X3_read {l : Launch} {D : va_G} {z : Nat} {cI cP cR cJ : ClassId} {h : Hp} (hfl : l.stackTraces = false) {x xp xr : Nat} {pa ra : Nat → Nat} {σ : Sg} (hC : CR cP cR x xp xr pa ra σ h) (hI : Ib σ) {lo hi so : Int} (rl : rg lo) (rh : rg hi) (ro : rg so) : Cx l D z (tyL cI cP cR cJ) yX3_read wsX3_read rmX3_read [.ref x, .int (iI lo), .int (iI hi), .int (iI so)] h (fun v u => (okQ lo hi so ∧ v = some (.int (iI (rdA σ lo hi so)))) ∧ CR cP cR x xp xr pa ra σ u ∧ FrC h u) (fun E u => (E = nE1 ∧ ¬ okQ lo hi so) ∧ CR cP cR x xp xr pa ra σ u ∧ FrC h u) := by
  refine Cx.of (cc := cX3_read) (maxL := 10) (ret := (some .int)) (by decide) rfl (Nat.le_of_ble_eq_true rfl) ?_
  intro p e s m args below meth c hx hb hr hts hown hlocks hml hnm hout hK hB ls hl
  have hl : lv_has ls 10 [(0, .ref x), (1, .int (iI lo)), (2, .int (iI hi)), (3, .int (iI so))] := hl
  have hnp := hI.hnp
  have hnr := hI.hnr
  refine lv_iload_n hx hb dX3_read_0 rfl (lv_at hl 1 rfl) ?_
  refine lv_iload_n hx hb dX3_read_1 rfl (lv_at hl 2 rfl) ?_
  refine lv_iload_n hx hb dX3_read_2 rfl (lv_at hl 3 rfl) ?_
  refine m_runX (vx_runS (As := [.int (iI lo), .int (iI hi), .int (iI so)]) (rest := []) ⟨hx, hb, hml, hown, hts⟩ (k_X3_checkedQuestion (l := l) hfl ⟨by omega, by omega⟩ ⟨by omega, by omega⟩ ⟨by omega, by omega⟩) (va_cwS 3 hts gX3_read_X3_checkedQuestion rfl rfl rfl (by decide +kernel) ⟨by decide, by decide⟩) ⟨Kp.blind _ _ _ _ _, fun U hU hW => hK.pass hB U hU hW⟩ rfl rfl hl.1 rfl (lv_room (Nat.le_of_ble_eq_true rfl)) dX3_read_3 ⟨Nat.le_of_ble_eq_true rfl, Nat.le_of_ble_eq_true rfl⟩) hB (fun E u H locs q9 ce hp_2 hB hc9 hv9 hk9 => ?_) (fun v u H locs hp_2 hB => ?_)
  · obtain ⟨rfl, rfl, hn⟩ := hp_2
    exact m_out hout hlocks hB hc9 hv9 hk9 (Nat.le_of_ble_eq_true rfl) (Nat.le_of_ble_eq_true rfl) ⟨⟨rfl, hn⟩, hC, FrC.rf _⟩
  · obtain ⟨qq_1, rfl, hqq_1, rfl, hok⟩ := hp_2
    unfold okQ at hok
    show W _ _ _ _ _ _ _ _ _ _ _ _ _ _ _ (F0 m 6 ls [.ref qq_1])
    have hC := hC.new (e1 := qst lo hi so) hqq_1
    refine lv_astore (lv' := [(4, .ref qq_1), (0, .ref x), (1, .int (iI lo)), (2, .int (iI hi)), (3, .int (iI so))]) hx hb dX3_read_6 hl (by decide) rfl (fun ls hl => ?_)
    refine j_iconst hx hb dX3_read_8 ?_
    refine lv_istore (lv' := [(5, .int (iI 0)), (4, .ref qq_1), (0, .ref x), (1, .int (iI lo)), (2, .int (iI hi)), (3, .int (iI so))]) hx hb dX3_read_9 hl (by decide) rfl (fun ls hl => ?_)
    refine lv_aload_n hx hb dX3_read_11 rfl (lv_at hl 2 rfl) ?_
    refine m_get hx hb hts (fun _ q => List.mem_cons_of_mem _ (List.mem_append_left _ (List.mem_append_left _ (List.mem_append_left _ (List.mem_append_right _ q))))) hown hK hB hC.tb (ci := 3) rfl 1 (by decide) (List.mem_of_getElem? (i := 1) rfl) rfl rfl dX3_read_12 ?_
    refine lv_astore (lv' := [(6, .ref xp), (5, .int (iI 0)), (4, .ref qq_1), (0, .ref x), (1, .int (iI lo)), (2, .int (iI hi)), (3, .int (iI so))]) hx hb dX3_read_15 hl (by decide) rfl (fun ls hl => ?_)
    refine lv_aload hx hb dX3_read_17 (lv_at hl 0 rfl) ?_
    refine m_lenP hx hb hK hB hC dX3_read_19 ?_
    refine lv_istore (lv' := [(7, .int (iI 16)), (6, .ref xp), (5, .int (iI 0)), (4, .ref qq_1), (0, .ref x), (1, .int (iI lo)), (2, .int (iI hi)), (3, .int (iI so))]) hx hb dX3_read_20 hl (by decide) rfl (fun ls hl => ?_)
    refine j_iconst hx hb dX3_read_22 ?_
    refine lv_istore (lv' := [(8, .int (iI 0)), (7, .int (iI 16)), (6, .ref xp), (5, .int (iI 0)), (4, .ref qq_1), (0, .ref x), (1, .int (iI lo)), (2, .int (iI hi)), (3, .int (iI so))]) hx hb dX3_read_23 hl (by decide) rfl (fun ls hl => ?_)
    have lp_25 : ∀ (fuel w : Nat) (a : Int), w ≤ 16 → 16 + 1 ≤ w + fuel → ∀ (ea : a = csm (fun i => (i : Int) ≤ σ 9 0) (fun i => rdp σ i lo hi so) w) (H : Heap) (locs : List Loc), Bk D z s.heap (hup h qq_1 (qst lo hi so)) H locs → ∀ ls : Array Slot, lv_has ls 10 [(8, .int (iI (w : Int))), (7, .int (iI 16)), (6, .ref xp), (5, .int (iI a)), (4, .ref qq_1), (0, .ref x), (1, .int (iI lo)), (2, .int (iI hi)), (3, .int (iI so))] → W p l e rmX3_read s m args below meth c H locs 3 15 (vx_MQ below (Qx D z (fun v u => (okQ lo hi so ∧ v = some (.int (iI (rdA σ lo hi so)))) ∧ CR cP cR x xp xr pa ra σ u ∧ FrC h u)) (Xp D z (fun E u => (E = nE1 ∧ ¬ okQ lo hi so) ∧ CR cP cR x xp xr pa ra σ u ∧ FrC h u)) args s (rmX3_read).cells (rmX3_read).slots (zA z)) (F0 m 25 ls []) := by
      intro fuel
      induction fuel with
      | zero => intro w a w1 w2; exact absurd w2 (by omega)
      | succ fuel ih =>
        intro w a w1 w2 ea H locs hB ls hl
        refine lv_iload hx hb dX3_read_25 (lv_at hl 0 rfl) ?_
        refine lv_iload hx hb dX3_read_27 (lv_at hl 1 rfl) ?_
        refine j_icmp_ge (tgt := 63) hx hb dX3_read_29 (by decide) ⟨by omega, by omega⟩ ⟨by decide, by decide⟩ (fun c_3 => ?_) (fun c_3 => ?_)
        · refine lv_iload hx hb dX3_read_63 (lv_at hl 3 rfl) ?_
          exact vx_ret (m_zret hx hb hr rfl hlocks hB (by decide) (by decide) dX3_read_65 ⟨⟨(by unfold okQ; omega), ret_e (by rw [ea, show w = 16 by omega]; rfl)⟩, hC, FrC.new hqq_1⟩)
        · refine lv_aload hx hb dX3_read_32 (lv_at hl 2 rfl) ?_
          refine lv_iload hx hb dX3_read_34 (lv_at hl 0 rfl) ?_
          refine m_ldP (i := w) hx hb hK hB hC (by omega) dX3_read_36 (fun lv_4 => ?_) (fun lv_4 => ?_)
          · refine lv_astore (lv' := [(9, .ref (pa w)), (8, .int (iI (w : Int))), (7, .int (iI 16)), (6, .ref xp), (5, .int (iI a)), (4, .ref qq_1), (0, .ref x), (1, .int (iI lo)), (2, .int (iI hi)), (3, .int (iI so))]) hx hb dX3_read_37 hl (by decide) rfl (fun ls hl => ?_)
            refine lv_aload hx hb dX3_read_39 (lv_at hl 0 rfl) ?_
            refine lv_ifnull hx hb dX3_read_41 ?_
            refine lv_iload hx hb dX3_read_44 (lv_at hl 4 rfl) ?_
            refine lv_aload_n hx hb dX3_read_46 rfl (lv_at hl 6 rfl) ?_
            refine lv_aload hx hb dX3_read_47 (lv_at hl 0 rfl) ?_
            refine lv_aload hx hb dX3_read_49 (lv_at hl 5 rfl) ?_
            refine m_run (va_runV (As := [.ref (pa w), .ref qq_1]) (rest := [.int (iI a)]) ⟨hx, hb, hml, hown, hts⟩ (k_X3_leavesThatMayMatter (l := l) hC hI (hup_s _ _ _) (by omega) (by omega) (by omega) (by omega) (by omega) (by omega) (i := w) (by omega)) (cwV 2 hts gX3_read_X3_leavesThatMayMatter rfl rfl rfl (by decide +kernel) ⟨by decide, by decide⟩) ⟨Kp.blind _ _ _ _ _, m_recv hK hB (ci := 3) rfl hC.tb, fun U hU hW => hK.pass hB U hU hW⟩ rfl rfl hl.1 rfl (lv_room (Nat.le_of_ble_eq_true rfl)) dX3_read_51 ⟨Nat.le_of_ble_eq_true rfl, Nat.le_of_ble_eq_true rfl⟩) hB (fun v u H locs hp_5 hB => ?_)
            obtain ⟨rfl, rfl⟩ := hp_5
            show W _ _ _ _ _ _ _ _ _ _ _ _ _ _ _ (F0 m 54 ls [.int (iI (rdp σ w lo hi so)), .int (iI a)])
            refine j_iadd hx hb dX3_read_54 ?_
            refine lv_istore (lv' := [(5, .int (iI (a + (rdp σ w lo hi so)))), (9, .ref (pa w)), (8, .int (iI (w : Int))), (7, .int (iI 16)), (6, .ref xp), (4, .ref qq_1), (0, .ref x), (1, .int (iI lo)), (2, .int (iI hi)), (3, .int (iI so))]) hx hb dX3_read_55 hl (by decide) rfl (fun ls hl => ?_)
            refine j_iinc (lv' := [(8, .int (iI ((w + 1 : Nat) : Int))), (5, .int (iI (a + (rdp σ w lo hi so)))), (9, .ref (pa w)), (7, .int (iI 16)), (6, .ref xp), (4, .ref qq_1), (0, .ref x), (1, .int (iI lo)), (2, .int (iI hi)), (3, .int (iI so))]) hx hb dX3_read_57 hl (k := 2) rfl (by decide) rfl (fun ls hl => ?_)
            refine lv_goto (tgt := 25) hx hb dX3_read_60 (by decide) ?_
            exact ih (w + 1) (a + (rdp σ w lo hi so)) (by omega) (by omega) (cz_t ea lv_4) _ _ hB ls (lv_sub hl [0, 3, 4, 1, 5, 6, 7, 8, 9] rfl)
          · refine lv_astoreN (lv' := [(9, .null), (8, .int (iI (w : Int))), (7, .int (iI 16)), (6, .ref xp), (5, .int (iI a)), (4, .ref qq_1), (0, .ref x), (1, .int (iI lo)), (2, .int (iI hi)), (3, .int (iI so))]) hx hb dX3_read_37 hl (by decide) rfl (fun ls hl => ?_)
            refine lv_aloadN hx hb dX3_read_39 (lv_at hl 0 rfl) ?_
            refine lv_ifnullN (tgt := 57) hx hb dX3_read_41 (by decide) ?_
            refine j_iinc (lv' := [(8, .int (iI ((w + 1 : Nat) : Int))), (9, .null), (7, .int (iI 16)), (6, .ref xp), (5, .int (iI a)), (4, .ref qq_1), (0, .ref x), (1, .int (iI lo)), (2, .int (iI hi)), (3, .int (iI so))]) hx hb dX3_read_57 hl (k := 1) rfl (by decide) rfl (fun ls hl => ?_)
            refine lv_goto (tgt := 25) hx hb dX3_read_60 (by decide) ?_
            exact ih (w + 1) a (by omega) (by omega) (cz_f ea lv_4) _ _ hB ls (lv_sub hl [0, 2, 3, 4, 5, 6, 7, 8, 9] rfl)
    exact lp_25 (16 + 1) 0 0 (by omega) (by omega) rfl _ _ hB ls (lv_sub hl [0, 1, 2, 3, 4, 5, 6, 7, 8] rfl)

abbrev rmX3_matters : Room := { frames := 9, cells := 6, slots := 33, locals := 157 }
set_option maxHeartbeats 4000000 in
set_option maxRecDepth 100000 in
theorem k_X3_matters {l : Launch} {D : va_G} {z : Nat} {cI cP cR cJ : ClassId} {h : Hp} (hfl : l.stackTraces = false) {x xp xr : Nat} {pa ra : Nat → Nat} {σ : Sg} (hC : CR cP cR x xp xr pa ra σ h) (hI : Ib σ) {nn le lo hi so : Int} (rn : rg nn) (rf : rg le) (rl : rg lo) (rh : rg hi) (ro : rg so) : Cx l D z (tyL cI cP cR cJ) yX3_matters wsX3_matters rmX3_matters [.ref x, .int (iI nn), .int (iI le), .int (iI lo), .int (iI hi), .int (iI so)] h (fun v u => (isL σ nn le ∧ okQ lo hi so ∧ v = some (.int (iI (b2 (mayM σ nn.toNat le lo hi so))))) ∧ CR cP cR x xp xr pa ra σ u ∧ FrC h u) (fun E u => ((E = nE3 ∧ ¬ isL σ nn le) ∨ (E = nE1 ∧ isL σ nn le ∧ ¬ okQ lo hi so)) ∧ CR cP cR x xp xr pa ra σ u ∧ FrC h u) := by
  refine Cx.of (cc := cX3_matters) (maxL := 7) (ret := (some .boolean)) (by decide) rfl (Nat.le_of_ble_eq_true rfl) ?_
  intro p e s m args below meth c hx hb hr hts hown hlocks hml hnm hout hK hB ls hl
  have hl : lv_has ls 7 [(0, .ref x), (1, .int (iI nn)), (2, .int (iI le)), (3, .int (iI lo)), (4, .int (iI hi)), (5, .int (iI so))] := hl
  have hnp := hI.hnp
  have hnr := hI.hnr
  refine lv_aload_n hx hb dX3_matters_0 rfl (lv_at hl 0 rfl) ?_
  refine lv_iload_n hx hb dX3_matters_1 rfl (lv_at hl 1 rfl) ?_
  refine lv_iload_n hx hb dX3_matters_2 rfl (lv_at hl 2 rfl) ?_
  refine m_runX (vx_runV (As := [.int (iI nn), .int (iI le)]) (rest := []) ⟨hx, hb, hml, hown, hts⟩ (k_X3_livingPartWithLeaf (l := l) hfl hC hI ⟨by omega, by omega⟩ ⟨by omega, by omega⟩) (cwV 2 hts gX3_matters_X3_livingPartWithLeaf rfl rfl rfl (by decide +kernel) ⟨by decide, by decide⟩) ⟨Kp.blind _ _ _ _ _, m_recv hK hB (ci := 3) rfl hC.tb, fun U hU hW => hK.pass hB U hU hW⟩ rfl rfl hl.1 rfl (lv_room (Nat.le_of_ble_eq_true rfl)) dX3_matters_3 ⟨Nat.le_of_ble_eq_true rfl, Nat.le_of_ble_eq_true rfl⟩) hB (fun E u H locs q9 ce hp_1 hB hc9 hv9 hk9 => ?_) (fun v u H locs hp_1 hB => ?_)
  · obtain ⟨rfl, rfl, hn⟩ := hp_1
    exact m_out hout hlocks hB hc9 hv9 hk9 (Nat.le_of_ble_eq_true rfl) (Nat.le_of_ble_eq_true rfl) ⟨Or.inl ⟨rfl, hn⟩, hC, FrC.rf _⟩
  · obtain ⟨ii, ei_ii, li_ii, ls_ii, ll_ii, rfl, rfl⟩ := hp_1
    show W _ _ _ _ _ _ _ _ _ _ _ _ _ _ _ (F0 m 6 ls [.ref (pa ii)])
    refine lv_astore (lv' := [(6, .ref (pa ii)), (0, .ref x), (1, .int (iI nn)), (2, .int (iI le)), (3, .int (iI lo)), (4, .int (iI hi)), (5, .int (iI so))]) hx hb dX3_matters_6 hl (by decide) rfl (fun ls hl => ?_)
    refine lv_aload_n hx hb dX3_matters_8 rfl (lv_at hl 1 rfl) ?_
    refine lv_aload hx hb dX3_matters_9 (lv_at hl 0 rfl) ?_
    refine lv_iload_n hx hb dX3_matters_11 rfl (lv_at hl 3 rfl) ?_
    refine lv_iload_n hx hb dX3_matters_12 rfl (lv_at hl 4 rfl) ?_
    refine lv_iload hx hb dX3_matters_13 (lv_at hl 5 rfl) ?_
    refine lv_iload hx hb dX3_matters_15 (lv_at hl 6 rfl) ?_
    refine m_runX (vx_runS (As := [.int (iI lo), .int (iI hi), .int (iI so)]) (rest := [.int (iI le), .ref (pa ii), .ref x]) ⟨hx, hb, hml, hown, hts⟩ (k_X3_checkedQuestion (l := l) hfl ⟨by omega, by omega⟩ ⟨by omega, by omega⟩ ⟨by omega, by omega⟩) (va_cwS 3 hts gX3_matters_X3_checkedQuestion rfl rfl rfl (by decide +kernel) ⟨by decide, by decide⟩) ⟨Kp.blind _ _ _ _ _, fun U hU hW => hK.pass hB U hU hW⟩ rfl rfl hl.1 rfl (lv_room (Nat.le_of_ble_eq_true rfl)) dX3_matters_17 ⟨Nat.le_of_ble_eq_true rfl, Nat.le_of_ble_eq_true rfl⟩) hB (fun E u H locs q9 ce hp_3 hB hc9 hv9 hk9 => ?_) (fun v u H locs hp_3 hB => ?_)
    · obtain ⟨rfl, rfl, hn⟩ := hp_3
      exact m_out hout hlocks hB hc9 hv9 hk9 (Nat.le_of_ble_eq_true rfl) (Nat.le_of_ble_eq_true rfl) (by subst ei_ii; exact ⟨Or.inr ⟨rfl, (isL_i hI).mpr ⟨⟨by omega, by omega⟩, by omega⟩, hn⟩, hC, FrC.rf _⟩)
    · obtain ⟨qq_2, rfl, hqq_2, rfl, hok⟩ := hp_3
      unfold okQ at hok
      show W _ _ _ _ _ _ _ _ _ _ _ _ _ _ _ (F0 m 20 ls [.ref qq_2, .int (iI le), .ref (pa ii), .ref x])
      have hC := hC.new (e1 := qst lo hi so) hqq_2
      refine m_run (va_runV (As := [.ref (pa ii), .int (iI le), .ref qq_2]) (rest := []) ⟨hx, hb, hml, hown, hts⟩ (k_X3_mayMatter (l := l) hC hI (hup_s _ _ _) (by omega) (by omega) (by omega) (by omega) (by omega) (by omega) (i := ii) (leaf := le) (by omega) ⟨by omega, by omega⟩) (cwV 3 hts gX3_matters_X3_mayMatter rfl rfl rfl (by decide +kernel) ⟨by decide, by decide⟩) ⟨Kp.blind _ _ _ _ _, m_recv hK hB (ci := 3) rfl hC.tb, fun U hU hW => hK.pass hB U hU hW⟩ rfl rfl hl.1 rfl (lv_room (Nat.le_of_ble_eq_true rfl)) dX3_matters_20 ⟨Nat.le_of_ble_eq_true rfl, Nat.le_of_ble_eq_true rfl⟩) hB (fun v u H locs hp_4 hB => ?_)
      obtain ⟨rfl, rfl⟩ := hp_4
      show W _ _ _ _ _ _ _ _ _ _ _ _ _ _ _ (F0 m 23 ls [.int (iI (b2 (mayM σ ii le lo hi so)))])
      exact vx_ret (m_zret hx hb hr (b2_nb _) hlocks hB (by decide) (by decide) dX3_matters_23 (by subst ei_ii; exact ⟨⟨(isL_i hI).mpr ⟨⟨by omega, by omega⟩, by omega⟩, (by unfold okQ; omega), rfl⟩, hC, FrC.new hqq_2⟩))

