abbrev rmX4_parts : Room := { frames := 0, cells := 0, slots := 0, locals := 0 }
set_option maxHeartbeats 4000000 in
set_option maxRecDepth 100000 in
theorem k_X4_parts {l : Launch} {D : va_G} {z : Nat} {cI cP cR cJ : ClassId} {h0 : Hp} {xm : Nat} {xa : Nat → Nat} {σ : Sg} {th : Int} (hM : MR cI xm xa σ th h0) (hI : Ib σ)  : Ct l D z (tyL cI cP cR cJ) yX4_parts wsX4_parts rmX4_parts [.ref xm] h0 (fun v u => ((True) ∧ v = some (.int (iI (σ 9 0))) ∧ MR cI xm xa σ 0 u ∧ FrM h0 u)) := by
  refine Ct.of (cc := cX4_parts) (maxL := 1) (ret := (some .int)) (by decide) rfl (Nat.le_of_ble_eq_true rfl) ?_
  intro p e s m args below meth c hx hb hr hts hown hlocks hml hnm hK hB ls hl
  have hl : lv_has ls 1 [(0, .ref xm)] := hl
  have hF := FrM.rf h0
  have hnp := hI.hnp
  have hnr := hI.hnr
  have hnrI := hI.nrI
  have hnpI := hI.npI
  have hre := hI.rest
  refine lv_aload_n hx hb dX4_parts_0 rfl (lv_at hl 0 rfl) ?_
  refine j_iconst hx hb dX4_parts_1 ?_
  refine m_put hx hb hts (fun _ q => List.mem_cons_of_mem _ (List.mem_append_right _ q)) tyX4 tyX4_ok nmX4 hown hK hB hM.1 (ci := 4) rfl 0 (by decide) (List.mem_of_getElem? (i := 1) rfl) rfl rfl rfl rfl (Nat.le_of_ble_eq_true rfl) dX4_parts_2 (fun H locs hB => ?_)
  obtain ⟨h2, hM, hF, hB⟩ : ∃ h2 : Hp, MR cI xm xa σ 0 h2 ∧ FrM h0 h2 ∧ Bk D z s.heap h2 H locs := ⟨_, hM.wth, hF.tr (FrM.up hM.1 (Or.inl rfl)), hB⟩
  refine lv_aload_n hx hb dX4_parts_5 rfl (lv_at hl 0 rfl) ?_
  refine m_get hx hb hts (fun _ q => List.mem_cons_of_mem _ (List.mem_append_right _ q)) hown hK hB hM.1 (ci := 4) rfl 6 (by decide) (List.mem_of_getElem? (i := 2) rfl) rfl rfl dX4_parts_6 ?_
  exact m_zret hx hb hr rfl hlocks hB (by decide) (by decide) dX4_parts_9 (by (repeat rw [Int.toNat_natCast]); exact ⟨trivial, rfl, hM, hF⟩)

abbrev rmX4_isStale : Room := { frames := 0, cells := 0, slots := 0, locals := 0 }
set_option maxHeartbeats 4000000 in
set_option maxRecDepth 100000 in
theorem k_X4_isStale {l : Launch} {D : va_G} {z : Nat} {cI cP cR cJ : ClassId} {h0 : Hp} {xm : Nat} {xa : Nat → Nat} {σ : Sg} {th : Int} (hM : MR cI xm xa σ th h0) (hI : Ib σ)  : Ct l D z (tyL cI cP cR cJ) yX4_isStale wsX4_isStale rmX4_isStale [.ref xm] h0 (fun v u => ((True) ∧ v = some (.int (iI (σ 11 0))) ∧ MR cI xm xa σ 0 u ∧ FrM h0 u)) := by
  refine Ct.of (cc := cX4_isStale) (maxL := 1) (ret := (some .boolean)) (by decide) rfl (Nat.le_of_ble_eq_true rfl) ?_
  intro p e s m args below meth c hx hb hr hts hown hlocks hml hnm hK hB ls hl
  have hl : lv_has ls 1 [(0, .ref xm)] := hl
  have hF := FrM.rf h0
  have hnp := hI.hnp
  have hnr := hI.hnr
  have hnrI := hI.nrI
  have hnpI := hI.npI
  have hre := hI.rest
  refine lv_aload_n hx hb dX4_isStale_0 rfl (lv_at hl 0 rfl) ?_
  refine j_iconst hx hb dX4_isStale_1 ?_
  refine m_put hx hb hts (fun _ q => List.mem_cons_of_mem _ (List.mem_append_right _ q)) tyX4 tyX4_ok nmX4 hown hK hB hM.1 (ci := 4) rfl 0 (by decide) (List.mem_of_getElem? (i := 1) rfl) rfl rfl rfl rfl (Nat.le_of_ble_eq_true rfl) dX4_isStale_2 (fun H locs hB => ?_)
  obtain ⟨h2, hM, hF, hB⟩ : ∃ h2 : Hp, MR cI xm xa σ 0 h2 ∧ FrM h0 h2 ∧ Bk D z s.heap h2 H locs := ⟨_, hM.wth, hF.tr (FrM.up hM.1 (Or.inl rfl)), hB⟩
  refine lv_aload_n hx hb dX4_isStale_5 rfl (lv_at hl 0 rfl) ?_
  refine m_get hx hb hts (fun _ q => List.mem_cons_of_mem _ (List.mem_append_right _ q)) hown hK hB hM.1 (ci := 4) rfl 12 (by decide) (List.mem_of_getElem? (i := 2) rfl) rfl rfl dX4_isStale_6 ?_
  exact m_zret hx hb hr (nb01 hI.2.2.1) hlocks hB (by decide) (by decide) dX4_isStale_9 (by (repeat rw [Int.toNat_natCast]); exact ⟨trivial, rfl, hM, hF⟩)

abbrev rmX4_rows : Room := { frames := 1, cells := 0, slots := 0, locals := 21 }
set_option maxHeartbeats 4000000 in
set_option maxRecDepth 100000 in
theorem k_X4_rows {l : Launch} {D : va_G} {z : Nat} {cI cP cR cJ : ClassId} {h0 : Hp} {xm : Nat} {xa : Nat → Nat} {σ : Sg} {th : Int} (hM : MR cI xm xa σ th h0) (hI : Ib σ)  : Ct l D z (tyL cI cP cR cJ) yX4_rows wsX4_rows rmX4_rows [.ref xm] h0 (fun v u => ((True) ∧ v = some (.int (iI (cnt (fun j => live σ j ∧ σ 4 (pn σ j) = 0) (nrN σ)))) ∧ MR cI xm xa σ 0 u ∧ FrM h0 u)) := by
  refine Ct.of (cc := cX4_rows) (maxL := 3) (ret := (some .int)) (by decide) rfl (Nat.le_of_ble_eq_true rfl) ?_
  intro p e s m args below meth c hx hb hr hts hown hlocks hml hnm hK hB ls hl
  have hl : lv_has ls 3 [(0, .ref xm)] := hl
  have hF := FrM.rf h0
  have hnp := hI.hnp
  have hnr := hI.hnr
  have hnrI := hI.nrI
  have hnpI := hI.npI
  have hre := hI.rest
  refine lv_aload_n hx hb dX4_rows_0 rfl (lv_at hl 0 rfl) ?_
  refine j_iconst hx hb dX4_rows_1 ?_
  refine m_put hx hb hts (fun _ q => List.mem_cons_of_mem _ (List.mem_append_right _ q)) tyX4 tyX4_ok nmX4 hown hK hB hM.1 (ci := 4) rfl 0 (by decide) (List.mem_of_getElem? (i := 1) rfl) rfl rfl rfl rfl (Nat.le_of_ble_eq_true rfl) dX4_rows_2 (fun H locs hB => ?_)
  obtain ⟨h2, hM, hF, hB⟩ : ∃ h2 : Hp, MR cI xm xa σ 0 h2 ∧ FrM h0 h2 ∧ Bk D z s.heap h2 H locs := ⟨_, hM.wth, hF.tr (FrM.up hM.1 (Or.inl rfl)), hB⟩
  refine j_iconst hx hb dX4_rows_5 ?_
  refine lv_istore_n (lv' := [(1, .int (iI 0)), (0, .ref xm)]) hx hb dX4_rows_6 rfl hl (by decide) rfl (fun ls hl => ?_)
  refine j_iconst hx hb dX4_rows_7 ?_
  refine lv_istore_n (lv' := [(2, .int (iI 0)), (1, .int (iI 0)), (0, .ref xm)]) hx hb dX4_rows_8 rfl hl (by decide) rfl (fun ls hl => ?_)
  have lp_9 : ∀ (fuel j : Nat) (a : Int), j ≤ (nrN σ) → (nrN σ) + 1 ≤ j + fuel → ∀ (ea : a = cnt (fun j => live σ j ∧ σ 4 (pn σ j) = 0) j) (H : Heap) (locs : List Loc), Bk D z s.heap h2 H locs → ∀ ls : Array Slot, lv_has ls 3 [(2, .int (iI (j : Int))), (1, .int (iI a)), (0, .ref xm)] → W p l e rmX4_rows s m args below meth c H locs 0 0 (MQ below (Qx D z (fun v u => ((True) ∧ v = some (.int (iI (cnt (fun j => live σ j ∧ σ 4 (pn σ j) = 0) (nrN σ)))) ∧ MR cI xm xa σ 0 u ∧ FrM h0 u))) args s (rmX4_rows).cells (rmX4_rows).slots (zA z)) (F0 m 9 ls []) := by
    intro fuel
    induction fuel with
    | zero => intro j a w1 w2; exact absurd w2 (by omega)
    | succ fuel ih9 =>
      intro j a w1 w2 ea H locs hB ls hl
      have ear := cnt_rg (fun j => live σ j ∧ σ 4 (pn σ j) = 0) j
      refine lv_iload_n hx hb dX4_rows_9 rfl (lv_at hl 0 rfl) ?_
      refine lv_aload_n hx hb dX4_rows_10 rfl (lv_at hl 2 rfl) ?_
      refine m_get hx hb hts (fun _ q => List.mem_cons_of_mem _ (List.mem_append_right _ q)) hown hK hB hM.1 (ci := 4) rfl 11 (by decide) (List.mem_of_getElem? (i := 2) rfl) rfl rfl dX4_rows_11 ?_
      have bd_1 := hI.bd 10 0
      refine j_icmp_ge (tgt := 39) hx hb dX4_rows_14 (by decide) ⟨by omega, by omega⟩ ⟨by omega, by omega⟩ (fun c_2 => ?_) (fun c_2 => ?_)
      · refine lv_iload_n hx hb dX4_rows_39 rfl (lv_at hl 1 rfl) ?_
        exact m_zret hx hb hr rfl hlocks hB (by decide) (by decide) dX4_rows_40 (by (repeat rw [Int.toNat_natCast]); exact ⟨trivial, ret_e (by rw [ea, show j = nrN σ by omega]), hM, hF⟩)
      · refine lv_iload_n hx hb dX4_rows_17 rfl (lv_at hl 1 rfl) ?_
        refine lv_aload_n hx hb dX4_rows_18 rfl (lv_at hl 2 rfl) ?_
        refine lv_iload_n hx hb dX4_rows_19 rfl (lv_at hl 0 rfl) ?_
        refine m_run (va_runV (As := [.int (iI (j : Int))]) (rest := [.int (iI a)]) ⟨hx, hb, hml, hown, hts⟩ (k_X4_isTabled (l := l) hM hI (j := j) (by omega)) (cwV 1 hts gX4_rows_X4_isTabled rfl rfl rfl (by decide +kernel) ⟨by decide, by decide⟩) ⟨Kp.blind _ _ _ _ _, m_recv hK hB (ci := 4) rfl hM.1, fun U hU hW => hK.pass hB U hU hW⟩ rfl rfl hl.1 rfl (lv_room (Nat.le_of_ble_eq_true rfl)) dX4_rows_20 ⟨Nat.le_of_ble_eq_true rfl, Nat.le_of_ble_eq_true rfl⟩) hB (fun v u H locs hp_3 hB => ?_)
        obtain ⟨rfl, rfl⟩ := hp_3
        show W _ _ _ _ _ _ _ _ _ _ _ _ _ _ _ (F0 m 23 ls [.int (iI (b2 (live σ j ∧ σ 4 (pn σ j) = 0))), .int (iI a)])
        refine j_ifeqP (tgt := 30) hx hb dX4_rows_23 (by decide) (fun c_4 => ?_) (fun c_4 => ?_)
        · refine j_iconst hx hb dX4_rows_30 ?_
          refine j_iadd hx hb dX4_rows_31 ?_
          refine lv_istore_n (lv' := [(1, .int (iI (a + 0))), (2, .int (iI (j : Int))), (0, .ref xm)]) hx hb dX4_rows_32 rfl hl (by decide) rfl (fun ls hl => ?_)
          refine j_iinc (lv' := [(2, .int (iI ((j + 1 : Nat) : Int))), (1, .int (iI (a + 0))), (0, .ref xm)]) hx hb dX4_rows_33 hl (k := 1) rfl (by decide) rfl (fun ls hl => ?_)
          refine lv_goto (tgt := 9) hx hb dX4_rows_36 (by decide) ?_
          exact ih9 (j + 1) (a + 0) (by omega) (by omega) (cs_z ea c_4) _ _ hB ls (lv_sub hl [0, 1, 2] rfl)
        · refine j_iconst hx hb dX4_rows_26 ?_
          refine lv_goto (tgt := 31) hx hb dX4_rows_27 (by decide) ?_
          refine j_iadd hx hb dX4_rows_31 ?_
          refine lv_istore_n (lv' := [(1, .int (iI (a + 1))), (2, .int (iI (j : Int))), (0, .ref xm)]) hx hb dX4_rows_32 rfl hl (by decide) rfl (fun ls hl => ?_)
          refine j_iinc (lv' := [(2, .int (iI ((j + 1 : Nat) : Int))), (1, .int (iI (a + 1))), (0, .ref xm)]) hx hb dX4_rows_33 hl (k := 1) rfl (by decide) rfl (fun ls hl => ?_)
          refine lv_goto (tgt := 9) hx hb dX4_rows_36 (by decide) ?_
          exact ih9 (j + 1) (a + 1) (by omega) (by omega) (cs_t ea c_4) _ _ hB ls (lv_sub hl [0, 1, 2] rfl)
  exact lp_9 ((nrN σ) + 1) 0 0 (by omega) (by omega) rfl _ _ hB ls (lv_sub hl [0, 1, 2] rfl)

abbrev rmX4_buildIndex : Room := { frames := 2, cells := 0, slots := 0, locals := 43 }
set_option maxHeartbeats 4000000 in
set_option maxRecDepth 100000 in
theorem k_X4_buildIndex {l : Launch} {D : va_G} {z : Nat} {cI cP cR cJ : ClassId} {h0 : Hp} {xm : Nat} {xa : Nat → Nat} {σ : Sg} {th : Int} (hM : MR cI xm xa σ th h0) (hI : Ib σ)  : Ct l D z (tyL cI cP cR cJ) yX4_buildIndex wsX4_buildIndex rmX4_buildIndex [.ref xm] h0 (fun v u => ((True) ∧ v = some (.int (iI (cnt (fun j => live (upS σ 11 0 0) j ∧ (upS σ 11 0 0) 4 (pn (upS σ 11 0 0) j) = 0) (nrN (upS σ 11 0 0))))) ∧ MR cI xm xa (upS σ 11 0 0) 0 u ∧ FrM h0 u)) := by
  refine Ct.of (cc := cX4_buildIndex) (maxL := 1) (ret := (some .int)) (by decide) rfl (Nat.le_of_ble_eq_true rfl) ?_
  intro p e s m args below meth c hx hb hr hts hown hlocks hml hnm hK hB ls hl
  have hl : lv_has ls 1 [(0, .ref xm)] := hl
  have hF := FrM.rf h0
  have hnp := hI.hnp
  have hnr := hI.hnr
  have hnrI := hI.nrI
  have hnpI := hI.npI
  have hre := hI.rest
  refine lv_aload_n hx hb dX4_buildIndex_0 rfl (lv_at hl 0 rfl) ?_
  refine j_iconst hx hb dX4_buildIndex_1 ?_
  refine m_put hx hb hts (fun _ q => List.mem_cons_of_mem _ (List.mem_append_right _ q)) tyX4 tyX4_ok nmX4 hown hK hB hM.1 (ci := 4) rfl 12 (by decide) (List.mem_of_getElem? (i := 1) rfl) rfl rfl (by decide) (by decide) (Nat.le_of_ble_eq_true rfl) dX4_buildIndex_2 (fun H locs hB => ?_)
  obtain ⟨h2, σ, eσ_1, hM, hF, hB, hI, e9⟩ : ∃ (h2 : Hp) (σ2 : Sg), σ2 = upS σ 11 0 0 ∧ MR cI xm xa σ2 th h2 ∧ FrM h0 h2 ∧ Bk D z s.heap h2 H locs ∧ Ib σ2 ∧ σ2 9 0 = σ 9 0 := ⟨_, _, rfl, hM.w11, hF.tr (FrM.up hM.1 (Or.inl rfl)), hB, hI.stale (by omega), upS_g (by decide)⟩
  have hnp := hI.hnp
  have hnr := hI.hnr
  have hnrI := hI.nrI
  refine lv_aload_n hx hb dX4_buildIndex_5 rfl (lv_at hl 0 rfl) ?_
  refine m_run (va_runV (As := []) (rest := []) ⟨hx, hb, hml, hown, hts⟩ (k_X4_rows (l := l) hM hI) (cwV 0 hts gX4_buildIndex_X4_rows rfl rfl rfl (by decide +kernel) ⟨by decide, by decide⟩) ⟨Kp.blind _ _ _ _ _, m_recv hK hB (ci := 4) rfl hM.1, fun U hU hW => hK.pass hB U hU hW⟩ rfl rfl hl.1 rfl (lv_room (Nat.le_of_ble_eq_true rfl)) dX4_buildIndex_6 ⟨Nat.le_of_ble_eq_true rfl, Nat.le_of_ble_eq_true rfl⟩) hB (fun v u H locs hp_2 hB => ?_)
  obtain ⟨_, rfl, hM, hFm⟩ := hp_2
  have hF := hF.tr hFm
  show W _ _ _ _ _ _ _ _ _ _ _ _ _ _ _ (F0 m 9 ls [.int (iI (cnt (fun j => live σ j ∧ σ 4 (pn σ j) = 0) (nrN σ)))])
  exact m_zret hx hb hr rfl hlocks hB (by decide) (by decide) dX4_buildIndex_9 (by (repeat rw [Int.toNat_natCast]); subst eσ_1; exact ⟨trivial, rfl, hM, hF⟩)

abbrev rmX4_stateOf : Room := { frames := 1, cells := 0, slots := 0, locals := 22 }
set_option maxHeartbeats 4000000 in
set_option maxRecDepth 100000 in
theorem k_X4_stateOf {l : Launch} {D : va_G} {z : Nat} {cI cP cR cJ : ClassId} {h0 : Hp} {xm : Nat} {xa : Nat → Nat} {σ : Sg} {th : Int} (hM : MR cI xm xa σ th h0) (hI : Ib σ) {n : Int} (rn : rg n) : Ct l D z (tyL cI cP cR cJ) yX4_stateOf wsX4_stateOf rmX4_stateOf [.ref xm, .int (iI n)] h0 (fun v u => ((0 ≤ n ∧ n ≤ σ 9 0) ∧ v = some (.int (iI (σ 4 n.toNat))) ∧ MR cI xm xa σ 0 u ∧ FrM h0 u) ∨ ((¬ (0 ≤ n ∧ n ≤ σ 9 0)) ∧ v = some (.int (iI 0)) ∧ MR cI xm xa σ 1 u ∧ FrM h0 u)) := by
  refine Ct.of (cc := cX4_stateOf) (maxL := 2) (ret := (some .int)) (by decide) rfl (Nat.le_of_ble_eq_true rfl) ?_
  intro p e s m args below meth c hx hb hr hts hown hlocks hml hnm hK hB ls hl
  have hl : lv_has ls 2 [(0, .ref xm), (1, .int (iI n))] := hl
  have hF := FrM.rf h0
  have hnp := hI.hnp
  have hnr := hI.hnr
  have hnrI := hI.nrI
  have hnpI := hI.npI
  have hre := hI.rest
  refine lv_aload_n hx hb dX4_stateOf_0 rfl (lv_at hl 0 rfl) ?_
  refine lv_iload_n hx hb dX4_stateOf_1 rfl (lv_at hl 1 rfl) ?_
  refine j_iconst hx hb dX4_stateOf_2 ?_
  refine lv_aload_n hx hb dX4_stateOf_3 rfl (lv_at hl 0 rfl) ?_
  refine m_get hx hb hts (fun _ q => List.mem_cons_of_mem _ (List.mem_append_right _ q)) hown hK hB hM.1 (ci := 4) rfl 6 (by decide) (List.mem_of_getElem? (i := 1) rfl) rfl rfl dX4_stateOf_4 ?_
  have bd_1 := hI.bd 9 0
  refine m_run (va_runS (As := [.int (iI n), .int (iI 0), .int (iI (σ 9 0))]) (rest := [.ref xm]) ⟨hx, hb, hml, hown, hts⟩ (k_X4_isIn (l := l) ⟨by omega, by omega⟩ ⟨by decide, by decide⟩ ⟨by omega, by omega⟩) (va_cwS 3 hts gX4_stateOf_X4_isIn rfl rfl rfl (by decide +kernel) ⟨by decide, by decide⟩) ⟨Kp.blind _ _ _ _ _, fun U hU hW => hK.pass hB U hU hW⟩ rfl rfl hl.1 rfl (lv_room (Nat.le_of_ble_eq_true rfl)) dX4_stateOf_7 ⟨Nat.le_of_ble_eq_true rfl, Nat.le_of_ble_eq_true rfl⟩) hB (fun v u H locs hp_2 hB => ?_)
  obtain ⟨rfl, rfl⟩ := hp_2
  show W _ _ _ _ _ _ _ _ _ _ _ _ _ _ _ (F0 m 10 ls [.int (iI (b2 (0 ≤ n ∧ n ≤ (σ 9 0)))), .ref xm])
  refine j_ifeqP (tgt := 17) hx hb dX4_stateOf_10 (by decide) (fun c_3 => ?_) (fun c_3 => ?_)
  · refine j_iconst hx hb dX4_stateOf_17 ?_
    refine m_run (va_runV (As := [.int (iI 1)]) (rest := []) ⟨hx, hb, hml, hown, hts⟩ (k_X4_isFine (l := l) (tc := 1) hM hI ⟨by decide, by decide⟩) (cwV 1 hts gX4_stateOf_X4_isFine rfl rfl rfl (by decide +kernel) ⟨by decide, by decide⟩) ⟨Kp.blind _ _ _ _ _, m_recv hK hB (ci := 4) rfl hM.1, fun U hU hW => hK.pass hB U hU hW⟩ rfl rfl hl.1 rfl (lv_room (Nat.le_of_ble_eq_true rfl)) dX4_stateOf_18 ⟨Nat.le_of_ble_eq_true rfl, Nat.le_of_ble_eq_true rfl⟩) hB (fun v u H locs hp_4 hB => ?_)
    obtain ⟨ev, hM, hFm⟩ := hp_4
    rw [b2_f (by decide)] at ev
    subst ev
    show W _ _ _ _ _ _ _ _ _ _ _ _ _ _ _ (F0 m 21 ls [.int (iI 0)])
    have hF := hF.tr hFm
    refine j_if_eq (tgt := 33) hx hb dX4_stateOf_21 (by decide) ⟨by decide, by decide⟩ (fun c_5 => ?_) (fun c_5 => absurd c_5 (by decide))
    refine j_iconst hx hb dX4_stateOf_33 ?_
    exact m_zret hx hb hr rfl hlocks hB (by decide) (by decide) dX4_stateOf_34 (by (repeat rw [Int.toNat_natCast]); exact Or.inr (⟨c_3, rfl, hM, hF⟩))
  · refine j_iconst hx hb dX4_stateOf_13 ?_
    refine lv_goto (tgt := 18) hx hb dX4_stateOf_14 (by decide) ?_
    refine m_run (va_runV (As := [.int (iI 0)]) (rest := []) ⟨hx, hb, hml, hown, hts⟩ (k_X4_isFine (l := l) (tc := 0) hM hI ⟨by decide, by decide⟩) (cwV 1 hts gX4_stateOf_X4_isFine rfl rfl rfl (by decide +kernel) ⟨by decide, by decide⟩) ⟨Kp.blind _ _ _ _ _, m_recv hK hB (ci := 4) rfl hM.1, fun U hU hW => hK.pass hB U hU hW⟩ rfl rfl hl.1 rfl (lv_room (Nat.le_of_ble_eq_true rfl)) dX4_stateOf_18 ⟨Nat.le_of_ble_eq_true rfl, Nat.le_of_ble_eq_true rfl⟩) hB (fun v u H locs hp_6 hB => ?_)
    obtain ⟨ev, hM, hFm⟩ := hp_6
    rw [b2_t (by decide)] at ev
    subst ev
    show W _ _ _ _ _ _ _ _ _ _ _ _ _ _ _ (F0 m 21 ls [.int (iI 1)])
    have hF := hF.tr hFm
    refine j_if_eq (tgt := 33) hx hb dX4_stateOf_21 (by decide) ⟨by decide, by decide⟩ (fun c_7 => absurd c_7 (by decide)) (fun c_7 => ?_)
    have hnn := c_3
    obtain ⟨ia, rfl⟩ : ∃ ia : Nat, n = (ia : Int) := ⟨n.toNat, by omega⟩
    refine lv_aload_n hx hb dX4_stateOf_24 rfl (lv_at hl 0 rfl) ?_
    refine m_get hx hb hts (fun _ q => List.mem_cons_of_mem _ (List.mem_append_right _ q)) hown hK hB hM.1 (ci := 4) rfl 5 (by decide) (List.mem_of_getElem? (i := 2) rfl) rfl rfl dX4_stateOf_25 ?_
    refine lv_iload_n hx hb dX4_stateOf_28 rfl (lv_at hl 1 rfl) ?_
    refine m_mld hx hb hK hB hM 4 (by decide) (i := ia) (show ia < 16 by omega) dX4_stateOf_29 ?_
    refine lv_goto (tgt := 34) hx hb dX4_stateOf_30 (by decide) ?_
    exact m_zret hx hb hr rfl hlocks hB (by decide) (by decide) dX4_stateOf_34 (by (repeat rw [Int.toNat_natCast]); exact Or.inl (⟨c_3, rfl, hM, hF⟩))

abbrev rmX4_partOf : Room := { frames := 3, cells := 0, slots := 0, locals := 66 }
set_option maxHeartbeats 4000000 in
set_option maxRecDepth 100000 in
theorem k_X4_partOf {l : Launch} {D : va_G} {z : Nat} {cI cP cR cJ : ClassId} {h0 : Hp} {xm : Nat} {xa : Nat → Nat} {σ : Sg} {th : Int} (hM : MR cI xm xa σ th h0) (hI : Ib σ) {ky : Int} (rk : rg ky) : Ct l D z (tyL cI cP cR cJ) yX4_partOf wsX4_partOf rmX4_partOf [.ref xm, .int (iI ky)] h0 (fun v u => ((0 ≤ ky ∧ ky ≤ 999) ∧ v = some (.int (iI ((pw σ ky : Nat) : Int))) ∧ MR cI xm xa σ 0 u ∧ FrM h0 u) ∨ ((¬ (0 ≤ ky ∧ ky ≤ 999)) ∧ v = some (.int (iI 0)) ∧ MR cI xm xa σ 1 u ∧ FrM h0 u)) := by
  refine Ct.of (cc := cX4_partOf) (maxL := 2) (ret := (some .int)) (by decide) rfl (Nat.le_of_ble_eq_true rfl) ?_
  intro p e s m args below meth c hx hb hr hts hown hlocks hml hnm hK hB ls hl
  have hl : lv_has ls 2 [(0, .ref xm), (1, .int (iI ky))] := hl
  have hF := FrM.rf h0
  have hnp := hI.hnp
  have hnr := hI.hnr
  have hnrI := hI.nrI
  have hnpI := hI.npI
  have hre := hI.rest
  refine lv_aload_n hx hb dX4_partOf_0 rfl (lv_at hl 0 rfl) ?_
  refine lv_iload_n hx hb dX4_partOf_1 rfl (lv_at hl 1 rfl) ?_
  refine m_run (va_runS (As := [.int (iI ky)]) (rest := [.ref xm]) ⟨hx, hb, hml, hown, hts⟩ (k_X4_isKey (l := l) ⟨by omega, by omega⟩) (va_cwS 1 hts gX4_partOf_X4_isKey rfl rfl rfl (by decide +kernel) ⟨by decide, by decide⟩) ⟨Kp.blind _ _ _ _ _, fun U hU hW => hK.pass hB U hU hW⟩ rfl rfl hl.1 rfl (lv_room (Nat.le_of_ble_eq_true rfl)) dX4_partOf_2 ⟨Nat.le_of_ble_eq_true rfl, Nat.le_of_ble_eq_true rfl⟩) hB (fun v u H locs hp_1 hB => ?_)
  obtain ⟨rfl, rfl⟩ := hp_1
  show W _ _ _ _ _ _ _ _ _ _ _ _ _ _ _ (F0 m 5 ls [.int (iI (b2 (0 ≤ ky ∧ ky ≤ 999))), .ref xm])
  refine j_ifeqP (tgt := 12) hx hb dX4_partOf_5 (by decide) (fun c_2 => ?_) (fun c_2 => ?_)
  · refine j_iconst hx hb dX4_partOf_12 ?_
    refine m_run (va_runV (As := [.int (iI 1)]) (rest := []) ⟨hx, hb, hml, hown, hts⟩ (k_X4_isFine (l := l) (tc := 1) hM hI ⟨by decide, by decide⟩) (cwV 1 hts gX4_partOf_X4_isFine rfl rfl rfl (by decide +kernel) ⟨by decide, by decide⟩) ⟨Kp.blind _ _ _ _ _, m_recv hK hB (ci := 4) rfl hM.1, fun U hU hW => hK.pass hB U hU hW⟩ rfl rfl hl.1 rfl (lv_room (Nat.le_of_ble_eq_true rfl)) dX4_partOf_13 ⟨Nat.le_of_ble_eq_true rfl, Nat.le_of_ble_eq_true rfl⟩) hB (fun v u H locs hp_3 hB => ?_)
    obtain ⟨ev, hM, hFm⟩ := hp_3
    rw [b2_f (by decide)] at ev
    subst ev
    show W _ _ _ _ _ _ _ _ _ _ _ _ _ _ _ (F0 m 16 ls [.int (iI 0)])
    have hF := hF.tr hFm
    refine j_if_eq (tgt := 27) hx hb dX4_partOf_16 (by decide) ⟨by decide, by decide⟩ (fun c_4 => ?_) (fun c_4 => absurd c_4 (by decide))
    refine j_iconst hx hb dX4_partOf_27 ?_
    exact m_zret hx hb hr rfl hlocks hB (by decide) (by decide) dX4_partOf_28 (by (repeat rw [Int.toNat_natCast]); exact Or.inr (⟨c_2, rfl, hM, hF⟩))
  · refine j_iconst hx hb dX4_partOf_8 ?_
    refine lv_goto (tgt := 13) hx hb dX4_partOf_9 (by decide) ?_
    refine m_run (va_runV (As := [.int (iI 0)]) (rest := []) ⟨hx, hb, hml, hown, hts⟩ (k_X4_isFine (l := l) (tc := 0) hM hI ⟨by decide, by decide⟩) (cwV 1 hts gX4_partOf_X4_isFine rfl rfl rfl (by decide +kernel) ⟨by decide, by decide⟩) ⟨Kp.blind _ _ _ _ _, m_recv hK hB (ci := 4) rfl hM.1, fun U hU hW => hK.pass hB U hU hW⟩ rfl rfl hl.1 rfl (lv_room (Nat.le_of_ble_eq_true rfl)) dX4_partOf_13 ⟨Nat.le_of_ble_eq_true rfl, Nat.le_of_ble_eq_true rfl⟩) hB (fun v u H locs hp_5 hB => ?_)
    obtain ⟨ev, hM, hFm⟩ := hp_5
    rw [b2_t (by decide)] at ev
    subst ev
    show W _ _ _ _ _ _ _ _ _ _ _ _ _ _ _ (F0 m 16 ls [.int (iI 1)])
    have hF := hF.tr hFm
    refine j_if_eq (tgt := 27) hx hb dX4_partOf_16 (by decide) ⟨by decide, by decide⟩ (fun c_6 => absurd c_6 (by decide)) (fun c_6 => ?_)
    refine lv_aload_n hx hb dX4_partOf_19 rfl (lv_at hl 0 rfl) ?_
    refine lv_iload_n hx hb dX4_partOf_20 rfl (lv_at hl 1 rfl) ?_
    refine m_run (va_runV (As := [.int (iI ky)]) (rest := []) ⟨hx, hb, hml, hown, hts⟩ (k_X4_partWith (l := l) hM hI ⟨by omega, by omega⟩) (cwV 1 hts gX4_partOf_X4_partWith rfl rfl rfl (by decide +kernel) ⟨by decide, by decide⟩) ⟨Kp.blind _ _ _ _ _, m_recv hK hB (ci := 4) rfl hM.1, fun U hU hW => hK.pass hB U hU hW⟩ rfl rfl hl.1 rfl (lv_room (Nat.le_of_ble_eq_true rfl)) dX4_partOf_21 ⟨Nat.le_of_ble_eq_true rfl, Nat.le_of_ble_eq_true rfl⟩) hB (fun v u H locs hp_8 hB => ?_)
    obtain ⟨rfl, rfl⟩ := hp_8
    show W _ _ _ _ _ _ _ _ _ _ _ _ _ _ _ (F0 m 24 ls [.int (iI ((pw σ ky : Nat) : Int))])
    have pwl_7 := pw_le hI ky
    refine lv_goto (tgt := 28) hx hb dX4_partOf_24 (by decide) ?_
    exact m_zret hx hb hr rfl hlocks hB (by decide) (by decide) dX4_partOf_28 (by (repeat rw [Int.toNat_natCast]); exact Or.inl (⟨c_2, rfl, hM, hF⟩))

abbrev rmX4_leafOf : Room := { frames := 2, cells := 0, slots := 0, locals := 44 }
set_option maxHeartbeats 4000000 in
set_option maxRecDepth 100000 in
theorem k_X4_leafOf {l : Launch} {D : va_G} {z : Nat} {cI cP cR cJ : ClassId} {h0 : Hp} {xm : Nat} {xa : Nat → Nat} {σ : Sg} {th : Int} (hM : MR cI xm xa σ th h0) (hI : Ib σ) {n : Int} (rn : rg n) : Ct l D z (tyL cI cP cR cJ) yX4_leafOf wsX4_leafOf rmX4_leafOf [.ref xm, .int (iI n)] h0 (fun v u => ((isR σ n) ∧ v = some (.int (iI (10 * ((pn σ n.toNat : Nat) : Int) + lfr σ n.toNat))) ∧ MR cI xm xa σ 0 u ∧ FrM h0 u) ∨ ((¬ isR σ n) ∧ v = some (.int (iI 0)) ∧ MR cI xm xa σ 1 u ∧ FrM h0 u)) := by
  refine Ct.of (cc := cX4_leafOf) (maxL := 2) (ret := (some .int)) (by decide) rfl (Nat.le_of_ble_eq_true rfl) ?_
  intro p e s m args below meth c hx hb hr hts hown hlocks hml hnm hK hB ls hl
  have hl : lv_has ls 2 [(0, .ref xm), (1, .int (iI n))] := hl
  have hF := FrM.rf h0
  have hnp := hI.hnp
  have hnr := hI.hnr
  have hnrI := hI.nrI
  have hnpI := hI.npI
  have hre := hI.rest
  refine lv_aload_n hx hb dX4_leafOf_0 rfl (lv_at hl 0 rfl) ?_
  refine lv_aload_n hx hb dX4_leafOf_1 rfl (lv_at hl 0 rfl) ?_
  refine lv_iload_n hx hb dX4_leafOf_2 rfl (lv_at hl 1 rfl) ?_
  refine m_run (va_runV (As := [.int (iI n)]) (rest := [.ref xm]) ⟨hx, hb, hml, hown, hts⟩ (k_X4_isRow (l := l) hM hI ⟨by omega, by omega⟩) (cwV 1 hts gX4_leafOf_X4_isRow rfl rfl rfl (by decide +kernel) ⟨by decide, by decide⟩) ⟨Kp.blind _ _ _ _ _, m_recv hK hB (ci := 4) rfl hM.1, fun U hU hW => hK.pass hB U hU hW⟩ rfl rfl hl.1 rfl (lv_room (Nat.le_of_ble_eq_true rfl)) dX4_leafOf_3 ⟨Nat.le_of_ble_eq_true rfl, Nat.le_of_ble_eq_true rfl⟩) hB (fun v u H locs hp_1 hB => ?_)
  obtain ⟨rfl, rfl⟩ := hp_1
  show W _ _ _ _ _ _ _ _ _ _ _ _ _ _ _ (F0 m 6 ls [.int (iI (b2 (isR σ n))), .ref xm])
  refine j_ifeqP (tgt := 13) hx hb dX4_leafOf_6 (by decide) (fun c_2 => ?_) (fun c_2 => ?_)
  · refine j_iconst hx hb dX4_leafOf_13 ?_
    refine m_run (va_runV (As := [.int (iI 1)]) (rest := []) ⟨hx, hb, hml, hown, hts⟩ (k_X4_isFine (l := l) (tc := 1) hM hI ⟨by decide, by decide⟩) (cwV 1 hts gX4_leafOf_X4_isFine rfl rfl rfl (by decide +kernel) ⟨by decide, by decide⟩) ⟨Kp.blind _ _ _ _ _, m_recv hK hB (ci := 4) rfl hM.1, fun U hU hW => hK.pass hB U hU hW⟩ rfl rfl hl.1 rfl (lv_room (Nat.le_of_ble_eq_true rfl)) dX4_leafOf_14 ⟨Nat.le_of_ble_eq_true rfl, Nat.le_of_ble_eq_true rfl⟩) hB (fun v u H locs hp_3 hB => ?_)
    obtain ⟨ev, hM, hFm⟩ := hp_3
    rw [b2_f (by decide)] at ev
    subst ev
    show W _ _ _ _ _ _ _ _ _ _ _ _ _ _ _ (F0 m 17 ls [.int (iI 0)])
    have hF := hF.tr hFm
    refine j_if_eq (tgt := 28) hx hb dX4_leafOf_17 (by decide) ⟨by decide, by decide⟩ (fun c_4 => ?_) (fun c_4 => absurd c_4 (by decide))
    refine j_iconst hx hb dX4_leafOf_28 ?_
    exact m_zret hx hb hr rfl hlocks hB (by decide) (by decide) dX4_leafOf_29 (by (repeat rw [Int.toNat_natCast]); exact Or.inr (⟨c_2, rfl, hM, hF⟩))
  · refine j_iconst hx hb dX4_leafOf_9 ?_
    refine lv_goto (tgt := 14) hx hb dX4_leafOf_10 (by decide) ?_
    refine m_run (va_runV (As := [.int (iI 0)]) (rest := []) ⟨hx, hb, hml, hown, hts⟩ (k_X4_isFine (l := l) (tc := 0) hM hI ⟨by decide, by decide⟩) (cwV 1 hts gX4_leafOf_X4_isFine rfl rfl rfl (by decide +kernel) ⟨by decide, by decide⟩) ⟨Kp.blind _ _ _ _ _, m_recv hK hB (ci := 4) rfl hM.1, fun U hU hW => hK.pass hB U hU hW⟩ rfl rfl hl.1 rfl (lv_room (Nat.le_of_ble_eq_true rfl)) dX4_leafOf_14 ⟨Nat.le_of_ble_eq_true rfl, Nat.le_of_ble_eq_true rfl⟩) hB (fun v u H locs hp_5 hB => ?_)
    obtain ⟨ev, hM, hFm⟩ := hp_5
    rw [b2_t (by decide)] at ev
    subst ev
    show W _ _ _ _ _ _ _ _ _ _ _ _ _ _ _ (F0 m 17 ls [.int (iI 1)])
    have hF := hF.tr hFm
    refine j_if_eq (tgt := 28) hx hb dX4_leafOf_17 (by decide) ⟨by decide, by decide⟩ (fun c_6 => absurd c_6 (by decide)) (fun c_6 => ?_)
    have hnn : 0 ≤ n := by have w := c_2; unfold isR at w; omega
    obtain ⟨ja, rfl⟩ : ∃ ja : Nat, n = (ja : Int) := ⟨n.toNat, by omega⟩
    have hl0 := isR_j.mp c_2
    have hlo := hl0
    have rfj := hI.row ja hl0
    have pnj := hI.pnI ja hl0
    refine lv_aload_n hx hb dX4_leafOf_20 rfl (lv_at hl 0 rfl) ?_
    refine lv_iload_n hx hb dX4_leafOf_21 rfl (lv_at hl 1 rfl) ?_
    refine m_run (va_runV (As := [.int (iI (ja : Int))]) (rest := []) ⟨hx, hb, hml, hown, hts⟩ (k_X4_place (l := l) hM hI (j := ja) hl0) (cwV 1 hts gX4_leafOf_X4_place rfl rfl rfl (by decide +kernel) ⟨by decide, by decide⟩) ⟨Kp.blind _ _ _ _ _, m_recv hK hB (ci := 4) rfl hM.1, fun U hU hW => hK.pass hB U hU hW⟩ rfl rfl hl.1 rfl (lv_room (Nat.le_of_ble_eq_true rfl)) dX4_leafOf_22 ⟨Nat.le_of_ble_eq_true rfl, Nat.le_of_ble_eq_true rfl⟩) hB (fun v u H locs hp_7 hB => ?_)
    obtain ⟨rfl, rfl⟩ := hp_7
    show W _ _ _ _ _ _ _ _ _ _ _ _ _ _ _ (F0 m 25 ls [.int (iI (10 * ((pn σ ja : Nat) : Int) + lfr σ ja))])
    refine lv_goto (tgt := 29) hx hb dX4_leafOf_25 (by decide) ?_
    exact m_zret hx hb hr rfl hlocks hB (by decide) (by decide) dX4_leafOf_29 (by (repeat rw [Int.toNat_natCast]); exact Or.inl (⟨c_2, rfl, hM, hF⟩))

abbrev rmX4_rowsIn : Room := { frames := 4, cells := 0, slots := 0, locals := 86 }
set_option maxHeartbeats 4000000 in
set_option maxRecDepth 100000 in
theorem k_X4_rowsIn {l : Launch} {D : va_G} {z : Nat} {cI cP cR cJ : ClassId} {h0 : Hp} {xm : Nat} {xa : Nat → Nat} {σ : Sg} {th : Int} (hM : MR cI xm xa σ th h0) (hI : Ib σ) {n le : Int} (rn : rg n) (rl : rg le) : Ct l D z (tyL cI cP cR cJ) yX4_rowsIn wsX4_rowsIn rmX4_rowsIn [.ref xm, .int (iI n), .int (iI le)] h0 (fun v u => ((isL σ n le) ∧ v = some (.int (iI (cnt (fun j => live σ j ∧ (pn σ j = n.toNat ∧ lfr σ j = le)) (nrN σ)))) ∧ MR cI xm xa σ 0 u ∧ FrM h0 u) ∨ ((¬ isL σ n le) ∧ v = some (.int (iI 0)) ∧ MR cI xm xa σ 1 u ∧ FrM h0 u)) := by
  refine Ct.of (cc := cX4_rowsIn) (maxL := 5) (ret := (some .int)) (by decide) rfl (Nat.le_of_ble_eq_true rfl) ?_
  intro p e s m args below meth c hx hb hr hts hown hlocks hml hnm hK hB ls hl
  have hl : lv_has ls 5 [(0, .ref xm), (1, .int (iI n)), (2, .int (iI le))] := hl
  have hF := FrM.rf h0
  have hnp := hI.hnp
  have hnr := hI.hnr
  have hnrI := hI.nrI
  have hnpI := hI.npI
  have hre := hI.rest
  refine lv_aload_n hx hb dX4_rowsIn_0 rfl (lv_at hl 0 rfl) ?_
  refine lv_aload_n hx hb dX4_rowsIn_1 rfl (lv_at hl 0 rfl) ?_
  refine lv_iload_n hx hb dX4_rowsIn_2 rfl (lv_at hl 1 rfl) ?_
  refine lv_iload_n hx hb dX4_rowsIn_3 rfl (lv_at hl 2 rfl) ?_
  refine m_run (va_runV (As := [.int (iI n), .int (iI le)]) (rest := [.ref xm]) ⟨hx, hb, hml, hown, hts⟩ (k_X4_isLeaf (l := l) hM hI ⟨by omega, by omega⟩ ⟨by omega, by omega⟩) (cwV 2 hts gX4_rowsIn_X4_isLeaf rfl rfl rfl (by decide +kernel) ⟨by decide, by decide⟩) ⟨Kp.blind _ _ _ _ _, m_recv hK hB (ci := 4) rfl hM.1, fun U hU hW => hK.pass hB U hU hW⟩ rfl rfl hl.1 rfl (lv_room (Nat.le_of_ble_eq_true rfl)) dX4_rowsIn_4 ⟨Nat.le_of_ble_eq_true rfl, Nat.le_of_ble_eq_true rfl⟩) hB (fun v u H locs hp_1 hB => ?_)
  obtain ⟨rfl, rfl⟩ := hp_1
  show W _ _ _ _ _ _ _ _ _ _ _ _ _ _ _ (F0 m 7 ls [.int (iI (b2 (isL σ n le))), .ref xm])
  refine j_ifeqP (tgt := 14) hx hb dX4_rowsIn_7 (by decide) (fun c_2 => ?_) (fun c_2 => ?_)
  · refine j_iconst hx hb dX4_rowsIn_14 ?_
    refine m_run (va_runV (As := [.int (iI 1)]) (rest := []) ⟨hx, hb, hml, hown, hts⟩ (k_X4_isFine (l := l) (tc := 1) hM hI ⟨by decide, by decide⟩) (cwV 1 hts gX4_rowsIn_X4_isFine rfl rfl rfl (by decide +kernel) ⟨by decide, by decide⟩) ⟨Kp.blind _ _ _ _ _, m_recv hK hB (ci := 4) rfl hM.1, fun U hU hW => hK.pass hB U hU hW⟩ rfl rfl hl.1 rfl (lv_room (Nat.le_of_ble_eq_true rfl)) dX4_rowsIn_15 ⟨Nat.le_of_ble_eq_true rfl, Nat.le_of_ble_eq_true rfl⟩) hB (fun v u H locs hp_3 hB => ?_)
    obtain ⟨ev, hM, hFm⟩ := hp_3
    rw [b2_f (by decide)] at ev
    subst ev
    show W _ _ _ _ _ _ _ _ _ _ _ _ _ _ _ (F0 m 18 ls [.int (iI 0)])
    have hF := hF.tr hFm
    refine j_if_ne (tgt := 23) hx hb dX4_rowsIn_18 (by decide) ⟨by decide, by decide⟩ (fun c_4 => absurd c_4 (by decide)) (fun c_4 => ?_)
    refine j_iconst hx hb dX4_rowsIn_21 ?_
    exact m_zret hx hb hr rfl hlocks hB (by decide) (by decide) dX4_rowsIn_22 (by (repeat rw [Int.toNat_natCast]); exact Or.inr (⟨c_2, rfl, hM, hF⟩))
  · refine j_iconst hx hb dX4_rowsIn_10 ?_
    refine lv_goto (tgt := 15) hx hb dX4_rowsIn_11 (by decide) ?_
    refine m_run (va_runV (As := [.int (iI 0)]) (rest := []) ⟨hx, hb, hml, hown, hts⟩ (k_X4_isFine (l := l) (tc := 0) hM hI ⟨by decide, by decide⟩) (cwV 1 hts gX4_rowsIn_X4_isFine rfl rfl rfl (by decide +kernel) ⟨by decide, by decide⟩) ⟨Kp.blind _ _ _ _ _, m_recv hK hB (ci := 4) rfl hM.1, fun U hU hW => hK.pass hB U hU hW⟩ rfl rfl hl.1 rfl (lv_room (Nat.le_of_ble_eq_true rfl)) dX4_rowsIn_15 ⟨Nat.le_of_ble_eq_true rfl, Nat.le_of_ble_eq_true rfl⟩) hB (fun v u H locs hp_5 hB => ?_)
    obtain ⟨ev, hM, hFm⟩ := hp_5
    rw [b2_t (by decide)] at ev
    subst ev
    show W _ _ _ _ _ _ _ _ _ _ _ _ _ _ _ (F0 m 18 ls [.int (iI 1)])
    have hF := hF.tr hFm
    refine j_if_ne (tgt := 23) hx hb dX4_rowsIn_18 (by decide) ⟨by decide, by decide⟩ (fun c_6 => ?_) (fun c_6 => absurd c_6 (by decide))
    have hnn : 0 ≤ n := by have w := (c_2).1; unfold isA isP at w; omega
    obtain ⟨ia, rfl⟩ : ∃ ia : Nat, n = (ia : Int) := ⟨n.toNat, by omega⟩
    have hil := (isL_i hI).mp c_2
    refine j_iconst hx hb dX4_rowsIn_23 ?_
    refine lv_istore_n (lv' := [(3, .int (iI 0)), (0, .ref xm), (1, .int (iI (ia : Int))), (2, .int (iI le))]) hx hb dX4_rowsIn_24 rfl hl (by decide) rfl (fun ls hl => ?_)
    refine j_iconst hx hb dX4_rowsIn_25 ?_
    refine lv_istore (lv' := [(4, .int (iI 0)), (3, .int (iI 0)), (0, .ref xm), (1, .int (iI (ia : Int))), (2, .int (iI le))]) hx hb dX4_rowsIn_26 hl (by decide) rfl (fun ls hl => ?_)
    have lp_28 : ∀ (fuel j : Nat) (a : Int), j ≤ (nrN σ) → (nrN σ) + 1 ≤ j + fuel → ∀ (ea : a = cnt (fun j => live σ j ∧ (pn σ j = ia ∧ lfr σ j = le)) j) (H : Heap) (locs : List Loc), Bk D z s.heap u H locs → ∀ ls : Array Slot, lv_has ls 5 [(4, .int (iI (j : Int))), (3, .int (iI a)), (0, .ref xm), (1, .int (iI (ia : Int))), (2, .int (iI le))] → W p l e rmX4_rowsIn s m args below meth c H locs 0 0 (MQ below (Qx D z (fun v u => ((isL σ (ia : Int) le) ∧ v = some (.int (iI (cnt (fun j => live σ j ∧ (pn σ j = (ia : Int).toNat ∧ lfr σ j = le)) (nrN σ)))) ∧ MR cI xm xa σ 0 u ∧ FrM h0 u) ∨ ((¬ isL σ (ia : Int) le) ∧ v = some (.int (iI 0)) ∧ MR cI xm xa σ 1 u ∧ FrM h0 u))) args s (rmX4_rowsIn).cells (rmX4_rowsIn).slots (zA z)) (F0 m 28 ls []) := by
      intro fuel
      induction fuel with
      | zero => intro j a w1 w2; exact absurd w2 (by omega)
      | succ fuel ih28 =>
        intro j a w1 w2 ea H locs hB ls hl
        have ear := cnt_rg (fun j => live σ j ∧ (pn σ j = ia ∧ lfr σ j = le)) j
        refine lv_iload hx hb dX4_rowsIn_28 (lv_at hl 0 rfl) ?_
        refine lv_aload_n hx hb dX4_rowsIn_30 rfl (lv_at hl 2 rfl) ?_
        refine m_get hx hb hts (fun _ q => List.mem_cons_of_mem _ (List.mem_append_right _ q)) hown hK hB hM.1 (ci := 4) rfl 11 (by decide) (List.mem_of_getElem? (i := 1) rfl) rfl rfl dX4_rowsIn_31 ?_
        have bd_7 := hI.bd 10 0
        refine j_icmp_ge (tgt := 85) hx hb dX4_rowsIn_34 (by decide) ⟨by omega, by omega⟩ ⟨by omega, by omega⟩ (fun c_8 => ?_) (fun c_8 => ?_)
        · refine lv_iload_n hx hb dX4_rowsIn_85 rfl (lv_at hl 1 rfl) ?_
          exact m_zret hx hb hr rfl hlocks hB (by decide) (by decide) dX4_rowsIn_86 (by (repeat rw [Int.toNat_natCast]); exact Or.inl (⟨c_2, ret_e (by rw [ea, show j = nrN σ by omega]), hM, hF⟩))
        · refine lv_iload_n hx hb dX4_rowsIn_37 rfl (lv_at hl 1 rfl) ?_
          refine lv_aload_n hx hb dX4_rowsIn_38 rfl (lv_at hl 2 rfl) ?_
          refine m_get hx hb hts (fun _ q => List.mem_cons_of_mem _ (List.mem_append_right _ q)) hown hK hB hM.1 (ci := 4) rfl 7 (by decide) (List.mem_of_getElem? (i := 2) rfl) rfl rfl dX4_rowsIn_39 ?_
          refine lv_iload hx hb dX4_rowsIn_42 (lv_at hl 0 rfl) ?_
          refine m_mld hx hb hK hB hM 5 (by decide) (i := j) (show j < 200 by omega) dX4_rowsIn_44 ?_
          refine lv_iload_n hx hb dX4_rowsIn_45 rfl (lv_at hl 3 rfl) ?_
          have bd_9 := hI.bd 5 j
          refine j_icmp_ne (tgt := 76) hx hb dX4_rowsIn_46 (by decide) ⟨by omega, by omega⟩ ⟨by omega, by omega⟩ (fun c_10 => ?_) (fun c_10 => ?_)
          · refine j_iconst hx hb dX4_rowsIn_76 ?_
            refine j_iadd hx hb dX4_rowsIn_77 ?_
            refine lv_istore_n (lv' := [(3, .int (iI (a + 0))), (4, .int (iI (j : Int))), (0, .ref xm), (1, .int (iI (ia : Int))), (2, .int (iI le))]) hx hb dX4_rowsIn_78 rfl hl (by decide) rfl (fun ls hl => ?_)
            refine j_iinc (lv' := [(4, .int (iI ((j + 1 : Nat) : Int))), (3, .int (iI (a + 0))), (0, .ref xm), (1, .int (iI (ia : Int))), (2, .int (iI le))]) hx hb dX4_rowsIn_79 hl (k := 1) rfl (by decide) rfl (fun ls hl => ?_)
            refine lv_goto (tgt := 28) hx hb dX4_rowsIn_82 (by decide) ?_
            exact ih28 (j + 1) (a + 0) (by omega) (by omega) (cs_z ea (fun q => c_10 (hI.pn5 q.1 q.2.1))) _ _ hB ls (lv_sub hl [0, 1, 2, 3, 4] rfl)
          · have hl1 : live σ j := ⟨by omega, by omega⟩
            have rfj := hI.row j hl1
            have hkd := hI.kd ia (by omega)
            have lfb := lf_rg (k := σ 2 ia) (d := σ 3 ia) (key := σ 6 j) (sr := σ 7 j) hkd
            refine lv_aload_n hx hb dX4_rowsIn_49 rfl (lv_at hl 2 rfl) ?_
            refine lv_iload_n hx hb dX4_rowsIn_50 rfl (lv_at hl 3 rfl) ?_
            refine lv_aload_n hx hb dX4_rowsIn_51 rfl (lv_at hl 2 rfl) ?_
            refine m_get hx hb hts (fun _ q => List.mem_cons_of_mem _ (List.mem_append_right _ q)) hown hK hB hM.1 (ci := 4) rfl 8 (by decide) (List.mem_of_getElem? (i := 3) rfl) rfl rfl dX4_rowsIn_52 ?_
            refine lv_iload hx hb dX4_rowsIn_55 (lv_at hl 0 rfl) ?_
            refine m_mld hx hb hK hB hM 6 (by decide) (i := j) (show j < 200 by omega) dX4_rowsIn_57 ?_
            refine lv_aload_n hx hb dX4_rowsIn_58 rfl (lv_at hl 2 rfl) ?_
            refine m_get hx hb hts (fun _ q => List.mem_cons_of_mem _ (List.mem_append_right _ q)) hown hK hB hM.1 (ci := 4) rfl 9 (by decide) (List.mem_of_getElem? (i := 4) rfl) rfl rfl dX4_rowsIn_59 ?_
            refine lv_iload hx hb dX4_rowsIn_62 (lv_at hl 0 rfl) ?_
            refine m_mld hx hb hK hB hM 7 (by decide) (i := j) (show j < 200 by omega) dX4_rowsIn_64 ?_
            refine m_run (va_runV (As := [.int (iI (ia : Int)), .int (iI (σ 6 j)), .int (iI (σ 7 j))]) (rest := [.int (iI a)]) ⟨hx, hb, hml, hown, hts⟩ (k_X4_leaf (l := l) hM hI (i := ia) (by omega) (k := (σ 6 j)) (s_ := (σ 7 j)) (by omega) (by omega) (by omega) (by omega)) (cwV 3 hts gX4_rowsIn_X4_leaf rfl rfl rfl (by decide +kernel) ⟨by decide, by decide⟩) ⟨Kp.blind _ _ _ _ _, m_recv hK hB (ci := 4) rfl hM.1, fun U hU hW => hK.pass hB U hU hW⟩ rfl rfl hl.1 rfl (lv_room (Nat.le_of_ble_eq_true rfl)) dX4_rowsIn_65 ⟨Nat.le_of_ble_eq_true rfl, Nat.le_of_ble_eq_true rfl⟩) hB (fun v u H locs hp_11 hB => ?_)
            obtain ⟨rfl, rfl⟩ := hp_11
            show W _ _ _ _ _ _ _ _ _ _ _ _ _ _ _ (F0 m 68 ls [.int (iI (lf (σ 2 ia) (σ 3 ia) (σ 6 j) (σ 7 j))), .int (iI a)])
            refine lv_iload_n hx hb dX4_rowsIn_68 rfl (lv_at hl 4 rfl) ?_
            have bd_12 := hI.bd 2 ia
            have bd_13 := hI.bd 3 ia
            have bd_14 := hI.bd 6 j
            have bd_15 := hI.bd 7 j
            refine j_icmp_ne (tgt := 76) hx hb dX4_rowsIn_69 (by decide) ⟨by omega, by omega⟩ ⟨by omega, by omega⟩ (fun c_16 => ?_) (fun c_16 => ?_)
            · refine j_iconst hx hb dX4_rowsIn_76 ?_
              refine j_iadd hx hb dX4_rowsIn_77 ?_
              refine lv_istore_n (lv' := [(3, .int (iI (a + 0))), (4, .int (iI (j : Int))), (0, .ref xm), (1, .int (iI (ia : Int))), (2, .int (iI le))]) hx hb dX4_rowsIn_78 rfl hl (by decide) rfl (fun ls hl => ?_)
              refine j_iinc (lv' := [(4, .int (iI ((j + 1 : Nat) : Int))), (3, .int (iI (a + 0))), (0, .ref xm), (1, .int (iI (ia : Int))), (2, .int (iI le))]) hx hb dX4_rowsIn_79 hl (k := 1) rfl (by decide) rfl (fun ls hl => ?_)
              refine lv_goto (tgt := 28) hx hb dX4_rowsIn_82 (by decide) ?_
              exact ih28 (j + 1) (a + 0) (by omega) (by omega) (cs_z ea (fun q => c_16 (by have w := q.2.2; unfold lfr at w; rw [q.2.1] at w; exact w))) _ _ hB ls (lv_sub hl [0, 1, 2, 3, 4] rfl)
            · refine j_iconst hx hb dX4_rowsIn_72 ?_
              refine lv_goto (tgt := 77) hx hb dX4_rowsIn_73 (by decide) ?_
              refine j_iadd hx hb dX4_rowsIn_77 ?_
              refine lv_istore_n (lv' := [(3, .int (iI (a + 1))), (4, .int (iI (j : Int))), (0, .ref xm), (1, .int (iI (ia : Int))), (2, .int (iI le))]) hx hb dX4_rowsIn_78 rfl hl (by decide) rfl (fun ls hl => ?_)
              refine j_iinc (lv' := [(4, .int (iI ((j + 1 : Nat) : Int))), (3, .int (iI (a + 1))), (0, .ref xm), (1, .int (iI (ia : Int))), (2, .int (iI le))]) hx hb dX4_rowsIn_79 hl (k := 1) rfl (by decide) rfl (fun ls hl => ?_)
              refine lv_goto (tgt := 28) hx hb dX4_rowsIn_82 (by decide) ?_
              exact ih28 (j + 1) (a + 1) (by omega) (by omega) (cs_t ea ⟨hl1, pn_is c_10, by unfold lfr; rw [pn_is c_10]; exact c_16⟩) _ _ hB ls (lv_sub hl [0, 1, 2, 3, 4] rfl)
    exact lp_28 ((nrN σ) + 1) 0 0 (by omega) (by omega) rfl _ _ hB ls (lv_sub hl [0, 1, 2, 3, 4] rfl)

abbrev rmX4_count : Room := { frames := 3, cells := 0, slots := 0, locals := 64 }
set_option maxHeartbeats 4000000 in
set_option maxRecDepth 100000 in
theorem k_X4_count {l : Launch} {D : va_G} {z : Nat} {cI cP cR cJ : ClassId} {h0 : Hp} {xm : Nat} {xa : Nat → Nat} {σ : Sg} {th : Int} (hM : MR cI xm xa σ th h0) (hI : Ib σ) {lo hi so : Int} (rl : rg lo) (rh : rg hi) (ro : rg so) : Ct l D z (tyL cI cP cR cJ) yX4_count wsX4_count rmX4_count [.ref xm, .int (iI lo), .int (iI hi), .int (iI so)] h0 (fun v u => ((okQ lo hi so) ∧ v = some (.int (iI (cnt (fun j => live σ j ∧ σ 4 (pn σ j) = 0 ∧ (lo ≤ σ 6 j ∧ σ 6 j ≤ hi ∧ hbit so (σ 7 j))) (nrN σ)))) ∧ MR cI xm xa σ 0 u ∧ FrM h0 u) ∨ ((¬ okQ lo hi so) ∧ v = some (.int (iI 0)) ∧ MR cI xm xa σ 1 u ∧ FrM h0 u)) := by
  refine Ct.of (cc := cX4_count) (maxL := 4) (ret := (some .int)) (by decide) rfl (Nat.le_of_ble_eq_true rfl) ?_
  intro p e s m args below meth c hx hb hr hts hown hlocks hml hnm hK hB ls hl
  have hl : lv_has ls 4 [(0, .ref xm), (1, .int (iI lo)), (2, .int (iI hi)), (3, .int (iI so))] := hl
  have hF := FrM.rf h0
  have hnp := hI.hnp
  have hnr := hI.hnr
  have hnrI := hI.nrI
  have hnpI := hI.npI
  have hre := hI.rest
  refine lv_aload_n hx hb dX4_count_0 rfl (lv_at hl 0 rfl) ?_
  refine lv_iload_n hx hb dX4_count_1 rfl (lv_at hl 1 rfl) ?_
  refine lv_iload_n hx hb dX4_count_2 rfl (lv_at hl 2 rfl) ?_
  refine lv_iload_n hx hb dX4_count_3 rfl (lv_at hl 3 rfl) ?_
  refine m_run (va_runS (As := [.int (iI lo), .int (iI hi), .int (iI so)]) (rest := [.ref xm]) ⟨hx, hb, hml, hown, hts⟩ (k_X4_isQuestion (l := l) ⟨by omega, by omega⟩ ⟨by omega, by omega⟩ ⟨by omega, by omega⟩) (va_cwS 3 hts gX4_count_X4_isQuestion rfl rfl rfl (by decide +kernel) ⟨by decide, by decide⟩) ⟨Kp.blind _ _ _ _ _, fun U hU hW => hK.pass hB U hU hW⟩ rfl rfl hl.1 rfl (lv_room (Nat.le_of_ble_eq_true rfl)) dX4_count_4 ⟨Nat.le_of_ble_eq_true rfl, Nat.le_of_ble_eq_true rfl⟩) hB (fun v u H locs hp_1 hB => ?_)
  obtain ⟨rfl, rfl⟩ := hp_1
  show W _ _ _ _ _ _ _ _ _ _ _ _ _ _ _ (F0 m 7 ls [.int (iI (b2 (okQ lo hi so))), .ref xm])
  refine j_ifeqP (tgt := 14) hx hb dX4_count_7 (by decide) (fun c_2 => ?_) (fun c_2 => ?_)
  · refine j_iconst hx hb dX4_count_14 ?_
    refine m_run (va_runV (As := [.int (iI 1)]) (rest := []) ⟨hx, hb, hml, hown, hts⟩ (k_X4_isFine (l := l) (tc := 1) hM hI ⟨by decide, by decide⟩) (cwV 1 hts gX4_count_X4_isFine rfl rfl rfl (by decide +kernel) ⟨by decide, by decide⟩) ⟨Kp.blind _ _ _ _ _, m_recv hK hB (ci := 4) rfl hM.1, fun U hU hW => hK.pass hB U hU hW⟩ rfl rfl hl.1 rfl (lv_room (Nat.le_of_ble_eq_true rfl)) dX4_count_15 ⟨Nat.le_of_ble_eq_true rfl, Nat.le_of_ble_eq_true rfl⟩) hB (fun v u H locs hp_3 hB => ?_)
    obtain ⟨ev, hM, hFm⟩ := hp_3
    rw [b2_f (by decide)] at ev
    subst ev
    show W _ _ _ _ _ _ _ _ _ _ _ _ _ _ _ (F0 m 18 ls [.int (iI 0)])
    have hF := hF.tr hFm
    refine j_if_eq (tgt := 31) hx hb dX4_count_18 (by decide) ⟨by decide, by decide⟩ (fun c_4 => ?_) (fun c_4 => absurd c_4 (by decide))
    refine j_iconst hx hb dX4_count_31 ?_
    exact m_zret hx hb hr rfl hlocks hB (by decide) (by decide) dX4_count_32 (by (repeat rw [Int.toNat_natCast]); exact Or.inr (⟨c_2, rfl, hM, hF⟩))
  · refine j_iconst hx hb dX4_count_10 ?_
    refine lv_goto (tgt := 15) hx hb dX4_count_11 (by decide) ?_
    refine m_run (va_runV (As := [.int (iI 0)]) (rest := []) ⟨hx, hb, hml, hown, hts⟩ (k_X4_isFine (l := l) (tc := 0) hM hI ⟨by decide, by decide⟩) (cwV 1 hts gX4_count_X4_isFine rfl rfl rfl (by decide +kernel) ⟨by decide, by decide⟩) ⟨Kp.blind _ _ _ _ _, m_recv hK hB (ci := 4) rfl hM.1, fun U hU hW => hK.pass hB U hU hW⟩ rfl rfl hl.1 rfl (lv_room (Nat.le_of_ble_eq_true rfl)) dX4_count_15 ⟨Nat.le_of_ble_eq_true rfl, Nat.le_of_ble_eq_true rfl⟩) hB (fun v u H locs hp_5 hB => ?_)
    obtain ⟨ev, hM, hFm⟩ := hp_5
    rw [b2_t (by decide)] at ev
    subst ev
    show W _ _ _ _ _ _ _ _ _ _ _ _ _ _ _ (F0 m 18 ls [.int (iI 1)])
    have hF := hF.tr hFm
    refine j_if_eq (tgt := 31) hx hb dX4_count_18 (by decide) ⟨by decide, by decide⟩ (fun c_6 => absurd c_6 (by decide)) (fun c_6 => ?_)
    have hok := c_2
    unfold okQ at hok
    refine lv_aload_n hx hb dX4_count_21 rfl (lv_at hl 0 rfl) ?_
    refine lv_iload_n hx hb dX4_count_22 rfl (lv_at hl 1 rfl) ?_
    refine lv_iload_n hx hb dX4_count_23 rfl (lv_at hl 2 rfl) ?_
    refine lv_iload_n hx hb dX4_count_24 rfl (lv_at hl 3 rfl) ?_
    refine m_run (va_runV (As := [.int (iI lo), .int (iI hi), .int (iI so)]) (rest := []) ⟨hx, hb, hml, hown, hts⟩ (k_X4_counted (l := l) hM hI ⟨by omega, by omega⟩ ⟨by omega, by omega⟩ (by omega) (by omega)) (cwV 3 hts gX4_count_X4_counted rfl rfl rfl (by decide +kernel) ⟨by decide, by decide⟩) ⟨Kp.blind _ _ _ _ _, m_recv hK hB (ci := 4) rfl hM.1, fun U hU hW => hK.pass hB U hU hW⟩ rfl rfl hl.1 rfl (lv_room (Nat.le_of_ble_eq_true rfl)) dX4_count_25 ⟨Nat.le_of_ble_eq_true rfl, Nat.le_of_ble_eq_true rfl⟩) hB (fun v u H locs hp_7 hB => ?_)
    obtain ⟨rfl, rfl⟩ := hp_7
    show W _ _ _ _ _ _ _ _ _ _ _ _ _ _ _ (F0 m 28 ls [.int (iI (cnt (fun j => live σ j ∧ σ 4 (pn σ j) = 0 ∧ (lo ≤ σ 6 j ∧ σ 6 j ≤ hi ∧ hbit so (σ 7 j))) (nrN σ)))])
    refine lv_goto (tgt := 32) hx hb dX4_count_28 (by decide) ?_
    exact m_zret hx hb hr rfl hlocks hB (by decide) (by decide) dX4_count_32 (by (repeat rw [Int.toNat_natCast]); exact Or.inl (⟨c_2, rfl, hM, hF⟩))

abbrev rmX4_countPlain : Room := { frames := 3, cells := 0, slots := 0, locals := 64 }
set_option maxHeartbeats 4000000 in
set_option maxRecDepth 100000 in
theorem k_X4_countPlain {l : Launch} {D : va_G} {z : Nat} {cI cP cR cJ : ClassId} {h0 : Hp} {xm : Nat} {xa : Nat → Nat} {σ : Sg} {th : Int} (hM : MR cI xm xa σ th h0) (hI : Ib σ) {lo hi so : Int} (rl : rg lo) (rh : rg hi) (ro : rg so) : Ct l D z (tyL cI cP cR cJ) yX4_countPlain wsX4_countPlain rmX4_countPlain [.ref xm, .int (iI lo), .int (iI hi), .int (iI so)] h0 (fun v u => ((okQ lo hi so) ∧ v = some (.int (iI (cnt (fun j => live σ j ∧ σ 4 (pn σ j) = 0 ∧ (lo ≤ σ 6 j ∧ σ 6 j ≤ hi ∧ hbit so (σ 7 j))) (nrN σ)))) ∧ MR cI xm xa σ 0 u ∧ FrM h0 u) ∨ ((¬ okQ lo hi so) ∧ v = some (.int (iI 0)) ∧ MR cI xm xa σ 1 u ∧ FrM h0 u)) := by
  refine Ct.of (cc := cX4_countPlain) (maxL := 4) (ret := (some .int)) (by decide) rfl (Nat.le_of_ble_eq_true rfl) ?_
  intro p e s m args below meth c hx hb hr hts hown hlocks hml hnm hK hB ls hl
  have hl : lv_has ls 4 [(0, .ref xm), (1, .int (iI lo)), (2, .int (iI hi)), (3, .int (iI so))] := hl
  have hF := FrM.rf h0
  have hnp := hI.hnp
  have hnr := hI.hnr
  have hnrI := hI.nrI
  have hnpI := hI.npI
  have hre := hI.rest
  refine lv_aload_n hx hb dX4_countPlain_0 rfl (lv_at hl 0 rfl) ?_
  refine lv_iload_n hx hb dX4_countPlain_1 rfl (lv_at hl 1 rfl) ?_
  refine lv_iload_n hx hb dX4_countPlain_2 rfl (lv_at hl 2 rfl) ?_
  refine lv_iload_n hx hb dX4_countPlain_3 rfl (lv_at hl 3 rfl) ?_
  refine m_run (va_runS (As := [.int (iI lo), .int (iI hi), .int (iI so)]) (rest := [.ref xm]) ⟨hx, hb, hml, hown, hts⟩ (k_X4_isQuestion (l := l) ⟨by omega, by omega⟩ ⟨by omega, by omega⟩ ⟨by omega, by omega⟩) (va_cwS 3 hts gX4_countPlain_X4_isQuestion rfl rfl rfl (by decide +kernel) ⟨by decide, by decide⟩) ⟨Kp.blind _ _ _ _ _, fun U hU hW => hK.pass hB U hU hW⟩ rfl rfl hl.1 rfl (lv_room (Nat.le_of_ble_eq_true rfl)) dX4_countPlain_4 ⟨Nat.le_of_ble_eq_true rfl, Nat.le_of_ble_eq_true rfl⟩) hB (fun v u H locs hp_1 hB => ?_)
  obtain ⟨rfl, rfl⟩ := hp_1
  show W _ _ _ _ _ _ _ _ _ _ _ _ _ _ _ (F0 m 7 ls [.int (iI (b2 (okQ lo hi so))), .ref xm])
  refine j_ifeqP (tgt := 14) hx hb dX4_countPlain_7 (by decide) (fun c_2 => ?_) (fun c_2 => ?_)
  · refine j_iconst hx hb dX4_countPlain_14 ?_
    refine m_run (va_runV (As := [.int (iI 1)]) (rest := []) ⟨hx, hb, hml, hown, hts⟩ (k_X4_isFine (l := l) (tc := 1) hM hI ⟨by decide, by decide⟩) (cwV 1 hts gX4_countPlain_X4_isFine rfl rfl rfl (by decide +kernel) ⟨by decide, by decide⟩) ⟨Kp.blind _ _ _ _ _, m_recv hK hB (ci := 4) rfl hM.1, fun U hU hW => hK.pass hB U hU hW⟩ rfl rfl hl.1 rfl (lv_room (Nat.le_of_ble_eq_true rfl)) dX4_countPlain_15 ⟨Nat.le_of_ble_eq_true rfl, Nat.le_of_ble_eq_true rfl⟩) hB (fun v u H locs hp_3 hB => ?_)
    obtain ⟨ev, hM, hFm⟩ := hp_3
    rw [b2_f (by decide)] at ev
    subst ev
    show W _ _ _ _ _ _ _ _ _ _ _ _ _ _ _ (F0 m 18 ls [.int (iI 0)])
    have hF := hF.tr hFm
    refine j_if_eq (tgt := 31) hx hb dX4_countPlain_18 (by decide) ⟨by decide, by decide⟩ (fun c_4 => ?_) (fun c_4 => absurd c_4 (by decide))
    refine j_iconst hx hb dX4_countPlain_31 ?_
    exact m_zret hx hb hr rfl hlocks hB (by decide) (by decide) dX4_countPlain_32 (by (repeat rw [Int.toNat_natCast]); exact Or.inr (⟨c_2, rfl, hM, hF⟩))
  · refine j_iconst hx hb dX4_countPlain_10 ?_
    refine lv_goto (tgt := 15) hx hb dX4_countPlain_11 (by decide) ?_
    refine m_run (va_runV (As := [.int (iI 0)]) (rest := []) ⟨hx, hb, hml, hown, hts⟩ (k_X4_isFine (l := l) (tc := 0) hM hI ⟨by decide, by decide⟩) (cwV 1 hts gX4_countPlain_X4_isFine rfl rfl rfl (by decide +kernel) ⟨by decide, by decide⟩) ⟨Kp.blind _ _ _ _ _, m_recv hK hB (ci := 4) rfl hM.1, fun U hU hW => hK.pass hB U hU hW⟩ rfl rfl hl.1 rfl (lv_room (Nat.le_of_ble_eq_true rfl)) dX4_countPlain_15 ⟨Nat.le_of_ble_eq_true rfl, Nat.le_of_ble_eq_true rfl⟩) hB (fun v u H locs hp_5 hB => ?_)
    obtain ⟨ev, hM, hFm⟩ := hp_5
    rw [b2_t (by decide)] at ev
    subst ev
    show W _ _ _ _ _ _ _ _ _ _ _ _ _ _ _ (F0 m 18 ls [.int (iI 1)])
    have hF := hF.tr hFm
    refine j_if_eq (tgt := 31) hx hb dX4_countPlain_18 (by decide) ⟨by decide, by decide⟩ (fun c_6 => absurd c_6 (by decide)) (fun c_6 => ?_)
    have hok := c_2
    unfold okQ at hok
    refine lv_aload_n hx hb dX4_countPlain_21 rfl (lv_at hl 0 rfl) ?_
    refine lv_iload_n hx hb dX4_countPlain_22 rfl (lv_at hl 1 rfl) ?_
    refine lv_iload_n hx hb dX4_countPlain_23 rfl (lv_at hl 2 rfl) ?_
    refine lv_iload_n hx hb dX4_countPlain_24 rfl (lv_at hl 3 rfl) ?_
    refine m_run (va_runV (As := [.int (iI lo), .int (iI hi), .int (iI so)]) (rest := []) ⟨hx, hb, hml, hown, hts⟩ (k_X4_counted (l := l) hM hI ⟨by omega, by omega⟩ ⟨by omega, by omega⟩ (by omega) (by omega)) (cwV 3 hts gX4_countPlain_X4_counted rfl rfl rfl (by decide +kernel) ⟨by decide, by decide⟩) ⟨Kp.blind _ _ _ _ _, m_recv hK hB (ci := 4) rfl hM.1, fun U hU hW => hK.pass hB U hU hW⟩ rfl rfl hl.1 rfl (lv_room (Nat.le_of_ble_eq_true rfl)) dX4_countPlain_25 ⟨Nat.le_of_ble_eq_true rfl, Nat.le_of_ble_eq_true rfl⟩) hB (fun v u H locs hp_7 hB => ?_)
    obtain ⟨rfl, rfl⟩ := hp_7
    show W _ _ _ _ _ _ _ _ _ _ _ _ _ _ _ (F0 m 28 ls [.int (iI (cnt (fun j => live σ j ∧ σ 4 (pn σ j) = 0 ∧ (lo ≤ σ 6 j ∧ σ 6 j ≤ hi ∧ hbit so (σ 7 j))) (nrN σ)))])
    refine lv_goto (tgt := 32) hx hb dX4_countPlain_28 (by decide) ?_
    exact m_zret hx hb hr rfl hlocks hB (by decide) (by decide) dX4_countPlain_32 (by (repeat rw [Int.toNat_natCast]); exact Or.inl (⟨c_2, rfl, hM, hF⟩))

abbrev rmX4_read : Room := { frames := 4, cells := 0, slots := 0, locals := 95 }
set_option maxHeartbeats 4000000 in
set_option maxRecDepth 100000 in
theorem k_X4_read {l : Launch} {D : va_G} {z : Nat} {cI cP cR cJ : ClassId} {h0 : Hp} {xm : Nat} {xa : Nat → Nat} {σ : Sg} {th : Int} (hM : MR cI xm xa σ th h0) (hI : Ib σ) {lo hi so : Int} (rl : rg lo) (rh : rg hi) (ro : rg so) : Ct l D z (tyL cI cP cR cJ) yX4_read wsX4_read rmX4_read [.ref xm, .int (iI lo), .int (iI hi), .int (iI so)] h0 (fun v u => ((okQ lo hi so) ∧ v = some (.int (iI (rdM σ lo hi so))) ∧ MR cI xm xa σ 0 u ∧ FrM h0 u) ∨ ((¬ okQ lo hi so) ∧ v = some (.int (iI 0)) ∧ MR cI xm xa σ 1 u ∧ FrM h0 u)) := by
  refine Ct.of (cc := cX4_read) (maxL := 7) (ret := (some .int)) (by decide) rfl (Nat.le_of_ble_eq_true rfl) ?_
  intro p e s m args below meth c hx hb hr hts hown hlocks hml hnm hK hB ls hl
  have hl : lv_has ls 7 [(0, .ref xm), (1, .int (iI lo)), (2, .int (iI hi)), (3, .int (iI so))] := hl
  have hF := FrM.rf h0
  have hnp := hI.hnp
  have hnr := hI.hnr
  have hnrI := hI.nrI
  have hnpI := hI.npI
  have hre := hI.rest
  refine lv_aload_n hx hb dX4_read_0 rfl (lv_at hl 0 rfl) ?_
  refine lv_iload_n hx hb dX4_read_1 rfl (lv_at hl 1 rfl) ?_
  refine lv_iload_n hx hb dX4_read_2 rfl (lv_at hl 2 rfl) ?_
  refine lv_iload_n hx hb dX4_read_3 rfl (lv_at hl 3 rfl) ?_
  refine m_run (va_runS (As := [.int (iI lo), .int (iI hi), .int (iI so)]) (rest := [.ref xm]) ⟨hx, hb, hml, hown, hts⟩ (k_X4_isQuestion (l := l) ⟨by omega, by omega⟩ ⟨by omega, by omega⟩ ⟨by omega, by omega⟩) (va_cwS 3 hts gX4_read_X4_isQuestion rfl rfl rfl (by decide +kernel) ⟨by decide, by decide⟩) ⟨Kp.blind _ _ _ _ _, fun U hU hW => hK.pass hB U hU hW⟩ rfl rfl hl.1 rfl (lv_room (Nat.le_of_ble_eq_true rfl)) dX4_read_4 ⟨Nat.le_of_ble_eq_true rfl, Nat.le_of_ble_eq_true rfl⟩) hB (fun v u H locs hp_1 hB => ?_)
  obtain ⟨rfl, rfl⟩ := hp_1
  show W _ _ _ _ _ _ _ _ _ _ _ _ _ _ _ (F0 m 7 ls [.int (iI (b2 (okQ lo hi so))), .ref xm])
  refine j_ifeqP (tgt := 14) hx hb dX4_read_7 (by decide) (fun c_2 => ?_) (fun c_2 => ?_)
  · refine j_iconst hx hb dX4_read_14 ?_
    refine m_run (va_runV (As := [.int (iI 1)]) (rest := []) ⟨hx, hb, hml, hown, hts⟩ (k_X4_isFine (l := l) (tc := 1) hM hI ⟨by decide, by decide⟩) (cwV 1 hts gX4_read_X4_isFine rfl rfl rfl (by decide +kernel) ⟨by decide, by decide⟩) ⟨Kp.blind _ _ _ _ _, m_recv hK hB (ci := 4) rfl hM.1, fun U hU hW => hK.pass hB U hU hW⟩ rfl rfl hl.1 rfl (lv_room (Nat.le_of_ble_eq_true rfl)) dX4_read_15 ⟨Nat.le_of_ble_eq_true rfl, Nat.le_of_ble_eq_true rfl⟩) hB (fun v u H locs hp_3 hB => ?_)
    obtain ⟨ev, hM, hFm⟩ := hp_3
    rw [b2_f (by decide)] at ev
    subst ev
    show W _ _ _ _ _ _ _ _ _ _ _ _ _ _ _ (F0 m 18 ls [.int (iI 0)])
    have hF := hF.tr hFm
    refine j_if_ne (tgt := 23) hx hb dX4_read_18 (by decide) ⟨by decide, by decide⟩ (fun c_4 => absurd c_4 (by decide)) (fun c_4 => ?_)
    refine j_iconst hx hb dX4_read_21 ?_
    exact m_zret hx hb hr rfl hlocks hB (by decide) (by decide) dX4_read_22 (by (repeat rw [Int.toNat_natCast]); exact Or.inr (⟨c_2, rfl, hM, hF⟩))
  · refine j_iconst hx hb dX4_read_10 ?_
    refine lv_goto (tgt := 15) hx hb dX4_read_11 (by decide) ?_
    refine m_run (va_runV (As := [.int (iI 0)]) (rest := []) ⟨hx, hb, hml, hown, hts⟩ (k_X4_isFine (l := l) (tc := 0) hM hI ⟨by decide, by decide⟩) (cwV 1 hts gX4_read_X4_isFine rfl rfl rfl (by decide +kernel) ⟨by decide, by decide⟩) ⟨Kp.blind _ _ _ _ _, m_recv hK hB (ci := 4) rfl hM.1, fun U hU hW => hK.pass hB U hU hW⟩ rfl rfl hl.1 rfl (lv_room (Nat.le_of_ble_eq_true rfl)) dX4_read_15 ⟨Nat.le_of_ble_eq_true rfl, Nat.le_of_ble_eq_true rfl⟩) hB (fun v u H locs hp_5 hB => ?_)
    obtain ⟨ev, hM, hFm⟩ := hp_5
    rw [b2_t (by decide)] at ev
    subst ev
    show W _ _ _ _ _ _ _ _ _ _ _ _ _ _ _ (F0 m 18 ls [.int (iI 1)])
    have hF := hF.tr hFm
    refine j_if_ne (tgt := 23) hx hb dX4_read_18 (by decide) ⟨by decide, by decide⟩ (fun c_6 => ?_) (fun c_6 => absurd c_6 (by decide))
    have hok := c_2
    unfold okQ at hok
    refine j_iconst hx hb dX4_read_23 ?_
    refine lv_istore (lv' := [(4, .int (iI 0)), (0, .ref xm), (1, .int (iI lo)), (2, .int (iI hi)), (3, .int (iI so))]) hx hb dX4_read_24 hl (by decide) rfl (fun ls hl => ?_)
    refine j_iconst hx hb dX4_read_26 ?_
    refine lv_istore (lv' := [(5, .int (iI 0)), (4, .int (iI 0)), (0, .ref xm), (1, .int (iI lo)), (2, .int (iI hi)), (3, .int (iI so))]) hx hb dX4_read_27 hl (by decide) rfl (fun ls hl => ?_)
    have lp_29 : ∀ (fuel w : Nat) (a : Int), w ≤ (npN σ + 1) → (npN σ + 1) + 1 ≤ w + fuel → ∀ (ea : a = csm (fun i => (i : Int) ≤ σ 9 0) (fun i => rdMp σ i lo hi so) w) (eab : 0 ≤ a ∧ a ≤ 5 * (w : Int)) (H : Heap) (locs : List Loc), Bk D z s.heap u H locs → ∀ ls : Array Slot, lv_has ls 7 [(5, .int (iI (w : Int))), (4, .int (iI a)), (0, .ref xm), (1, .int (iI lo)), (2, .int (iI hi)), (3, .int (iI so))] → W p l e rmX4_read s m args below meth c H locs 0 0 (MQ below (Qx D z (fun v u => ((okQ lo hi so) ∧ v = some (.int (iI (rdM σ lo hi so))) ∧ MR cI xm xa σ 0 u ∧ FrM h0 u) ∨ ((¬ okQ lo hi so) ∧ v = some (.int (iI 0)) ∧ MR cI xm xa σ 1 u ∧ FrM h0 u))) args s (rmX4_read).cells (rmX4_read).slots (zA z)) (F0 m 29 ls []) := by
      intro fuel
      induction fuel with
      | zero => intro w a w1 w2; exact absurd w2 (by omega)
      | succ fuel ih29 =>
        intro w a w1 w2 ea eab H locs hB ls hl
        refine lv_iload hx hb dX4_read_29 (lv_at hl 0 rfl) ?_
        refine lv_aload_n hx hb dX4_read_31 rfl (lv_at hl 2 rfl) ?_
        refine m_get hx hb hts (fun _ q => List.mem_cons_of_mem _ (List.mem_append_right _ q)) hown hK hB hM.1 (ci := 4) rfl 6 (by decide) (List.mem_of_getElem? (i := 1) rfl) rfl rfl dX4_read_32 ?_
        have bd_7 := hI.bd 9 0
        refine j_icmp_gt (tgt := 88) hx hb dX4_read_35 (by decide) ⟨by omega, by omega⟩ ⟨by omega, by omega⟩ (fun c_8 => ?_) (fun c_8 => ?_)
        · refine lv_iload hx hb dX4_read_88 (lv_at hl 1 rfl) ?_
          exact m_zret hx hb hr rfl hlocks hB (by decide) (by decide) dX4_read_90 (by (repeat rw [Int.toNat_natCast]); exact Or.inl (⟨c_2, ret_e (by rw [ea, show w = npN σ + 1 by omega]; rfl), hM, hF⟩))
        · have lvr := lvs_rg hI (i := w) (by omega)
          refine j_iconst hx hb dX4_read_38 ?_
          refine lv_istore (lv' := [(6, .int (iI 0)), (5, .int (iI (w : Int))), (4, .int (iI a)), (0, .ref xm), (1, .int (iI lo)), (2, .int (iI hi)), (3, .int (iI so))]) hx hb dX4_read_39 hl (by decide) rfl (fun ls hl => ?_)
          have lp_41 : ∀ (fuel b : Nat) (a2 : Int), b ≤ (lvs (σ 2 w) (σ 3 w)).toNat → (lvs (σ 2 w) (σ 3 w)).toNat + 1 ≤ b + fuel → ∀ (eb : a2 = a + cnt (fun y => mM σ w (y : Int) lo hi so) b) (H : Heap) (locs : List Loc), Bk D z s.heap u H locs → ∀ ls : Array Slot, lv_has ls 7 [(6, .int (iI (b : Int))), (5, .int (iI (w : Int))), (4, .int (iI a2)), (0, .ref xm), (1, .int (iI lo)), (2, .int (iI hi)), (3, .int (iI so))] → W p l e rmX4_read s m args below meth c H locs 0 0 (MQ below (Qx D z (fun v u => ((okQ lo hi so) ∧ v = some (.int (iI (rdM σ lo hi so))) ∧ MR cI xm xa σ 0 u ∧ FrM h0 u) ∨ ((¬ okQ lo hi so) ∧ v = some (.int (iI 0)) ∧ MR cI xm xa σ 1 u ∧ FrM h0 u))) args s (rmX4_read).cells (rmX4_read).slots (zA z)) (F0 m 41 ls []) := by
            intro fuel
            induction fuel with
            | zero => intro b a2 w1 w2; exact absurd w2 (by omega)
            | succ fuel ih41 =>
              intro b a2 w1 w2 eb H locs hB ls hl
              have ebr := cnt_rg (fun y => mM σ w (y : Int) lo hi so) b
              refine lv_iload hx hb dX4_read_41 (lv_at hl 0 rfl) ?_
              refine lv_aload_n hx hb dX4_read_43 rfl (lv_at hl 3 rfl) ?_
              refine lv_iload hx hb dX4_read_44 (lv_at hl 1 rfl) ?_
              refine m_run (va_runV (As := [.int (iI (w : Int))]) (rest := [.int (iI (b : Int))]) ⟨hx, hb, hml, hown, hts⟩ (k_X4_leaves (l := l) hM hI (i := w) (by omega)) (cwV 1 hts gX4_read_X4_leaves rfl rfl rfl (by decide +kernel) ⟨by decide, by decide⟩) ⟨Kp.blind _ _ _ _ _, m_recv hK hB (ci := 4) rfl hM.1, fun U hU hW => hK.pass hB U hU hW⟩ rfl rfl hl.1 rfl (lv_room (Nat.le_of_ble_eq_true rfl)) dX4_read_46 ⟨Nat.le_of_ble_eq_true rfl, Nat.le_of_ble_eq_true rfl⟩) hB (fun v u H locs hp_9 hB => ?_)
              obtain ⟨rfl, rfl⟩ := hp_9
              show W _ _ _ _ _ _ _ _ _ _ _ _ _ _ _ (F0 m 49 ls [.int (iI (lvs (σ 2 w) (σ 3 w))), .int (iI (b : Int))])
              have bd_10 := hI.bd 2 w
              have bd_11 := hI.bd 3 w
              refine j_icmp_ge (tgt := 82) hx hb dX4_read_49 (by decide) ⟨by omega, by omega⟩ ⟨by omega, by omega⟩ (fun c_12 => ?_) (fun c_12 => ?_)
              · refine j_iinc (lv' := [(5, .int (iI ((w + 1 : Nat) : Int))), (6, .int (iI (b : Int))), (4, .int (iI a2)), (0, .ref xm), (1, .int (iI lo)), (2, .int (iI hi)), (3, .int (iI so))]) hx hb dX4_read_82 hl (k := 1) rfl (by decide) rfl (fun ls hl => ?_)
                refine lv_goto (tgt := 29) hx hb dX4_read_85 (by decide) ?_
                exact ih29 (w + 1) a2 (by omega) (by omega) (by rw [eb, show b = (lvs (σ 2 w) (σ 3 w)).toNat by omega]; exact cz_t (P := fun i => (i : Int) ≤ σ 9 0) (f := fun i => rdMp σ i lo hi so) ea (by omega)) (by omega) _ _ hB ls (lv_sub hl [0, 2, 3, 4, 5, 6] rfl)
              · refine lv_iload hx hb dX4_read_52 (lv_at hl 2 rfl) ?_
                refine lv_aload_n hx hb dX4_read_54 rfl (lv_at hl 3 rfl) ?_
                refine lv_iload hx hb dX4_read_55 (lv_at hl 1 rfl) ?_
                refine lv_iload hx hb dX4_read_57 (lv_at hl 0 rfl) ?_
                refine lv_iload_n hx hb dX4_read_59 rfl (lv_at hl 4 rfl) ?_
                refine lv_iload_n hx hb dX4_read_60 rfl (lv_at hl 5 rfl) ?_
                refine lv_iload_n hx hb dX4_read_61 rfl (lv_at hl 6 rfl) ?_
                refine m_run (va_runV (As := [.int (iI (w : Int)), .int (iI (b : Int)), .int (iI lo), .int (iI hi), .int (iI so)]) (rest := [.int (iI a2)]) ⟨hx, hb, hml, hown, hts⟩ (k_X4_isMatter (l := l) hM hI (i := w) (by omega) ⟨by omega, by omega⟩ (by omega) (by omega) (by omega) (by omega) (by omega) (by omega)) (cwV 5 hts gX4_read_X4_isMatter rfl rfl rfl (by decide +kernel) ⟨by decide, by decide⟩) ⟨Kp.blind _ _ _ _ _, m_recv hK hB (ci := 4) rfl hM.1, fun U hU hW => hK.pass hB U hU hW⟩ rfl rfl hl.1 rfl (lv_room (Nat.le_of_ble_eq_true rfl)) dX4_read_62 ⟨Nat.le_of_ble_eq_true rfl, Nat.le_of_ble_eq_true rfl⟩) hB (fun v u H locs hp_13 hB => ?_)
                obtain ⟨rfl, rfl⟩ := hp_13
                show W _ _ _ _ _ _ _ _ _ _ _ _ _ _ _ (F0 m 65 ls [.int (iI (b2 (mM σ w (b : Int) lo hi so))), .int (iI a2)])
                refine j_ifeqP (tgt := 72) hx hb dX4_read_65 (by decide) (fun c_14 => ?_) (fun c_14 => ?_)
                · refine j_iconst hx hb dX4_read_72 ?_
                  refine j_iadd hx hb dX4_read_73 ?_
                  refine lv_istore (lv' := [(4, .int (iI (a2 + 0))), (6, .int (iI (b : Int))), (5, .int (iI (w : Int))), (0, .ref xm), (1, .int (iI lo)), (2, .int (iI hi)), (3, .int (iI so))]) hx hb dX4_read_74 hl (by decide) rfl (fun ls hl => ?_)
                  refine j_iinc (lv' := [(6, .int (iI ((b + 1 : Nat) : Int))), (4, .int (iI (a2 + 0))), (5, .int (iI (w : Int))), (0, .ref xm), (1, .int (iI lo)), (2, .int (iI hi)), (3, .int (iI so))]) hx hb dX4_read_76 hl (k := 1) rfl (by decide) rfl (fun ls hl => ?_)
                  refine lv_goto (tgt := 41) hx hb dX4_read_79 (by decide) ?_
                  exact ih41 (b + 1) (a2 + 0) (by omega) (by omega) (by rw [Int.add_zero, cnt_f c_14]; exact eb) _ _ hB ls (lv_sub hl [0, 2, 1, 3, 4, 5, 6] rfl)
                · refine j_iconst hx hb dX4_read_68 ?_
                  refine lv_goto (tgt := 73) hx hb dX4_read_69 (by decide) ?_
                  refine j_iadd hx hb dX4_read_73 ?_
                  refine lv_istore (lv' := [(4, .int (iI (a2 + 1))), (6, .int (iI (b : Int))), (5, .int (iI (w : Int))), (0, .ref xm), (1, .int (iI lo)), (2, .int (iI hi)), (3, .int (iI so))]) hx hb dX4_read_74 hl (by decide) rfl (fun ls hl => ?_)
                  refine j_iinc (lv' := [(6, .int (iI ((b + 1 : Nat) : Int))), (4, .int (iI (a2 + 1))), (5, .int (iI (w : Int))), (0, .ref xm), (1, .int (iI lo)), (2, .int (iI hi)), (3, .int (iI so))]) hx hb dX4_read_76 hl (k := 1) rfl (by decide) rfl (fun ls hl => ?_)
                  refine lv_goto (tgt := 41) hx hb dX4_read_79 (by decide) ?_
                  exact ih41 (b + 1) (a2 + 1) (by omega) (by omega) (by rw [cnt_t c_14]; omega) _ _ hB ls (lv_sub hl [0, 2, 1, 3, 4, 5, 6] rfl)
          exact lp_41 ((lvs (σ 2 w) (σ 3 w)).toNat + 1) 0 a (by omega) (by omega) (by rw [show cnt (fun y => mM σ w (y : Int) lo hi so) 0 = 0 from rfl]; omega) _ _ hB ls (lv_sub hl [0, 1, 2, 3, 4, 5, 6] rfl)
    exact lp_29 ((npN σ + 1) + 1) 0 0 (by omega) (by omega) rfl (by omega) _ _ hB ls (lv_sub hl [0, 1, 2, 3, 4, 5] rfl)

abbrev rmX4_matters : Room := { frames := 4, cells := 0, slots := 0, locals := 95 }
set_option maxHeartbeats 4000000 in
set_option maxRecDepth 100000 in
theorem k_X4_matters {l : Launch} {D : va_G} {z : Nat} {cI cP cR cJ : ClassId} {h0 : Hp} {xm : Nat} {xa : Nat → Nat} {σ : Sg} {th : Int} (hM : MR cI xm xa σ th h0) (hI : Ib σ) {n le lo hi so : Int} (rn : rg n) (rf : rg le) (rl : rg lo) (rh : rg hi) (ro : rg so) : Ct l D z (tyL cI cP cR cJ) yX4_matters wsX4_matters rmX4_matters [.ref xm, .int (iI n), .int (iI le), .int (iI lo), .int (iI hi), .int (iI so)] h0 (fun v u => ((isL σ n le ∧ okQ lo hi so) ∧ v = some (.int (iI (b2 (mM σ n.toNat le lo hi so)))) ∧ MR cI xm xa σ 0 u ∧ FrM h0 u) ∨ ((¬ isL σ n le) ∧ v = some (.int (iI 0)) ∧ MR cI xm xa σ 1 u ∧ FrM h0 u) ∨ ((isL σ n le ∧ ¬ okQ lo hi so) ∧ v = some (.int (iI 0)) ∧ MR cI xm xa σ 2 u ∧ FrM h0 u)) := by
  refine Ct.of (cc := cX4_matters) (maxL := 6) (ret := (some .boolean)) (by decide) rfl (Nat.le_of_ble_eq_true rfl) ?_
  intro p e s m args below meth c hx hb hr hts hown hlocks hml hnm hK hB ls hl
  have hl : lv_has ls 6 [(0, .ref xm), (1, .int (iI n)), (2, .int (iI le)), (3, .int (iI lo)), (4, .int (iI hi)), (5, .int (iI so))] := hl
  have hF := FrM.rf h0
  have hnp := hI.hnp
  have hnr := hI.hnr
  have hnrI := hI.nrI
  have hnpI := hI.npI
  have hre := hI.rest
  refine lv_aload_n hx hb dX4_matters_0 rfl (lv_at hl 0 rfl) ?_
  refine lv_aload_n hx hb dX4_matters_1 rfl (lv_at hl 0 rfl) ?_
  refine lv_iload_n hx hb dX4_matters_2 rfl (lv_at hl 1 rfl) ?_
  refine lv_iload_n hx hb dX4_matters_3 rfl (lv_at hl 2 rfl) ?_
  refine m_run (va_runV (As := [.int (iI n), .int (iI le)]) (rest := [.ref xm]) ⟨hx, hb, hml, hown, hts⟩ (k_X4_isLeaf (l := l) hM hI ⟨by omega, by omega⟩ ⟨by omega, by omega⟩) (cwV 2 hts gX4_matters_X4_isLeaf rfl rfl rfl (by decide +kernel) ⟨by decide, by decide⟩) ⟨Kp.blind _ _ _ _ _, m_recv hK hB (ci := 4) rfl hM.1, fun U hU hW => hK.pass hB U hU hW⟩ rfl rfl hl.1 rfl (lv_room (Nat.le_of_ble_eq_true rfl)) dX4_matters_4 ⟨Nat.le_of_ble_eq_true rfl, Nat.le_of_ble_eq_true rfl⟩) hB (fun v u H locs hp_1 hB => ?_)
  obtain ⟨rfl, rfl⟩ := hp_1
  show W _ _ _ _ _ _ _ _ _ _ _ _ _ _ _ (F0 m 7 ls [.int (iI (b2 (isL σ n le))), .ref xm])
  refine j_ifneP (tgt := 14) hx hb dX4_matters_7 (by decide) (fun c_2 => ?_) (fun c_2 => ?_)
  · refine lv_iload_n hx hb dX4_matters_14 rfl (lv_at hl 3 rfl) ?_
    refine lv_iload hx hb dX4_matters_15 (lv_at hl 4 rfl) ?_
    refine lv_iload hx hb dX4_matters_17 (lv_at hl 5 rfl) ?_
    refine m_run (va_runS (As := [.int (iI lo), .int (iI hi), .int (iI so)]) (rest := [.ref xm]) ⟨hx, hb, hml, hown, hts⟩ (k_X4_isQuestion (l := l) ⟨by omega, by omega⟩ ⟨by omega, by omega⟩ ⟨by omega, by omega⟩) (va_cwS 3 hts gX4_matters_X4_isQuestion rfl rfl rfl (by decide +kernel) ⟨by decide, by decide⟩) ⟨Kp.blind _ _ _ _ _, fun U hU hW => hK.pass hB U hU hW⟩ rfl rfl hl.1 rfl (lv_room (Nat.le_of_ble_eq_true rfl)) dX4_matters_19 ⟨Nat.le_of_ble_eq_true rfl, Nat.le_of_ble_eq_true rfl⟩) hB (fun v u H locs hp_3 hB => ?_)
    obtain ⟨rfl, rfl⟩ := hp_3
    show W _ _ _ _ _ _ _ _ _ _ _ _ _ _ _ (F0 m 22 ls [.int (iI (b2 (okQ lo hi so))), .ref xm])
    refine j_ifneP (tgt := 29) hx hb dX4_matters_22 (by decide) (fun c_4 => ?_) (fun c_4 => ?_)
    · refine j_iconst hx hb dX4_matters_29 ?_
      refine m_run (va_runV (As := [.int (iI 0)]) (rest := []) ⟨hx, hb, hml, hown, hts⟩ (k_X4_isFine (l := l) (tc := 0) hM hI ⟨by decide, by decide⟩) (cwV 1 hts gX4_matters_X4_isFine rfl rfl rfl (by decide +kernel) ⟨by decide, by decide⟩) ⟨Kp.blind _ _ _ _ _, m_recv hK hB (ci := 4) rfl hM.1, fun U hU hW => hK.pass hB U hU hW⟩ rfl rfl hl.1 rfl (lv_room (Nat.le_of_ble_eq_true rfl)) dX4_matters_30 ⟨Nat.le_of_ble_eq_true rfl, Nat.le_of_ble_eq_true rfl⟩) hB (fun v u H locs hp_5 hB => ?_)
      obtain ⟨ev, hM, hFm⟩ := hp_5
      rw [b2_t (by decide)] at ev
      subst ev
      show W _ _ _ _ _ _ _ _ _ _ _ _ _ _ _ (F0 m 33 ls [.int (iI 1)])
      have hF := hF.tr hFm
      refine j_if_eq (tgt := 54) hx hb dX4_matters_33 (by decide) ⟨by decide, by decide⟩ (fun c_6 => absurd c_6 (by decide)) (fun c_6 => ?_)
      have hnn : 0 ≤ n := by have w := (c_2).1; unfold isA isP at w; omega
      obtain ⟨ia, rfl⟩ : ∃ ia : Nat, n = (ia : Int) := ⟨n.toNat, by omega⟩
      have hil := (isL_i hI).mp c_2
      have hok := c_4
      unfold okQ at hok
      refine lv_aload_n hx hb dX4_matters_36 rfl (lv_at hl 0 rfl) ?_
      refine lv_iload_n hx hb dX4_matters_37 rfl (lv_at hl 1 rfl) ?_
      refine lv_iload_n hx hb dX4_matters_38 rfl (lv_at hl 2 rfl) ?_
      refine lv_iload_n hx hb dX4_matters_39 rfl (lv_at hl 3 rfl) ?_
      refine lv_iload hx hb dX4_matters_40 (lv_at hl 4 rfl) ?_
      refine lv_iload hx hb dX4_matters_42 (lv_at hl 5 rfl) ?_
      refine m_run (va_runV (As := [.int (iI (ia : Int)), .int (iI le), .int (iI lo), .int (iI hi), .int (iI so)]) (rest := []) ⟨hx, hb, hml, hown, hts⟩ (k_X4_isMatter (l := l) hM hI (i := ia) (by omega) ⟨by omega, by omega⟩ (by omega) (by omega) (by omega) (by omega) (by omega) (by omega)) (cwV 5 hts gX4_matters_X4_isMatter rfl rfl rfl (by decide +kernel) ⟨by decide, by decide⟩) ⟨Kp.blind _ _ _ _ _, m_recv hK hB (ci := 4) rfl hM.1, fun U hU hW => hK.pass hB U hU hW⟩ rfl rfl hl.1 rfl (lv_room (Nat.le_of_ble_eq_true rfl)) dX4_matters_44 ⟨Nat.le_of_ble_eq_true rfl, Nat.le_of_ble_eq_true rfl⟩) hB (fun v u H locs hp_7 hB => ?_)
      obtain ⟨rfl, rfl⟩ := hp_7
      show W _ _ _ _ _ _ _ _ _ _ _ _ _ _ _ (F0 m 47 ls [.int (iI (b2 (mM σ ia le lo hi so)))])
      refine j_ifeqP (tgt := 54) hx hb dX4_matters_47 (by decide) (fun c_8 => ?_) (fun c_8 => ?_)
      · refine j_iconst hx hb dX4_matters_54 ?_
        exact m_zret hx hb hr (by decide) hlocks hB (by decide) (by decide) dX4_matters_55 (by (repeat rw [Int.toNat_natCast]); exact Or.inl (⟨⟨c_2, c_4⟩, ret_f c_8, hM, hF⟩))
      · refine j_iconst hx hb dX4_matters_50 ?_
        refine lv_goto (tgt := 55) hx hb dX4_matters_51 (by decide) ?_
        exact m_zret hx hb hr (by decide) hlocks hB (by decide) (by decide) dX4_matters_55 (by (repeat rw [Int.toNat_natCast]); exact Or.inl (⟨⟨c_2, c_4⟩, ret_t c_8, hM, hF⟩))
    · refine j_iconst hx hb dX4_matters_25 ?_
      refine lv_goto (tgt := 30) hx hb dX4_matters_26 (by decide) ?_
      refine m_run (va_runV (As := [.int (iI 2)]) (rest := []) ⟨hx, hb, hml, hown, hts⟩ (k_X4_isFine (l := l) (tc := 2) hM hI ⟨by decide, by decide⟩) (cwV 1 hts gX4_matters_X4_isFine rfl rfl rfl (by decide +kernel) ⟨by decide, by decide⟩) ⟨Kp.blind _ _ _ _ _, m_recv hK hB (ci := 4) rfl hM.1, fun U hU hW => hK.pass hB U hU hW⟩ rfl rfl hl.1 rfl (lv_room (Nat.le_of_ble_eq_true rfl)) dX4_matters_30 ⟨Nat.le_of_ble_eq_true rfl, Nat.le_of_ble_eq_true rfl⟩) hB (fun v u H locs hp_9 hB => ?_)
      obtain ⟨ev, hM, hFm⟩ := hp_9
      rw [b2_f (by decide)] at ev
      subst ev
      show W _ _ _ _ _ _ _ _ _ _ _ _ _ _ _ (F0 m 33 ls [.int (iI 0)])
      have hF := hF.tr hFm
      refine j_if_eq (tgt := 54) hx hb dX4_matters_33 (by decide) ⟨by decide, by decide⟩ (fun c_10 => ?_) (fun c_10 => absurd c_10 (by decide))
      refine j_iconst hx hb dX4_matters_54 ?_
      exact m_zret hx hb hr (by decide) hlocks hB (by decide) (by decide) dX4_matters_55 (by (repeat rw [Int.toNat_natCast]); exact Or.inr (Or.inr (⟨⟨c_2, c_4⟩, rfl, hM, hF⟩)))
  · refine j_iconst hx hb dX4_matters_10 ?_
    refine lv_goto (tgt := 30) hx hb dX4_matters_11 (by decide) ?_
    refine m_run (va_runV (As := [.int (iI 1)]) (rest := []) ⟨hx, hb, hml, hown, hts⟩ (k_X4_isFine (l := l) (tc := 1) hM hI ⟨by decide, by decide⟩) (cwV 1 hts gX4_matters_X4_isFine rfl rfl rfl (by decide +kernel) ⟨by decide, by decide⟩) ⟨Kp.blind _ _ _ _ _, m_recv hK hB (ci := 4) rfl hM.1, fun U hU hW => hK.pass hB U hU hW⟩ rfl rfl hl.1 rfl (lv_room (Nat.le_of_ble_eq_true rfl)) dX4_matters_30 ⟨Nat.le_of_ble_eq_true rfl, Nat.le_of_ble_eq_true rfl⟩) hB (fun v u H locs hp_11 hB => ?_)
    obtain ⟨ev, hM, hFm⟩ := hp_11
    rw [b2_f (by decide)] at ev
    subst ev
    show W _ _ _ _ _ _ _ _ _ _ _ _ _ _ _ (F0 m 33 ls [.int (iI 0)])
    have hF := hF.tr hFm
    refine j_if_eq (tgt := 54) hx hb dX4_matters_33 (by decide) ⟨by decide, by decide⟩ (fun c_12 => ?_) (fun c_12 => absurd c_12 (by decide))
    refine j_iconst hx hb dX4_matters_54 ?_
    exact m_zret hx hb hr (by decide) hlocks hB (by decide) (by decide) dX4_matters_55 (by (repeat rw [Int.toNat_natCast]); exact Or.inr (Or.inl (⟨c_2, rfl, hM, hF⟩)))

abbrev rmX4_find : Room := { frames := 1, cells := 0, slots := 0, locals := 22 }
set_option maxHeartbeats 4000000 in
set_option maxRecDepth 100000 in
theorem k_X4_find {l : Launch} {D : va_G} {z : Nat} {cI cP cR cJ : ClassId} {h0 : Hp} {xm : Nat} {xa : Nat → Nat} {σ : Sg} {th : Int} (hM : MR cI xm xa σ th h0) (hI : Ib σ) {vl : Int} (rv : rg vl) : Ct l D z (tyL cI cP cR cJ) yX4_find wsX4_find rmX4_find [.ref xm, .int (iI vl)] h0 (fun v u => (((0 ≤ vl ∧ vl ≤ 99) ∧ σ 11 0 = 0) ∧ v = some (.int (iI (cnt (fun j => live σ j ∧ σ 4 (pn σ j) = 0 ∧ σ 8 j = vl) (nrN σ)))) ∧ MR cI xm xa σ 0 u ∧ FrM h0 u) ∨ ((¬ (0 ≤ vl ∧ vl ≤ 99)) ∧ v = some (.int (iI 0)) ∧ MR cI xm xa σ 1 u ∧ FrM h0 u) ∨ (((0 ≤ vl ∧ vl ≤ 99) ∧ σ 11 0 ≠ 0) ∧ v = some (.int (iI 0)) ∧ MR cI xm xa σ 2 u ∧ FrM h0 u)) := by
  refine Ct.of (cc := cX4_find) (maxL := 4) (ret := (some .int)) (by decide) rfl (Nat.le_of_ble_eq_true rfl) ?_
  intro p e s m args below meth c hx hb hr hts hown hlocks hml hnm hK hB ls hl
  have hl : lv_has ls 4 [(0, .ref xm), (1, .int (iI vl))] := hl
  have hF := FrM.rf h0
  have hnp := hI.hnp
  have hnr := hI.hnr
  have hnrI := hI.nrI
  have hnpI := hI.npI
  have hre := hI.rest
  refine lv_aload_n hx hb dX4_find_0 rfl (lv_at hl 0 rfl) ?_
  refine lv_iload_n hx hb dX4_find_1 rfl (lv_at hl 1 rfl) ?_
  refine j_iconst hx hb dX4_find_2 ?_
  refine j_bipush hx hb dX4_find_3 (by decide) ?_
  refine m_run (va_runS (As := [.int (iI vl), .int (iI 0), .int (iI 99)]) (rest := [.ref xm]) ⟨hx, hb, hml, hown, hts⟩ (k_X4_isIn (l := l) ⟨by omega, by omega⟩ ⟨by decide, by decide⟩ ⟨by decide, by decide⟩) (va_cwS 3 hts gX4_find_X4_isIn rfl rfl rfl (by decide +kernel) ⟨by decide, by decide⟩) ⟨Kp.blind _ _ _ _ _, fun U hU hW => hK.pass hB U hU hW⟩ rfl rfl hl.1 rfl (lv_room (Nat.le_of_ble_eq_true rfl)) dX4_find_5 ⟨Nat.le_of_ble_eq_true rfl, Nat.le_of_ble_eq_true rfl⟩) hB (fun v u H locs hp_1 hB => ?_)
  obtain ⟨rfl, rfl⟩ := hp_1
  show W _ _ _ _ _ _ _ _ _ _ _ _ _ _ _ (F0 m 8 ls [.int (iI (b2 (0 ≤ vl ∧ vl ≤ 99))), .ref xm])
  refine j_ifneP (tgt := 15) hx hb dX4_find_8 (by decide) (fun c_2 => ?_) (fun c_2 => ?_)
  · refine lv_aload_n hx hb dX4_find_15 rfl (lv_at hl 0 rfl) ?_
    refine m_get hx hb hts (fun _ q => List.mem_cons_of_mem _ (List.mem_append_right _ q)) hown hK hB hM.1 (ci := 4) rfl 12 (by decide) (List.mem_of_getElem? (i := 1) rfl) rfl rfl dX4_find_16 ?_
    have bd_4 := hI.bd 11 0
    refine j_if_eq (tgt := 26) hx hb dX4_find_19 (by decide) ⟨by omega, by omega⟩ (fun c_3 => ?_) (fun c_3 => ?_)
    · refine j_iconst hx hb dX4_find_26 ?_
      refine m_run (va_runV (As := [.int (iI 0)]) (rest := []) ⟨hx, hb, hml, hown, hts⟩ (k_X4_isFine (l := l) (tc := 0) hM hI ⟨by decide, by decide⟩) (cwV 1 hts gX4_find_X4_isFine rfl rfl rfl (by decide +kernel) ⟨by decide, by decide⟩) ⟨Kp.blind _ _ _ _ _, m_recv hK hB (ci := 4) rfl hM.1, fun U hU hW => hK.pass hB U hU hW⟩ rfl rfl hl.1 rfl (lv_room (Nat.le_of_ble_eq_true rfl)) dX4_find_27 ⟨Nat.le_of_ble_eq_true rfl, Nat.le_of_ble_eq_true rfl⟩) hB (fun v u H locs hp_5 hB => ?_)
      obtain ⟨ev, hM, hFm⟩ := hp_5
      rw [b2_t (by decide)] at ev
      subst ev
      show W _ _ _ _ _ _ _ _ _ _ _ _ _ _ _ (F0 m 30 ls [.int (iI 1)])
      have hF := hF.tr hFm
      refine j_if_ne (tgt := 35) hx hb dX4_find_30 (by decide) ⟨by decide, by decide⟩ (fun c_6 => ?_) (fun c_6 => absurd c_6 (by decide))
      refine j_iconst hx hb dX4_find_35 ?_
      refine lv_istore_n (lv' := [(2, .int (iI 0)), (0, .ref xm), (1, .int (iI vl))]) hx hb dX4_find_36 rfl hl (by decide) rfl (fun ls hl => ?_)
      refine j_iconst hx hb dX4_find_37 ?_
      refine lv_istore_n (lv' := [(3, .int (iI 0)), (2, .int (iI 0)), (0, .ref xm), (1, .int (iI vl))]) hx hb dX4_find_38 rfl hl (by decide) rfl (fun ls hl => ?_)
      have lp_39 : ∀ (fuel j : Nat) (a : Int), j ≤ (nrN σ) → (nrN σ) + 1 ≤ j + fuel → ∀ (ea : a = cnt (fun j => live σ j ∧ σ 4 (pn σ j) = 0 ∧ σ 8 j = vl) j) (H : Heap) (locs : List Loc), Bk D z s.heap u H locs → ∀ ls : Array Slot, lv_has ls 4 [(3, .int (iI (j : Int))), (2, .int (iI a)), (0, .ref xm), (1, .int (iI vl))] → W p l e rmX4_find s m args below meth c H locs 0 0 (MQ below (Qx D z (fun v u => (((0 ≤ vl ∧ vl ≤ 99) ∧ σ 11 0 = 0) ∧ v = some (.int (iI (cnt (fun j => live σ j ∧ σ 4 (pn σ j) = 0 ∧ σ 8 j = vl) (nrN σ)))) ∧ MR cI xm xa σ 0 u ∧ FrM h0 u) ∨ ((¬ (0 ≤ vl ∧ vl ≤ 99)) ∧ v = some (.int (iI 0)) ∧ MR cI xm xa σ 1 u ∧ FrM h0 u) ∨ (((0 ≤ vl ∧ vl ≤ 99) ∧ σ 11 0 ≠ 0) ∧ v = some (.int (iI 0)) ∧ MR cI xm xa σ 2 u ∧ FrM h0 u))) args s (rmX4_find).cells (rmX4_find).slots (zA z)) (F0 m 39 ls []) := by
        intro fuel
        induction fuel with
        | zero => intro j a w1 w2; exact absurd w2 (by omega)
        | succ fuel ih39 =>
          intro j a w1 w2 ea H locs hB ls hl
          have ear := cnt_rg (fun j => live σ j ∧ σ 4 (pn σ j) = 0 ∧ σ 8 j = vl) j
          refine lv_iload_n hx hb dX4_find_39 rfl (lv_at hl 0 rfl) ?_
          refine lv_aload_n hx hb dX4_find_40 rfl (lv_at hl 2 rfl) ?_
          refine m_get hx hb hts (fun _ q => List.mem_cons_of_mem _ (List.mem_append_right _ q)) hown hK hB hM.1 (ci := 4) rfl 11 (by decide) (List.mem_of_getElem? (i := 2) rfl) rfl rfl dX4_find_41 ?_
          have bd_7 := hI.bd 10 0
          refine j_icmp_ge (tgt := 79) hx hb dX4_find_44 (by decide) ⟨by omega, by omega⟩ ⟨by omega, by omega⟩ (fun c_8 => ?_) (fun c_8 => ?_)
          · refine lv_iload_n hx hb dX4_find_79 rfl (lv_at hl 1 rfl) ?_
            exact m_zret hx hb hr rfl hlocks hB (by decide) (by decide) dX4_find_80 (by (repeat rw [Int.toNat_natCast]); exact Or.inl (⟨⟨c_2, by omega⟩, ret_e (by rw [ea, show j = nrN σ by omega]), hM, hF⟩))
          · refine lv_iload_n hx hb dX4_find_47 rfl (lv_at hl 1 rfl) ?_
            refine lv_aload_n hx hb dX4_find_48 rfl (lv_at hl 2 rfl) ?_
            refine lv_iload_n hx hb dX4_find_49 rfl (lv_at hl 0 rfl) ?_
            refine m_run (va_runV (As := [.int (iI (j : Int))]) (rest := [.int (iI a)]) ⟨hx, hb, hml, hown, hts⟩ (k_X4_isTabled (l := l) hM hI (j := j) (by omega)) (cwV 1 hts gX4_find_X4_isTabled rfl rfl rfl (by decide +kernel) ⟨by decide, by decide⟩) ⟨Kp.blind _ _ _ _ _, m_recv hK hB (ci := 4) rfl hM.1, fun U hU hW => hK.pass hB U hU hW⟩ rfl rfl hl.1 rfl (lv_room (Nat.le_of_ble_eq_true rfl)) dX4_find_50 ⟨Nat.le_of_ble_eq_true rfl, Nat.le_of_ble_eq_true rfl⟩) hB (fun v u H locs hp_9 hB => ?_)
            obtain ⟨rfl, rfl⟩ := hp_9
            show W _ _ _ _ _ _ _ _ _ _ _ _ _ _ _ (F0 m 53 ls [.int (iI (b2 (live σ j ∧ σ 4 (pn σ j) = 0))), .int (iI a)])
            refine j_ifeqP (tgt := 70) hx hb dX4_find_53 (by decide) (fun c_10 => ?_) (fun c_10 => ?_)
            · refine j_iconst hx hb dX4_find_70 ?_
              refine j_iadd hx hb dX4_find_71 ?_
              refine lv_istore_n (lv' := [(2, .int (iI (a + 0))), (3, .int (iI (j : Int))), (0, .ref xm), (1, .int (iI vl))]) hx hb dX4_find_72 rfl hl (by decide) rfl (fun ls hl => ?_)
              refine j_iinc (lv' := [(3, .int (iI ((j + 1 : Nat) : Int))), (2, .int (iI (a + 0))), (0, .ref xm), (1, .int (iI vl))]) hx hb dX4_find_73 hl (k := 1) rfl (by decide) rfl (fun ls hl => ?_)
              refine lv_goto (tgt := 39) hx hb dX4_find_76 (by decide) ?_
              exact ih39 (j + 1) (a + 0) (by omega) (by omega) (cs_z ea (fun q => c_10 ⟨q.1, q.2.1⟩)) _ _ hB ls (lv_sub hl [0, 1, 2, 3] rfl)
            · refine lv_aload_n hx hb dX4_find_56 rfl (lv_at hl 2 rfl) ?_
              refine m_get hx hb hts (fun _ q => List.mem_cons_of_mem _ (List.mem_append_right _ q)) hown hK hB hM.1 (ci := 4) rfl 10 (by decide) (List.mem_of_getElem? (i := 3) rfl) rfl rfl dX4_find_57 ?_
              refine lv_iload_n hx hb dX4_find_60 rfl (lv_at hl 0 rfl) ?_
              refine m_mld hx hb hK hB hM 8 (by decide) (i := j) (show j < 200 by omega) dX4_find_61 ?_
              refine lv_iload_n hx hb dX4_find_62 rfl (lv_at hl 3 rfl) ?_
              have bd_11 := hI.bd 8 j
              refine j_icmp_ne (tgt := 70) hx hb dX4_find_63 (by decide) ⟨by omega, by omega⟩ ⟨by omega, by omega⟩ (fun c_12 => ?_) (fun c_12 => ?_)
              · refine j_iconst hx hb dX4_find_70 ?_
                refine j_iadd hx hb dX4_find_71 ?_
                refine lv_istore_n (lv' := [(2, .int (iI (a + 0))), (3, .int (iI (j : Int))), (0, .ref xm), (1, .int (iI vl))]) hx hb dX4_find_72 rfl hl (by decide) rfl (fun ls hl => ?_)
                refine j_iinc (lv' := [(3, .int (iI ((j + 1 : Nat) : Int))), (2, .int (iI (a + 0))), (0, .ref xm), (1, .int (iI vl))]) hx hb dX4_find_73 hl (k := 1) rfl (by decide) rfl (fun ls hl => ?_)
                refine lv_goto (tgt := 39) hx hb dX4_find_76 (by decide) ?_
                exact ih39 (j + 1) (a + 0) (by omega) (by omega) (cs_z ea (fun q => c_12 q.2.2)) _ _ hB ls (lv_sub hl [0, 1, 2, 3] rfl)
              · refine j_iconst hx hb dX4_find_66 ?_
                refine lv_goto (tgt := 71) hx hb dX4_find_67 (by decide) ?_
                refine j_iadd hx hb dX4_find_71 ?_
                refine lv_istore_n (lv' := [(2, .int (iI (a + 1))), (3, .int (iI (j : Int))), (0, .ref xm), (1, .int (iI vl))]) hx hb dX4_find_72 rfl hl (by decide) rfl (fun ls hl => ?_)
                refine j_iinc (lv' := [(3, .int (iI ((j + 1 : Nat) : Int))), (2, .int (iI (a + 1))), (0, .ref xm), (1, .int (iI vl))]) hx hb dX4_find_73 hl (k := 1) rfl (by decide) rfl (fun ls hl => ?_)
                refine lv_goto (tgt := 39) hx hb dX4_find_76 (by decide) ?_
                exact ih39 (j + 1) (a + 1) (by omega) (by omega) (cs_t ea ⟨c_10.1, c_10.2, c_12⟩) _ _ hB ls (lv_sub hl [0, 1, 2, 3] rfl)
      exact lp_39 ((nrN σ) + 1) 0 0 (by omega) (by omega) rfl _ _ hB ls (lv_sub hl [0, 1, 2, 3] rfl)
    · refine j_iconst hx hb dX4_find_22 ?_
      refine lv_goto (tgt := 27) hx hb dX4_find_23 (by decide) ?_
      refine m_run (va_runV (As := [.int (iI 2)]) (rest := []) ⟨hx, hb, hml, hown, hts⟩ (k_X4_isFine (l := l) (tc := 2) hM hI ⟨by decide, by decide⟩) (cwV 1 hts gX4_find_X4_isFine rfl rfl rfl (by decide +kernel) ⟨by decide, by decide⟩) ⟨Kp.blind _ _ _ _ _, m_recv hK hB (ci := 4) rfl hM.1, fun U hU hW => hK.pass hB U hU hW⟩ rfl rfl hl.1 rfl (lv_room (Nat.le_of_ble_eq_true rfl)) dX4_find_27 ⟨Nat.le_of_ble_eq_true rfl, Nat.le_of_ble_eq_true rfl⟩) hB (fun v u H locs hp_13 hB => ?_)
      obtain ⟨ev, hM, hFm⟩ := hp_13
      rw [b2_f (by decide)] at ev
      subst ev
      show W _ _ _ _ _ _ _ _ _ _ _ _ _ _ _ (F0 m 30 ls [.int (iI 0)])
      have hF := hF.tr hFm
      refine j_if_ne (tgt := 35) hx hb dX4_find_30 (by decide) ⟨by decide, by decide⟩ (fun c_14 => absurd c_14 (by decide)) (fun c_14 => ?_)
      refine j_iconst hx hb dX4_find_33 ?_
      exact m_zret hx hb hr rfl hlocks hB (by decide) (by decide) dX4_find_34 (by (repeat rw [Int.toNat_natCast]); exact Or.inr (Or.inr (⟨⟨c_2, by omega⟩, rfl, hM, hF⟩)))
  · refine j_iconst hx hb dX4_find_11 ?_
    refine lv_goto (tgt := 27) hx hb dX4_find_12 (by decide) ?_
    refine m_run (va_runV (As := [.int (iI 1)]) (rest := []) ⟨hx, hb, hml, hown, hts⟩ (k_X4_isFine (l := l) (tc := 1) hM hI ⟨by decide, by decide⟩) (cwV 1 hts gX4_find_X4_isFine rfl rfl rfl (by decide +kernel) ⟨by decide, by decide⟩) ⟨Kp.blind _ _ _ _ _, m_recv hK hB (ci := 4) rfl hM.1, fun U hU hW => hK.pass hB U hU hW⟩ rfl rfl hl.1 rfl (lv_room (Nat.le_of_ble_eq_true rfl)) dX4_find_27 ⟨Nat.le_of_ble_eq_true rfl, Nat.le_of_ble_eq_true rfl⟩) hB (fun v u H locs hp_15 hB => ?_)
    obtain ⟨ev, hM, hFm⟩ := hp_15
    rw [b2_f (by decide)] at ev
    subst ev
    show W _ _ _ _ _ _ _ _ _ _ _ _ _ _ _ (F0 m 30 ls [.int (iI 0)])
    have hF := hF.tr hFm
    refine j_if_ne (tgt := 35) hx hb dX4_find_30 (by decide) ⟨by decide, by decide⟩ (fun c_16 => absurd c_16 (by decide)) (fun c_16 => ?_)
    refine j_iconst hx hb dX4_find_33 ?_
    exact m_zret hx hb hr rfl hlocks hB (by decide) (by decide) dX4_find_34 (by (repeat rw [Int.toNat_natCast]); exact Or.inr (Or.inl (⟨c_2, rfl, hM, hF⟩)))

abbrev rmX4_findIn : Room := { frames := 3, cells := 0, slots := 0, locals := 64 }
set_option maxHeartbeats 4000000 in
set_option maxRecDepth 100000 in
theorem k_X4_findIn {l : Launch} {D : va_G} {z : Nat} {cI cP cR cJ : ClassId} {h0 : Hp} {xm : Nat} {xa : Nat → Nat} {σ : Sg} {th : Int} (hM : MR cI xm xa σ th h0) (hI : Ib σ) {n vl : Int} (rn : rg n) (rv : rg vl) : Ct l D z (tyL cI cP cR cJ) yX4_findIn wsX4_findIn rmX4_findIn [.ref xm, .int (iI n), .int (iI vl)] h0 (fun v u => ((isA σ n ∧ (0 ≤ vl ∧ vl ≤ 99)) ∧ v = some (.int (iI (cnt (fun j => live σ j ∧ pn σ j = n.toNat ∧ σ 8 j = vl) (nrN σ)))) ∧ MR cI xm xa σ 0 u ∧ FrM h0 u) ∨ ((¬ isA σ n) ∧ v = some (.int (iI 0)) ∧ MR cI xm xa σ 1 u ∧ FrM h0 u) ∨ ((isA σ n ∧ ¬ (0 ≤ vl ∧ vl ≤ 99)) ∧ v = some (.int (iI 0)) ∧ MR cI xm xa σ 2 u ∧ FrM h0 u)) := by
  refine Ct.of (cc := cX4_findIn) (maxL := 5) (ret := (some .int)) (by decide) rfl (Nat.le_of_ble_eq_true rfl) ?_
  intro p e s m args below meth c hx hb hr hts hown hlocks hml hnm hK hB ls hl
  have hl : lv_has ls 5 [(0, .ref xm), (1, .int (iI n)), (2, .int (iI vl))] := hl
  have hF := FrM.rf h0
  have hnp := hI.hnp
  have hnr := hI.hnr
  have hnrI := hI.nrI
  have hnpI := hI.npI
  have hre := hI.rest
  refine lv_aload_n hx hb dX4_findIn_0 rfl (lv_at hl 0 rfl) ?_
  refine lv_aload_n hx hb dX4_findIn_1 rfl (lv_at hl 0 rfl) ?_
  refine lv_iload_n hx hb dX4_findIn_2 rfl (lv_at hl 1 rfl) ?_
  refine m_run (va_runV (As := [.int (iI n)]) (rest := [.ref xm]) ⟨hx, hb, hml, hown, hts⟩ (k_X4_isAny (l := l) hM hI ⟨by omega, by omega⟩) (cwV 1 hts gX4_findIn_X4_isAny rfl rfl rfl (by decide +kernel) ⟨by decide, by decide⟩) ⟨Kp.blind _ _ _ _ _, m_recv hK hB (ci := 4) rfl hM.1, fun U hU hW => hK.pass hB U hU hW⟩ rfl rfl hl.1 rfl (lv_room (Nat.le_of_ble_eq_true rfl)) dX4_findIn_3 ⟨Nat.le_of_ble_eq_true rfl, Nat.le_of_ble_eq_true rfl⟩) hB (fun v u H locs hp_1 hB => ?_)
  obtain ⟨rfl, rfl⟩ := hp_1
  show W _ _ _ _ _ _ _ _ _ _ _ _ _ _ _ (F0 m 6 ls [.int (iI (b2 (isA σ n))), .ref xm])
  refine j_ifneP (tgt := 13) hx hb dX4_findIn_6 (by decide) (fun c_2 => ?_) (fun c_2 => ?_)
  · refine lv_iload_n hx hb dX4_findIn_13 rfl (lv_at hl 2 rfl) ?_
    refine j_iconst hx hb dX4_findIn_14 ?_
    refine j_bipush hx hb dX4_findIn_15 (by decide) ?_
    refine m_run (va_runS (As := [.int (iI vl), .int (iI 0), .int (iI 99)]) (rest := [.ref xm]) ⟨hx, hb, hml, hown, hts⟩ (k_X4_isIn (l := l) ⟨by omega, by omega⟩ ⟨by decide, by decide⟩ ⟨by decide, by decide⟩) (va_cwS 3 hts gX4_findIn_X4_isIn rfl rfl rfl (by decide +kernel) ⟨by decide, by decide⟩) ⟨Kp.blind _ _ _ _ _, fun U hU hW => hK.pass hB U hU hW⟩ rfl rfl hl.1 rfl (lv_room (Nat.le_of_ble_eq_true rfl)) dX4_findIn_17 ⟨Nat.le_of_ble_eq_true rfl, Nat.le_of_ble_eq_true rfl⟩) hB (fun v u H locs hp_3 hB => ?_)
    obtain ⟨rfl, rfl⟩ := hp_3
    show W _ _ _ _ _ _ _ _ _ _ _ _ _ _ _ (F0 m 20 ls [.int (iI (b2 (0 ≤ vl ∧ vl ≤ 99))), .ref xm])
    refine j_ifneP (tgt := 27) hx hb dX4_findIn_20 (by decide) (fun c_4 => ?_) (fun c_4 => ?_)
    · refine j_iconst hx hb dX4_findIn_27 ?_
      refine m_run (va_runV (As := [.int (iI 0)]) (rest := []) ⟨hx, hb, hml, hown, hts⟩ (k_X4_isFine (l := l) (tc := 0) hM hI ⟨by decide, by decide⟩) (cwV 1 hts gX4_findIn_X4_isFine rfl rfl rfl (by decide +kernel) ⟨by decide, by decide⟩) ⟨Kp.blind _ _ _ _ _, m_recv hK hB (ci := 4) rfl hM.1, fun U hU hW => hK.pass hB U hU hW⟩ rfl rfl hl.1 rfl (lv_room (Nat.le_of_ble_eq_true rfl)) dX4_findIn_28 ⟨Nat.le_of_ble_eq_true rfl, Nat.le_of_ble_eq_true rfl⟩) hB (fun v u H locs hp_5 hB => ?_)
      obtain ⟨ev, hM, hFm⟩ := hp_5
      rw [b2_t (by decide)] at ev
      subst ev
      show W _ _ _ _ _ _ _ _ _ _ _ _ _ _ _ (F0 m 31 ls [.int (iI 1)])
      have hF := hF.tr hFm
      refine j_if_ne (tgt := 36) hx hb dX4_findIn_31 (by decide) ⟨by decide, by decide⟩ (fun c_6 => ?_) (fun c_6 => absurd c_6 (by decide))
      have hnn : 0 ≤ n := by have w := c_2; unfold isA isP at w; omega
      obtain ⟨ia, rfl⟩ : ∃ ia : Nat, n = (ia : Int) := ⟨n.toNat, by omega⟩
      have hia := (isA_i hI).mp c_2
      refine j_iconst hx hb dX4_findIn_36 ?_
      refine lv_istore_n (lv' := [(3, .int (iI 0)), (0, .ref xm), (1, .int (iI (ia : Int))), (2, .int (iI vl))]) hx hb dX4_findIn_37 rfl hl (by decide) rfl (fun ls hl => ?_)
      refine j_iconst hx hb dX4_findIn_38 ?_
      refine lv_istore (lv' := [(4, .int (iI 0)), (3, .int (iI 0)), (0, .ref xm), (1, .int (iI (ia : Int))), (2, .int (iI vl))]) hx hb dX4_findIn_39 hl (by decide) rfl (fun ls hl => ?_)
      have lp_41 : ∀ (fuel j : Nat) (a : Int), j ≤ (nrN σ) → (nrN σ) + 1 ≤ j + fuel → ∀ (ea : a = cnt (fun j => live σ j ∧ pn σ j = ia ∧ σ 8 j = vl) j) (H : Heap) (locs : List Loc), Bk D z s.heap u H locs → ∀ ls : Array Slot, lv_has ls 5 [(4, .int (iI (j : Int))), (3, .int (iI a)), (0, .ref xm), (1, .int (iI (ia : Int))), (2, .int (iI vl))] → W p l e rmX4_findIn s m args below meth c H locs 0 0 (MQ below (Qx D z (fun v u => ((isA σ (ia : Int) ∧ (0 ≤ vl ∧ vl ≤ 99)) ∧ v = some (.int (iI (cnt (fun j => live σ j ∧ pn σ j = (ia : Int).toNat ∧ σ 8 j = vl) (nrN σ)))) ∧ MR cI xm xa σ 0 u ∧ FrM h0 u) ∨ ((¬ isA σ (ia : Int)) ∧ v = some (.int (iI 0)) ∧ MR cI xm xa σ 1 u ∧ FrM h0 u) ∨ ((isA σ (ia : Int) ∧ ¬ (0 ≤ vl ∧ vl ≤ 99)) ∧ v = some (.int (iI 0)) ∧ MR cI xm xa σ 2 u ∧ FrM h0 u))) args s (rmX4_findIn).cells (rmX4_findIn).slots (zA z)) (F0 m 41 ls []) := by
        intro fuel
        induction fuel with
        | zero => intro j a w1 w2; exact absurd w2 (by omega)
        | succ fuel ih41 =>
          intro j a w1 w2 ea H locs hB ls hl
          have ear := cnt_rg (fun j => live σ j ∧ pn σ j = ia ∧ σ 8 j = vl) j
          refine lv_iload hx hb dX4_findIn_41 (lv_at hl 0 rfl) ?_
          refine lv_aload_n hx hb dX4_findIn_43 rfl (lv_at hl 2 rfl) ?_
          refine m_get hx hb hts (fun _ q => List.mem_cons_of_mem _ (List.mem_append_right _ q)) hown hK hB hM.1 (ci := 4) rfl 11 (by decide) (List.mem_of_getElem? (i := 1) rfl) rfl rfl dX4_findIn_44 ?_
          have bd_7 := hI.bd 10 0
          refine j_icmp_ge (tgt := 86) hx hb dX4_findIn_47 (by decide) ⟨by omega, by omega⟩ ⟨by omega, by omega⟩ (fun c_8 => ?_) (fun c_8 => ?_)
          · refine lv_iload_n hx hb dX4_findIn_86 rfl (lv_at hl 1 rfl) ?_
            exact m_zret hx hb hr rfl hlocks hB (by decide) (by decide) dX4_findIn_87 (by (repeat rw [Int.toNat_natCast]); exact Or.inl (⟨⟨c_2, c_4⟩, ret_e (by rw [ea, show j = nrN σ by omega]), hM, hF⟩))
          · refine lv_iload_n hx hb dX4_findIn_50 rfl (lv_at hl 1 rfl) ?_
            refine lv_aload_n hx hb dX4_findIn_51 rfl (lv_at hl 2 rfl) ?_
            refine m_get hx hb hts (fun _ q => List.mem_cons_of_mem _ (List.mem_append_right _ q)) hown hK hB hM.1 (ci := 4) rfl 7 (by decide) (List.mem_of_getElem? (i := 2) rfl) rfl rfl dX4_findIn_52 ?_
            refine lv_iload hx hb dX4_findIn_55 (lv_at hl 0 rfl) ?_
            refine m_mld hx hb hK hB hM 5 (by decide) (i := j) (show j < 200 by omega) dX4_findIn_57 ?_
            refine lv_iload_n hx hb dX4_findIn_58 rfl (lv_at hl 3 rfl) ?_
            have bd_9 := hI.bd 5 j
            refine j_icmp_ne (tgt := 77) hx hb dX4_findIn_59 (by decide) ⟨by omega, by omega⟩ ⟨by omega, by omega⟩ (fun c_10 => ?_) (fun c_10 => ?_)
            · refine j_iconst hx hb dX4_findIn_77 ?_
              refine j_iadd hx hb dX4_findIn_78 ?_
              refine lv_istore_n (lv' := [(3, .int (iI (a + 0))), (4, .int (iI (j : Int))), (0, .ref xm), (1, .int (iI (ia : Int))), (2, .int (iI vl))]) hx hb dX4_findIn_79 rfl hl (by decide) rfl (fun ls hl => ?_)
              refine j_iinc (lv' := [(4, .int (iI ((j + 1 : Nat) : Int))), (3, .int (iI (a + 0))), (0, .ref xm), (1, .int (iI (ia : Int))), (2, .int (iI vl))]) hx hb dX4_findIn_80 hl (k := 1) rfl (by decide) rfl (fun ls hl => ?_)
              refine lv_goto (tgt := 41) hx hb dX4_findIn_83 (by decide) ?_
              exact ih41 (j + 1) (a + 0) (by omega) (by omega) (cs_z ea (fun q => c_10 (hI.pn5 q.1 q.2.1))) _ _ hB ls (lv_sub hl [0, 1, 2, 3, 4] rfl)
            · refine lv_aload_n hx hb dX4_findIn_62 rfl (lv_at hl 2 rfl) ?_
              refine m_get hx hb hts (fun _ q => List.mem_cons_of_mem _ (List.mem_append_right _ q)) hown hK hB hM.1 (ci := 4) rfl 10 (by decide) (List.mem_of_getElem? (i := 3) rfl) rfl rfl dX4_findIn_63 ?_
              refine lv_iload hx hb dX4_findIn_66 (lv_at hl 0 rfl) ?_
              refine m_mld hx hb hK hB hM 8 (by decide) (i := j) (show j < 200 by omega) dX4_findIn_68 ?_
              refine lv_iload_n hx hb dX4_findIn_69 rfl (lv_at hl 4 rfl) ?_
              have bd_11 := hI.bd 8 j
              refine j_icmp_ne (tgt := 77) hx hb dX4_findIn_70 (by decide) ⟨by omega, by omega⟩ ⟨by omega, by omega⟩ (fun c_12 => ?_) (fun c_12 => ?_)
              · refine j_iconst hx hb dX4_findIn_77 ?_
                refine j_iadd hx hb dX4_findIn_78 ?_
                refine lv_istore_n (lv' := [(3, .int (iI (a + 0))), (4, .int (iI (j : Int))), (0, .ref xm), (1, .int (iI (ia : Int))), (2, .int (iI vl))]) hx hb dX4_findIn_79 rfl hl (by decide) rfl (fun ls hl => ?_)
                refine j_iinc (lv' := [(4, .int (iI ((j + 1 : Nat) : Int))), (3, .int (iI (a + 0))), (0, .ref xm), (1, .int (iI (ia : Int))), (2, .int (iI vl))]) hx hb dX4_findIn_80 hl (k := 1) rfl (by decide) rfl (fun ls hl => ?_)
                refine lv_goto (tgt := 41) hx hb dX4_findIn_83 (by decide) ?_
                exact ih41 (j + 1) (a + 0) (by omega) (by omega) (cs_z ea (fun q => c_12 q.2.2)) _ _ hB ls (lv_sub hl [0, 1, 2, 3, 4] rfl)
              · refine j_iconst hx hb dX4_findIn_73 ?_
                refine lv_goto (tgt := 78) hx hb dX4_findIn_74 (by decide) ?_
                refine j_iadd hx hb dX4_findIn_78 ?_
                refine lv_istore_n (lv' := [(3, .int (iI (a + 1))), (4, .int (iI (j : Int))), (0, .ref xm), (1, .int (iI (ia : Int))), (2, .int (iI vl))]) hx hb dX4_findIn_79 rfl hl (by decide) rfl (fun ls hl => ?_)
                refine j_iinc (lv' := [(4, .int (iI ((j + 1 : Nat) : Int))), (3, .int (iI (a + 1))), (0, .ref xm), (1, .int (iI (ia : Int))), (2, .int (iI vl))]) hx hb dX4_findIn_80 hl (k := 1) rfl (by decide) rfl (fun ls hl => ?_)
                refine lv_goto (tgt := 41) hx hb dX4_findIn_83 (by decide) ?_
                exact ih41 (j + 1) (a + 1) (by omega) (by omega) (cs_t ea ⟨⟨by omega, by omega⟩, pn_is c_10, c_12⟩) _ _ hB ls (lv_sub hl [0, 1, 2, 3, 4] rfl)
      exact lp_41 ((nrN σ) + 1) 0 0 (by omega) (by omega) rfl _ _ hB ls (lv_sub hl [0, 1, 2, 3, 4] rfl)
    · refine j_iconst hx hb dX4_findIn_23 ?_
      refine lv_goto (tgt := 28) hx hb dX4_findIn_24 (by decide) ?_
      refine m_run (va_runV (As := [.int (iI 2)]) (rest := []) ⟨hx, hb, hml, hown, hts⟩ (k_X4_isFine (l := l) (tc := 2) hM hI ⟨by decide, by decide⟩) (cwV 1 hts gX4_findIn_X4_isFine rfl rfl rfl (by decide +kernel) ⟨by decide, by decide⟩) ⟨Kp.blind _ _ _ _ _, m_recv hK hB (ci := 4) rfl hM.1, fun U hU hW => hK.pass hB U hU hW⟩ rfl rfl hl.1 rfl (lv_room (Nat.le_of_ble_eq_true rfl)) dX4_findIn_28 ⟨Nat.le_of_ble_eq_true rfl, Nat.le_of_ble_eq_true rfl⟩) hB (fun v u H locs hp_13 hB => ?_)
      obtain ⟨ev, hM, hFm⟩ := hp_13
      rw [b2_f (by decide)] at ev
      subst ev
      show W _ _ _ _ _ _ _ _ _ _ _ _ _ _ _ (F0 m 31 ls [.int (iI 0)])
      have hF := hF.tr hFm
      refine j_if_ne (tgt := 36) hx hb dX4_findIn_31 (by decide) ⟨by decide, by decide⟩ (fun c_14 => absurd c_14 (by decide)) (fun c_14 => ?_)
      refine j_iconst hx hb dX4_findIn_34 ?_
      exact m_zret hx hb hr rfl hlocks hB (by decide) (by decide) dX4_findIn_35 (by (repeat rw [Int.toNat_natCast]); exact Or.inr (Or.inr (⟨⟨c_2, c_4⟩, rfl, hM, hF⟩)))
  · refine j_iconst hx hb dX4_findIn_9 ?_
    refine lv_goto (tgt := 28) hx hb dX4_findIn_10 (by decide) ?_
    refine m_run (va_runV (As := [.int (iI 1)]) (rest := []) ⟨hx, hb, hml, hown, hts⟩ (k_X4_isFine (l := l) (tc := 1) hM hI ⟨by decide, by decide⟩) (cwV 1 hts gX4_findIn_X4_isFine rfl rfl rfl (by decide +kernel) ⟨by decide, by decide⟩) ⟨Kp.blind _ _ _ _ _, m_recv hK hB (ci := 4) rfl hM.1, fun U hU hW => hK.pass hB U hU hW⟩ rfl rfl hl.1 rfl (lv_room (Nat.le_of_ble_eq_true rfl)) dX4_findIn_28 ⟨Nat.le_of_ble_eq_true rfl, Nat.le_of_ble_eq_true rfl⟩) hB (fun v u H locs hp_15 hB => ?_)
    obtain ⟨ev, hM, hFm⟩ := hp_15
    rw [b2_f (by decide)] at ev
    subst ev
    show W _ _ _ _ _ _ _ _ _ _ _ _ _ _ _ (F0 m 31 ls [.int (iI 0)])
    have hF := hF.tr hFm
    refine j_if_ne (tgt := 36) hx hb dX4_findIn_31 (by decide) ⟨by decide, by decide⟩ (fun c_16 => absurd c_16 (by decide)) (fun c_16 => ?_)
    refine j_iconst hx hb dX4_findIn_34 ?_
    exact m_zret hx hb hr rfl hlocks hB (by decide) (by decide) dX4_findIn_35 (by (repeat rw [Int.toNat_natCast]); exact Or.inr (Or.inl (⟨c_2, rfl, hM, hF⟩)))

