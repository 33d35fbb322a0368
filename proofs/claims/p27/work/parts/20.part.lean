abbrev rmX0_covers : Room := { frames := 0, cells := 0, slots := 0, locals := 0 }
set_option maxHeartbeats 4000000 in
set_option maxRecDepth 100000 in
theorem k_X0_covers {l : Launch} {D : va_G} {z : Nat} {cI cP cR cJ : ClassId} {h : Hp} {a : Nat} {n f t k d st : Int} (he : h a = some (prt n f t k d st)) {key : Int} (rf : rg f) (rt : rg t) (rk : rg key) : Ct l D z (tyL cI cP cR cJ) yX0_covers wsX0_covers rmX0_covers [.ref a, .int (iI key)] h (fun v u => v = some (.int (iI (b2 (f ≤ key ∧ key < t)))) ∧ h = u) := by
  refine Ct.of (cc := cX0_covers) (maxL := 2) (ret := (some .boolean)) (by decide) rfl (Nat.le_of_ble_eq_true rfl) ?_
  intro p e s m args below meth c hx hb hr hts hown hlocks hml hnm hK hB ls hl
  have hl : lv_has ls 2 [(0, .ref a), (1, .int (iI key))] := hl
  refine lv_iload_n hx hb dX0_covers_0 rfl (lv_at hl 1 rfl) ?_
  refine lv_aload_n hx hb dX0_covers_1 rfl (lv_at hl 0 rfl) ?_
  refine m_get hx hb hts (fun _ q => List.mem_cons_of_mem _ (List.mem_append_right _ q)) hown hK hB he (ci := 0) rfl 1 (by decide) (List.mem_of_getElem? (i := 1) rfl) rfl rfl dX0_covers_2 ?_
  refine j_icmp_lt (tgt := 20) hx hb dX0_covers_5 (by decide) ⟨by omega, by omega⟩ ⟨by omega, by omega⟩ (fun c_1 => ?_) (fun c_1 => ?_)
  · refine j_iconst hx hb dX0_covers_20 ?_
    exact m_zret hx hb hr (by decide) hlocks hB (by decide) (by decide) dX0_covers_21 ⟨ret_f (by omega), rfl⟩
  · refine lv_iload_n hx hb dX0_covers_8 rfl (lv_at hl 1 rfl) ?_
    refine lv_aload_n hx hb dX0_covers_9 rfl (lv_at hl 0 rfl) ?_
    refine m_get hx hb hts (fun _ q => List.mem_cons_of_mem _ (List.mem_append_right _ q)) hown hK hB he (ci := 0) rfl 2 (by decide) (List.mem_of_getElem? (i := 2) rfl) rfl rfl dX0_covers_10 ?_
    refine j_icmp_ge (tgt := 20) hx hb dX0_covers_13 (by decide) ⟨by omega, by omega⟩ ⟨by omega, by omega⟩ (fun c_2 => ?_) (fun c_2 => ?_)
    · refine j_iconst hx hb dX0_covers_20 ?_
      exact m_zret hx hb hr (by decide) hlocks hB (by decide) (by decide) dX0_covers_21 ⟨ret_f (by omega), rfl⟩
    · refine j_iconst hx hb dX0_covers_16 ?_
      refine lv_goto (tgt := 21) hx hb dX0_covers_17 (by decide) ?_
      exact m_zret hx hb hr (by decide) hlocks hB (by decide) (by decide) dX0_covers_21 ⟨ret_t (by omega), rfl⟩

abbrev rmX0_overlaps : Room := { frames := 0, cells := 0, slots := 0, locals := 0 }
set_option maxHeartbeats 4000000 in
set_option maxRecDepth 100000 in
theorem k_X0_overlaps {l : Launch} {D : va_G} {z : Nat} {cI cP cR cJ : ClassId} {h : Hp} {a : Nat} {n f t k d st : Int} (he : h a = some (prt n f t k d st)) {a2 : Nat} {n2 f2 t2 k2 d2 st2 : Int} (he2 : h a2 = some (prt n2 f2 t2 k2 d2 st2)) (rf : rg f) (rt : rg t) (rf2 : rg f2) (rt2 : rg t2) : Ct l D z (tyL cI cP cR cJ) yX0_overlaps wsX0_overlaps rmX0_overlaps [.ref a, .ref a2] h (fun v u => v = some (.int (iI (b2 (f < t2 ∧ f2 < t)))) ∧ h = u) := by
  refine Ct.of (cc := cX0_overlaps) (maxL := 2) (ret := (some .boolean)) (by decide) rfl (Nat.le_of_ble_eq_true rfl) ?_
  intro p e s m args below meth c hx hb hr hts hown hlocks hml hnm hK hB ls hl
  have hl : lv_has ls 2 [(0, .ref a), (1, .ref a2)] := hl
  refine lv_aload_n hx hb dX0_overlaps_0 rfl (lv_at hl 0 rfl) ?_
  refine m_get hx hb hts (fun _ q => List.mem_cons_of_mem _ (List.mem_append_right _ q)) hown hK hB he (ci := 0) rfl 1 (by decide) (List.mem_of_getElem? (i := 1) rfl) rfl rfl dX0_overlaps_1 ?_
  refine lv_aload_n hx hb dX0_overlaps_4 rfl (lv_at hl 1 rfl) ?_
  refine m_get hx hb hts (fun _ q => List.mem_cons_of_mem _ (List.mem_append_right _ q)) hown hK hB he2 (ci := 0) rfl 2 (by decide) (List.mem_of_getElem? (i := 2) rfl) rfl rfl dX0_overlaps_5 ?_
  refine j_icmp_ge (tgt := 26) hx hb dX0_overlaps_8 (by decide) ⟨by omega, by omega⟩ ⟨by omega, by omega⟩ (fun c_1 => ?_) (fun c_1 => ?_)
  · refine j_iconst hx hb dX0_overlaps_26 ?_
    exact m_zret hx hb hr (by decide) hlocks hB (by decide) (by decide) dX0_overlaps_27 ⟨ret_f (by omega), rfl⟩
  · refine lv_aload_n hx hb dX0_overlaps_11 rfl (lv_at hl 1 rfl) ?_
    refine m_get hx hb hts (fun _ q => List.mem_cons_of_mem _ (List.mem_append_right _ q)) hown hK hB he2 (ci := 0) rfl 1 (by decide) (List.mem_of_getElem? (i := 1) rfl) rfl rfl dX0_overlaps_12 ?_
    refine lv_aload_n hx hb dX0_overlaps_15 rfl (lv_at hl 0 rfl) ?_
    refine m_get hx hb hts (fun _ q => List.mem_cons_of_mem _ (List.mem_append_right _ q)) hown hK hB he (ci := 0) rfl 2 (by decide) (List.mem_of_getElem? (i := 2) rfl) rfl rfl dX0_overlaps_16 ?_
    refine j_icmp_ge (tgt := 26) hx hb dX0_overlaps_19 (by decide) ⟨by omega, by omega⟩ ⟨by omega, by omega⟩ (fun c_2 => ?_) (fun c_2 => ?_)
    · refine j_iconst hx hb dX0_overlaps_26 ?_
      exact m_zret hx hb hr (by decide) hlocks hB (by decide) (by decide) dX0_overlaps_27 ⟨ret_f (by omega), rfl⟩
    · refine j_iconst hx hb dX0_overlaps_22 ?_
      refine lv_goto (tgt := 27) hx hb dX0_overlaps_23 (by decide) ?_
      exact m_zret hx hb hr (by decide) hlocks hB (by decide) (by decide) dX0_overlaps_27 ⟨ret_t (by omega), rfl⟩

abbrev rmX0_leaves : Room := { frames := 0, cells := 0, slots := 0, locals := 0 }
set_option maxHeartbeats 4000000 in
set_option maxRecDepth 100000 in
theorem k_X0_leaves {l : Launch} {D : va_G} {z : Nat} {cI cP cR cJ : ClassId} {h : Hp} {a : Nat} {n f t k d st : Int} (he : h a = some (prt n f t k d st)) (rk : rg k) : Ct l D z (tyL cI cP cR cJ) yX0_leaves wsX0_leaves rmX0_leaves [.ref a] h (fun v u => v = some (.int (iI (lvs k d))) ∧ h = u) := by
  refine Ct.of (cc := cX0_leaves) (maxL := 1) (ret := (some .int)) (by decide) rfl (Nat.le_of_ble_eq_true rfl) ?_
  intro p e s m args below meth c hx hb hr hts hown hlocks hml hnm hK hB ls hl
  have hl : lv_has ls 1 [(0, .ref a)] := hl
  refine lv_aload_n hx hb dX0_leaves_0 rfl (lv_at hl 0 rfl) ?_
  refine m_get hx hb hts (fun _ q => List.mem_cons_of_mem _ (List.mem_append_right _ q)) hown hK hB he (ci := 0) rfl 3 (by decide) (List.mem_of_getElem? (i := 1) rfl) rfl rfl dX0_leaves_1 ?_
  refine j_look12 (t0 := 39) (t1 := 32) (t2 := 34) hx hb dX0_leaves_4 (by decide) (by decide) (by decide) ⟨by omega, by omega⟩ (fun c_1 => ?_) (fun c_1 => ?_) (fun c_1 c_1' => ?_)
  · refine j_iconst hx hb dX0_leaves_32 ?_
    exact m_zret hx hb hr rfl hlocks hB (by decide) (by decide) dX0_leaves_33 ⟨ret_e (lvs_1 c_1).symm, rfl⟩
  · refine lv_aload_n hx hb dX0_leaves_34 rfl (lv_at hl 0 rfl) ?_
    refine m_get hx hb hts (fun _ q => List.mem_cons_of_mem _ (List.mem_append_right _ q)) hown hK hB he (ci := 0) rfl 4 (by decide) (List.mem_of_getElem? (i := 2) rfl) rfl rfl dX0_leaves_35 ?_
    exact m_zret hx hb hr rfl hlocks hB (by decide) (by decide) dX0_leaves_38 ⟨ret_e (lvs_2 c_1).symm, rfl⟩
  · refine j_iconst hx hb dX0_leaves_39 ?_
    exact m_zret hx hb hr rfl hlocks hB (by decide) (by decide) dX0_leaves_40 ⟨ret_e (lvs_0 c_1 c_1').symm, rfl⟩

abbrev rmX3_hasSort : Room := { frames := 0, cells := 0, slots := 0, locals := 0 }
set_option maxHeartbeats 4000000 in
set_option maxRecDepth 100000 in
theorem k_X3_hasSort {l : Launch} {D : va_G} {z : Nat} {cI cP cR cJ : ClassId} {h : Hp} {so sr : Int} (h0 : 0 ≤ so) (h1 : so ≤ 1023) (s0 : 0 ≤ sr) (s9 : sr ≤ 9) : Ct l D z (tyL cI cP cR cJ) yX3_hasSort wsX3_hasSort rmX3_hasSort [.int (iI so), .int (iI sr)] h (fun v u => v = some (.int (iI (b2 (hbit so sr)))) ∧ h = u) := by
  refine Ct.of (cc := cX3_hasSort) (maxL := 2) (ret := (some .boolean)) (by decide) rfl (Nat.le_of_ble_eq_true rfl) ?_
  intro p e s m args below meth c hx hb hr hts hown hlocks hml hnm hK hB ls hl
  have hl : lv_has ls 2 [(0, .int (iI so)), (1, .int (iI sr))] := hl
  obtain ⟨n, rfl⟩ : ∃ n : Nat, sr = (n : Int) := ⟨sr.toNat, by omega⟩
  refine lv_iload_n hx hb dX3_hasSort_0 rfl (lv_at hl 0 rfl) ?_
  refine lv_iload_n hx hb dX3_hasSort_1 rfl (lv_at hl 1 rfl) ?_
  refine j_ishr (n := n) hx hb ⟨by omega, by omega⟩ (by omega) dX3_hasSort_2 ?_
  refine j_iconst hx hb dX3_hasSort_3 ?_
  refine j_iand1 hx hb (Int.ediv_nonneg h0 (Int.pow_nonneg (by decide))) dX3_hasSort_4 ?_
  refine j_iconst hx hb dX3_hasSort_5 ?_
  refine j_icmp_ne (tgt := 13) hx hb dX3_hasSort_6 (by decide) ⟨by omega, by omega⟩ ⟨by decide, by decide⟩ (fun c_1 => ?_) (fun c_1 => ?_)
  · refine j_iconst hx hb dX3_hasSort_13 ?_
    exact m_zret hx hb hr (by decide) hlocks hB (by decide) (by decide) dX3_hasSort_14 ⟨ret_f (fun q : hbit so ((n : Nat) : Int) => c_1 q), rfl⟩
  · refine j_iconst hx hb dX3_hasSort_9 ?_
    refine lv_goto (tgt := 14) hx hb dX3_hasSort_10 (by decide) ?_
    exact m_zret hx hb hr (by decide) hlocks hB (by decide) (by decide) dX3_hasSort_14 ⟨ret_t (show hbit so ((n : Nat) : Int) from c_1), rfl⟩

abbrev rmX0_leafByHash : Room := { frames := 0, cells := 0, slots := 0, locals := 0 }
set_option maxHeartbeats 4000000 in
set_option maxRecDepth 100000 in
theorem k_X0_leafByHash {l : Launch} {D : va_G} {z : Nat} {cI cP cR cJ : ClassId} {h : Hp} {a : Nat} {n f t k d st : Int} (he : h a = some (prt n f t k d st)) {key : Int} (k0 : 0 ≤ key) (k9 : key ≤ 999) (d0 : 0 < d) (d5 : d ≤ 5) : Ct l D z (tyL cI cP cR cJ) yX0_leafByHash wsX0_leafByHash rmX0_leafByHash [.ref a, .int (iI key)] h (fun v u => v = some (.int (iI ((7 * key + 3) % d))) ∧ h = u) := by
  refine Ct.of (cc := cX0_leafByHash) (maxL := 2) (ret := (some .int)) (by decide) rfl (Nat.le_of_ble_eq_true rfl) ?_
  intro p e s m args below meth c hx hb hr hts hown hlocks hml hnm hK hB ls hl
  have hl : lv_has ls 2 [(0, .ref a), (1, .int (iI key))] := hl
  refine lv_aload_n hx hb dX0_leafByHash_0 rfl (lv_at hl 0 rfl) ?_
  refine m_get hx hb hts (fun _ q => List.mem_cons_of_mem _ (List.mem_append_right _ q)) hown hK hB he (ci := 0) rfl 4 (by decide) (List.mem_of_getElem? (i := 1) rfl) rfl rfl dX0_leafByHash_1 ?_
  refine j_if_le (tgt := 21) hx hb dX0_leafByHash_4 (by decide) ⟨by omega, by omega⟩ (fun c_1 => ?_) (fun c_1 => ?_)
  · refine j_iconst hx hb dX0_leafByHash_21 ?_
    exact m_zret hx hb hr rfl hlocks hB (by decide) (by decide) dX0_leafByHash_22 (False.elim (by omega))
  · refine j_bipush hx hb dX0_leafByHash_7 (by decide) ?_
    refine lv_iload_n hx hb dX0_leafByHash_9 rfl (lv_at hl 1 rfl) ?_
    refine j_imul hx hb dX0_leafByHash_10 ?_
    refine j_iconst hx hb dX0_leafByHash_11 ?_
    refine j_iadd hx hb dX0_leafByHash_12 ?_
    refine lv_aload_n hx hb dX0_leafByHash_13 rfl (lv_at hl 0 rfl) ?_
    refine m_get hx hb hts (fun _ q => List.mem_cons_of_mem _ (List.mem_append_right _ q)) hown hK hB he (ci := 0) rfl 4 (by decide) (List.mem_of_getElem? (i := 1) rfl) rfl rfl dX0_leafByHash_14 ?_
    refine j_irem hx hb ⟨by omega, by omega⟩ ⟨by omega, by omega⟩ dX0_leafByHash_17 ?_
    refine lv_goto (tgt := 22) hx hb dX0_leafByHash_18 (by decide) ?_
    exact m_zret hx hb hr rfl hlocks hB (by decide) (by decide) dX0_leafByHash_22 ⟨rfl, rfl⟩

abbrev rmX0_leafFor : Room := { frames := 1, cells := 0, slots := 0, locals := 21 }
set_option maxHeartbeats 4000000 in
set_option maxRecDepth 100000 in
theorem k_X0_leafFor {l : Launch} {D : va_G} {z : Nat} {cI cP cR cJ : ClassId} {h : Hp} {a : Nat} {n f t k d st : Int} (he : h a = some (prt n f t k d st)) {key sr : Int} (k0 : 0 ≤ key) (k9 : key ≤ 999) (s0 : 0 ≤ sr) (s9 : sr ≤ 9) (rk : rg k) (d0 : 0 ≤ d) (d9 : d ≤ 1022) (hd : k = 2 → 0 < d ∧ d ≤ 5) : Ct l D z (tyL cI cP cR cJ) yX0_leafFor wsX0_leafFor rmX0_leafFor [.ref a, .int (iI key), .int (iI sr)] h (fun v u => v = some (.int (iI (lf k d key sr))) ∧ h = u) := by
  refine Ct.of (cc := cX0_leafFor) (maxL := 3) (ret := (some .int)) (by decide) rfl (Nat.le_of_ble_eq_true rfl) ?_
  intro p e s m args below meth c hx hb hr hts hown hlocks hml hnm hK hB ls hl
  have hl : lv_has ls 3 [(0, .ref a), (1, .int (iI key)), (2, .int (iI sr))] := hl
  refine lv_aload_n hx hb dX0_leafFor_0 rfl (lv_at hl 0 rfl) ?_
  refine m_get hx hb hts (fun _ q => List.mem_cons_of_mem _ (List.mem_append_right _ q)) hown hK hB he (ci := 0) rfl 3 (by decide) (List.mem_of_getElem? (i := 1) rfl) rfl rfl dX0_leafFor_1 ?_
  refine j_look12 (t0 := 55) (t1 := 32) (t2 := 49) hx hb dX0_leafFor_4 (by decide) (by decide) (by decide) ⟨by omega, by omega⟩ (fun c_1 => ?_) (fun c_1 => ?_) (fun c_1 c_1' => ?_)
  · refine lv_aload_n hx hb dX0_leafFor_32 rfl (lv_at hl 0 rfl) ?_
    refine m_get hx hb hts (fun _ q => List.mem_cons_of_mem _ (List.mem_append_right _ q)) hown hK hB he (ci := 0) rfl 4 (by decide) (List.mem_of_getElem? (i := 2) rfl) rfl rfl dX0_leafFor_33 ?_
    refine lv_iload_n hx hb dX0_leafFor_36 rfl (lv_at hl 2 rfl) ?_
    refine m_run (va_runSN (As := [.int (iI d), .int (iI sr)]) (rest := []) ⟨hx, hb, hml, hown, hts⟩ (k_X3_hasSort (l := l) (so := d) (sr := sr) (by omega) (by omega) (by omega) (by omega)) ⟨va_cnB 2 hts gX0_leafFor_X3_hasSort_n30 rfl rfl rfl hK.2.1.1 (hts _ (List.mem_of_getElem? (i := 4) rfl)) (by decide +kernel) ⟨by decide, by decide⟩, hts _ (List.mem_of_getElem? (i := 3) rfl), trivial⟩ ⟨Kp.blind _ _ _ _ _, fun U hU hW => hK.pass hB U hU hW⟩ rfl rfl hl.1 rfl (lv_room (Nat.le_of_ble_eq_true rfl)) dX0_leafFor_37 ⟨Nat.le_of_ble_eq_true rfl, Nat.le_of_ble_eq_true rfl⟩) hB (fun v u H locs hp_2 hB => ?_)
    obtain ⟨rfl, rfl⟩ := hp_2
    show W _ _ _ _ _ _ _ _ _ _ _ _ _ _ _ (F0 m 40 ls [.int (iI (b2 (hbit d sr)))])
    refine j_ifeqP (tgt := 47) hx hb dX0_leafFor_40 (by decide) (fun c_3 => ?_) (fun c_3 => ?_)
    · refine j_iconst hx hb dX0_leafFor_47 ?_
      exact m_zret hx hb hr rfl hlocks hB (by decide) (by decide) dX0_leafFor_48 ⟨ret_e (lf_1f c_1 c_3).symm, rfl⟩
    · refine j_iconst hx hb dX0_leafFor_43 ?_
      refine lv_goto (tgt := 48) hx hb dX0_leafFor_44 (by decide) ?_
      exact m_zret hx hb hr rfl hlocks hB (by decide) (by decide) dX0_leafFor_48 ⟨ret_e (lf_1t c_1 c_3).symm, rfl⟩
  · refine lv_aload_n hx hb dX0_leafFor_49 rfl (lv_at hl 0 rfl) ?_
    refine lv_iload_n hx hb dX0_leafFor_50 rfl (lv_at hl 1 rfl) ?_
    refine m_run (va_runV (As := [.int (iI key)]) (rest := []) ⟨hx, hb, hml, hown, hts⟩ (k_X0_leafByHash (l := l) he (key := key) (by omega) (by omega) (by omega) (by omega)) (cwV 1 hts gX0_leafFor_X0_leafByHash rfl rfl rfl (by decide +kernel) ⟨by decide, by decide⟩) ⟨Kp.blind _ _ _ _ _, m_recv hK hB (ci := 0) rfl he, fun U hU hW => hK.pass hB U hU hW⟩ rfl rfl hl.1 rfl (lv_room (Nat.le_of_ble_eq_true rfl)) dX0_leafFor_51 ⟨Nat.le_of_ble_eq_true rfl, Nat.le_of_ble_eq_true rfl⟩) hB (fun v u H locs hp_4 hB => ?_)
    obtain ⟨rfl, rfl⟩ := hp_4
    show W _ _ _ _ _ _ _ _ _ _ _ _ _ _ _ (F0 m 54 ls [.int (iI ((7 * key + 3) % d))])
    exact m_zret hx hb hr rfl hlocks hB (by decide) (by decide) dX0_leafFor_54 ⟨ret_e (lf_2 c_1).symm, rfl⟩
  · refine j_iconst hx hb dX0_leafFor_55 ?_
    exact m_zret hx hb hr rfl hlocks hB (by decide) (by decide) dX0_leafFor_56 ⟨ret_e (lf_0 c_1 c_1').symm, rfl⟩

abbrev rmX0_sortsByList : Room := { frames := 0, cells := 0, slots := 0, locals := 0 }
set_option maxHeartbeats 4000000 in
set_option maxRecDepth 100000 in
theorem k_X0_sortsByList {l : Launch} {D : va_G} {z : Nat} {cI cP cR cJ : ClassId} {h : Hp} {a : Nat} {n f t k d st : Int} (he : h a = some (prt n f t k d st)) {leaf : Int} (rl : rg leaf) : Ct l D z (tyL cI cP cR cJ) yX0_sortsByList wsX0_sortsByList rmX0_sortsByList [.ref a, .int (iI leaf)] h (fun v u => v = some (.int (iI (sbl d leaf))) ∧ h = u) := by
  refine Ct.of (cc := cX0_sortsByList) (maxL := 2) (ret := (some .int)) (by decide) rfl (Nat.le_of_ble_eq_true rfl) ?_
  intro p e s m args below meth c hx hb hr hts hown hlocks hml hnm hK hB ls hl
  have hl : lv_has ls 2 [(0, .ref a), (1, .int (iI leaf))] := hl
  refine lv_iload_n hx hb dX0_sortsByList_0 rfl (lv_at hl 1 rfl) ?_
  refine j_if_ne (tgt := 11) hx hb dX0_sortsByList_1 (by decide) ⟨by omega, by omega⟩ (fun c_1 => ?_) (fun c_1 => ?_)
  · refine j_sipush hx hb dX0_sortsByList_11 (by decide) ?_
    refine lv_aload_n hx hb dX0_sortsByList_14 rfl (lv_at hl 0 rfl) ?_
    refine m_get hx hb hts (fun _ q => List.mem_cons_of_mem _ (List.mem_append_right _ q)) hown hK hB he (ci := 0) rfl 4 (by decide) (List.mem_of_getElem? (i := 1) rfl) rfl rfl dX0_sortsByList_15 ?_
    refine j_isub hx hb dX0_sortsByList_18 ?_
    exact m_zret hx hb hr rfl hlocks hB (by decide) (by decide) dX0_sortsByList_19 ⟨ret_e (sbl_1 c_1).symm, rfl⟩
  · refine lv_aload_n hx hb dX0_sortsByList_4 rfl (lv_at hl 0 rfl) ?_
    refine m_get hx hb hts (fun _ q => List.mem_cons_of_mem _ (List.mem_append_right _ q)) hown hK hB he (ci := 0) rfl 4 (by decide) (List.mem_of_getElem? (i := 1) rfl) rfl rfl dX0_sortsByList_5 ?_
    refine lv_goto (tgt := 19) hx hb dX0_sortsByList_8 (by decide) ?_
    exact m_zret hx hb hr rfl hlocks hB (by decide) (by decide) dX0_sortsByList_19 ⟨ret_e (sbl_0 c_1).symm, rfl⟩

