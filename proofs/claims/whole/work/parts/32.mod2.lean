abbrev rmX4_rowsOf : Room := { frames := 0, cells := 0, slots := 0, locals := 0 }
set_option maxHeartbeats 4000000 in
set_option maxRecDepth 100000 in
theorem k_X4_rowsOf {l : Launch} {D : va_G} {z : Nat} {cI cP cR cJ : ClassId} {h : Hp} {xm : Nat} {xa : Nat → Nat} {σ : Sg} {th : Int} (hM : MR cI xm xa σ th h) (hI : Ib σ) {i : Nat} (hi : (i : Int) ≤ σ 9 0)  : Ct l D z (tyL cI cP cR cJ) yX4_rowsOf wsX4_rowsOf rmX4_rowsOf [.ref xm, .int (iI (i : Int))] h (fun v u => v = some (.int (iI (cnt (fun j => live σ j ∧ pn σ j = i) (nrN σ)))) ∧ h = u) := by
  refine Ct.of (cc := cX4_rowsOf) (maxL := 4) (ret := (some .int)) (by decide) rfl (Nat.le_of_ble_eq_true rfl) ?_
  intro p e s m args below meth c hx hb hr hts hown hlocks hml hnm hK hB ls hl
  have hl : lv_has ls 4 [(0, .ref xm), (1, .int (iI (i : Int)))] := hl
  have hnp := hI.hnp
  have hnr := hI.hnr
  have hnrI := hI.nrI
  have hnpI := hI.npI
  have hre := hI.rest
  refine j_iconst hx hb dX4_rowsOf_0 ?_
  refine lv_istore_n (lv' := [(2, .int (iI 0)), (0, .ref xm), (1, .int (iI (i : Int)))]) hx hb dX4_rowsOf_1 rfl hl (by decide) rfl (fun ls hl => ?_)
  refine j_iconst hx hb dX4_rowsOf_2 ?_
  refine lv_istore_n (lv' := [(3, .int (iI 0)), (2, .int (iI 0)), (0, .ref xm), (1, .int (iI (i : Int)))]) hx hb dX4_rowsOf_3 rfl hl (by decide) rfl (fun ls hl => ?_)
  have lp_4 : ∀ (fuel j : Nat) (a : Int), j ≤ (nrN σ) → (nrN σ) + 1 ≤ j + fuel → ∀ (ea : a = cnt (fun j => live σ j ∧ pn σ j = i) j) (H : Heap) (locs : List Loc), Bk D z s.heap h H locs → ∀ ls : Array Slot, lv_has ls 4 [(3, .int (iI (j : Int))), (2, .int (iI a)), (0, .ref xm), (1, .int (iI (i : Int)))] → W p l e rmX4_rowsOf s m args below meth c H locs 0 0 (MQ below (Qx D z (fun v u => v = some (.int (iI (cnt (fun j => live σ j ∧ pn σ j = i) (nrN σ)))) ∧ h = u)) args s (rmX4_rowsOf).cells (rmX4_rowsOf).slots (zA z)) (F0 m 4 ls []) := by
    intro fuel
    induction fuel with
    | zero => intro j a w1 w2; exact absurd w2 (by omega)
    | succ fuel ih4 =>
      intro j a w1 w2 ea H locs hB ls hl
      have ear := cnt_rg (fun j => live σ j ∧ pn σ j = i) j
      refine lv_iload_n hx hb dX4_rowsOf_4 rfl (lv_at hl 0 rfl) ?_
      refine lv_aload_n hx hb dX4_rowsOf_5 rfl (lv_at hl 2 rfl) ?_
      refine m_get hx hb hts (fun _ q => List.mem_cons_of_mem _ (List.mem_append_right _ q)) hown hK hB hM.1 (ci := 4) rfl 11 (by decide) (List.mem_of_getElem? (i := 1) rfl) rfl rfl dX4_rowsOf_6 ?_
      have bd_1 := hI.bd 10 0
      refine j_icmp_ge (tgt := 36) hx hb dX4_rowsOf_9 (by decide) ⟨by omega, by omega⟩ ⟨by omega, by omega⟩ (fun c_2 => ?_) (fun c_2 => ?_)
      · refine lv_iload_n hx hb dX4_rowsOf_36 rfl (lv_at hl 1 rfl) ?_
        exact m_zret hx hb hr rfl hlocks hB (by decide) (by decide) dX4_rowsOf_37 ⟨ret_e (by rw [ea, show j = nrN σ by omega]), rfl⟩
      · refine lv_iload_n hx hb dX4_rowsOf_12 rfl (lv_at hl 1 rfl) ?_
        refine lv_aload_n hx hb dX4_rowsOf_13 rfl (lv_at hl 2 rfl) ?_
        refine m_get hx hb hts (fun _ q => List.mem_cons_of_mem _ (List.mem_append_right _ q)) hown hK hB hM.1 (ci := 4) rfl 7 (by decide) (List.mem_of_getElem? (i := 2) rfl) rfl rfl dX4_rowsOf_14 ?_
        refine lv_iload_n hx hb dX4_rowsOf_17 rfl (lv_at hl 0 rfl) ?_
        refine m_mld hx hb hK hB hM 5 (by decide) (i := j) (show j < 200 by omega) dX4_rowsOf_18 ?_
        refine lv_iload_n hx hb dX4_rowsOf_19 rfl (lv_at hl 3 rfl) ?_
        have bd_3 := hI.bd 5 j
        refine j_icmp_ne (tgt := 27) hx hb dX4_rowsOf_20 (by decide) ⟨by omega, by omega⟩ ⟨by omega, by omega⟩ (fun c_4 => ?_) (fun c_4 => ?_)
        · refine j_iconst hx hb dX4_rowsOf_27 ?_
          refine j_iadd hx hb dX4_rowsOf_28 ?_
          refine lv_istore_n (lv' := [(2, .int (iI (a + 0))), (3, .int (iI (j : Int))), (0, .ref xm), (1, .int (iI (i : Int)))]) hx hb dX4_rowsOf_29 rfl hl (by decide) rfl (fun ls hl => ?_)
          refine j_iinc (lv' := [(3, .int (iI ((j + 1 : Nat) : Int))), (2, .int (iI (a + 0))), (0, .ref xm), (1, .int (iI (i : Int)))]) hx hb dX4_rowsOf_30 hl (k := 1) rfl (by decide) rfl (fun ls hl => ?_)
          refine lv_goto (tgt := 4) hx hb dX4_rowsOf_33 (by decide) ?_
          exact ih4 (j + 1) (a + 0) (by omega) (by omega) (cs_z ea (fun q => c_4 (hI.pn5 q.1 q.2))) _ _ hB ls (lv_sub hl [0, 1, 2, 3] rfl)
        · refine j_iconst hx hb dX4_rowsOf_23 ?_
          refine lv_goto (tgt := 28) hx hb dX4_rowsOf_24 (by decide) ?_
          refine j_iadd hx hb dX4_rowsOf_28 ?_
          refine lv_istore_n (lv' := [(2, .int (iI (a + 1))), (3, .int (iI (j : Int))), (0, .ref xm), (1, .int (iI (i : Int)))]) hx hb dX4_rowsOf_29 rfl hl (by decide) rfl (fun ls hl => ?_)
          refine j_iinc (lv' := [(3, .int (iI ((j + 1 : Nat) : Int))), (2, .int (iI (a + 1))), (0, .ref xm), (1, .int (iI (i : Int)))]) hx hb dX4_rowsOf_30 hl (k := 1) rfl (by decide) rfl (fun ls hl => ?_)
          refine lv_goto (tgt := 4) hx hb dX4_rowsOf_33 (by decide) ?_
          exact ih4 (j + 1) (a + 1) (by omega) (by omega) (cs_t ea ⟨⟨by omega, by omega⟩, pn_is c_4⟩) _ _ hB ls (lv_sub hl [0, 1, 2, 3] rfl)
  exact lp_4 ((nrN σ) + 1) 0 0 (by omega) (by omega) rfl _ _ hB ls (lv_sub hl [0, 1, 2, 3] rfl)

abbrev rmX4_isInRest : Room := { frames := 1, cells := 0, slots := 0, locals := 22 }
set_option maxHeartbeats 4000000 in
set_option maxRecDepth 100000 in
theorem k_X4_isInRest {l : Launch} {D : va_G} {z : Nat} {cI cP cR cJ : ClassId} {h : Hp} {xm : Nat} {xa : Nat → Nat} {σ : Sg} {th : Int} (hM : MR cI xm xa σ th h) (hI : Ib σ) {lo en : Int} (rl : rg lo) (r0 : 0 ≤ en ∧ en ≤ 1000) : Ct l D z (tyL cI cP cR cJ) yX4_isInRest wsX4_isInRest rmX4_isInRest [.ref xm, .int (iI lo), .int (iI en)] h (fun v u => v = some (.int (iI (b2 (inR σ lo en)))) ∧ h = u) := by
  refine Ct.of (cc := cX4_isInRest) (maxL := 5) (ret := (some .boolean)) (by decide) rfl (Nat.le_of_ble_eq_true rfl) ?_
  intro p e s m args below meth c hx hb hr hts hown hlocks hml hnm hK hB ls hl
  have hl : lv_has ls 5 [(0, .ref xm), (1, .int (iI lo)), (2, .int (iI en))] := hl
  have hnp := hI.hnp
  have hnr := hI.hnr
  have hnrI := hI.nrI
  have hnpI := hI.npI
  have hre := hI.rest
  refine j_iconst hx hb dX4_isInRest_0 ?_
  refine lv_istore_n (lv' := [(3, .int (iI 0)), (0, .ref xm), (1, .int (iI lo)), (2, .int (iI en))]) hx hb dX4_isInRest_1 rfl hl (by decide) rfl (fun ls hl => ?_)
  refine j_iconst hx hb dX4_isInRest_2 ?_
  refine lv_istore (lv' := [(4, .int (iI 0)), (3, .int (iI 0)), (0, .ref xm), (1, .int (iI lo)), (2, .int (iI en))]) hx hb dX4_isInRest_3 hl (by decide) rfl (fun ls hl => ?_)
  have lp_5 : ∀ (fuel j : Nat) (a : Int), j ≤ (nrN σ) → (nrN σ) + 1 ≤ j + fuel → ∀ (ea : a = b2 (∃ j2 : Nat, j2 < j ∧ (fun j => σ 5 j = 0 ∧ lo ≤ σ 6 j ∧ σ 6 j < en) j2)) (H : Heap) (locs : List Loc), Bk D z s.heap h H locs → ∀ ls : Array Slot, lv_has ls 5 [(4, .int (iI (j : Int))), (3, .int (iI a)), (0, .ref xm), (1, .int (iI lo)), (2, .int (iI en))] → W p l e rmX4_isInRest s m args below meth c H locs 0 0 (MQ below (Qx D z (fun v u => v = some (.int (iI (b2 (inR σ lo en)))) ∧ h = u)) args s (rmX4_isInRest).cells (rmX4_isInRest).slots (zA z)) (F0 m 5 ls []) := by
    intro fuel
    induction fuel with
    | zero => intro j a w1 w2; exact absurd w2 (by omega)
    | succ fuel ih5 =>
      intro j a w1 w2 ea H locs hB ls hl
      have ear := b2_01 (∃ j2 : Nat, j2 < j ∧ (fun j => σ 5 j = 0 ∧ lo ≤ σ 6 j ∧ σ 6 j < en) j2)
      refine lv_iload hx hb dX4_isInRest_5 (lv_at hl 0 rfl) ?_
      refine lv_aload_n hx hb dX4_isInRest_7 rfl (lv_at hl 2 rfl) ?_
      refine m_get hx hb hts (fun _ q => List.mem_cons_of_mem _ (List.mem_append_right _ q)) hown hK hB hM.1 (ci := 4) rfl 11 (by decide) (List.mem_of_getElem? (i := 1) rfl) rfl rfl dX4_isInRest_8 ?_
      have bd_1 := hI.bd 10 0
      refine j_icmp_ge (tgt := 57) hx hb dX4_isInRest_11 (by decide) ⟨by omega, by omega⟩ ⟨by omega, by omega⟩ (fun c_2 => ?_) (fun c_2 => ?_)
      · refine lv_iload_n hx hb dX4_isInRest_57 rfl (lv_at hl 1 rfl) ?_
        exact m_zret hx hb hr (nb01 (by omega)) hlocks hB (by decide) (by decide) dX4_isInRest_58 ⟨ret_e (by rw [ea]; exact b2_c ⟨fun ⟨j2, q1, q2⟩ => ⟨j2, ⟨by omega, by have := q2.1; omega⟩, q2⟩, fun ⟨j2, q1, q2⟩ => ⟨j2, by have := q1.1; omega, q2⟩⟩), rfl⟩
      · refine lv_iload_n hx hb dX4_isInRest_14 rfl (lv_at hl 1 rfl) ?_
        refine j_if_ne (tgt := 45) hx hb dX4_isInRest_15 (by decide) ⟨by omega, by omega⟩ (fun c_3 => ?_) (fun c_3 => ?_)
        · refine j_iconst hx hb dX4_isInRest_45 ?_
          refine lv_goto (tgt := 50) hx hb dX4_isInRest_46 (by decide) ?_
          refine lv_istore_n (lv' := [(3, .int (iI 1)), (4, .int (iI (j : Int))), (0, .ref xm), (1, .int (iI lo)), (2, .int (iI en))]) hx hb dX4_isInRest_50 rfl hl (by decide) rfl (fun ls hl => ?_)
          refine j_iinc (lv' := [(4, .int (iI ((j + 1 : Nat) : Int))), (3, .int (iI 1)), (0, .ref xm), (1, .int (iI lo)), (2, .int (iI en))]) hx hb dX4_isInRest_51 hl (k := 1) rfl (by decide) rfl (fun ls hl => ?_)
          refine lv_goto (tgt := 5) hx hb dX4_isInRest_54 (by decide) ?_
          exact ih5 (j + 1) 1 (by omega) (by omega) (bs_k ea c_3) _ _ hB ls (lv_sub hl [0, 1, 2, 3, 4] rfl)
        · refine lv_aload_n hx hb dX4_isInRest_18 rfl (lv_at hl 2 rfl) ?_
          refine m_get hx hb hts (fun _ q => List.mem_cons_of_mem _ (List.mem_append_right _ q)) hown hK hB hM.1 (ci := 4) rfl 7 (by decide) (List.mem_of_getElem? (i := 2) rfl) rfl rfl dX4_isInRest_19 ?_
          refine lv_iload hx hb dX4_isInRest_22 (lv_at hl 0 rfl) ?_
          refine m_mld hx hb hK hB hM 5 (by decide) (i := j) (show j < 200 by omega) dX4_isInRest_24 ?_
          have bd_5 := hI.bd 5 j
          refine j_if_ne (tgt := 49) hx hb dX4_isInRest_25 (by decide) ⟨by omega, by omega⟩ (fun c_4 => ?_) (fun c_4 => ?_)
          · refine j_iconst hx hb dX4_isInRest_49 ?_
            refine lv_istore_n (lv' := [(3, .int (iI 0)), (4, .int (iI (j : Int))), (0, .ref xm), (1, .int (iI lo)), (2, .int (iI en))]) hx hb dX4_isInRest_50 rfl hl (by decide) rfl (fun ls hl => ?_)
            refine j_iinc (lv' := [(4, .int (iI ((j + 1 : Nat) : Int))), (3, .int (iI 0)), (0, .ref xm), (1, .int (iI lo)), (2, .int (iI en))]) hx hb dX4_isInRest_51 hl (k := 1) rfl (by decide) rfl (fun ls hl => ?_)
            refine lv_goto (tgt := 5) hx hb dX4_isInRest_54 (by decide) ?_
            exact ih5 (j + 1) 0 (by omega) (by omega) (bs_f ea (by omega) (fun q => c_4 q.1)) _ _ hB ls (lv_sub hl [0, 1, 2, 3, 4] rfl)
          · refine lv_aload_n hx hb dX4_isInRest_28 rfl (lv_at hl 2 rfl) ?_
            refine m_get hx hb hts (fun _ q => List.mem_cons_of_mem _ (List.mem_append_right _ q)) hown hK hB hM.1 (ci := 4) rfl 8 (by decide) (List.mem_of_getElem? (i := 3) rfl) rfl rfl dX4_isInRest_29 ?_
            refine lv_iload hx hb dX4_isInRest_32 (lv_at hl 0 rfl) ?_
            refine m_mld hx hb hK hB hM 6 (by decide) (i := j) (show j < 200 by omega) dX4_isInRest_34 ?_
            refine lv_iload_n hx hb dX4_isInRest_35 rfl (lv_at hl 3 rfl) ?_
            refine lv_iload_n hx hb dX4_isInRest_36 rfl (lv_at hl 4 rfl) ?_
            refine j_iconst hx hb dX4_isInRest_37 ?_
            refine j_isub hx hb dX4_isInRest_38 ?_
            have bd_6 := hI.bd 6 j
            refine m_run (va_runS (As := [.int (iI (σ 6 j)), .int (iI lo), .int (iI (en - 1))]) (rest := []) ⟨hx, hb, hml, hown, hts⟩ (k_X4_isIn (l := l) ⟨by omega, by omega⟩ ⟨by omega, by omega⟩ ⟨by omega, by omega⟩) (va_cwS 3 hts gX4_isInRest_X4_isIn rfl rfl rfl (by decide +kernel) ⟨by decide, by decide⟩) ⟨Kp.blind _ _ _ _ _, fun U hU hW => hK.pass hB U hU hW⟩ rfl rfl hl.1 rfl (lv_room (Nat.le_of_ble_eq_true rfl)) dX4_isInRest_39 ⟨Nat.le_of_ble_eq_true rfl, Nat.le_of_ble_eq_true rfl⟩) hB (fun v u H locs hp_7 hB => ?_)
            obtain ⟨rfl, rfl⟩ := hp_7
            show W _ _ _ _ _ _ _ _ _ _ _ _ _ _ _ (F0 m 42 ls [.int (iI (b2 (lo ≤ (σ 6 j) ∧ (σ 6 j) ≤ (en - 1))))])
            refine j_ifeqP (tgt := 49) hx hb dX4_isInRest_42 (by decide) (fun c_8 => ?_) (fun c_8 => ?_)
            · refine j_iconst hx hb dX4_isInRest_49 ?_
              refine lv_istore_n (lv' := [(3, .int (iI 0)), (4, .int (iI (j : Int))), (0, .ref xm), (1, .int (iI lo)), (2, .int (iI en))]) hx hb dX4_isInRest_50 rfl hl (by decide) rfl (fun ls hl => ?_)
              refine j_iinc (lv' := [(4, .int (iI ((j + 1 : Nat) : Int))), (3, .int (iI 0)), (0, .ref xm), (1, .int (iI lo)), (2, .int (iI en))]) hx hb dX4_isInRest_51 hl (k := 1) rfl (by decide) rfl (fun ls hl => ?_)
              refine lv_goto (tgt := 5) hx hb dX4_isInRest_54 (by decide) ?_
              exact ih5 (j + 1) 0 (by omega) (by omega) (bs_f ea (by omega) (fun q => c_8 ⟨q.2.1, by have := q.2.2; omega⟩)) _ _ hB ls (lv_sub hl [0, 1, 2, 3, 4] rfl)
            · refine j_iconst hx hb dX4_isInRest_45 ?_
              refine lv_goto (tgt := 50) hx hb dX4_isInRest_46 (by decide) ?_
              refine lv_istore_n (lv' := [(3, .int (iI 1)), (4, .int (iI (j : Int))), (0, .ref xm), (1, .int (iI lo)), (2, .int (iI en))]) hx hb dX4_isInRest_50 rfl hl (by decide) rfl (fun ls hl => ?_)
              refine j_iinc (lv' := [(4, .int (iI ((j + 1 : Nat) : Int))), (3, .int (iI 1)), (0, .ref xm), (1, .int (iI lo)), (2, .int (iI en))]) hx hb dX4_isInRest_51 hl (k := 1) rfl (by decide) rfl (fun ls hl => ?_)
              refine lv_goto (tgt := 5) hx hb dX4_isInRest_54 (by decide) ?_
              exact ih5 (j + 1) 1 (by omega) (by omega) (bs_t ⟨c_4, by omega, by omega⟩) _ _ hB ls (lv_sub hl [0, 1, 2, 3, 4] rfl)
  exact lp_5 ((nrN σ) + 1) 0 0 (by omega) (by omega) bs_0 _ _ hB ls (lv_sub hl [0, 1, 2, 3, 4] rfl)

abbrev rmX4_overlaps : Room := { frames := 1, cells := 0, slots := 0, locals := 21 }
set_option maxHeartbeats 4000000 in
set_option maxRecDepth 100000 in
theorem k_X4_overlaps {l : Launch} {D : va_G} {z : Nat} {cI cP cR cJ : ClassId} {h : Hp} {xm : Nat} {xa : Nat → Nat} {σ : Sg} {th : Int} (hM : MR cI xm xa σ th h) (hI : Ib σ) {lo en : Int} (rl : rg lo) (re : rg en) : Ct l D z (tyL cI cP cR cJ) yX4_overlaps wsX4_overlaps rmX4_overlaps [.ref xm, .int (iI lo), .int (iI en)] h (fun v u => v = some (.int (iI (b2 (ovl σ lo en)))) ∧ h = u) := by
  refine Ct.of (cc := cX4_overlaps) (maxL := 5) (ret := (some .boolean)) (by decide) rfl (Nat.le_of_ble_eq_true rfl) ?_
  intro p e s m args below meth c hx hb hr hts hown hlocks hml hnm hK hB ls hl
  have hl : lv_has ls 5 [(0, .ref xm), (1, .int (iI lo)), (2, .int (iI en))] := hl
  have hnp := hI.hnp
  have hnr := hI.hnr
  have hnrI := hI.nrI
  have hnpI := hI.npI
  have hre := hI.rest
  refine j_iconst hx hb dX4_overlaps_0 ?_
  refine lv_istore_n (lv' := [(3, .int (iI 0)), (0, .ref xm), (1, .int (iI lo)), (2, .int (iI en))]) hx hb dX4_overlaps_1 rfl hl (by decide) rfl (fun ls hl => ?_)
  refine j_iconst hx hb dX4_overlaps_2 ?_
  refine lv_istore (lv' := [(4, .int (iI 1)), (3, .int (iI 0)), (0, .ref xm), (1, .int (iI lo)), (2, .int (iI en))]) hx hb dX4_overlaps_3 hl (by decide) rfl (fun ls hl => ?_)
  have lp_5 : ∀ (fuel j : Nat) (a : Int), j ≤ (npN σ) → (npN σ) + 1 ≤ j + fuel → ∀ (ea : a = b2 (∃ j2 : Nat, j2 < j ∧ (fun j => σ 4 (j + 1) = 0 ∧ lo < σ 1 (j + 1) ∧ σ 0 (j + 1) < en) j2)) (H : Heap) (locs : List Loc), Bk D z s.heap h H locs → ∀ ls : Array Slot, lv_has ls 5 [(4, .int (iI ((j + 1 : Nat) : Int))), (3, .int (iI a)), (0, .ref xm), (1, .int (iI lo)), (2, .int (iI en))] → W p l e rmX4_overlaps s m args below meth c H locs 0 0 (MQ below (Qx D z (fun v u => v = some (.int (iI (b2 (ovl σ lo en)))) ∧ h = u)) args s (rmX4_overlaps).cells (rmX4_overlaps).slots (zA z)) (F0 m 5 ls []) := by
    intro fuel
    induction fuel with
    | zero => intro j a w1 w2; exact absurd w2 (by omega)
    | succ fuel ih5 =>
      intro j a w1 w2 ea H locs hB ls hl
      have ear := b2_01 (∃ j2 : Nat, j2 < j ∧ (fun j => σ 4 (j + 1) = 0 ∧ lo < σ 1 (j + 1) ∧ σ 0 (j + 1) < en) j2)
      refine lv_iload hx hb dX4_overlaps_5 (lv_at hl 0 rfl) ?_
      refine lv_aload_n hx hb dX4_overlaps_7 rfl (lv_at hl 2 rfl) ?_
      refine m_get hx hb hts (fun _ q => List.mem_cons_of_mem _ (List.mem_append_right _ q)) hown hK hB hM.1 (ci := 4) rfl 6 (by decide) (List.mem_of_getElem? (i := 1) rfl) rfl rfl dX4_overlaps_8 ?_
      have bd_1 := hI.bd 9 0
      refine j_icmp_gt (tgt := 61) hx hb dX4_overlaps_11 (by decide) ⟨by omega, by omega⟩ ⟨by omega, by omega⟩ (fun c_2 => ?_) (fun c_2 => ?_)
      · refine lv_iload_n hx hb dX4_overlaps_61 rfl (lv_at hl 1 rfl) ?_
        exact m_zret hx hb hr (nb01 (by omega)) hlocks hB (by decide) (by decide) dX4_overlaps_62 ⟨ret_e (by rw [ea]; exact b2_c ⟨fun ⟨j2, q1, q2⟩ => ⟨j2 + 1, by omega, by omega, q2⟩, fun ⟨j2, q0, q1, q2⟩ => ⟨j2 - 1, by omega, (by show σ 4 (j2 - 1 + 1) = 0 ∧ lo < σ 1 (j2 - 1 + 1) ∧ σ 0 (j2 - 1 + 1) < en; rw [show j2 - 1 + 1 = j2 by omega]; exact q2)⟩⟩), rfl⟩
      · refine lv_iload_n hx hb dX4_overlaps_14 rfl (lv_at hl 1 rfl) ?_
        refine j_if_ne (tgt := 49) hx hb dX4_overlaps_15 (by decide) ⟨by omega, by omega⟩ (fun c_3 => ?_) (fun c_3 => ?_)
        · refine j_iconst hx hb dX4_overlaps_49 ?_
          refine lv_goto (tgt := 54) hx hb dX4_overlaps_50 (by decide) ?_
          refine lv_istore_n (lv' := [(3, .int (iI 1)), (4, .int (iI ((j + 1 : Nat) : Int))), (0, .ref xm), (1, .int (iI lo)), (2, .int (iI en))]) hx hb dX4_overlaps_54 rfl hl (by decide) rfl (fun ls hl => ?_)
          refine j_iinc (lv' := [(4, .int (iI ((j + 1 + 1 : Nat) : Int))), (3, .int (iI 1)), (0, .ref xm), (1, .int (iI lo)), (2, .int (iI en))]) hx hb dX4_overlaps_55 hl (k := 1) rfl (by decide) rfl (fun ls hl => ?_)
          refine lv_goto (tgt := 5) hx hb dX4_overlaps_58 (by decide) ?_
          exact ih5 (j + 1) 1 (by omega) (by omega) (bs_k ea c_3) _ _ hB ls (lv_sub hl [0, 1, 2, 3, 4] rfl)
        · refine lv_aload_n hx hb dX4_overlaps_18 rfl (lv_at hl 2 rfl) ?_
          refine lv_iload hx hb dX4_overlaps_19 (lv_at hl 0 rfl) ?_
          refine m_run (va_runV (As := [.int (iI ((j + 1 : Nat) : Int))]) (rest := []) ⟨hx, hb, hml, hown, hts⟩ (k_X4_isAttached (l := l) hM hI (i := j + 1) (by omega)) (cwV 1 hts gX4_overlaps_X4_isAttached rfl rfl rfl (by decide +kernel) ⟨by decide, by decide⟩) ⟨Kp.blind _ _ _ _ _, m_recv hK hB (ci := 4) rfl hM.1, fun U hU hW => hK.pass hB U hU hW⟩ rfl rfl hl.1 rfl (lv_room (Nat.le_of_ble_eq_true rfl)) dX4_overlaps_21 ⟨Nat.le_of_ble_eq_true rfl, Nat.le_of_ble_eq_true rfl⟩) hB (fun v u H locs hp_4 hB => ?_)
          obtain ⟨rfl, rfl⟩ := hp_4
          show W _ _ _ _ _ _ _ _ _ _ _ _ _ _ _ (F0 m 24 ls [.int (iI (b2 (1 ≤ (j + 1) ∧ σ 4 (j + 1) = 0)))])
          refine j_ifeqP (tgt := 53) hx hb dX4_overlaps_24 (by decide) (fun c_5 => ?_) (fun c_5 => ?_)
          · refine j_iconst hx hb dX4_overlaps_53 ?_
            refine lv_istore_n (lv' := [(3, .int (iI 0)), (4, .int (iI ((j + 1 : Nat) : Int))), (0, .ref xm), (1, .int (iI lo)), (2, .int (iI en))]) hx hb dX4_overlaps_54 rfl hl (by decide) rfl (fun ls hl => ?_)
            refine j_iinc (lv' := [(4, .int (iI ((j + 1 + 1 : Nat) : Int))), (3, .int (iI 0)), (0, .ref xm), (1, .int (iI lo)), (2, .int (iI en))]) hx hb dX4_overlaps_55 hl (k := 1) rfl (by decide) rfl (fun ls hl => ?_)
            refine lv_goto (tgt := 5) hx hb dX4_overlaps_58 (by decide) ?_
            exact ih5 (j + 1) 0 (by omega) (by omega) (bs_f ea (by omega) (fun q => c_5 ⟨by omega, q.1⟩)) _ _ hB ls (lv_sub hl [0, 1, 2, 3, 4] rfl)
          · refine lv_iload_n hx hb dX4_overlaps_27 rfl (lv_at hl 3 rfl) ?_
            refine lv_aload_n hx hb dX4_overlaps_28 rfl (lv_at hl 2 rfl) ?_
            refine m_get hx hb hts (fun _ q => List.mem_cons_of_mem _ (List.mem_append_right _ q)) hown hK hB hM.1 (ci := 4) rfl 2 (by decide) (List.mem_of_getElem? (i := 2) rfl) rfl rfl dX4_overlaps_29 ?_
            refine lv_iload hx hb dX4_overlaps_32 (lv_at hl 0 rfl) ?_
            refine m_mld hx hb hK hB hM 1 (by decide) (i := j + 1) (show (j + 1) < 16 by omega) dX4_overlaps_34 ?_
            have bd_6 := hI.bd 1 (j + 1)
            refine j_icmp_ge (tgt := 53) hx hb dX4_overlaps_35 (by decide) ⟨by omega, by omega⟩ ⟨by omega, by omega⟩ (fun c_7 => ?_) (fun c_7 => ?_)
            · refine j_iconst hx hb dX4_overlaps_53 ?_
              refine lv_istore_n (lv' := [(3, .int (iI 0)), (4, .int (iI ((j + 1 : Nat) : Int))), (0, .ref xm), (1, .int (iI lo)), (2, .int (iI en))]) hx hb dX4_overlaps_54 rfl hl (by decide) rfl (fun ls hl => ?_)
              refine j_iinc (lv' := [(4, .int (iI ((j + 1 + 1 : Nat) : Int))), (3, .int (iI 0)), (0, .ref xm), (1, .int (iI lo)), (2, .int (iI en))]) hx hb dX4_overlaps_55 hl (k := 1) rfl (by decide) rfl (fun ls hl => ?_)
              refine lv_goto (tgt := 5) hx hb dX4_overlaps_58 (by decide) ?_
              exact ih5 (j + 1) 0 (by omega) (by omega) (bs_f ea (by omega) (fun q => by have := q.2.1; have := q.2.2; omega)) _ _ hB ls (lv_sub hl [0, 1, 2, 3, 4] rfl)
            · refine lv_aload_n hx hb dX4_overlaps_38 rfl (lv_at hl 2 rfl) ?_
              refine m_get hx hb hts (fun _ q => List.mem_cons_of_mem _ (List.mem_append_right _ q)) hown hK hB hM.1 (ci := 4) rfl 1 (by decide) (List.mem_of_getElem? (i := 3) rfl) rfl rfl dX4_overlaps_39 ?_
              refine lv_iload hx hb dX4_overlaps_42 (lv_at hl 0 rfl) ?_
              refine m_mld hx hb hK hB hM 0 (by decide) (i := j + 1) (show (j + 1) < 16 by omega) dX4_overlaps_44 ?_
              refine lv_iload_n hx hb dX4_overlaps_45 rfl (lv_at hl 4 rfl) ?_
              have bd_8 := hI.bd 0 (j + 1)
              refine j_icmp_ge (tgt := 53) hx hb dX4_overlaps_46 (by decide) ⟨by omega, by omega⟩ ⟨by omega, by omega⟩ (fun c_9 => ?_) (fun c_9 => ?_)
              · refine j_iconst hx hb dX4_overlaps_53 ?_
                refine lv_istore_n (lv' := [(3, .int (iI 0)), (4, .int (iI ((j + 1 : Nat) : Int))), (0, .ref xm), (1, .int (iI lo)), (2, .int (iI en))]) hx hb dX4_overlaps_54 rfl hl (by decide) rfl (fun ls hl => ?_)
                refine j_iinc (lv' := [(4, .int (iI ((j + 1 + 1 : Nat) : Int))), (3, .int (iI 0)), (0, .ref xm), (1, .int (iI lo)), (2, .int (iI en))]) hx hb dX4_overlaps_55 hl (k := 1) rfl (by decide) rfl (fun ls hl => ?_)
                refine lv_goto (tgt := 5) hx hb dX4_overlaps_58 (by decide) ?_
                exact ih5 (j + 1) 0 (by omega) (by omega) (bs_f ea (by omega) (fun q => by have := q.2.1; have := q.2.2; omega)) _ _ hB ls (lv_sub hl [0, 1, 2, 3, 4] rfl)
              · refine j_iconst hx hb dX4_overlaps_49 ?_
                refine lv_goto (tgt := 54) hx hb dX4_overlaps_50 (by decide) ?_
                refine lv_istore_n (lv' := [(3, .int (iI 1)), (4, .int (iI ((j + 1 : Nat) : Int))), (0, .ref xm), (1, .int (iI lo)), (2, .int (iI en))]) hx hb dX4_overlaps_54 rfl hl (by decide) rfl (fun ls hl => ?_)
                refine j_iinc (lv' := [(4, .int (iI ((j + 1 + 1 : Nat) : Int))), (3, .int (iI 1)), (0, .ref xm), (1, .int (iI lo)), (2, .int (iI en))]) hx hb dX4_overlaps_55 hl (k := 1) rfl (by decide) rfl (fun ls hl => ?_)
                refine lv_goto (tgt := 5) hx hb dX4_overlaps_58 (by decide) ?_
                exact ih5 (j + 1) 1 (by omega) (by omega) (bs_t ⟨c_5.2, by omega, by omega⟩) _ _ hB ls (lv_sub hl [0, 1, 2, 3, 4] rfl)
  exact lp_5 ((npN σ) + 1) 0 0 (by omega) (by omega) bs_0 _ _ hB ls (lv_sub hl [0, 1, 2, 3, 4] rfl)

abbrev rmX4_fits : Room := { frames := 2, cells := 0, slots := 0, locals := 44 }
set_option maxHeartbeats 4000000 in
set_option maxRecDepth 100000 in
theorem k_X4_fits {l : Launch} {D : va_G} {z : Nat} {cI cP cR cJ : ClassId} {h : Hp} {xm : Nat} {xa : Nat → Nat} {σ : Sg} {th : Int} (hM : MR cI xm xa σ th h) (hI : Ib σ) {i k : Nat} (hi : (i : Int) ≤ σ 9 0) (hk : (k : Int) ≤ σ 9 0) : Ct l D z (tyL cI cP cR cJ) yX4_fits wsX4_fits rmX4_fits [.ref xm, .int (iI (i : Int)), .int (iI (k : Int))] h (fun v u => v = some (.int (iI (b2 (¬ forn σ i k)))) ∧ h = u) := by
  refine Ct.of (cc := cX4_fits) (maxL := 5) (ret := (some .boolean)) (by decide) rfl (Nat.le_of_ble_eq_true rfl) ?_
  intro p e s m args below meth c hx hb hr hts hown hlocks hml hnm hK hB ls hl
  have hl : lv_has ls 5 [(0, .ref xm), (1, .int (iI (i : Int))), (2, .int (iI (k : Int)))] := hl
  have hnp := hI.hnp
  have hnr := hI.hnr
  have hnrI := hI.nrI
  have hnpI := hI.npI
  have hre := hI.rest
  refine j_iconst hx hb dX4_fits_0 ?_
  refine lv_istore_n (lv' := [(3, .int (iI 1)), (0, .ref xm), (1, .int (iI (i : Int))), (2, .int (iI (k : Int)))]) hx hb dX4_fits_1 rfl hl (by decide) rfl (fun ls hl => ?_)
  refine j_iconst hx hb dX4_fits_2 ?_
  refine lv_istore (lv' := [(4, .int (iI 0)), (3, .int (iI 1)), (0, .ref xm), (1, .int (iI (i : Int))), (2, .int (iI (k : Int)))]) hx hb dX4_fits_3 hl (by decide) rfl (fun ls hl => ?_)
  have lp_5 : ∀ (fuel j : Nat) (a : Int), j ≤ (nrN σ) → (nrN σ) + 1 ≤ j + fuel → ∀ (ea : a = b2 (∀ j2 : Nat, j2 < j → (fun j => σ 5 j = (i : Int) → σ 0 k ≤ σ 6 j ∧ σ 6 j < σ 1 k) j2)) (H : Heap) (locs : List Loc), Bk D z s.heap h H locs → ∀ ls : Array Slot, lv_has ls 5 [(4, .int (iI (j : Int))), (3, .int (iI a)), (0, .ref xm), (1, .int (iI (i : Int))), (2, .int (iI (k : Int)))] → W p l e rmX4_fits s m args below meth c H locs 0 0 (MQ below (Qx D z (fun v u => v = some (.int (iI (b2 (¬ forn σ i k)))) ∧ h = u)) args s (rmX4_fits).cells (rmX4_fits).slots (zA z)) (F0 m 5 ls []) := by
    intro fuel
    induction fuel with
    | zero => intro j a w1 w2; exact absurd w2 (by omega)
    | succ fuel ih5 =>
      intro j a w1 w2 ea H locs hB ls hl
      have ear := b2_01 (∀ j2 : Nat, j2 < j → (fun j => σ 5 j = (i : Int) → σ 0 k ≤ σ 6 j ∧ σ 6 j < σ 1 k) j2)
      refine lv_iload hx hb dX4_fits_5 (lv_at hl 0 rfl) ?_
      refine lv_aload_n hx hb dX4_fits_7 rfl (lv_at hl 2 rfl) ?_
      refine m_get hx hb hts (fun _ q => List.mem_cons_of_mem _ (List.mem_append_right _ q)) hown hK hB hM.1 (ci := 4) rfl 11 (by decide) (List.mem_of_getElem? (i := 1) rfl) rfl rfl dX4_fits_8 ?_
      have bd_1 := hI.bd 10 0
      refine j_icmp_ge (tgt := 56) hx hb dX4_fits_11 (by decide) ⟨by omega, by omega⟩ ⟨by omega, by omega⟩ (fun c_2 => ?_) (fun c_2 => ?_)
      · refine lv_iload_n hx hb dX4_fits_56 rfl (lv_at hl 1 rfl) ?_
        exact m_zret hx hb hr (nb01 (by omega)) hlocks hB (by decide) (by decide) dX4_fits_57 ⟨ret_e (by rw [ea]; exact b2_c ⟨fun q ⟨j2, q1, q2, q3⟩ => q3 (q j2 (by have := q1.1; omega) (hI.pn5 q1 q2)), fun q j2 q1 q2 => Classical.byContradiction (fun w => q ⟨j2, ⟨by omega, by omega⟩, pn_is q2, w⟩)⟩), rfl⟩
      · refine lv_iload_n hx hb dX4_fits_14 rfl (lv_at hl 1 rfl) ?_
        refine j_if_eq (tgt := 48) hx hb dX4_fits_15 (by decide) ⟨by omega, by omega⟩ (fun c_3 => ?_) (fun c_3 => ?_)
        · refine j_iconst hx hb dX4_fits_48 ?_
          refine lv_istore_n (lv' := [(3, .int (iI 0)), (4, .int (iI (j : Int))), (0, .ref xm), (1, .int (iI (i : Int))), (2, .int (iI (k : Int)))]) hx hb dX4_fits_49 rfl hl (by decide) rfl (fun ls hl => ?_)
          refine j_iinc (lv' := [(4, .int (iI ((j + 1 : Nat) : Int))), (3, .int (iI 0)), (0, .ref xm), (1, .int (iI (i : Int))), (2, .int (iI (k : Int)))]) hx hb dX4_fits_50 hl (k := 1) rfl (by decide) rfl (fun ls hl => ?_)
          refine lv_goto (tgt := 5) hx hb dX4_fits_53 (by decide) ?_
          exact ih5 (j + 1) 0 (by omega) (by omega) (ba_k ea c_3) _ _ hB ls (lv_sub hl [0, 1, 2, 3, 4] rfl)
        · refine lv_aload_n hx hb dX4_fits_18 rfl (lv_at hl 2 rfl) ?_
          refine m_get hx hb hts (fun _ q => List.mem_cons_of_mem _ (List.mem_append_right _ q)) hown hK hB hM.1 (ci := 4) rfl 7 (by decide) (List.mem_of_getElem? (i := 2) rfl) rfl rfl dX4_fits_19 ?_
          refine lv_iload hx hb dX4_fits_22 (lv_at hl 0 rfl) ?_
          refine m_mld hx hb hK hB hM 5 (by decide) (i := j) (show j < 200 by omega) dX4_fits_24 ?_
          refine lv_iload_n hx hb dX4_fits_25 rfl (lv_at hl 3 rfl) ?_
          have bd_4 := hI.bd 5 j
          refine j_icmp_ne (tgt := 44) hx hb dX4_fits_26 (by decide) ⟨by omega, by omega⟩ ⟨by omega, by omega⟩ (fun c_5 => ?_) (fun c_5 => ?_)
          · refine j_iconst hx hb dX4_fits_44 ?_
            refine lv_goto (tgt := 49) hx hb dX4_fits_45 (by decide) ?_
            refine lv_istore_n (lv' := [(3, .int (iI 1)), (4, .int (iI (j : Int))), (0, .ref xm), (1, .int (iI (i : Int))), (2, .int (iI (k : Int)))]) hx hb dX4_fits_49 rfl hl (by decide) rfl (fun ls hl => ?_)
            refine j_iinc (lv' := [(4, .int (iI ((j + 1 : Nat) : Int))), (3, .int (iI 1)), (0, .ref xm), (1, .int (iI (i : Int))), (2, .int (iI (k : Int)))]) hx hb dX4_fits_50 hl (k := 1) rfl (by decide) rfl (fun ls hl => ?_)
            refine lv_goto (tgt := 5) hx hb dX4_fits_53 (by decide) ?_
            exact ih5 (j + 1) 1 (by omega) (by omega) (ba_t ea (by omega) (fun q => absurd q c_5)) _ _ hB ls (lv_sub hl [0, 1, 2, 3, 4] rfl)
          · refine lv_aload_n hx hb dX4_fits_29 rfl (lv_at hl 2 rfl) ?_
            refine lv_iload_n hx hb dX4_fits_30 rfl (lv_at hl 4 rfl) ?_
            refine lv_aload_n hx hb dX4_fits_31 rfl (lv_at hl 2 rfl) ?_
            refine m_get hx hb hts (fun _ q => List.mem_cons_of_mem _ (List.mem_append_right _ q)) hown hK hB hM.1 (ci := 4) rfl 8 (by decide) (List.mem_of_getElem? (i := 3) rfl) rfl rfl dX4_fits_32 ?_
            refine lv_iload hx hb dX4_fits_35 (lv_at hl 0 rfl) ?_
            refine m_mld hx hb hK hB hM 6 (by decide) (i := j) (show j < 200 by omega) dX4_fits_37 ?_
            have bd_6 := hI.bd 6 j
            refine m_run (va_runV (As := [.int (iI (k : Int)), .int (iI (σ 6 j))]) (rest := []) ⟨hx, hb, hml, hown, hts⟩ (k_X4_hasKey (l := l) hM hI (i := k) (by omega) ⟨by omega, by omega⟩) (cwV 2 hts gX4_fits_X4_hasKey rfl rfl rfl (by decide +kernel) ⟨by decide, by decide⟩) ⟨Kp.blind _ _ _ _ _, m_recv hK hB (ci := 4) rfl hM.1, fun U hU hW => hK.pass hB U hU hW⟩ rfl rfl hl.1 rfl (lv_room (Nat.le_of_ble_eq_true rfl)) dX4_fits_38 ⟨Nat.le_of_ble_eq_true rfl, Nat.le_of_ble_eq_true rfl⟩) hB (fun v u H locs hp_7 hB => ?_)
            obtain ⟨rfl, rfl⟩ := hp_7
            show W _ _ _ _ _ _ _ _ _ _ _ _ _ _ _ (F0 m 41 ls [.int (iI (b2 (σ 0 k ≤ (σ 6 j) ∧ (σ 6 j) < σ 1 k)))])
            refine j_ifeqP (tgt := 48) hx hb dX4_fits_41 (by decide) (fun c_8 => ?_) (fun c_8 => ?_)
            · refine j_iconst hx hb dX4_fits_48 ?_
              refine lv_istore_n (lv' := [(3, .int (iI 0)), (4, .int (iI (j : Int))), (0, .ref xm), (1, .int (iI (i : Int))), (2, .int (iI (k : Int)))]) hx hb dX4_fits_49 rfl hl (by decide) rfl (fun ls hl => ?_)
              refine j_iinc (lv' := [(4, .int (iI ((j + 1 : Nat) : Int))), (3, .int (iI 0)), (0, .ref xm), (1, .int (iI (i : Int))), (2, .int (iI (k : Int)))]) hx hb dX4_fits_50 hl (k := 1) rfl (by decide) rfl (fun ls hl => ?_)
              refine lv_goto (tgt := 5) hx hb dX4_fits_53 (by decide) ?_
              exact ih5 (j + 1) 0 (by omega) (by omega) (ba_f (fun q => c_8 (q c_5))) _ _ hB ls (lv_sub hl [0, 1, 2, 3, 4] rfl)
            · refine j_iconst hx hb dX4_fits_44 ?_
              refine lv_goto (tgt := 49) hx hb dX4_fits_45 (by decide) ?_
              refine lv_istore_n (lv' := [(3, .int (iI 1)), (4, .int (iI (j : Int))), (0, .ref xm), (1, .int (iI (i : Int))), (2, .int (iI (k : Int)))]) hx hb dX4_fits_49 rfl hl (by decide) rfl (fun ls hl => ?_)
              refine j_iinc (lv' := [(4, .int (iI ((j + 1 : Nat) : Int))), (3, .int (iI 1)), (0, .ref xm), (1, .int (iI (i : Int))), (2, .int (iI (k : Int)))]) hx hb dX4_fits_50 hl (k := 1) rfl (by decide) rfl (fun ls hl => ?_)
              refine lv_goto (tgt := 5) hx hb dX4_fits_53 (by decide) ?_
              exact ih5 (j + 1) 1 (by omega) (by omega) (ba_t ea (by omega) (fun _ => c_8)) _ _ hB ls (lv_sub hl [0, 1, 2, 3, 4] rfl)
  exact lp_5 ((nrN σ) + 1) 0 1 (by omega) (by omega) ba_0 _ _ hB ls (lv_sub hl [0, 1, 2, 3, 4] rfl)

abbrev rmX4_place : Room := { frames := 1, cells := 0, slots := 0, locals := 23 }
set_option maxHeartbeats 4000000 in
set_option maxRecDepth 100000 in
theorem k_X4_place {l : Launch} {D : va_G} {z : Nat} {cI cP cR cJ : ClassId} {h : Hp} {xm : Nat} {xa : Nat → Nat} {σ : Sg} {th : Int} (hM : MR cI xm xa σ th h) (hI : Ib σ) {j : Nat} (hl0 : live σ j) : Ct l D z (tyL cI cP cR cJ) yX4_place wsX4_place rmX4_place [.ref xm, .int (iI (j : Int))] h (fun v u => v = some (.int (iI (10 * ((pn σ j : Nat) : Int) + lfr σ j))) ∧ h = u) := by
  refine Ct.of (cc := cX4_place) (maxL := 2) (ret := (some .int)) (by decide) rfl (Nat.le_of_ble_eq_true rfl) ?_
  intro p e s m args below meth c hx hb hr hts hown hlocks hml hnm hK hB ls hl
  have hl : lv_has ls 2 [(0, .ref xm), (1, .int (iI (j : Int)))] := hl
  have hnp := hI.hnp
  have hnr := hI.hnr
  have hnrI := hI.nrI
  have hnpI := hI.npI
  have hre := hI.rest
  have rfj := hI.row j hl0
  have pnj := hI.pnI j hl0
  have hkd := hI.kd (pn σ j) (by omega)
  have lfb := lf_rg (k := σ 2 (pn σ j)) (d := σ 3 (pn σ j)) (key := σ 6 j) (sr := σ 7 j) hkd
  refine j_bipush hx hb dX4_place_0 (by decide) ?_
  refine lv_aload_n hx hb dX4_place_2 rfl (lv_at hl 0 rfl) ?_
  refine m_get hx hb hts (fun _ q => List.mem_cons_of_mem _ (List.mem_append_right _ q)) hown hK hB hM.1 (ci := 4) rfl 7 (by decide) (List.mem_of_getElem? (i := 1) rfl) rfl rfl dX4_place_3 ?_
  refine lv_iload_n hx hb dX4_place_6 rfl (lv_at hl 1 rfl) ?_
  refine m_mld hx hb hK hB hM 5 (by decide) (i := j) (show j < 200 by omega) dX4_place_7 ?_
  refine j_topE (show σ 5 j = ((pn σ j : Nat) : Int) by omega) ?_
  refine j_imul hx hb dX4_place_8 ?_
  refine lv_aload_n hx hb dX4_place_9 rfl (lv_at hl 0 rfl) ?_
  refine lv_aload_n hx hb dX4_place_10 rfl (lv_at hl 0 rfl) ?_
  refine m_get hx hb hts (fun _ q => List.mem_cons_of_mem _ (List.mem_append_right _ q)) hown hK hB hM.1 (ci := 4) rfl 7 (by decide) (List.mem_of_getElem? (i := 1) rfl) rfl rfl dX4_place_11 ?_
  refine lv_iload_n hx hb dX4_place_14 rfl (lv_at hl 1 rfl) ?_
  refine m_mld hx hb hK hB hM 5 (by decide) (i := j) (show j < 200 by omega) dX4_place_15 ?_
  refine j_topE (show σ 5 j = ((pn σ j : Nat) : Int) by omega) ?_
  refine lv_aload_n hx hb dX4_place_16 rfl (lv_at hl 0 rfl) ?_
  refine m_get hx hb hts (fun _ q => List.mem_cons_of_mem _ (List.mem_append_right _ q)) hown hK hB hM.1 (ci := 4) rfl 8 (by decide) (List.mem_of_getElem? (i := 2) rfl) rfl rfl dX4_place_17 ?_
  refine lv_iload_n hx hb dX4_place_20 rfl (lv_at hl 1 rfl) ?_
  refine m_mld hx hb hK hB hM 6 (by decide) (i := j) (show j < 200 by omega) dX4_place_21 ?_
  refine lv_aload_n hx hb dX4_place_22 rfl (lv_at hl 0 rfl) ?_
  refine m_get hx hb hts (fun _ q => List.mem_cons_of_mem _ (List.mem_append_right _ q)) hown hK hB hM.1 (ci := 4) rfl 9 (by decide) (List.mem_of_getElem? (i := 3) rfl) rfl rfl dX4_place_23 ?_
  refine lv_iload_n hx hb dX4_place_26 rfl (lv_at hl 1 rfl) ?_
  refine m_mld hx hb hK hB hM 7 (by decide) (i := j) (show j < 200 by omega) dX4_place_27 ?_
  refine m_run (va_runV (As := [.int (iI ((pn σ j : Nat) : Int)), .int (iI (σ 6 j)), .int (iI (σ 7 j))]) (rest := [.int (iI (10 * ((pn σ j : Nat) : Int)))]) ⟨hx, hb, hml, hown, hts⟩ (k_X4_leaf (l := l) hM hI (i := pn σ j) (by omega) (k := (σ 6 j)) (s_ := (σ 7 j)) (by omega) (by omega) (by omega) (by omega)) (cwV 3 hts gX4_place_X4_leaf rfl rfl rfl (by decide +kernel) ⟨by decide, by decide⟩) ⟨Kp.blind _ _ _ _ _, m_recv hK hB (ci := 4) rfl hM.1, fun U hU hW => hK.pass hB U hU hW⟩ rfl rfl hl.1 rfl (lv_room (Nat.le_of_ble_eq_true rfl)) dX4_place_28 ⟨Nat.le_of_ble_eq_true rfl, Nat.le_of_ble_eq_true rfl⟩) hB (fun v u H locs hp_1 hB => ?_)
  obtain ⟨rfl, rfl⟩ := hp_1
  show W _ _ _ _ _ _ _ _ _ _ _ _ _ _ _ (F0 m 31 ls [.int (iI (lf (σ 2 (pn σ j)) (σ 3 (pn σ j)) (σ 6 j) (σ 7 j))), .int (iI (10 * ((pn σ j : Nat) : Int)))])
  refine j_iadd hx hb dX4_place_31 ?_
  exact m_zret hx hb hr rfl hlocks hB (by decide) (by decide) dX4_place_32 ⟨rfl, rfl⟩

abbrev rmX4_isTabled : Room := { frames := 0, cells := 0, slots := 0, locals := 0 }
set_option maxHeartbeats 4000000 in
set_option maxRecDepth 100000 in
theorem k_X4_isTabled {l : Launch} {D : va_G} {z : Nat} {cI cP cR cJ : ClassId} {h : Hp} {xm : Nat} {xa : Nat → Nat} {σ : Sg} {th : Int} (hM : MR cI xm xa σ th h) (hI : Ib σ) {j : Nat} (hj : (j : Int) < σ 10 0) : Ct l D z (tyL cI cP cR cJ) yX4_isTabled wsX4_isTabled rmX4_isTabled [.ref xm, .int (iI (j : Int))] h (fun v u => v = some (.int (iI (b2 (live σ j ∧ σ 4 (pn σ j) = 0)))) ∧ h = u) := by
  refine Ct.of (cc := cX4_isTabled) (maxL := 2) (ret := (some .boolean)) (by decide) rfl (Nat.le_of_ble_eq_true rfl) ?_
  intro p e s m args below meth c hx hb hr hts hown hlocks hml hnm hK hB ls hl
  have hl : lv_has ls 2 [(0, .ref xm), (1, .int (iI (j : Int)))] := hl
  have hnp := hI.hnp
  have hnr := hI.hnr
  have hnrI := hI.nrI
  have hnpI := hI.npI
  have hre := hI.rest
  refine lv_aload_n hx hb dX4_isTabled_0 rfl (lv_at hl 0 rfl) ?_
  refine m_get hx hb hts (fun _ q => List.mem_cons_of_mem _ (List.mem_append_right _ q)) hown hK hB hM.1 (ci := 4) rfl 7 (by decide) (List.mem_of_getElem? (i := 1) rfl) rfl rfl dX4_isTabled_1 ?_
  refine lv_iload_n hx hb dX4_isTabled_4 rfl (lv_at hl 1 rfl) ?_
  refine m_mld hx hb hK hB hM 5 (by decide) (i := j) (show j < 200 by omega) dX4_isTabled_5 ?_
  have bd_2 := hI.bd 5 j
  refine j_if_eq (tgt := 32) hx hb dX4_isTabled_6 (by decide) ⟨by omega, by omega⟩ (fun c_1 => ?_) (fun c_1 => ?_)
  · refine j_iconst hx hb dX4_isTabled_32 ?_
    refine lv_goto (tgt := 37) hx hb dX4_isTabled_33 (by decide) ?_
    exact m_zret hx hb hr (by decide) hlocks hB (by decide) (by decide) dX4_isTabled_37 ⟨ret_t ⟨⟨hj, by omega⟩, by rw [show pn σ j = 0 by unfold pn; omega]; omega⟩, rfl⟩
  · refine lv_aload_n hx hb dX4_isTabled_9 rfl (lv_at hl 0 rfl) ?_
    refine m_get hx hb hts (fun _ q => List.mem_cons_of_mem _ (List.mem_append_right _ q)) hown hK hB hM.1 (ci := 4) rfl 7 (by decide) (List.mem_of_getElem? (i := 1) rfl) rfl rfl dX4_isTabled_10 ?_
    refine lv_iload_n hx hb dX4_isTabled_13 rfl (lv_at hl 1 rfl) ?_
    refine m_mld hx hb hK hB hM 5 (by decide) (i := j) (show j < 200 by omega) dX4_isTabled_14 ?_
    refine j_if_le (tgt := 36) hx hb dX4_isTabled_15 (by decide) ⟨by omega, by omega⟩ (fun c_3 => ?_) (fun c_3 => ?_)
    · refine j_iconst hx hb dX4_isTabled_36 ?_
      exact m_zret hx hb hr (by decide) hlocks hB (by decide) (by decide) dX4_isTabled_37 ⟨ret_f (fun q => by have := hI.row j q.1; have := q.1.2; omega), rfl⟩
    · have hl0 : live σ j := ⟨hj, by omega⟩
      have pnj := hI.pnI j hl0
      refine lv_aload_n hx hb dX4_isTabled_18 rfl (lv_at hl 0 rfl) ?_
      refine m_get hx hb hts (fun _ q => List.mem_cons_of_mem _ (List.mem_append_right _ q)) hown hK hB hM.1 (ci := 4) rfl 5 (by decide) (List.mem_of_getElem? (i := 2) rfl) rfl rfl dX4_isTabled_19 ?_
      refine lv_aload_n hx hb dX4_isTabled_22 rfl (lv_at hl 0 rfl) ?_
      refine m_get hx hb hts (fun _ q => List.mem_cons_of_mem _ (List.mem_append_right _ q)) hown hK hB hM.1 (ci := 4) rfl 7 (by decide) (List.mem_of_getElem? (i := 1) rfl) rfl rfl dX4_isTabled_23 ?_
      refine lv_iload_n hx hb dX4_isTabled_26 rfl (lv_at hl 1 rfl) ?_
      refine m_mld hx hb hK hB hM 5 (by decide) (i := j) (show j < 200 by omega) dX4_isTabled_27 ?_
      refine j_topE (show (σ 5 j) = ((pn σ j : Nat) : Int) by omega) ?_
      refine m_mld hx hb hK hB hM 4 (by decide) (i := pn σ j) (show (pn σ j) < 16 by omega) dX4_isTabled_28 ?_
      have bd_5 := hI.bd 4 (pn σ j)
      refine j_if_ne (tgt := 36) hx hb dX4_isTabled_29 (by decide) ⟨by omega, by omega⟩ (fun c_4 => ?_) (fun c_4 => ?_)
      · refine j_iconst hx hb dX4_isTabled_36 ?_
        exact m_zret hx hb hr (by decide) hlocks hB (by decide) (by decide) dX4_isTabled_37 ⟨ret_f (fun q => by have := q.2; omega), rfl⟩
      · refine j_iconst hx hb dX4_isTabled_32 ?_
        refine lv_goto (tgt := 37) hx hb dX4_isTabled_33 (by decide) ?_
        exact m_zret hx hb hr (by decide) hlocks hB (by decide) (by decide) dX4_isTabled_37 ⟨ret_t ⟨hl0, by omega⟩, rfl⟩

abbrev rmX4_isLeaf : Room := { frames := 3, cells := 0, slots := 0, locals := 64 }
set_option maxHeartbeats 4000000 in
set_option maxRecDepth 100000 in
theorem k_X4_isLeaf {l : Launch} {D : va_G} {z : Nat} {cI cP cR cJ : ClassId} {h : Hp} {xm : Nat} {xa : Nat → Nat} {σ : Sg} {th : Int} (hM : MR cI xm xa σ th h) (hI : Ib σ) {n le : Int} (rn : rg n) (rl : rg le) : Ct l D z (tyL cI cP cR cJ) yX4_isLeaf wsX4_isLeaf rmX4_isLeaf [.ref xm, .int (iI n), .int (iI le)] h (fun v u => v = some (.int (iI (b2 (isL σ n le)))) ∧ h = u) := by
  refine Ct.of (cc := cX4_isLeaf) (maxL := 3) (ret := (some .boolean)) (by decide) rfl (Nat.le_of_ble_eq_true rfl) ?_
  intro p e s m args below meth c hx hb hr hts hown hlocks hml hnm hK hB ls hl
  have hl : lv_has ls 3 [(0, .ref xm), (1, .int (iI n)), (2, .int (iI le))] := hl
  have hnp := hI.hnp
  have hnr := hI.hnr
  have hnrI := hI.nrI
  have hnpI := hI.npI
  have hre := hI.rest
  refine lv_aload_n hx hb dX4_isLeaf_0 rfl (lv_at hl 0 rfl) ?_
  refine lv_iload_n hx hb dX4_isLeaf_1 rfl (lv_at hl 1 rfl) ?_
  refine m_run (va_runV (As := [.int (iI n)]) (rest := []) ⟨hx, hb, hml, hown, hts⟩ (k_X4_isAny (l := l) hM hI ⟨by omega, by omega⟩) (cwV 1 hts gX4_isLeaf_X4_isAny rfl rfl rfl (by decide +kernel) ⟨by decide, by decide⟩) ⟨Kp.blind _ _ _ _ _, m_recv hK hB (ci := 4) rfl hM.1, fun U hU hW => hK.pass hB U hU hW⟩ rfl rfl hl.1 rfl (lv_room (Nat.le_of_ble_eq_true rfl)) dX4_isLeaf_2 ⟨Nat.le_of_ble_eq_true rfl, Nat.le_of_ble_eq_true rfl⟩) hB (fun v u H locs hp_1 hB => ?_)
  obtain ⟨rfl, rfl⟩ := hp_1
  show W _ _ _ _ _ _ _ _ _ _ _ _ _ _ _ (F0 m 5 ls [.int (iI (b2 (isA σ n)))])
  refine j_ifeqP (tgt := 27) hx hb dX4_isLeaf_5 (by decide) (fun c_2 => ?_) (fun c_2 => ?_)
  · refine j_iconst hx hb dX4_isLeaf_27 ?_
    exact m_zret hx hb hr (by decide) hlocks hB (by decide) (by decide) dX4_isLeaf_28 ⟨ret_f (fun q => c_2 q.1), rfl⟩
  · have hn0 : 0 ≤ n := by have w := c_2; unfold isA isP at w; omega
    obtain ⟨i, rfl⟩ : ∃ i : Nat, n = (i : Int) := ⟨n.toNat, by omega⟩
    have hia := (isA_i hI).mp c_2
    have lvr := lvs_rg hI (i := i) (by omega)
    refine lv_iload_n hx hb dX4_isLeaf_8 rfl (lv_at hl 2 rfl) ?_
    refine j_iconst hx hb dX4_isLeaf_9 ?_
    refine lv_aload_n hx hb dX4_isLeaf_10 rfl (lv_at hl 0 rfl) ?_
    refine lv_iload_n hx hb dX4_isLeaf_11 rfl (lv_at hl 1 rfl) ?_
    refine m_run (va_runV (As := [.int (iI (i : Int))]) (rest := [.int (iI 0), .int (iI le)]) ⟨hx, hb, hml, hown, hts⟩ (k_X4_leaves (l := l) hM hI (i := i) (by omega)) (cwV 1 hts gX4_isLeaf_X4_leaves rfl rfl rfl (by decide +kernel) ⟨by decide, by decide⟩) ⟨Kp.blind _ _ _ _ _, m_recv hK hB (ci := 4) rfl hM.1, fun U hU hW => hK.pass hB U hU hW⟩ rfl rfl hl.1 rfl (lv_room (Nat.le_of_ble_eq_true rfl)) dX4_isLeaf_12 ⟨Nat.le_of_ble_eq_true rfl, Nat.le_of_ble_eq_true rfl⟩) hB (fun v u H locs hp_3 hB => ?_)
    obtain ⟨rfl, rfl⟩ := hp_3
    show W _ _ _ _ _ _ _ _ _ _ _ _ _ _ _ (F0 m 15 ls [.int (iI (lvs (σ 2 i) (σ 3 i))), .int (iI 0), .int (iI le)])
    refine j_iconst hx hb dX4_isLeaf_15 ?_
    refine j_isub hx hb dX4_isLeaf_16 ?_
    have bd_4 := hI.bd 2 i
    have bd_5 := hI.bd 3 i
    refine m_run (va_runS (As := [.int (iI le), .int (iI 0), .int (iI ((lvs (σ 2 i) (σ 3 i)) - 1))]) (rest := []) ⟨hx, hb, hml, hown, hts⟩ (k_X4_isIn (l := l) ⟨by omega, by omega⟩ ⟨by decide, by decide⟩ ⟨by omega, by omega⟩) (va_cwS 3 hts gX4_isLeaf_X4_isIn rfl rfl rfl (by decide +kernel) ⟨by decide, by decide⟩) ⟨Kp.blind _ _ _ _ _, fun U hU hW => hK.pass hB U hU hW⟩ rfl rfl hl.1 rfl (lv_room (Nat.le_of_ble_eq_true rfl)) dX4_isLeaf_17 ⟨Nat.le_of_ble_eq_true rfl, Nat.le_of_ble_eq_true rfl⟩) hB (fun v u H locs hp_6 hB => ?_)
    obtain ⟨rfl, rfl⟩ := hp_6
    show W _ _ _ _ _ _ _ _ _ _ _ _ _ _ _ (F0 m 20 ls [.int (iI (b2 (0 ≤ le ∧ le ≤ ((lvs (σ 2 i) (σ 3 i)) - 1))))])
    refine j_ifeqP (tgt := 27) hx hb dX4_isLeaf_20 (by decide) (fun c_7 => ?_) (fun c_7 => ?_)
    · refine j_iconst hx hb dX4_isLeaf_27 ?_
      exact m_zret hx hb hr (by decide) hlocks hB (by decide) (by decide) dX4_isLeaf_28 ⟨ret_f (fun q => by have := ((isL_i hI).mp q).2; omega), rfl⟩
    · refine j_iconst hx hb dX4_isLeaf_23 ?_
      refine lv_goto (tgt := 28) hx hb dX4_isLeaf_24 (by decide) ?_
      exact m_zret hx hb hr (by decide) hlocks hB (by decide) (by decide) dX4_isLeaf_28 ⟨ret_t ((isL_i hI).mpr ⟨hia, by omega⟩), rfl⟩

abbrev rmX4_counted : Room := { frames := 1, cells := 0, slots := 0, locals := 22 }
set_option maxHeartbeats 4000000 in
set_option maxRecDepth 100000 in
theorem k_X4_counted {l : Launch} {D : va_G} {z : Nat} {cI cP cR cJ : ClassId} {h : Hp} {xm : Nat} {xa : Nat → Nat} {σ : Sg} {th : Int} (hM : MR cI xm xa σ th h) (hI : Ib σ) {lo hi so : Int} (rl : rg lo) (rh : rg hi) (o0 : 0 ≤ so) (o9 : so ≤ 1023) : Ct l D z (tyL cI cP cR cJ) yX4_counted wsX4_counted rmX4_counted [.ref xm, .int (iI lo), .int (iI hi), .int (iI so)] h (fun v u => v = some (.int (iI (cnt (fun j => live σ j ∧ σ 4 (pn σ j) = 0 ∧ (lo ≤ σ 6 j ∧ σ 6 j ≤ hi ∧ hbit so (σ 7 j))) (nrN σ)))) ∧ h = u) := by
  refine Ct.of (cc := cX4_counted) (maxL := 6) (ret := (some .int)) (by decide) rfl (Nat.le_of_ble_eq_true rfl) ?_
  intro p e s m args below meth c hx hb hr hts hown hlocks hml hnm hK hB ls hl
  have hl : lv_has ls 6 [(0, .ref xm), (1, .int (iI lo)), (2, .int (iI hi)), (3, .int (iI so))] := hl
  have hnp := hI.hnp
  have hnr := hI.hnr
  have hnrI := hI.nrI
  have hnpI := hI.npI
  have hre := hI.rest
  refine j_iconst hx hb dX4_counted_0 ?_
  refine lv_istore (lv' := [(4, .int (iI 0)), (0, .ref xm), (1, .int (iI lo)), (2, .int (iI hi)), (3, .int (iI so))]) hx hb dX4_counted_1 hl (by decide) rfl (fun ls hl => ?_)
  refine j_iconst hx hb dX4_counted_3 ?_
  refine lv_istore (lv' := [(5, .int (iI 0)), (4, .int (iI 0)), (0, .ref xm), (1, .int (iI lo)), (2, .int (iI hi)), (3, .int (iI so))]) hx hb dX4_counted_4 hl (by decide) rfl (fun ls hl => ?_)
  have lp_6 : ∀ (fuel j : Nat) (a : Int), j ≤ (nrN σ) → (nrN σ) + 1 ≤ j + fuel → ∀ (ea : a = cnt (fun j => live σ j ∧ σ 4 (pn σ j) = 0 ∧ (lo ≤ σ 6 j ∧ σ 6 j ≤ hi ∧ hbit so (σ 7 j))) j) (H : Heap) (locs : List Loc), Bk D z s.heap h H locs → ∀ ls : Array Slot, lv_has ls 6 [(5, .int (iI (j : Int))), (4, .int (iI a)), (0, .ref xm), (1, .int (iI lo)), (2, .int (iI hi)), (3, .int (iI so))] → W p l e rmX4_counted s m args below meth c H locs 0 0 (MQ below (Qx D z (fun v u => v = some (.int (iI (cnt (fun j => live σ j ∧ σ 4 (pn σ j) = 0 ∧ (lo ≤ σ 6 j ∧ σ 6 j ≤ hi ∧ hbit so (σ 7 j))) (nrN σ)))) ∧ h = u)) args s (rmX4_counted).cells (rmX4_counted).slots (zA z)) (F0 m 6 ls []) := by
    intro fuel
    induction fuel with
    | zero => intro j a w1 w2; exact absurd w2 (by omega)
    | succ fuel ih6 =>
      intro j a w1 w2 ea H locs hB ls hl
      have ear := cnt_rg (fun j => live σ j ∧ σ 4 (pn σ j) = 0 ∧ (lo ≤ σ 6 j ∧ σ 6 j ≤ hi ∧ hbit so (σ 7 j))) j
      refine lv_iload hx hb dX4_counted_6 (lv_at hl 0 rfl) ?_
      refine lv_aload_n hx hb dX4_counted_8 rfl (lv_at hl 2 rfl) ?_
      refine m_get hx hb hts (fun _ q => List.mem_cons_of_mem _ (List.mem_append_right _ q)) hown hK hB hM.1 (ci := 4) rfl 11 (by decide) (List.mem_of_getElem? (i := 1) rfl) rfl rfl dX4_counted_9 ?_
      have bd_1 := hI.bd 10 0
      refine j_icmp_ge (tgt := 70) hx hb dX4_counted_12 (by decide) ⟨by omega, by omega⟩ ⟨by omega, by omega⟩ (fun c_2 => ?_) (fun c_2 => ?_)
      · refine lv_iload hx hb dX4_counted_70 (lv_at hl 1 rfl) ?_
        exact m_zret hx hb hr rfl hlocks hB (by decide) (by decide) dX4_counted_72 ⟨ret_e (by rw [ea, show j = nrN σ by omega]), rfl⟩
      · refine lv_iload hx hb dX4_counted_15 (lv_at hl 1 rfl) ?_
        refine lv_aload_n hx hb dX4_counted_17 rfl (lv_at hl 2 rfl) ?_
        refine lv_iload hx hb dX4_counted_18 (lv_at hl 0 rfl) ?_
        refine m_run (va_runV (As := [.int (iI (j : Int))]) (rest := [.int (iI a)]) ⟨hx, hb, hml, hown, hts⟩ (k_X4_isTabled (l := l) hM hI (j := j) (by omega)) (cwV 1 hts gX4_counted_X4_isTabled rfl rfl rfl (by decide +kernel) ⟨by decide, by decide⟩) ⟨Kp.blind _ _ _ _ _, m_recv hK hB (ci := 4) rfl hM.1, fun U hU hW => hK.pass hB U hU hW⟩ rfl rfl hl.1 rfl (lv_room (Nat.le_of_ble_eq_true rfl)) dX4_counted_20 ⟨Nat.le_of_ble_eq_true rfl, Nat.le_of_ble_eq_true rfl⟩) hB (fun v u H locs hp_3 hB => ?_)
        obtain ⟨rfl, rfl⟩ := hp_3
        show W _ _ _ _ _ _ _ _ _ _ _ _ _ _ _ (F0 m 23 ls [.int (iI (b2 (live σ j ∧ σ 4 (pn σ j) = 0))), .int (iI a)])
        refine j_ifeqP (tgt := 60) hx hb dX4_counted_23 (by decide) (fun c_4 => ?_) (fun c_4 => ?_)
        · refine j_iconst hx hb dX4_counted_60 ?_
          refine j_iadd hx hb dX4_counted_61 ?_
          refine lv_istore (lv' := [(4, .int (iI (a + 0))), (5, .int (iI (j : Int))), (0, .ref xm), (1, .int (iI lo)), (2, .int (iI hi)), (3, .int (iI so))]) hx hb dX4_counted_62 hl (by decide) rfl (fun ls hl => ?_)
          refine j_iinc (lv' := [(5, .int (iI ((j + 1 : Nat) : Int))), (4, .int (iI (a + 0))), (0, .ref xm), (1, .int (iI lo)), (2, .int (iI hi)), (3, .int (iI so))]) hx hb dX4_counted_64 hl (k := 1) rfl (by decide) rfl (fun ls hl => ?_)
          refine lv_goto (tgt := 6) hx hb dX4_counted_67 (by decide) ?_
          exact ih6 (j + 1) (a + 0) (by omega) (by omega) (cs_z ea (fun q => c_4 ⟨q.1, q.2.1⟩)) _ _ hB ls (lv_sub hl [0, 1, 2, 3, 4, 5] rfl)
        · refine lv_aload_n hx hb dX4_counted_26 rfl (lv_at hl 2 rfl) ?_
          refine m_get hx hb hts (fun _ q => List.mem_cons_of_mem _ (List.mem_append_right _ q)) hown hK hB hM.1 (ci := 4) rfl 8 (by decide) (List.mem_of_getElem? (i := 2) rfl) rfl rfl dX4_counted_27 ?_
          refine lv_iload hx hb dX4_counted_30 (lv_at hl 0 rfl) ?_
          refine m_mld hx hb hK hB hM 6 (by decide) (i := j) (show j < 200 by omega) dX4_counted_32 ?_
          refine lv_iload_n hx hb dX4_counted_33 rfl (lv_at hl 3 rfl) ?_
          refine lv_iload_n hx hb dX4_counted_34 rfl (lv_at hl 4 rfl) ?_
          have bd_5 := hI.bd 6 j
          refine m_run (va_runS (As := [.int (iI (σ 6 j)), .int (iI lo), .int (iI hi)]) (rest := [.int (iI a)]) ⟨hx, hb, hml, hown, hts⟩ (k_X4_isIn (l := l) ⟨by omega, by omega⟩ ⟨by omega, by omega⟩ ⟨by omega, by omega⟩) (va_cwS 3 hts gX4_counted_X4_isIn rfl rfl rfl (by decide +kernel) ⟨by decide, by decide⟩) ⟨Kp.blind _ _ _ _ _, fun U hU hW => hK.pass hB U hU hW⟩ rfl rfl hl.1 rfl (lv_room (Nat.le_of_ble_eq_true rfl)) dX4_counted_35 ⟨Nat.le_of_ble_eq_true rfl, Nat.le_of_ble_eq_true rfl⟩) hB (fun v u H locs hp_6 hB => ?_)
          obtain ⟨rfl, rfl⟩ := hp_6
          show W _ _ _ _ _ _ _ _ _ _ _ _ _ _ _ (F0 m 38 ls [.int (iI (b2 (lo ≤ (σ 6 j) ∧ (σ 6 j) ≤ hi))), .int (iI a)])
          refine j_ifeqP (tgt := 60) hx hb dX4_counted_38 (by decide) (fun c_7 => ?_) (fun c_7 => ?_)
          · refine j_iconst hx hb dX4_counted_60 ?_
            refine j_iadd hx hb dX4_counted_61 ?_
            refine lv_istore (lv' := [(4, .int (iI (a + 0))), (5, .int (iI (j : Int))), (0, .ref xm), (1, .int (iI lo)), (2, .int (iI hi)), (3, .int (iI so))]) hx hb dX4_counted_62 hl (by decide) rfl (fun ls hl => ?_)
            refine j_iinc (lv' := [(5, .int (iI ((j + 1 : Nat) : Int))), (4, .int (iI (a + 0))), (0, .ref xm), (1, .int (iI lo)), (2, .int (iI hi)), (3, .int (iI so))]) hx hb dX4_counted_64 hl (k := 1) rfl (by decide) rfl (fun ls hl => ?_)
            refine lv_goto (tgt := 6) hx hb dX4_counted_67 (by decide) ?_
            exact ih6 (j + 1) (a + 0) (by omega) (by omega) (cs_z ea (fun q => c_7 ⟨q.2.2.1, q.2.2.2.1⟩)) _ _ hB ls (lv_sub hl [0, 1, 2, 3, 4, 5] rfl)
          · have rfj := hI.row j c_4.1
            refine lv_iload_n hx hb dX4_counted_41 rfl (lv_at hl 5 rfl) ?_
            refine lv_aload_n hx hb dX4_counted_42 rfl (lv_at hl 2 rfl) ?_
            refine m_get hx hb hts (fun _ q => List.mem_cons_of_mem _ (List.mem_append_right _ q)) hown hK hB hM.1 (ci := 4) rfl 9 (by decide) (List.mem_of_getElem? (i := 3) rfl) rfl rfl dX4_counted_43 ?_
            refine lv_iload hx hb dX4_counted_46 (lv_at hl 0 rfl) ?_
            refine m_mld hx hb hK hB hM 7 (by decide) (i := j) (show j < 200 by omega) dX4_counted_48 ?_
            refine j_topE (show σ 7 j = (((σ 7 j).toNat : Nat) : Int) by omega) ?_
            have bd_8 := hI.bd 7 j
            refine j_ishr (n := (σ 7 j).toNat) hx hb ⟨by omega, by omega⟩ (by omega) dX4_counted_49 ?_
            refine j_iconst hx hb dX4_counted_50 ?_
            refine j_iand1 hx hb (Int.ediv_nonneg (by omega) (Int.pow_nonneg (by decide))) dX4_counted_51 ?_
            refine j_iconst hx hb dX4_counted_52 ?_
            refine j_icmp_ne (tgt := 60) hx hb dX4_counted_53 (by decide) ⟨by omega, by omega⟩ ⟨by decide, by decide⟩ (fun c_9 => ?_) (fun c_9 => ?_)
            · refine j_iconst hx hb dX4_counted_60 ?_
              refine j_iadd hx hb dX4_counted_61 ?_
              refine lv_istore (lv' := [(4, .int (iI (a + 0))), (5, .int (iI (j : Int))), (0, .ref xm), (1, .int (iI lo)), (2, .int (iI hi)), (3, .int (iI so))]) hx hb dX4_counted_62 hl (by decide) rfl (fun ls hl => ?_)
              refine j_iinc (lv' := [(5, .int (iI ((j + 1 : Nat) : Int))), (4, .int (iI (a + 0))), (0, .ref xm), (1, .int (iI lo)), (2, .int (iI hi)), (3, .int (iI so))]) hx hb dX4_counted_64 hl (k := 1) rfl (by decide) rfl (fun ls hl => ?_)
              refine lv_goto (tgt := 6) hx hb dX4_counted_67 (by decide) ?_
              exact ih6 (j + 1) (a + 0) (by omega) (by omega) (cs_z ea (fun q => c_9 q.2.2.2.2)) _ _ hB ls (lv_sub hl [0, 1, 2, 3, 4, 5] rfl)
            · refine j_iconst hx hb dX4_counted_56 ?_
              refine lv_goto (tgt := 61) hx hb dX4_counted_57 (by decide) ?_
              refine j_iadd hx hb dX4_counted_61 ?_
              refine lv_istore (lv' := [(4, .int (iI (a + 1))), (5, .int (iI (j : Int))), (0, .ref xm), (1, .int (iI lo)), (2, .int (iI hi)), (3, .int (iI so))]) hx hb dX4_counted_62 hl (by decide) rfl (fun ls hl => ?_)
              refine j_iinc (lv' := [(5, .int (iI ((j + 1 : Nat) : Int))), (4, .int (iI (a + 1))), (0, .ref xm), (1, .int (iI lo)), (2, .int (iI hi)), (3, .int (iI so))]) hx hb dX4_counted_64 hl (k := 1) rfl (by decide) rfl (fun ls hl => ?_)
              refine lv_goto (tgt := 6) hx hb dX4_counted_67 (by decide) ?_
              exact ih6 (j + 1) (a + 1) (by omega) (by omega) (cs_t ea ⟨c_4.1, c_4.2, c_7.1, c_7.2, c_9⟩) _ _ hB ls (lv_sub hl [0, 1, 2, 3, 4, 5] rfl)
  exact lp_6 ((nrN σ) + 1) 0 0 (by omega) (by omega) rfl _ _ hB ls (lv_sub hl [0, 1, 2, 3, 4, 5] rfl)

abbrev rmX4_isMatter : Room := { frames := 3, cells := 0, slots := 0, locals := 66 }
set_option maxHeartbeats 4000000 in
set_option maxRecDepth 100000 in
theorem k_X4_isMatter {l : Launch} {D : va_G} {z : Nat} {cI cP cR cJ : ClassId} {h : Hp} {xm : Nat} {xa : Nat → Nat} {σ : Sg} {th : Int} (hM : MR cI xm xa σ th h) (hI : Ib σ) {i : Nat} (hip : (i : Int) ≤ σ 9 0) {leaf lo hi so : Int} (rl : rg leaf) (l0 : 0 ≤ lo) (l9 : lo ≤ 999) (h0 : lo ≤ hi) (h9 : hi ≤ 999) (o0 : 0 ≤ so) (o9 : so ≤ 1023) : Ct l D z (tyL cI cP cR cJ) yX4_isMatter wsX4_isMatter rmX4_isMatter [.ref xm, .int (iI (i : Int)), .int (iI leaf), .int (iI lo), .int (iI hi), .int (iI so)] h (fun v u => v = some (.int (iI (b2 (mM σ i leaf lo hi so)))) ∧ h = u) := by
  refine Ct.of (cc := cX4_isMatter) (maxL := 10) (ret := (some .boolean)) (by decide) rfl (Nat.le_of_ble_eq_true rfl) ?_
  intro p e s m args below meth c hx hb hr hts hown hlocks hml hnm hK hB ls hl
  have hl : lv_has ls 10 [(0, .ref xm), (1, .int (iI (i : Int))), (2, .int (iI leaf)), (3, .int (iI lo)), (4, .int (iI hi)), (5, .int (iI so))] := hl
  have hnp := hI.hnp
  have hnr := hI.hnr
  have hnrI := hI.nrI
  have hnpI := hI.npI
  have hre := hI.rest
  have hpt := hI.part i hip
  have hkd := hI.kd i hip
  refine lv_iload_n hx hb dX4_isMatter_0 rfl (lv_at hl 1 rfl) ?_
  refine j_if_le (tgt := 13) hx hb dX4_isMatter_1 (by decide) ⟨by omega, by omega⟩ (fun c_1 => ?_) (fun c_1 => ?_)
  · refine lv_iload hx hb dX4_isMatter_13 (lv_at hl 5 rfl) ?_
    refine j_if_ne (tgt := 20) hx hb dX4_isMatter_15 (by decide) ⟨by omega, by omega⟩ (fun c_2 => ?_) (fun c_2 => ?_)
    · refine j_iconst hx hb dX4_isMatter_20 ?_
      refine lv_istore (lv' := [(6, .int (iI 0)), (0, .ref xm), (1, .int (iI (i : Int))), (2, .int (iI leaf)), (3, .int (iI lo)), (4, .int (iI hi)), (5, .int (iI so))]) hx hb dX4_isMatter_21 hl (by decide) rfl (fun ls hl => ?_)
      refine lv_iload_n hx hb dX4_isMatter_23 rfl (lv_at hl 4 rfl) ?_
      refine lv_istore (lv' := [(7, .int (iI lo)), (6, .int (iI 0)), (0, .ref xm), (1, .int (iI (i : Int))), (2, .int (iI leaf)), (3, .int (iI lo)), (4, .int (iI hi)), (5, .int (iI so))]) hx hb dX4_isMatter_24 hl (by decide) rfl (fun ls hl => ?_)
      have lp_26 : ∀ (fuel j : Nat) (ky : Int) (a : Int), j ≤ 1000 → 1000 + 1 ≤ j + fuel → ∀ (ek : ky = lo + (j : Int)) (eh : lo + (j : Int) ≤ hi + 1) (ea : a = b2 (∃ j2 : Nat, j2 < j ∧ (fun j => ∃ b : Nat, b < 10 ∧ mmQ σ i leaf so (lo + (j : Int)) b) j2)) (H : Heap) (locs : List Loc), Bk D z s.heap h H locs → ∀ ls : Array Slot, lv_has ls 10 [(7, .int (iI ky)), (6, .int (iI a)), (0, .ref xm), (1, .int (iI (i : Int))), (2, .int (iI leaf)), (3, .int (iI lo)), (4, .int (iI hi)), (5, .int (iI so))] → W p l e rmX4_isMatter s m args below meth c H locs 0 0 (MQ below (Qx D z (fun v u => v = some (.int (iI (b2 (mM σ i leaf lo hi so)))) ∧ h = u)) args s (rmX4_isMatter).cells (rmX4_isMatter).slots (zA z)) (F0 m 26 ls []) := by
        intro fuel
        induction fuel with
        | zero => intro j ky a w1 w2; exact absurd w2 (by omega)
        | succ fuel ih26 =>
          intro j ky a w1 w2 ek eh ea H locs hB ls hl
          have ear := b2_01 (∃ j2 : Nat, j2 < j ∧ (fun j => ∃ b : Nat, b < 10 ∧ mmQ σ i leaf so (lo + (j : Int)) b) j2)
          refine lv_iload hx hb dX4_isMatter_26 (lv_at hl 0 rfl) ?_
          refine lv_iload hx hb dX4_isMatter_28 (lv_at hl 6 rfl) ?_
          refine j_icmp_gt (tgt := 131) hx hb dX4_isMatter_30 (by decide) ⟨by omega, by omega⟩ ⟨by omega, by omega⟩ (fun c_3 => ?_) (fun c_3 => ?_)
          · refine lv_iload hx hb dX4_isMatter_131 (lv_at hl 1 rfl) ?_
            exact m_zret hx hb hr (nb01 (by omega)) hlocks hB (by decide) (by decide) dX4_isMatter_133 ⟨ret_e (by rw [ea]; exact b2_c ⟨fun ⟨a1, q1, q2⟩ => ⟨by omega, by omega, a1, by omega, q2⟩, fun ⟨_, _, a1, q1, q2⟩ => ⟨a1, by omega, q2⟩⟩), rfl⟩
          · refine lv_iload hx hb dX4_isMatter_33 (lv_at hl 1 rfl) ?_
            refine j_if_ne (tgt := 131) hx hb dX4_isMatter_35 (by decide) ⟨by omega, by omega⟩ (fun c_4 => ?_) (fun c_4 => ?_)
            · refine lv_iload hx hb dX4_isMatter_131 (lv_at hl 1 rfl) ?_
              exact m_zret hx hb hr (nb01 (by omega)) hlocks hB (by decide) (by decide) dX4_isMatter_133 ⟨ret_e (by by_cases q : ∃ j2 : Nat, j2 < j ∧ (fun j => ∃ b : Nat, b < 10 ∧ mmQ σ i leaf so (lo + (j : Int)) b) j2; (rw [ea, b2_t q]; obtain ⟨a1, q1, q2⟩ := q; exact (b2_t ⟨by omega, by omega, a1, by omega, q2⟩).symm); (rw [b2_f q] at ea; omega)), rfl⟩
            · refine lv_iload_n hx hb dX4_isMatter_38 rfl (lv_at hl 3 rfl) ?_
              refine j_if_ne (tgt := 59) hx hb dX4_isMatter_39 (by decide) ⟨by omega, by omega⟩ (fun c_5 => ?_) (fun c_5 => ?_)
              · refine lv_aload_n hx hb dX4_isMatter_59 rfl (lv_at hl 2 rfl) ?_
                refine lv_iload_n hx hb dX4_isMatter_60 rfl (lv_at hl 3 rfl) ?_
                refine lv_iload hx hb dX4_isMatter_61 (lv_at hl 0 rfl) ?_
                refine m_run (va_runV (As := [.int (iI (i : Int)), .int (iI ky)]) (rest := []) ⟨hx, hb, hml, hown, hts⟩ (k_X4_hasKey (l := l) hM hI (i := i) (by omega) ⟨by omega, by omega⟩) (cwV 2 hts gX4_isMatter_X4_hasKey rfl rfl rfl (by decide +kernel) ⟨by decide, by decide⟩) ⟨Kp.blind _ _ _ _ _, m_recv hK hB (ci := 4) rfl hM.1, fun U hU hW => hK.pass hB U hU hW⟩ rfl rfl hl.1 rfl (lv_room (Nat.le_of_ble_eq_true rfl)) dX4_isMatter_63 ⟨Nat.le_of_ble_eq_true rfl, Nat.le_of_ble_eq_true rfl⟩) hB (fun v u H locs hp_6 hB => ?_)
                obtain ⟨rfl, rfl⟩ := hp_6
                show W _ _ _ _ _ _ _ _ _ _ _ _ _ _ _ (F0 m 66 ls [.int (iI (b2 (σ 0 i ≤ ky ∧ ky < σ 1 i)))])
                refine lv_istore (lv' := [(8, .int (iI (b2 (σ 0 i ≤ ky ∧ ky < σ 1 i)))), (7, .int (iI ky)), (6, .int (iI a)), (0, .ref xm), (1, .int (iI (i : Int))), (2, .int (iI leaf)), (3, .int (iI lo)), (4, .int (iI hi)), (5, .int (iI so))]) hx hb dX4_isMatter_66 hl (by decide) rfl (fun ls hl => ?_)
                have hth : thr σ i (lo + (j : Int)) ↔ (σ 0 i ≤ ky ∧ ky < σ 1 i) := by rw [← ek]; exact ⟨fun q => q.elim (fun w => by have := w.1; omega) (fun w => w.2), fun q => Or.inr ⟨by omega, q⟩⟩
                refine j_iconst hx hb dX4_isMatter_68 ?_
                refine lv_istore (lv' := [(9, .int (iI 0)), (8, .int (iI (b2 (σ 0 i ≤ ky ∧ ky < σ 1 i)))), (7, .int (iI ky)), (6, .int (iI a)), (0, .ref xm), (1, .int (iI (i : Int))), (2, .int (iI leaf)), (3, .int (iI lo)), (4, .int (iI hi)), (5, .int (iI so))]) hx hb dX4_isMatter_69 hl (by decide) rfl (fun ls hl => ?_)
                have lp_71 : ∀ (fuel b : Nat) (a2 : Int), b ≤ 10 → 10 + 1 ≤ b + fuel → ∀ (eb : a2 = b2 (∃ b0 : Nat, b0 < b ∧ (fun b => mmQ σ i leaf so (lo + (j : Int)) b) b0)) (H : Heap) (locs : List Loc), Bk D z s.heap h H locs → ∀ ls : Array Slot, lv_has ls 10 [(9, .int (iI (b : Int))), (8, .int (iI (b2 (σ 0 i ≤ ky ∧ ky < σ 1 i)))), (7, .int (iI ky)), (6, .int (iI a2)), (0, .ref xm), (1, .int (iI (i : Int))), (2, .int (iI leaf)), (3, .int (iI lo)), (4, .int (iI hi)), (5, .int (iI so))] → W p l e rmX4_isMatter s m args below meth c H locs 0 0 (MQ below (Qx D z (fun v u => v = some (.int (iI (b2 (mM σ i leaf lo hi so)))) ∧ h = u)) args s (rmX4_isMatter).cells (rmX4_isMatter).slots (zA z)) (F0 m 71 ls []) := by
                  intro fuel
                  induction fuel with
                  | zero => intro b a2 w1 w2; exact absurd w2 (by omega)
                  | succ fuel ih71 =>
                    intro b a2 w1 w2 eb H locs hB ls hl
                    have ebr := b2_01 (∃ b0 : Nat, b0 < b ∧ (fun b => mmQ σ i leaf so (lo + (j : Int)) b) b0)
                    refine lv_iload hx hb dX4_isMatter_71 (lv_at hl 0 rfl) ?_
                    refine j_bipush hx hb dX4_isMatter_73 (by decide) ?_
                    refine j_icmp_ge (tgt := 125) hx hb dX4_isMatter_75 (by decide) ⟨by omega, by omega⟩ ⟨by decide, by decide⟩ (fun c_7 => ?_) (fun c_7 => ?_)
                    · refine j_iinc (lv' := [(7, .int (iI (ky + 1))), (9, .int (iI (b : Int))), (8, .int (iI (b2 (σ 0 i ≤ ky ∧ ky < σ 1 i)))), (6, .int (iI a2)), (0, .ref xm), (1, .int (iI (i : Int))), (2, .int (iI leaf)), (3, .int (iI lo)), (4, .int (iI hi)), (5, .int (iI so))]) hx hb dX4_isMatter_125 hl (k := 2) rfl (by decide) rfl (fun ls hl => ?_)
                      refine lv_goto (tgt := 26) hx hb dX4_isMatter_128 (by decide) ?_
                      exact ih26 (j + 1) (ky + 1) a2 (by omega) (by omega) (by omega) (by omega) (bs_m ea (by omega) eb (by rw [show b = 10 by omega])) _ _ hB ls (lv_sub hl [0, 3, 4, 5, 6, 7, 8, 9] rfl)
                    · refine lv_iload hx hb dX4_isMatter_78 (lv_at hl 1 rfl) ?_
                      refine j_ifeqP (tgt := 125) hx hb dX4_isMatter_80 (by decide) (fun c_8 => ?_) (fun c_8 => ?_)
                      · refine j_iinc (lv' := [(7, .int (iI (ky + 1))), (9, .int (iI (b : Int))), (8, .int (iI (b2 (σ 0 i ≤ ky ∧ ky < σ 1 i)))), (6, .int (iI a2)), (0, .ref xm), (1, .int (iI (i : Int))), (2, .int (iI leaf)), (3, .int (iI lo)), (4, .int (iI hi)), (5, .int (iI so))]) hx hb dX4_isMatter_125 hl (k := 2) rfl (by decide) rfl (fun ls hl => ?_)
                        refine lv_goto (tgt := 26) hx hb dX4_isMatter_128 (by decide) ?_
                        exact ih26 (j + 1) (ky + 1) a2 (by omega) (by omega) (by omega) (by omega) (bs_m ea (by omega) eb ⟨fun ⟨b0, h1, h2⟩ => absurd h2.1 (fun w => c_8 (hth.mp w)), fun ⟨b0, h1, h2⟩ => absurd h2.1 (fun w => c_8 (hth.mp w))⟩) _ _ hB ls (lv_sub hl [0, 3, 4, 5, 6, 7, 8, 9] rfl)
                      · refine lv_iload hx hb dX4_isMatter_83 (lv_at hl 3 rfl) ?_
                        refine j_if_ne (tgt := 125) hx hb dX4_isMatter_85 (by decide) ⟨by omega, by omega⟩ (fun c_9 => ?_) (fun c_9 => ?_)
                        · refine j_iinc (lv' := [(7, .int (iI (ky + 1))), (9, .int (iI (b : Int))), (8, .int (iI (b2 (σ 0 i ≤ ky ∧ ky < σ 1 i)))), (6, .int (iI a2)), (0, .ref xm), (1, .int (iI (i : Int))), (2, .int (iI leaf)), (3, .int (iI lo)), (4, .int (iI hi)), (5, .int (iI so))]) hx hb dX4_isMatter_125 hl (k := 2) rfl (by decide) rfl (fun ls hl => ?_)
                          refine lv_goto (tgt := 26) hx hb dX4_isMatter_128 (by decide) ?_
                          exact ih26 (j + 1) (ky + 1) a2 (by omega) (by omega) (by omega) (by omega) (bs_y eb c_9 (fun ⟨b0, h1, h2⟩ => ⟨b0, by omega, h2⟩)) _ _ hB ls (lv_sub hl [0, 3, 4, 5, 6, 7, 8, 9] rfl)
                        · refine lv_iload hx hb dX4_isMatter_88 (lv_at hl 9 rfl) ?_
                          refine lv_iload hx hb dX4_isMatter_90 (lv_at hl 0 rfl) ?_
                          refine j_ishr (n := b) hx hb ⟨by omega, by omega⟩ (by omega) dX4_isMatter_92 ?_
                          refine j_iconst hx hb dX4_isMatter_93 ?_
                          refine j_iand1 hx hb (Int.ediv_nonneg (by omega) (Int.pow_nonneg (by decide))) dX4_isMatter_94 ?_
                          refine j_iconst hx hb dX4_isMatter_95 ?_
                          refine j_icmp_ne (tgt := 116) hx hb dX4_isMatter_96 (by decide) ⟨by omega, by omega⟩ ⟨by decide, by decide⟩ (fun c_10 => ?_) (fun c_10 => ?_)
                          · refine j_iconst hx hb dX4_isMatter_116 ?_
                            refine lv_istore (lv' := [(6, .int (iI 0)), (9, .int (iI (b : Int))), (8, .int (iI (b2 (σ 0 i ≤ ky ∧ ky < σ 1 i)))), (7, .int (iI ky)), (0, .ref xm), (1, .int (iI (i : Int))), (2, .int (iI leaf)), (3, .int (iI lo)), (4, .int (iI hi)), (5, .int (iI so))]) hx hb dX4_isMatter_117 hl (by decide) rfl (fun ls hl => ?_)
                            refine j_iinc (lv' := [(9, .int (iI ((b + 1 : Nat) : Int))), (6, .int (iI 0)), (8, .int (iI (b2 (σ 0 i ≤ ky ∧ ky < σ 1 i)))), (7, .int (iI ky)), (0, .ref xm), (1, .int (iI (i : Int))), (2, .int (iI leaf)), (3, .int (iI lo)), (4, .int (iI hi)), (5, .int (iI so))]) hx hb dX4_isMatter_119 hl (k := 1) rfl (by decide) rfl (fun ls hl => ?_)
                            refine lv_goto (tgt := 71) hx hb dX4_isMatter_122 (by decide) ?_
                            exact ih71 (b + 1) 0 (by omega) (by omega) (bs_f eb (by omega) (fun q => c_10 q.2.1)) _ _ hB ls (lv_sub hl [0, 2, 3, 1, 4, 5, 6, 7, 8, 9] rfl)
                          · refine lv_aload_n hx hb dX4_isMatter_99 rfl (lv_at hl 4 rfl) ?_
                            refine lv_iload_n hx hb dX4_isMatter_100 rfl (lv_at hl 5 rfl) ?_
                            refine lv_iload hx hb dX4_isMatter_101 (lv_at hl 2 rfl) ?_
                            refine lv_iload hx hb dX4_isMatter_103 (lv_at hl 0 rfl) ?_
                            refine m_run (va_runV (As := [.int (iI (i : Int)), .int (iI ky), .int (iI (b : Int))]) (rest := []) ⟨hx, hb, hml, hown, hts⟩ (k_X4_leaf (l := l) hM hI (i := i) (by omega) (k := ky) (s_ := (b : Int)) (by omega) (by omega) (by omega) (by omega)) (cwV 3 hts gX4_isMatter_X4_leaf rfl rfl rfl (by decide +kernel) ⟨by decide, by decide⟩) ⟨Kp.blind _ _ _ _ _, m_recv hK hB (ci := 4) rfl hM.1, fun U hU hW => hK.pass hB U hU hW⟩ rfl rfl hl.1 rfl (lv_room (Nat.le_of_ble_eq_true rfl)) dX4_isMatter_105 ⟨Nat.le_of_ble_eq_true rfl, Nat.le_of_ble_eq_true rfl⟩) hB (fun v u H locs hp_11 hB => ?_)
                            obtain ⟨rfl, rfl⟩ := hp_11
                            show W _ _ _ _ _ _ _ _ _ _ _ _ _ _ _ (F0 m 108 ls [.int (iI (lf (σ 2 i) (σ 3 i) ky (b : Int)))])
                            have lfb := lf_rg (k := σ 2 i) (d := σ 3 i) (key := ky) (sr := (b : Int)) hkd
                            refine lv_iload_n hx hb dX4_isMatter_108 rfl (lv_at hl 6 rfl) ?_
                            have bd_12 := hI.bd 2 i
                            have bd_13 := hI.bd 3 i
                            refine j_icmp_ne (tgt := 116) hx hb dX4_isMatter_109 (by decide) ⟨by omega, by omega⟩ ⟨by omega, by omega⟩ (fun c_14 => ?_) (fun c_14 => ?_)
                            · refine j_iconst hx hb dX4_isMatter_116 ?_
                              refine lv_istore (lv' := [(6, .int (iI 0)), (9, .int (iI (b : Int))), (8, .int (iI (b2 (σ 0 i ≤ ky ∧ ky < σ 1 i)))), (7, .int (iI ky)), (0, .ref xm), (1, .int (iI (i : Int))), (2, .int (iI leaf)), (3, .int (iI lo)), (4, .int (iI hi)), (5, .int (iI so))]) hx hb dX4_isMatter_117 hl (by decide) rfl (fun ls hl => ?_)
                              refine j_iinc (lv' := [(9, .int (iI ((b + 1 : Nat) : Int))), (6, .int (iI 0)), (8, .int (iI (b2 (σ 0 i ≤ ky ∧ ky < σ 1 i)))), (7, .int (iI ky)), (0, .ref xm), (1, .int (iI (i : Int))), (2, .int (iI leaf)), (3, .int (iI lo)), (4, .int (iI hi)), (5, .int (iI so))]) hx hb dX4_isMatter_119 hl (k := 1) rfl (by decide) rfl (fun ls hl => ?_)
                              refine lv_goto (tgt := 71) hx hb dX4_isMatter_122 (by decide) ?_
                              exact ih71 (b + 1) 0 (by omega) (by omega) (bs_f eb (by omega) (fun q => c_14 (by rw [ek]; exact q.2.2))) _ _ hB ls (lv_sub hl [0, 2, 3, 1, 4, 5, 6, 7, 8, 9] rfl)
                            · refine j_iconst hx hb dX4_isMatter_112 ?_
                              refine lv_goto (tgt := 117) hx hb dX4_isMatter_113 (by decide) ?_
                              refine lv_istore (lv' := [(6, .int (iI 1)), (9, .int (iI (b : Int))), (8, .int (iI (b2 (σ 0 i ≤ ky ∧ ky < σ 1 i)))), (7, .int (iI ky)), (0, .ref xm), (1, .int (iI (i : Int))), (2, .int (iI leaf)), (3, .int (iI lo)), (4, .int (iI hi)), (5, .int (iI so))]) hx hb dX4_isMatter_117 hl (by decide) rfl (fun ls hl => ?_)
                              refine j_iinc (lv' := [(9, .int (iI ((b + 1 : Nat) : Int))), (6, .int (iI 1)), (8, .int (iI (b2 (σ 0 i ≤ ky ∧ ky < σ 1 i)))), (7, .int (iI ky)), (0, .ref xm), (1, .int (iI (i : Int))), (2, .int (iI leaf)), (3, .int (iI lo)), (4, .int (iI hi)), (5, .int (iI so))]) hx hb dX4_isMatter_119 hl (k := 1) rfl (by decide) rfl (fun ls hl => ?_)
                              refine lv_goto (tgt := 71) hx hb dX4_isMatter_122 (by decide) ?_
                              exact ih71 (b + 1) 1 (by omega) (by omega) (bs_t ⟨(hth.mpr c_8), c_10, by rw [← ek]; exact c_14⟩) _ _ hB ls (lv_sub hl [0, 2, 3, 1, 4, 5, 6, 7, 8, 9] rfl)
                exact lp_71 (10 + 1) 0 a (by omega) (by omega) (by rw [show a = 0 by omega]; exact bs_0) _ _ hB ls (lv_sub hl [0, 1, 2, 3, 4, 5, 6, 7, 8, 9] rfl)
              · refine lv_aload_n hx hb dX4_isMatter_42 rfl (lv_at hl 2 rfl) ?_
                refine lv_iload hx hb dX4_isMatter_43 (lv_at hl 0 rfl) ?_
                refine m_run (va_runV (As := [.int (iI ky)]) (rest := []) ⟨hx, hb, hml, hown, hts⟩ (k_X4_partWith (l := l) hM hI ⟨by omega, by omega⟩) (cwV 1 hts gX4_isMatter_X4_partWith rfl rfl rfl (by decide +kernel) ⟨by decide, by decide⟩) ⟨Kp.blind _ _ _ _ _, m_recv hK hB (ci := 4) rfl hM.1, fun U hU hW => hK.pass hB U hU hW⟩ rfl rfl hl.1 rfl (lv_room (Nat.le_of_ble_eq_true rfl)) dX4_isMatter_45 ⟨Nat.le_of_ble_eq_true rfl, Nat.le_of_ble_eq_true rfl⟩) hB (fun v u H locs hp_16 hB => ?_)
                obtain ⟨rfl, rfl⟩ := hp_16
                show W _ _ _ _ _ _ _ _ _ _ _ _ _ _ _ (F0 m 48 ls [.int (iI ((pw σ ky : Nat) : Int))])
                have pwl_15 := pw_le hI ky
                refine j_if_ne (tgt := 55) hx hb dX4_isMatter_48 (by decide) ⟨by omega, by omega⟩ (fun c_17 => ?_) (fun c_17 => ?_)
                · refine j_iconst hx hb dX4_isMatter_55 ?_
                  refine lv_goto (tgt := 66) hx hb dX4_isMatter_56 (by decide) ?_
                  refine lv_istore (lv' := [(8, .int (iI 0)), (7, .int (iI ky)), (6, .int (iI a)), (0, .ref xm), (1, .int (iI (i : Int))), (2, .int (iI leaf)), (3, .int (iI lo)), (4, .int (iI hi)), (5, .int (iI so))]) hx hb dX4_isMatter_66 hl (by decide) rfl (fun ls hl => ?_)
                  have hth : ¬ thr σ i (lo + (j : Int)) := by rw [← ek]; exact fun q => q.elim (fun w => by have := w.2; omega) (fun w => by have := w.1; omega)
                  refine j_iconst hx hb dX4_isMatter_68 ?_
                  refine lv_istore (lv' := [(9, .int (iI 0)), (8, .int (iI 0)), (7, .int (iI ky)), (6, .int (iI a)), (0, .ref xm), (1, .int (iI (i : Int))), (2, .int (iI leaf)), (3, .int (iI lo)), (4, .int (iI hi)), (5, .int (iI so))]) hx hb dX4_isMatter_69 hl (by decide) rfl (fun ls hl => ?_)
                  have lp_71 : ∀ (fuel b : Nat) (a2 : Int), b ≤ 10 → 10 + 1 ≤ b + fuel → ∀ (eb : a2 = b2 (∃ b0 : Nat, b0 < b ∧ (fun b => mmQ σ i leaf so (lo + (j : Int)) b) b0)) (H : Heap) (locs : List Loc), Bk D z s.heap h H locs → ∀ ls : Array Slot, lv_has ls 10 [(9, .int (iI (b : Int))), (8, .int (iI 0)), (7, .int (iI ky)), (6, .int (iI a2)), (0, .ref xm), (1, .int (iI (i : Int))), (2, .int (iI leaf)), (3, .int (iI lo)), (4, .int (iI hi)), (5, .int (iI so))] → W p l e rmX4_isMatter s m args below meth c H locs 0 0 (MQ below (Qx D z (fun v u => v = some (.int (iI (b2 (mM σ i leaf lo hi so)))) ∧ h = u)) args s (rmX4_isMatter).cells (rmX4_isMatter).slots (zA z)) (F0 m 71 ls []) := by
                    intro fuel
                    induction fuel with
                    | zero => intro b a2 w1 w2; exact absurd w2 (by omega)
                    | succ fuel ih71 =>
                      intro b a2 w1 w2 eb H locs hB ls hl
                      have ebr := b2_01 (∃ b0 : Nat, b0 < b ∧ (fun b => mmQ σ i leaf so (lo + (j : Int)) b) b0)
                      refine lv_iload hx hb dX4_isMatter_71 (lv_at hl 0 rfl) ?_
                      refine j_bipush hx hb dX4_isMatter_73 (by decide) ?_
                      refine j_icmp_ge (tgt := 125) hx hb dX4_isMatter_75 (by decide) ⟨by omega, by omega⟩ ⟨by decide, by decide⟩ (fun c_18 => ?_) (fun c_18 => ?_)
                      · refine j_iinc (lv' := [(7, .int (iI (ky + 1))), (9, .int (iI (b : Int))), (8, .int (iI 0)), (6, .int (iI a2)), (0, .ref xm), (1, .int (iI (i : Int))), (2, .int (iI leaf)), (3, .int (iI lo)), (4, .int (iI hi)), (5, .int (iI so))]) hx hb dX4_isMatter_125 hl (k := 2) rfl (by decide) rfl (fun ls hl => ?_)
                        refine lv_goto (tgt := 26) hx hb dX4_isMatter_128 (by decide) ?_
                        exact ih26 (j + 1) (ky + 1) a2 (by omega) (by omega) (by omega) (by omega) (bs_m ea (by omega) eb (by rw [show b = 10 by omega])) _ _ hB ls (lv_sub hl [0, 3, 4, 5, 6, 7, 8, 9] rfl)
                      · refine lv_iload hx hb dX4_isMatter_78 (lv_at hl 1 rfl) ?_
                        refine j_if_eq (tgt := 125) hx hb dX4_isMatter_80 (by decide) ⟨by decide, by decide⟩ (fun c_19 => ?_) (fun c_19 => absurd c_19 (by decide))
                        refine j_iinc (lv' := [(7, .int (iI (ky + 1))), (9, .int (iI (b : Int))), (8, .int (iI 0)), (6, .int (iI a2)), (0, .ref xm), (1, .int (iI (i : Int))), (2, .int (iI leaf)), (3, .int (iI lo)), (4, .int (iI hi)), (5, .int (iI so))]) hx hb dX4_isMatter_125 hl (k := 2) rfl (by decide) rfl (fun ls hl => ?_)
                        refine lv_goto (tgt := 26) hx hb dX4_isMatter_128 (by decide) ?_
                        exact ih26 (j + 1) (ky + 1) a2 (by omega) (by omega) (by omega) (by omega) (bs_m ea (by omega) eb ⟨fun ⟨b0, h1, h2⟩ => absurd h2.1 hth, fun ⟨b0, h1, h2⟩ => absurd h2.1 hth⟩) _ _ hB ls (lv_sub hl [0, 3, 4, 5, 6, 7, 8, 9] rfl)
                  exact lp_71 (10 + 1) 0 a (by omega) (by omega) (by rw [show a = 0 by omega]; exact bs_0) _ _ hB ls (lv_sub hl [0, 1, 2, 3, 4, 5, 6, 7, 8, 9] rfl)
                · refine j_iconst hx hb dX4_isMatter_51 ?_
                  refine lv_goto (tgt := 66) hx hb dX4_isMatter_52 (by decide) ?_
                  refine lv_istore (lv' := [(8, .int (iI 1)), (7, .int (iI ky)), (6, .int (iI a)), (0, .ref xm), (1, .int (iI (i : Int))), (2, .int (iI leaf)), (3, .int (iI lo)), (4, .int (iI hi)), (5, .int (iI so))]) hx hb dX4_isMatter_66 hl (by decide) rfl (fun ls hl => ?_)
                  have hth : thr σ i (lo + (j : Int)) := by rw [← ek]; exact Or.inl ⟨by omega, by omega⟩
                  refine j_iconst hx hb dX4_isMatter_68 ?_
                  refine lv_istore (lv' := [(9, .int (iI 0)), (8, .int (iI 1)), (7, .int (iI ky)), (6, .int (iI a)), (0, .ref xm), (1, .int (iI (i : Int))), (2, .int (iI leaf)), (3, .int (iI lo)), (4, .int (iI hi)), (5, .int (iI so))]) hx hb dX4_isMatter_69 hl (by decide) rfl (fun ls hl => ?_)
                  have lp_71 : ∀ (fuel b : Nat) (a2 : Int), b ≤ 10 → 10 + 1 ≤ b + fuel → ∀ (eb : a2 = b2 (∃ b0 : Nat, b0 < b ∧ (fun b => mmQ σ i leaf so (lo + (j : Int)) b) b0)) (H : Heap) (locs : List Loc), Bk D z s.heap h H locs → ∀ ls : Array Slot, lv_has ls 10 [(9, .int (iI (b : Int))), (8, .int (iI 1)), (7, .int (iI ky)), (6, .int (iI a2)), (0, .ref xm), (1, .int (iI (i : Int))), (2, .int (iI leaf)), (3, .int (iI lo)), (4, .int (iI hi)), (5, .int (iI so))] → W p l e rmX4_isMatter s m args below meth c H locs 0 0 (MQ below (Qx D z (fun v u => v = some (.int (iI (b2 (mM σ i leaf lo hi so)))) ∧ h = u)) args s (rmX4_isMatter).cells (rmX4_isMatter).slots (zA z)) (F0 m 71 ls []) := by
                    intro fuel
                    induction fuel with
                    | zero => intro b a2 w1 w2; exact absurd w2 (by omega)
                    | succ fuel ih71 =>
                      intro b a2 w1 w2 eb H locs hB ls hl
                      have ebr := b2_01 (∃ b0 : Nat, b0 < b ∧ (fun b => mmQ σ i leaf so (lo + (j : Int)) b) b0)
                      refine lv_iload hx hb dX4_isMatter_71 (lv_at hl 0 rfl) ?_
                      refine j_bipush hx hb dX4_isMatter_73 (by decide) ?_
                      refine j_icmp_ge (tgt := 125) hx hb dX4_isMatter_75 (by decide) ⟨by omega, by omega⟩ ⟨by decide, by decide⟩ (fun c_20 => ?_) (fun c_20 => ?_)
                      · refine j_iinc (lv' := [(7, .int (iI (ky + 1))), (9, .int (iI (b : Int))), (8, .int (iI 1)), (6, .int (iI a2)), (0, .ref xm), (1, .int (iI (i : Int))), (2, .int (iI leaf)), (3, .int (iI lo)), (4, .int (iI hi)), (5, .int (iI so))]) hx hb dX4_isMatter_125 hl (k := 2) rfl (by decide) rfl (fun ls hl => ?_)
                        refine lv_goto (tgt := 26) hx hb dX4_isMatter_128 (by decide) ?_
                        exact ih26 (j + 1) (ky + 1) a2 (by omega) (by omega) (by omega) (by omega) (bs_m ea (by omega) eb (by rw [show b = 10 by omega])) _ _ hB ls (lv_sub hl [0, 3, 4, 5, 6, 7, 8, 9] rfl)
                      · refine lv_iload hx hb dX4_isMatter_78 (lv_at hl 1 rfl) ?_
                        refine j_if_eq (tgt := 125) hx hb dX4_isMatter_80 (by decide) ⟨by decide, by decide⟩ (fun c_21 => absurd c_21 (by decide)) (fun c_21 => ?_)
                        refine lv_iload hx hb dX4_isMatter_83 (lv_at hl 3 rfl) ?_
                        refine j_if_ne (tgt := 125) hx hb dX4_isMatter_85 (by decide) ⟨by omega, by omega⟩ (fun c_22 => ?_) (fun c_22 => ?_)
                        · refine j_iinc (lv' := [(7, .int (iI (ky + 1))), (9, .int (iI (b : Int))), (8, .int (iI 1)), (6, .int (iI a2)), (0, .ref xm), (1, .int (iI (i : Int))), (2, .int (iI leaf)), (3, .int (iI lo)), (4, .int (iI hi)), (5, .int (iI so))]) hx hb dX4_isMatter_125 hl (k := 2) rfl (by decide) rfl (fun ls hl => ?_)
                          refine lv_goto (tgt := 26) hx hb dX4_isMatter_128 (by decide) ?_
                          exact ih26 (j + 1) (ky + 1) a2 (by omega) (by omega) (by omega) (by omega) (bs_y eb c_22 (fun ⟨b0, h1, h2⟩ => ⟨b0, by omega, h2⟩)) _ _ hB ls (lv_sub hl [0, 3, 4, 5, 6, 7, 8, 9] rfl)
                        · refine lv_iload hx hb dX4_isMatter_88 (lv_at hl 9 rfl) ?_
                          refine lv_iload hx hb dX4_isMatter_90 (lv_at hl 0 rfl) ?_
                          refine j_ishr (n := b) hx hb ⟨by omega, by omega⟩ (by omega) dX4_isMatter_92 ?_
                          refine j_iconst hx hb dX4_isMatter_93 ?_
                          refine j_iand1 hx hb (Int.ediv_nonneg (by omega) (Int.pow_nonneg (by decide))) dX4_isMatter_94 ?_
                          refine j_iconst hx hb dX4_isMatter_95 ?_
                          refine j_icmp_ne (tgt := 116) hx hb dX4_isMatter_96 (by decide) ⟨by omega, by omega⟩ ⟨by decide, by decide⟩ (fun c_23 => ?_) (fun c_23 => ?_)
                          · refine j_iconst hx hb dX4_isMatter_116 ?_
                            refine lv_istore (lv' := [(6, .int (iI 0)), (9, .int (iI (b : Int))), (8, .int (iI 1)), (7, .int (iI ky)), (0, .ref xm), (1, .int (iI (i : Int))), (2, .int (iI leaf)), (3, .int (iI lo)), (4, .int (iI hi)), (5, .int (iI so))]) hx hb dX4_isMatter_117 hl (by decide) rfl (fun ls hl => ?_)
                            refine j_iinc (lv' := [(9, .int (iI ((b + 1 : Nat) : Int))), (6, .int (iI 0)), (8, .int (iI 1)), (7, .int (iI ky)), (0, .ref xm), (1, .int (iI (i : Int))), (2, .int (iI leaf)), (3, .int (iI lo)), (4, .int (iI hi)), (5, .int (iI so))]) hx hb dX4_isMatter_119 hl (k := 1) rfl (by decide) rfl (fun ls hl => ?_)
                            refine lv_goto (tgt := 71) hx hb dX4_isMatter_122 (by decide) ?_
                            exact ih71 (b + 1) 0 (by omega) (by omega) (bs_f eb (by omega) (fun q => c_23 q.2.1)) _ _ hB ls (lv_sub hl [0, 2, 3, 1, 4, 5, 6, 7, 8, 9] rfl)
                          · refine lv_aload_n hx hb dX4_isMatter_99 rfl (lv_at hl 4 rfl) ?_
                            refine lv_iload_n hx hb dX4_isMatter_100 rfl (lv_at hl 5 rfl) ?_
                            refine lv_iload hx hb dX4_isMatter_101 (lv_at hl 2 rfl) ?_
                            refine lv_iload hx hb dX4_isMatter_103 (lv_at hl 0 rfl) ?_
                            refine m_run (va_runV (As := [.int (iI (i : Int)), .int (iI ky), .int (iI (b : Int))]) (rest := []) ⟨hx, hb, hml, hown, hts⟩ (k_X4_leaf (l := l) hM hI (i := i) (by omega) (k := ky) (s_ := (b : Int)) (by omega) (by omega) (by omega) (by omega)) (cwV 3 hts gX4_isMatter_X4_leaf rfl rfl rfl (by decide +kernel) ⟨by decide, by decide⟩) ⟨Kp.blind _ _ _ _ _, m_recv hK hB (ci := 4) rfl hM.1, fun U hU hW => hK.pass hB U hU hW⟩ rfl rfl hl.1 rfl (lv_room (Nat.le_of_ble_eq_true rfl)) dX4_isMatter_105 ⟨Nat.le_of_ble_eq_true rfl, Nat.le_of_ble_eq_true rfl⟩) hB (fun v u H locs hp_24 hB => ?_)
                            obtain ⟨rfl, rfl⟩ := hp_24
                            show W _ _ _ _ _ _ _ _ _ _ _ _ _ _ _ (F0 m 108 ls [.int (iI (lf (σ 2 i) (σ 3 i) ky (b : Int)))])
                            have lfb := lf_rg (k := σ 2 i) (d := σ 3 i) (key := ky) (sr := (b : Int)) hkd
                            refine lv_iload_n hx hb dX4_isMatter_108 rfl (lv_at hl 6 rfl) ?_
                            have bd_25 := hI.bd 2 i
                            have bd_26 := hI.bd 3 i
                            refine j_icmp_ne (tgt := 116) hx hb dX4_isMatter_109 (by decide) ⟨by omega, by omega⟩ ⟨by omega, by omega⟩ (fun c_27 => ?_) (fun c_27 => ?_)
                            · refine j_iconst hx hb dX4_isMatter_116 ?_
                              refine lv_istore (lv' := [(6, .int (iI 0)), (9, .int (iI (b : Int))), (8, .int (iI 1)), (7, .int (iI ky)), (0, .ref xm), (1, .int (iI (i : Int))), (2, .int (iI leaf)), (3, .int (iI lo)), (4, .int (iI hi)), (5, .int (iI so))]) hx hb dX4_isMatter_117 hl (by decide) rfl (fun ls hl => ?_)
                              refine j_iinc (lv' := [(9, .int (iI ((b + 1 : Nat) : Int))), (6, .int (iI 0)), (8, .int (iI 1)), (7, .int (iI ky)), (0, .ref xm), (1, .int (iI (i : Int))), (2, .int (iI leaf)), (3, .int (iI lo)), (4, .int (iI hi)), (5, .int (iI so))]) hx hb dX4_isMatter_119 hl (k := 1) rfl (by decide) rfl (fun ls hl => ?_)
                              refine lv_goto (tgt := 71) hx hb dX4_isMatter_122 (by decide) ?_
                              exact ih71 (b + 1) 0 (by omega) (by omega) (bs_f eb (by omega) (fun q => c_27 (by rw [ek]; exact q.2.2))) _ _ hB ls (lv_sub hl [0, 2, 3, 1, 4, 5, 6, 7, 8, 9] rfl)
                            · refine j_iconst hx hb dX4_isMatter_112 ?_
                              refine lv_goto (tgt := 117) hx hb dX4_isMatter_113 (by decide) ?_
                              refine lv_istore (lv' := [(6, .int (iI 1)), (9, .int (iI (b : Int))), (8, .int (iI 1)), (7, .int (iI ky)), (0, .ref xm), (1, .int (iI (i : Int))), (2, .int (iI leaf)), (3, .int (iI lo)), (4, .int (iI hi)), (5, .int (iI so))]) hx hb dX4_isMatter_117 hl (by decide) rfl (fun ls hl => ?_)
                              refine j_iinc (lv' := [(9, .int (iI ((b + 1 : Nat) : Int))), (6, .int (iI 1)), (8, .int (iI 1)), (7, .int (iI ky)), (0, .ref xm), (1, .int (iI (i : Int))), (2, .int (iI leaf)), (3, .int (iI lo)), (4, .int (iI hi)), (5, .int (iI so))]) hx hb dX4_isMatter_119 hl (k := 1) rfl (by decide) rfl (fun ls hl => ?_)
                              refine lv_goto (tgt := 71) hx hb dX4_isMatter_122 (by decide) ?_
                              exact ih71 (b + 1) 1 (by omega) (by omega) (bs_t ⟨hth, c_23, by rw [← ek]; exact c_27⟩) _ _ hB ls (lv_sub hl [0, 2, 3, 1, 4, 5, 6, 7, 8, 9] rfl)
                  exact lp_71 (10 + 1) 0 a (by omega) (by omega) (by rw [show a = 0 by omega]; exact bs_0) _ _ hB ls (lv_sub hl [0, 1, 2, 3, 4, 5, 6, 7, 8, 9] rfl)
      exact lp_26 (1000 + 1) 0 lo 0 (by omega) (by omega) (by omega) (by omega) bs_0 _ _ hB ls (lv_sub hl [0, 1, 2, 3, 4, 5, 6, 7] rfl)
    · refine j_iconst hx hb dX4_isMatter_18 ?_
      exact m_zret hx hb hr (nb01 (by omega)) hlocks hB (by decide) (by decide) dX4_isMatter_19 ⟨ret_f (fun q => q.2.1 c_2), rfl⟩
  · refine lv_aload_n hx hb dX4_isMatter_4 rfl (lv_at hl 0 rfl) ?_
    refine m_get hx hb hts (fun _ q => List.mem_cons_of_mem _ (List.mem_append_right _ q)) hown hK hB hM.1 (ci := 4) rfl 5 (by decide) (List.mem_of_getElem? (i := 1) rfl) rfl rfl dX4_isMatter_5 ?_
    refine lv_iload_n hx hb dX4_isMatter_8 rfl (lv_at hl 1 rfl) ?_
    refine m_mld hx hb hK hB hM 4 (by decide) (i := i) (show i < 16 by omega) dX4_isMatter_9 ?_
    have bd_29 := hI.bd 4 i
    refine j_if_ne (tgt := 18) hx hb dX4_isMatter_10 (by decide) ⟨by omega, by omega⟩ (fun c_28 => ?_) (fun c_28 => ?_)
    · refine j_iconst hx hb dX4_isMatter_18 ?_
      exact m_zret hx hb hr (nb01 (by omega)) hlocks hB (by decide) (by decide) dX4_isMatter_19 ⟨ret_f (fun q => q.1 ⟨by omega, c_28⟩), rfl⟩
    · refine lv_iload hx hb dX4_isMatter_13 (lv_at hl 5 rfl) ?_
      refine j_if_ne (tgt := 20) hx hb dX4_isMatter_15 (by decide) ⟨by omega, by omega⟩ (fun c_30 => ?_) (fun c_30 => ?_)
      · refine j_iconst hx hb dX4_isMatter_20 ?_
        refine lv_istore (lv' := [(6, .int (iI 0)), (0, .ref xm), (1, .int (iI (i : Int))), (2, .int (iI leaf)), (3, .int (iI lo)), (4, .int (iI hi)), (5, .int (iI so))]) hx hb dX4_isMatter_21 hl (by decide) rfl (fun ls hl => ?_)
        refine lv_iload_n hx hb dX4_isMatter_23 rfl (lv_at hl 4 rfl) ?_
        refine lv_istore (lv' := [(7, .int (iI lo)), (6, .int (iI 0)), (0, .ref xm), (1, .int (iI (i : Int))), (2, .int (iI leaf)), (3, .int (iI lo)), (4, .int (iI hi)), (5, .int (iI so))]) hx hb dX4_isMatter_24 hl (by decide) rfl (fun ls hl => ?_)
        have lp_26 : ∀ (fuel j : Nat) (ky : Int) (a : Int), j ≤ 1000 → 1000 + 1 ≤ j + fuel → ∀ (ek : ky = lo + (j : Int)) (eh : lo + (j : Int) ≤ hi + 1) (ea : a = b2 (∃ j2 : Nat, j2 < j ∧ (fun j => ∃ b : Nat, b < 10 ∧ mmQ σ i leaf so (lo + (j : Int)) b) j2)) (H : Heap) (locs : List Loc), Bk D z s.heap h H locs → ∀ ls : Array Slot, lv_has ls 10 [(7, .int (iI ky)), (6, .int (iI a)), (0, .ref xm), (1, .int (iI (i : Int))), (2, .int (iI leaf)), (3, .int (iI lo)), (4, .int (iI hi)), (5, .int (iI so))] → W p l e rmX4_isMatter s m args below meth c H locs 0 0 (MQ below (Qx D z (fun v u => v = some (.int (iI (b2 (mM σ i leaf lo hi so)))) ∧ h = u)) args s (rmX4_isMatter).cells (rmX4_isMatter).slots (zA z)) (F0 m 26 ls []) := by
          intro fuel
          induction fuel with
          | zero => intro j ky a w1 w2; exact absurd w2 (by omega)
          | succ fuel ih26 =>
            intro j ky a w1 w2 ek eh ea H locs hB ls hl
            have ear := b2_01 (∃ j2 : Nat, j2 < j ∧ (fun j => ∃ b : Nat, b < 10 ∧ mmQ σ i leaf so (lo + (j : Int)) b) j2)
            refine lv_iload hx hb dX4_isMatter_26 (lv_at hl 0 rfl) ?_
            refine lv_iload hx hb dX4_isMatter_28 (lv_at hl 6 rfl) ?_
            refine j_icmp_gt (tgt := 131) hx hb dX4_isMatter_30 (by decide) ⟨by omega, by omega⟩ ⟨by omega, by omega⟩ (fun c_31 => ?_) (fun c_31 => ?_)
            · refine lv_iload hx hb dX4_isMatter_131 (lv_at hl 1 rfl) ?_
              exact m_zret hx hb hr (nb01 (by omega)) hlocks hB (by decide) (by decide) dX4_isMatter_133 ⟨ret_e (by rw [ea]; exact b2_c ⟨fun ⟨a1, q1, q2⟩ => ⟨by omega, by omega, a1, by omega, q2⟩, fun ⟨_, _, a1, q1, q2⟩ => ⟨a1, by omega, q2⟩⟩), rfl⟩
            · refine lv_iload hx hb dX4_isMatter_33 (lv_at hl 1 rfl) ?_
              refine j_if_ne (tgt := 131) hx hb dX4_isMatter_35 (by decide) ⟨by omega, by omega⟩ (fun c_32 => ?_) (fun c_32 => ?_)
              · refine lv_iload hx hb dX4_isMatter_131 (lv_at hl 1 rfl) ?_
                exact m_zret hx hb hr (nb01 (by omega)) hlocks hB (by decide) (by decide) dX4_isMatter_133 ⟨ret_e (by by_cases q : ∃ j2 : Nat, j2 < j ∧ (fun j => ∃ b : Nat, b < 10 ∧ mmQ σ i leaf so (lo + (j : Int)) b) j2; (rw [ea, b2_t q]; obtain ⟨a1, q1, q2⟩ := q; exact (b2_t ⟨by omega, by omega, a1, by omega, q2⟩).symm); (rw [b2_f q] at ea; omega)), rfl⟩
              · refine lv_iload_n hx hb dX4_isMatter_38 rfl (lv_at hl 3 rfl) ?_
                refine j_if_ne (tgt := 59) hx hb dX4_isMatter_39 (by decide) ⟨by omega, by omega⟩ (fun c_33 => ?_) (fun c_33 => ?_)
                · refine lv_aload_n hx hb dX4_isMatter_59 rfl (lv_at hl 2 rfl) ?_
                  refine lv_iload_n hx hb dX4_isMatter_60 rfl (lv_at hl 3 rfl) ?_
                  refine lv_iload hx hb dX4_isMatter_61 (lv_at hl 0 rfl) ?_
                  refine m_run (va_runV (As := [.int (iI (i : Int)), .int (iI ky)]) (rest := []) ⟨hx, hb, hml, hown, hts⟩ (k_X4_hasKey (l := l) hM hI (i := i) (by omega) ⟨by omega, by omega⟩) (cwV 2 hts gX4_isMatter_X4_hasKey rfl rfl rfl (by decide +kernel) ⟨by decide, by decide⟩) ⟨Kp.blind _ _ _ _ _, m_recv hK hB (ci := 4) rfl hM.1, fun U hU hW => hK.pass hB U hU hW⟩ rfl rfl hl.1 rfl (lv_room (Nat.le_of_ble_eq_true rfl)) dX4_isMatter_63 ⟨Nat.le_of_ble_eq_true rfl, Nat.le_of_ble_eq_true rfl⟩) hB (fun v u H locs hp_34 hB => ?_)
                  obtain ⟨rfl, rfl⟩ := hp_34
                  show W _ _ _ _ _ _ _ _ _ _ _ _ _ _ _ (F0 m 66 ls [.int (iI (b2 (σ 0 i ≤ ky ∧ ky < σ 1 i)))])
                  refine lv_istore (lv' := [(8, .int (iI (b2 (σ 0 i ≤ ky ∧ ky < σ 1 i)))), (7, .int (iI ky)), (6, .int (iI a)), (0, .ref xm), (1, .int (iI (i : Int))), (2, .int (iI leaf)), (3, .int (iI lo)), (4, .int (iI hi)), (5, .int (iI so))]) hx hb dX4_isMatter_66 hl (by decide) rfl (fun ls hl => ?_)
                  have hth : thr σ i (lo + (j : Int)) ↔ (σ 0 i ≤ ky ∧ ky < σ 1 i) := by rw [← ek]; exact ⟨fun q => q.elim (fun w => by have := w.1; omega) (fun w => w.2), fun q => Or.inr ⟨by omega, q⟩⟩
                  refine j_iconst hx hb dX4_isMatter_68 ?_
                  refine lv_istore (lv' := [(9, .int (iI 0)), (8, .int (iI (b2 (σ 0 i ≤ ky ∧ ky < σ 1 i)))), (7, .int (iI ky)), (6, .int (iI a)), (0, .ref xm), (1, .int (iI (i : Int))), (2, .int (iI leaf)), (3, .int (iI lo)), (4, .int (iI hi)), (5, .int (iI so))]) hx hb dX4_isMatter_69 hl (by decide) rfl (fun ls hl => ?_)
                  have lp_71 : ∀ (fuel b : Nat) (a2 : Int), b ≤ 10 → 10 + 1 ≤ b + fuel → ∀ (eb : a2 = b2 (∃ b0 : Nat, b0 < b ∧ (fun b => mmQ σ i leaf so (lo + (j : Int)) b) b0)) (H : Heap) (locs : List Loc), Bk D z s.heap h H locs → ∀ ls : Array Slot, lv_has ls 10 [(9, .int (iI (b : Int))), (8, .int (iI (b2 (σ 0 i ≤ ky ∧ ky < σ 1 i)))), (7, .int (iI ky)), (6, .int (iI a2)), (0, .ref xm), (1, .int (iI (i : Int))), (2, .int (iI leaf)), (3, .int (iI lo)), (4, .int (iI hi)), (5, .int (iI so))] → W p l e rmX4_isMatter s m args below meth c H locs 0 0 (MQ below (Qx D z (fun v u => v = some (.int (iI (b2 (mM σ i leaf lo hi so)))) ∧ h = u)) args s (rmX4_isMatter).cells (rmX4_isMatter).slots (zA z)) (F0 m 71 ls []) := by
                    intro fuel
                    induction fuel with
                    | zero => intro b a2 w1 w2; exact absurd w2 (by omega)
                    | succ fuel ih71 =>
                      intro b a2 w1 w2 eb H locs hB ls hl
                      have ebr := b2_01 (∃ b0 : Nat, b0 < b ∧ (fun b => mmQ σ i leaf so (lo + (j : Int)) b) b0)
                      refine lv_iload hx hb dX4_isMatter_71 (lv_at hl 0 rfl) ?_
                      refine j_bipush hx hb dX4_isMatter_73 (by decide) ?_
                      refine j_icmp_ge (tgt := 125) hx hb dX4_isMatter_75 (by decide) ⟨by omega, by omega⟩ ⟨by decide, by decide⟩ (fun c_35 => ?_) (fun c_35 => ?_)
                      · refine j_iinc (lv' := [(7, .int (iI (ky + 1))), (9, .int (iI (b : Int))), (8, .int (iI (b2 (σ 0 i ≤ ky ∧ ky < σ 1 i)))), (6, .int (iI a2)), (0, .ref xm), (1, .int (iI (i : Int))), (2, .int (iI leaf)), (3, .int (iI lo)), (4, .int (iI hi)), (5, .int (iI so))]) hx hb dX4_isMatter_125 hl (k := 2) rfl (by decide) rfl (fun ls hl => ?_)
                        refine lv_goto (tgt := 26) hx hb dX4_isMatter_128 (by decide) ?_
                        exact ih26 (j + 1) (ky + 1) a2 (by omega) (by omega) (by omega) (by omega) (bs_m ea (by omega) eb (by rw [show b = 10 by omega])) _ _ hB ls (lv_sub hl [0, 3, 4, 5, 6, 7, 8, 9] rfl)
                      · refine lv_iload hx hb dX4_isMatter_78 (lv_at hl 1 rfl) ?_
                        refine j_ifeqP (tgt := 125) hx hb dX4_isMatter_80 (by decide) (fun c_36 => ?_) (fun c_36 => ?_)
                        · refine j_iinc (lv' := [(7, .int (iI (ky + 1))), (9, .int (iI (b : Int))), (8, .int (iI (b2 (σ 0 i ≤ ky ∧ ky < σ 1 i)))), (6, .int (iI a2)), (0, .ref xm), (1, .int (iI (i : Int))), (2, .int (iI leaf)), (3, .int (iI lo)), (4, .int (iI hi)), (5, .int (iI so))]) hx hb dX4_isMatter_125 hl (k := 2) rfl (by decide) rfl (fun ls hl => ?_)
                          refine lv_goto (tgt := 26) hx hb dX4_isMatter_128 (by decide) ?_
                          exact ih26 (j + 1) (ky + 1) a2 (by omega) (by omega) (by omega) (by omega) (bs_m ea (by omega) eb ⟨fun ⟨b0, h1, h2⟩ => absurd h2.1 (fun w => c_36 (hth.mp w)), fun ⟨b0, h1, h2⟩ => absurd h2.1 (fun w => c_36 (hth.mp w))⟩) _ _ hB ls (lv_sub hl [0, 3, 4, 5, 6, 7, 8, 9] rfl)
                        · refine lv_iload hx hb dX4_isMatter_83 (lv_at hl 3 rfl) ?_
                          refine j_if_ne (tgt := 125) hx hb dX4_isMatter_85 (by decide) ⟨by omega, by omega⟩ (fun c_37 => ?_) (fun c_37 => ?_)
                          · refine j_iinc (lv' := [(7, .int (iI (ky + 1))), (9, .int (iI (b : Int))), (8, .int (iI (b2 (σ 0 i ≤ ky ∧ ky < σ 1 i)))), (6, .int (iI a2)), (0, .ref xm), (1, .int (iI (i : Int))), (2, .int (iI leaf)), (3, .int (iI lo)), (4, .int (iI hi)), (5, .int (iI so))]) hx hb dX4_isMatter_125 hl (k := 2) rfl (by decide) rfl (fun ls hl => ?_)
                            refine lv_goto (tgt := 26) hx hb dX4_isMatter_128 (by decide) ?_
                            exact ih26 (j + 1) (ky + 1) a2 (by omega) (by omega) (by omega) (by omega) (bs_y eb c_37 (fun ⟨b0, h1, h2⟩ => ⟨b0, by omega, h2⟩)) _ _ hB ls (lv_sub hl [0, 3, 4, 5, 6, 7, 8, 9] rfl)
                          · refine lv_iload hx hb dX4_isMatter_88 (lv_at hl 9 rfl) ?_
                            refine lv_iload hx hb dX4_isMatter_90 (lv_at hl 0 rfl) ?_
                            refine j_ishr (n := b) hx hb ⟨by omega, by omega⟩ (by omega) dX4_isMatter_92 ?_
                            refine j_iconst hx hb dX4_isMatter_93 ?_
                            refine j_iand1 hx hb (Int.ediv_nonneg (by omega) (Int.pow_nonneg (by decide))) dX4_isMatter_94 ?_
                            refine j_iconst hx hb dX4_isMatter_95 ?_
                            refine j_icmp_ne (tgt := 116) hx hb dX4_isMatter_96 (by decide) ⟨by omega, by omega⟩ ⟨by decide, by decide⟩ (fun c_38 => ?_) (fun c_38 => ?_)
                            · refine j_iconst hx hb dX4_isMatter_116 ?_
                              refine lv_istore (lv' := [(6, .int (iI 0)), (9, .int (iI (b : Int))), (8, .int (iI (b2 (σ 0 i ≤ ky ∧ ky < σ 1 i)))), (7, .int (iI ky)), (0, .ref xm), (1, .int (iI (i : Int))), (2, .int (iI leaf)), (3, .int (iI lo)), (4, .int (iI hi)), (5, .int (iI so))]) hx hb dX4_isMatter_117 hl (by decide) rfl (fun ls hl => ?_)
                              refine j_iinc (lv' := [(9, .int (iI ((b + 1 : Nat) : Int))), (6, .int (iI 0)), (8, .int (iI (b2 (σ 0 i ≤ ky ∧ ky < σ 1 i)))), (7, .int (iI ky)), (0, .ref xm), (1, .int (iI (i : Int))), (2, .int (iI leaf)), (3, .int (iI lo)), (4, .int (iI hi)), (5, .int (iI so))]) hx hb dX4_isMatter_119 hl (k := 1) rfl (by decide) rfl (fun ls hl => ?_)
                              refine lv_goto (tgt := 71) hx hb dX4_isMatter_122 (by decide) ?_
                              exact ih71 (b + 1) 0 (by omega) (by omega) (bs_f eb (by omega) (fun q => c_38 q.2.1)) _ _ hB ls (lv_sub hl [0, 2, 3, 1, 4, 5, 6, 7, 8, 9] rfl)
                            · refine lv_aload_n hx hb dX4_isMatter_99 rfl (lv_at hl 4 rfl) ?_
                              refine lv_iload_n hx hb dX4_isMatter_100 rfl (lv_at hl 5 rfl) ?_
                              refine lv_iload hx hb dX4_isMatter_101 (lv_at hl 2 rfl) ?_
                              refine lv_iload hx hb dX4_isMatter_103 (lv_at hl 0 rfl) ?_
                              refine m_run (va_runV (As := [.int (iI (i : Int)), .int (iI ky), .int (iI (b : Int))]) (rest := []) ⟨hx, hb, hml, hown, hts⟩ (k_X4_leaf (l := l) hM hI (i := i) (by omega) (k := ky) (s_ := (b : Int)) (by omega) (by omega) (by omega) (by omega)) (cwV 3 hts gX4_isMatter_X4_leaf rfl rfl rfl (by decide +kernel) ⟨by decide, by decide⟩) ⟨Kp.blind _ _ _ _ _, m_recv hK hB (ci := 4) rfl hM.1, fun U hU hW => hK.pass hB U hU hW⟩ rfl rfl hl.1 rfl (lv_room (Nat.le_of_ble_eq_true rfl)) dX4_isMatter_105 ⟨Nat.le_of_ble_eq_true rfl, Nat.le_of_ble_eq_true rfl⟩) hB (fun v u H locs hp_39 hB => ?_)
                              obtain ⟨rfl, rfl⟩ := hp_39
                              show W _ _ _ _ _ _ _ _ _ _ _ _ _ _ _ (F0 m 108 ls [.int (iI (lf (σ 2 i) (σ 3 i) ky (b : Int)))])
                              have lfb := lf_rg (k := σ 2 i) (d := σ 3 i) (key := ky) (sr := (b : Int)) hkd
                              refine lv_iload_n hx hb dX4_isMatter_108 rfl (lv_at hl 6 rfl) ?_
                              have bd_40 := hI.bd 2 i
                              have bd_41 := hI.bd 3 i
                              refine j_icmp_ne (tgt := 116) hx hb dX4_isMatter_109 (by decide) ⟨by omega, by omega⟩ ⟨by omega, by omega⟩ (fun c_42 => ?_) (fun c_42 => ?_)
                              · refine j_iconst hx hb dX4_isMatter_116 ?_
                                refine lv_istore (lv' := [(6, .int (iI 0)), (9, .int (iI (b : Int))), (8, .int (iI (b2 (σ 0 i ≤ ky ∧ ky < σ 1 i)))), (7, .int (iI ky)), (0, .ref xm), (1, .int (iI (i : Int))), (2, .int (iI leaf)), (3, .int (iI lo)), (4, .int (iI hi)), (5, .int (iI so))]) hx hb dX4_isMatter_117 hl (by decide) rfl (fun ls hl => ?_)
                                refine j_iinc (lv' := [(9, .int (iI ((b + 1 : Nat) : Int))), (6, .int (iI 0)), (8, .int (iI (b2 (σ 0 i ≤ ky ∧ ky < σ 1 i)))), (7, .int (iI ky)), (0, .ref xm), (1, .int (iI (i : Int))), (2, .int (iI leaf)), (3, .int (iI lo)), (4, .int (iI hi)), (5, .int (iI so))]) hx hb dX4_isMatter_119 hl (k := 1) rfl (by decide) rfl (fun ls hl => ?_)
                                refine lv_goto (tgt := 71) hx hb dX4_isMatter_122 (by decide) ?_
                                exact ih71 (b + 1) 0 (by omega) (by omega) (bs_f eb (by omega) (fun q => c_42 (by rw [ek]; exact q.2.2))) _ _ hB ls (lv_sub hl [0, 2, 3, 1, 4, 5, 6, 7, 8, 9] rfl)
                              · refine j_iconst hx hb dX4_isMatter_112 ?_
                                refine lv_goto (tgt := 117) hx hb dX4_isMatter_113 (by decide) ?_
                                refine lv_istore (lv' := [(6, .int (iI 1)), (9, .int (iI (b : Int))), (8, .int (iI (b2 (σ 0 i ≤ ky ∧ ky < σ 1 i)))), (7, .int (iI ky)), (0, .ref xm), (1, .int (iI (i : Int))), (2, .int (iI leaf)), (3, .int (iI lo)), (4, .int (iI hi)), (5, .int (iI so))]) hx hb dX4_isMatter_117 hl (by decide) rfl (fun ls hl => ?_)
                                refine j_iinc (lv' := [(9, .int (iI ((b + 1 : Nat) : Int))), (6, .int (iI 1)), (8, .int (iI (b2 (σ 0 i ≤ ky ∧ ky < σ 1 i)))), (7, .int (iI ky)), (0, .ref xm), (1, .int (iI (i : Int))), (2, .int (iI leaf)), (3, .int (iI lo)), (4, .int (iI hi)), (5, .int (iI so))]) hx hb dX4_isMatter_119 hl (k := 1) rfl (by decide) rfl (fun ls hl => ?_)
                                refine lv_goto (tgt := 71) hx hb dX4_isMatter_122 (by decide) ?_
                                exact ih71 (b + 1) 1 (by omega) (by omega) (bs_t ⟨(hth.mpr c_36), c_38, by rw [← ek]; exact c_42⟩) _ _ hB ls (lv_sub hl [0, 2, 3, 1, 4, 5, 6, 7, 8, 9] rfl)
                  exact lp_71 (10 + 1) 0 a (by omega) (by omega) (by rw [show a = 0 by omega]; exact bs_0) _ _ hB ls (lv_sub hl [0, 1, 2, 3, 4, 5, 6, 7, 8, 9] rfl)
                · refine lv_aload_n hx hb dX4_isMatter_42 rfl (lv_at hl 2 rfl) ?_
                  refine lv_iload hx hb dX4_isMatter_43 (lv_at hl 0 rfl) ?_
                  refine m_run (va_runV (As := [.int (iI ky)]) (rest := []) ⟨hx, hb, hml, hown, hts⟩ (k_X4_partWith (l := l) hM hI ⟨by omega, by omega⟩) (cwV 1 hts gX4_isMatter_X4_partWith rfl rfl rfl (by decide +kernel) ⟨by decide, by decide⟩) ⟨Kp.blind _ _ _ _ _, m_recv hK hB (ci := 4) rfl hM.1, fun U hU hW => hK.pass hB U hU hW⟩ rfl rfl hl.1 rfl (lv_room (Nat.le_of_ble_eq_true rfl)) dX4_isMatter_45 ⟨Nat.le_of_ble_eq_true rfl, Nat.le_of_ble_eq_true rfl⟩) hB (fun v u H locs hp_44 hB => ?_)
                  obtain ⟨rfl, rfl⟩ := hp_44
                  show W _ _ _ _ _ _ _ _ _ _ _ _ _ _ _ (F0 m 48 ls [.int (iI ((pw σ ky : Nat) : Int))])
                  have pwl_43 := pw_le hI ky
                  refine j_if_ne (tgt := 55) hx hb dX4_isMatter_48 (by decide) ⟨by omega, by omega⟩ (fun c_45 => ?_) (fun c_45 => ?_)
                  · refine j_iconst hx hb dX4_isMatter_55 ?_
                    refine lv_goto (tgt := 66) hx hb dX4_isMatter_56 (by decide) ?_
                    refine lv_istore (lv' := [(8, .int (iI 0)), (7, .int (iI ky)), (6, .int (iI a)), (0, .ref xm), (1, .int (iI (i : Int))), (2, .int (iI leaf)), (3, .int (iI lo)), (4, .int (iI hi)), (5, .int (iI so))]) hx hb dX4_isMatter_66 hl (by decide) rfl (fun ls hl => ?_)
                    have hth : ¬ thr σ i (lo + (j : Int)) := by rw [← ek]; exact fun q => q.elim (fun w => by have := w.2; omega) (fun w => by have := w.1; omega)
                    refine j_iconst hx hb dX4_isMatter_68 ?_
                    refine lv_istore (lv' := [(9, .int (iI 0)), (8, .int (iI 0)), (7, .int (iI ky)), (6, .int (iI a)), (0, .ref xm), (1, .int (iI (i : Int))), (2, .int (iI leaf)), (3, .int (iI lo)), (4, .int (iI hi)), (5, .int (iI so))]) hx hb dX4_isMatter_69 hl (by decide) rfl (fun ls hl => ?_)
                    have lp_71 : ∀ (fuel b : Nat) (a2 : Int), b ≤ 10 → 10 + 1 ≤ b + fuel → ∀ (eb : a2 = b2 (∃ b0 : Nat, b0 < b ∧ (fun b => mmQ σ i leaf so (lo + (j : Int)) b) b0)) (H : Heap) (locs : List Loc), Bk D z s.heap h H locs → ∀ ls : Array Slot, lv_has ls 10 [(9, .int (iI (b : Int))), (8, .int (iI 0)), (7, .int (iI ky)), (6, .int (iI a2)), (0, .ref xm), (1, .int (iI (i : Int))), (2, .int (iI leaf)), (3, .int (iI lo)), (4, .int (iI hi)), (5, .int (iI so))] → W p l e rmX4_isMatter s m args below meth c H locs 0 0 (MQ below (Qx D z (fun v u => v = some (.int (iI (b2 (mM σ i leaf lo hi so)))) ∧ h = u)) args s (rmX4_isMatter).cells (rmX4_isMatter).slots (zA z)) (F0 m 71 ls []) := by
                      intro fuel
                      induction fuel with
                      | zero => intro b a2 w1 w2; exact absurd w2 (by omega)
                      | succ fuel ih71 =>
                        intro b a2 w1 w2 eb H locs hB ls hl
                        have ebr := b2_01 (∃ b0 : Nat, b0 < b ∧ (fun b => mmQ σ i leaf so (lo + (j : Int)) b) b0)
                        refine lv_iload hx hb dX4_isMatter_71 (lv_at hl 0 rfl) ?_
                        refine j_bipush hx hb dX4_isMatter_73 (by decide) ?_
                        refine j_icmp_ge (tgt := 125) hx hb dX4_isMatter_75 (by decide) ⟨by omega, by omega⟩ ⟨by decide, by decide⟩ (fun c_46 => ?_) (fun c_46 => ?_)
                        · refine j_iinc (lv' := [(7, .int (iI (ky + 1))), (9, .int (iI (b : Int))), (8, .int (iI 0)), (6, .int (iI a2)), (0, .ref xm), (1, .int (iI (i : Int))), (2, .int (iI leaf)), (3, .int (iI lo)), (4, .int (iI hi)), (5, .int (iI so))]) hx hb dX4_isMatter_125 hl (k := 2) rfl (by decide) rfl (fun ls hl => ?_)
                          refine lv_goto (tgt := 26) hx hb dX4_isMatter_128 (by decide) ?_
                          exact ih26 (j + 1) (ky + 1) a2 (by omega) (by omega) (by omega) (by omega) (bs_m ea (by omega) eb (by rw [show b = 10 by omega])) _ _ hB ls (lv_sub hl [0, 3, 4, 5, 6, 7, 8, 9] rfl)
                        · refine lv_iload hx hb dX4_isMatter_78 (lv_at hl 1 rfl) ?_
                          refine j_if_eq (tgt := 125) hx hb dX4_isMatter_80 (by decide) ⟨by decide, by decide⟩ (fun c_47 => ?_) (fun c_47 => absurd c_47 (by decide))
                          refine j_iinc (lv' := [(7, .int (iI (ky + 1))), (9, .int (iI (b : Int))), (8, .int (iI 0)), (6, .int (iI a2)), (0, .ref xm), (1, .int (iI (i : Int))), (2, .int (iI leaf)), (3, .int (iI lo)), (4, .int (iI hi)), (5, .int (iI so))]) hx hb dX4_isMatter_125 hl (k := 2) rfl (by decide) rfl (fun ls hl => ?_)
                          refine lv_goto (tgt := 26) hx hb dX4_isMatter_128 (by decide) ?_
                          exact ih26 (j + 1) (ky + 1) a2 (by omega) (by omega) (by omega) (by omega) (bs_m ea (by omega) eb ⟨fun ⟨b0, h1, h2⟩ => absurd h2.1 hth, fun ⟨b0, h1, h2⟩ => absurd h2.1 hth⟩) _ _ hB ls (lv_sub hl [0, 3, 4, 5, 6, 7, 8, 9] rfl)
                    exact lp_71 (10 + 1) 0 a (by omega) (by omega) (by rw [show a = 0 by omega]; exact bs_0) _ _ hB ls (lv_sub hl [0, 1, 2, 3, 4, 5, 6, 7, 8, 9] rfl)
                  · refine j_iconst hx hb dX4_isMatter_51 ?_
                    refine lv_goto (tgt := 66) hx hb dX4_isMatter_52 (by decide) ?_
                    refine lv_istore (lv' := [(8, .int (iI 1)), (7, .int (iI ky)), (6, .int (iI a)), (0, .ref xm), (1, .int (iI (i : Int))), (2, .int (iI leaf)), (3, .int (iI lo)), (4, .int (iI hi)), (5, .int (iI so))]) hx hb dX4_isMatter_66 hl (by decide) rfl (fun ls hl => ?_)
                    have hth : thr σ i (lo + (j : Int)) := by rw [← ek]; exact Or.inl ⟨by omega, by omega⟩
                    refine j_iconst hx hb dX4_isMatter_68 ?_
                    refine lv_istore (lv' := [(9, .int (iI 0)), (8, .int (iI 1)), (7, .int (iI ky)), (6, .int (iI a)), (0, .ref xm), (1, .int (iI (i : Int))), (2, .int (iI leaf)), (3, .int (iI lo)), (4, .int (iI hi)), (5, .int (iI so))]) hx hb dX4_isMatter_69 hl (by decide) rfl (fun ls hl => ?_)
                    have lp_71 : ∀ (fuel b : Nat) (a2 : Int), b ≤ 10 → 10 + 1 ≤ b + fuel → ∀ (eb : a2 = b2 (∃ b0 : Nat, b0 < b ∧ (fun b => mmQ σ i leaf so (lo + (j : Int)) b) b0)) (H : Heap) (locs : List Loc), Bk D z s.heap h H locs → ∀ ls : Array Slot, lv_has ls 10 [(9, .int (iI (b : Int))), (8, .int (iI 1)), (7, .int (iI ky)), (6, .int (iI a2)), (0, .ref xm), (1, .int (iI (i : Int))), (2, .int (iI leaf)), (3, .int (iI lo)), (4, .int (iI hi)), (5, .int (iI so))] → W p l e rmX4_isMatter s m args below meth c H locs 0 0 (MQ below (Qx D z (fun v u => v = some (.int (iI (b2 (mM σ i leaf lo hi so)))) ∧ h = u)) args s (rmX4_isMatter).cells (rmX4_isMatter).slots (zA z)) (F0 m 71 ls []) := by
                      intro fuel
                      induction fuel with
                      | zero => intro b a2 w1 w2; exact absurd w2 (by omega)
                      | succ fuel ih71 =>
                        intro b a2 w1 w2 eb H locs hB ls hl
                        have ebr := b2_01 (∃ b0 : Nat, b0 < b ∧ (fun b => mmQ σ i leaf so (lo + (j : Int)) b) b0)
                        refine lv_iload hx hb dX4_isMatter_71 (lv_at hl 0 rfl) ?_
                        refine j_bipush hx hb dX4_isMatter_73 (by decide) ?_
                        refine j_icmp_ge (tgt := 125) hx hb dX4_isMatter_75 (by decide) ⟨by omega, by omega⟩ ⟨by decide, by decide⟩ (fun c_48 => ?_) (fun c_48 => ?_)
                        · refine j_iinc (lv' := [(7, .int (iI (ky + 1))), (9, .int (iI (b : Int))), (8, .int (iI 1)), (6, .int (iI a2)), (0, .ref xm), (1, .int (iI (i : Int))), (2, .int (iI leaf)), (3, .int (iI lo)), (4, .int (iI hi)), (5, .int (iI so))]) hx hb dX4_isMatter_125 hl (k := 2) rfl (by decide) rfl (fun ls hl => ?_)
                          refine lv_goto (tgt := 26) hx hb dX4_isMatter_128 (by decide) ?_
                          exact ih26 (j + 1) (ky + 1) a2 (by omega) (by omega) (by omega) (by omega) (bs_m ea (by omega) eb (by rw [show b = 10 by omega])) _ _ hB ls (lv_sub hl [0, 3, 4, 5, 6, 7, 8, 9] rfl)
                        · refine lv_iload hx hb dX4_isMatter_78 (lv_at hl 1 rfl) ?_
                          refine j_if_eq (tgt := 125) hx hb dX4_isMatter_80 (by decide) ⟨by decide, by decide⟩ (fun c_49 => absurd c_49 (by decide)) (fun c_49 => ?_)
                          refine lv_iload hx hb dX4_isMatter_83 (lv_at hl 3 rfl) ?_
                          refine j_if_ne (tgt := 125) hx hb dX4_isMatter_85 (by decide) ⟨by omega, by omega⟩ (fun c_50 => ?_) (fun c_50 => ?_)
                          · refine j_iinc (lv' := [(7, .int (iI (ky + 1))), (9, .int (iI (b : Int))), (8, .int (iI 1)), (6, .int (iI a2)), (0, .ref xm), (1, .int (iI (i : Int))), (2, .int (iI leaf)), (3, .int (iI lo)), (4, .int (iI hi)), (5, .int (iI so))]) hx hb dX4_isMatter_125 hl (k := 2) rfl (by decide) rfl (fun ls hl => ?_)
                            refine lv_goto (tgt := 26) hx hb dX4_isMatter_128 (by decide) ?_
                            exact ih26 (j + 1) (ky + 1) a2 (by omega) (by omega) (by omega) (by omega) (bs_y eb c_50 (fun ⟨b0, h1, h2⟩ => ⟨b0, by omega, h2⟩)) _ _ hB ls (lv_sub hl [0, 3, 4, 5, 6, 7, 8, 9] rfl)
                          · refine lv_iload hx hb dX4_isMatter_88 (lv_at hl 9 rfl) ?_
                            refine lv_iload hx hb dX4_isMatter_90 (lv_at hl 0 rfl) ?_
                            refine j_ishr (n := b) hx hb ⟨by omega, by omega⟩ (by omega) dX4_isMatter_92 ?_
                            refine j_iconst hx hb dX4_isMatter_93 ?_
                            refine j_iand1 hx hb (Int.ediv_nonneg (by omega) (Int.pow_nonneg (by decide))) dX4_isMatter_94 ?_
                            refine j_iconst hx hb dX4_isMatter_95 ?_
                            refine j_icmp_ne (tgt := 116) hx hb dX4_isMatter_96 (by decide) ⟨by omega, by omega⟩ ⟨by decide, by decide⟩ (fun c_51 => ?_) (fun c_51 => ?_)
                            · refine j_iconst hx hb dX4_isMatter_116 ?_
                              refine lv_istore (lv' := [(6, .int (iI 0)), (9, .int (iI (b : Int))), (8, .int (iI 1)), (7, .int (iI ky)), (0, .ref xm), (1, .int (iI (i : Int))), (2, .int (iI leaf)), (3, .int (iI lo)), (4, .int (iI hi)), (5, .int (iI so))]) hx hb dX4_isMatter_117 hl (by decide) rfl (fun ls hl => ?_)
                              refine j_iinc (lv' := [(9, .int (iI ((b + 1 : Nat) : Int))), (6, .int (iI 0)), (8, .int (iI 1)), (7, .int (iI ky)), (0, .ref xm), (1, .int (iI (i : Int))), (2, .int (iI leaf)), (3, .int (iI lo)), (4, .int (iI hi)), (5, .int (iI so))]) hx hb dX4_isMatter_119 hl (k := 1) rfl (by decide) rfl (fun ls hl => ?_)
                              refine lv_goto (tgt := 71) hx hb dX4_isMatter_122 (by decide) ?_
                              exact ih71 (b + 1) 0 (by omega) (by omega) (bs_f eb (by omega) (fun q => c_51 q.2.1)) _ _ hB ls (lv_sub hl [0, 2, 3, 1, 4, 5, 6, 7, 8, 9] rfl)
                            · refine lv_aload_n hx hb dX4_isMatter_99 rfl (lv_at hl 4 rfl) ?_
                              refine lv_iload_n hx hb dX4_isMatter_100 rfl (lv_at hl 5 rfl) ?_
                              refine lv_iload hx hb dX4_isMatter_101 (lv_at hl 2 rfl) ?_
                              refine lv_iload hx hb dX4_isMatter_103 (lv_at hl 0 rfl) ?_
                              refine m_run (va_runV (As := [.int (iI (i : Int)), .int (iI ky), .int (iI (b : Int))]) (rest := []) ⟨hx, hb, hml, hown, hts⟩ (k_X4_leaf (l := l) hM hI (i := i) (by omega) (k := ky) (s_ := (b : Int)) (by omega) (by omega) (by omega) (by omega)) (cwV 3 hts gX4_isMatter_X4_leaf rfl rfl rfl (by decide +kernel) ⟨by decide, by decide⟩) ⟨Kp.blind _ _ _ _ _, m_recv hK hB (ci := 4) rfl hM.1, fun U hU hW => hK.pass hB U hU hW⟩ rfl rfl hl.1 rfl (lv_room (Nat.le_of_ble_eq_true rfl)) dX4_isMatter_105 ⟨Nat.le_of_ble_eq_true rfl, Nat.le_of_ble_eq_true rfl⟩) hB (fun v u H locs hp_52 hB => ?_)
                              obtain ⟨rfl, rfl⟩ := hp_52
                              show W _ _ _ _ _ _ _ _ _ _ _ _ _ _ _ (F0 m 108 ls [.int (iI (lf (σ 2 i) (σ 3 i) ky (b : Int)))])
                              have lfb := lf_rg (k := σ 2 i) (d := σ 3 i) (key := ky) (sr := (b : Int)) hkd
                              refine lv_iload_n hx hb dX4_isMatter_108 rfl (lv_at hl 6 rfl) ?_
                              have bd_53 := hI.bd 2 i
                              have bd_54 := hI.bd 3 i
                              refine j_icmp_ne (tgt := 116) hx hb dX4_isMatter_109 (by decide) ⟨by omega, by omega⟩ ⟨by omega, by omega⟩ (fun c_55 => ?_) (fun c_55 => ?_)
                              · refine j_iconst hx hb dX4_isMatter_116 ?_
                                refine lv_istore (lv' := [(6, .int (iI 0)), (9, .int (iI (b : Int))), (8, .int (iI 1)), (7, .int (iI ky)), (0, .ref xm), (1, .int (iI (i : Int))), (2, .int (iI leaf)), (3, .int (iI lo)), (4, .int (iI hi)), (5, .int (iI so))]) hx hb dX4_isMatter_117 hl (by decide) rfl (fun ls hl => ?_)
                                refine j_iinc (lv' := [(9, .int (iI ((b + 1 : Nat) : Int))), (6, .int (iI 0)), (8, .int (iI 1)), (7, .int (iI ky)), (0, .ref xm), (1, .int (iI (i : Int))), (2, .int (iI leaf)), (3, .int (iI lo)), (4, .int (iI hi)), (5, .int (iI so))]) hx hb dX4_isMatter_119 hl (k := 1) rfl (by decide) rfl (fun ls hl => ?_)
                                refine lv_goto (tgt := 71) hx hb dX4_isMatter_122 (by decide) ?_
                                exact ih71 (b + 1) 0 (by omega) (by omega) (bs_f eb (by omega) (fun q => c_55 (by rw [ek]; exact q.2.2))) _ _ hB ls (lv_sub hl [0, 2, 3, 1, 4, 5, 6, 7, 8, 9] rfl)
                              · refine j_iconst hx hb dX4_isMatter_112 ?_
                                refine lv_goto (tgt := 117) hx hb dX4_isMatter_113 (by decide) ?_
                                refine lv_istore (lv' := [(6, .int (iI 1)), (9, .int (iI (b : Int))), (8, .int (iI 1)), (7, .int (iI ky)), (0, .ref xm), (1, .int (iI (i : Int))), (2, .int (iI leaf)), (3, .int (iI lo)), (4, .int (iI hi)), (5, .int (iI so))]) hx hb dX4_isMatter_117 hl (by decide) rfl (fun ls hl => ?_)
                                refine j_iinc (lv' := [(9, .int (iI ((b + 1 : Nat) : Int))), (6, .int (iI 1)), (8, .int (iI 1)), (7, .int (iI ky)), (0, .ref xm), (1, .int (iI (i : Int))), (2, .int (iI leaf)), (3, .int (iI lo)), (4, .int (iI hi)), (5, .int (iI so))]) hx hb dX4_isMatter_119 hl (k := 1) rfl (by decide) rfl (fun ls hl => ?_)
                                refine lv_goto (tgt := 71) hx hb dX4_isMatter_122 (by decide) ?_
                                exact ih71 (b + 1) 1 (by omega) (by omega) (bs_t ⟨hth, c_51, by rw [← ek]; exact c_55⟩) _ _ hB ls (lv_sub hl [0, 2, 3, 1, 4, 5, 6, 7, 8, 9] rfl)
                    exact lp_71 (10 + 1) 0 a (by omega) (by omega) (by rw [show a = 0 by omega]; exact bs_0) _ _ hB ls (lv_sub hl [0, 1, 2, 3, 4, 5, 6, 7, 8, 9] rfl)
        exact lp_26 (1000 + 1) 0 lo 0 (by omega) (by omega) (by omega) (by omega) bs_0 _ _ hB ls (lv_sub hl [0, 1, 2, 3, 4, 5, 6, 7] rfl)
      · refine j_iconst hx hb dX4_isMatter_18 ?_
        exact m_zret hx hb hr (nb01 (by omega)) hlocks hB (by decide) (by decide) dX4_isMatter_19 ⟨ret_f (fun q => q.2.1 c_30), rfl⟩

