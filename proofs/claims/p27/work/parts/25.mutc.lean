abbrev rmX3_moveRows : Room := { frames := 1, cells := 0, slots := 0, locals := 21 }
set_option maxHeartbeats 4000000 in
set_option maxRecDepth 100000 in
theorem k_X3_moveRows {l : Launch} {D : va_G} {z : Nat} {cI cP cR cJ : ClassId} {h0 : Hp} {x xp xr : Nat} {pa ra : Nat → Nat} {σ : Sg} (hC : CR cP cR x xp xr pa ra σ h0) (hI : Ib σ) {i k : Nat} (hi : (i : Int) ≤ σ 9 0) (hk : (k : Int) ≤ σ 9 0) : Ct l D z (tyL cI cP cR cJ) yX3_moveRows wsX3_moveRows rmX3_moveRows [.ref x, .ref (pa i), .ref (pa k)] h0 (fun v u => v = none ∧ CR cP cR x xp xr pa ra (mvS σ i k 200) u ∧ FrC h0 u) := by
  refine Ct.of (cc := cX3_moveRows) (maxL := 7) (ret := none) (by decide) rfl (Nat.le_of_ble_eq_true rfl) ?_
  intro p e s m args below meth c hx hb hr hts hown hlocks hml hnm hK hB ls hl
  have hl : lv_has ls 7 [(0, .ref x), (1, .ref (pa i)), (2, .ref (pa k))] := hl
  have hF := FrC.rf h0
  have hnp := hI.hnp
  have hnr := hI.hnr
  refine lv_aload_n hx hb dX3_moveRows_0 rfl (lv_at hl 0 rfl) ?_
  refine m_get hx hb hts (fun _ q => List.mem_cons_of_mem _ (List.mem_append_left _ (List.mem_append_left _ (List.mem_append_right _ q)))) hown hK hB hC.tb (ci := 3) rfl 3 (by decide) (List.mem_of_getElem? (i := 1) rfl) rfl rfl dX3_moveRows_1 ?_
  refine lv_astore_n (lv' := [(3, .ref xr), (0, .ref x), (1, .ref (pa i)), (2, .ref (pa k))]) hx hb dX3_moveRows_4 rfl hl (by decide) rfl (fun ls hl => ?_)
  refine lv_aload_n hx hb dX3_moveRows_5 rfl (lv_at hl 0 rfl) ?_
  refine m_lenR hx hb hK hB hC dX3_moveRows_6 ?_
  refine lv_istore (lv' := [(4, .int (iI 200)), (3, .ref xr), (0, .ref x), (1, .ref (pa i)), (2, .ref (pa k))]) hx hb dX3_moveRows_7 hl (by decide) rfl (fun ls hl => ?_)
  refine j_iconst hx hb dX3_moveRows_9 ?_
  refine lv_istore (lv' := [(5, .int (iI 0)), (4, .int (iI 200)), (3, .ref xr), (0, .ref x), (1, .ref (pa i)), (2, .ref (pa k))]) hx hb dX3_moveRows_10 hl (by decide) rfl (fun ls hl => ?_)
  have lp_12 : ∀ (fuel j : Nat), j ≤ 200 → 200 + 1 ≤ j + fuel → ∀ (h : Hp) (hC : CR cP cR x xp xr pa ra (mvS σ i k j) h) (hF : FrC h0 h) (H : Heap) (locs : List Loc), Bk D z s.heap h H locs → ∀ ls : Array Slot, lv_has ls 7 [(5, .int (iI (j : Int))), (4, .int (iI 200)), (3, .ref xr), (0, .ref x), (1, .ref (pa i)), (2, .ref (pa k))] → W p l e rmX3_moveRows s m args below meth c H locs 0 0 (MQ below (Qx D z (fun v u => v = none ∧ CR cP cR x xp xr pa ra (mvS σ i k 200) u ∧ FrC h0 u)) args s (rmX3_moveRows).cells (rmX3_moveRows).slots (zA z)) (F0 m 12 ls []) := by
    intro fuel
    induction fuel with
    | zero => intro j w1 w2; exact absurd w2 (by omega)
    | succ fuel ih =>
      intro j w1 w2 h hC hF  H locs hB ls hl
      have e9 : mvS σ i k j 9 0 = σ 9 0 := mvS_g (by decide)
      refine lv_iload hx hb dX3_moveRows_12 (lv_at hl 0 rfl) ?_
      refine lv_iload hx hb dX3_moveRows_14 (lv_at hl 1 rfl) ?_
      refine j_icmp_ge (tgt := 63) hx hb dX3_moveRows_16 (by decide) ⟨by omega, by omega⟩ ⟨by decide, by decide⟩ (fun c_1 => ?_) (fun c_1 => ?_)
      · exact m_vret hx hb hr hlocks hB (by decide) (by decide) dX3_moveRows_63 ⟨rfl, (by rw [← (show j = 200 by omega)]; exact hC), hF⟩
      · refine lv_aload_n hx hb dX3_moveRows_19 rfl (lv_at hl 2 rfl) ?_
        refine lv_iload hx hb dX3_moveRows_20 (lv_at hl 0 rfl) ?_
        refine m_ldR (j := j) hx hb hK hB hC (by omega) dX3_moveRows_22 (fun lv_2 => ?_) (fun lv_2 => ?_)
        · have lw := mvS_live.mp lv_2
          have rwf := hI.row j lw
          have pnf := hI.pnI j lw
          refine lv_astore (lv' := [(6, .ref (ra j)), (5, .int (iI (j : Int))), (4, .int (iI 200)), (3, .ref xr), (0, .ref x), (1, .ref (pa i)), (2, .ref (pa k))]) hx hb dX3_moveRows_23 hl (by decide) rfl (fun ls hl => ?_)
          refine lv_aload hx hb dX3_moveRows_25 (lv_at hl 0 rfl) ?_
          refine lv_ifnull hx hb dX3_moveRows_27 ?_
          refine lv_aload hx hb dX3_moveRows_30 (lv_at hl 0 rfl) ?_
          refine m_get hx hb hts (fun _ q => List.mem_cons_of_mem _ (List.mem_append_left _ (List.mem_append_right _ q))) hown hK hB (mv_row hC (Nat.le_refl _) lw) (ci := 2) rfl 3 (by decide) (List.mem_of_getElem? (i := 2) rfl) rfl rfl dX3_moveRows_32 ?_
          refine lv_aload_n hx hb dX3_moveRows_35 rfl (lv_at hl 5 rfl) ?_
          refine m_acmpP_ne (tgt := 57) hx hb hC (by omega) (by omega) dX3_moveRows_36 (by decide) (fun c_3 => ?_) (fun c_3 => ?_)
          · refine j_iinc (lv' := [(5, .int (iI ((j + 1 : Nat) : Int))), (6, .ref (ra j)), (4, .int (iI 200)), (3, .ref xr), (0, .ref x), (1, .ref (pa i)), (2, .ref (pa k))]) hx hb dX3_moveRows_57 hl (k := 1) rfl (by decide) rfl (fun ls hl => ?_)
            refine lv_goto (tgt := 12) hx hb dX3_moveRows_60 (by decide) ?_
            exact ih (j + 1) (by omega) (by omega) _ (by rw [mvS_f (fun q => c_3 q.2.1)]; exact hC) hF  _ _ hB ls (lv_sub hl [0, 2, 3, 4, 5, 6] rfl)
          · refine lv_aload_n hx hb dX3_moveRows_39 rfl (lv_at hl 6 rfl) ?_
            refine lv_aload hx hb dX3_moveRows_40 (lv_at hl 0 rfl) ?_
            refine m_get hx hb hts (fun _ q => List.mem_cons_of_mem _ (List.mem_append_left _ (List.mem_append_right _ q))) hown hK hB (mv_row hC (Nat.le_refl _) lw) (ci := 2) rfl 0 (by decide) (List.mem_of_getElem? (i := 3) rfl) rfl rfl dX3_moveRows_42 ?_
            have pf_4 := hI.part k (by omega)
            have bd_5 := hI.bd 0 k
            have bd_6 := hI.bd 1 k
            have bd_7 := hI.bd 6 j
            refine m_run (va_runV (As := [.int (iI (σ 6 j))]) (rest := []) ⟨hx, hb, hml, hown, hts⟩ (k_X0_covers (l := l) (mv_prt hC (q := k) (by omega)) ⟨by omega, by omega⟩ ⟨by omega, by omega⟩ ⟨by omega, by omega⟩) (cwV 1 hts gX3_moveRows_X0_covers rfl rfl rfl (by decide +kernel) ⟨by decide, by decide⟩) ⟨Kp.blind _ _ _ _ _, m_recv hK hB (ci := 0) rfl (mv_prt hC (q := k) (by omega)), fun U hU hW => hK.pass hB U hU hW⟩ rfl rfl hl.1 rfl (lv_room (Nat.le_of_ble_eq_true rfl)) dX3_moveRows_45 ⟨Nat.le_of_ble_eq_true rfl, Nat.le_of_ble_eq_true rfl⟩) hB (fun v u H locs hp_8 hB => ?_)
            obtain ⟨rfl, rfl⟩ := hp_8
            show W _ _ _ _ _ _ _ _ _ _ _ _ _ _ _ (F0 m 48 ls [.int (iI (b2 ((σ 0 k) ≤ (σ 6 j) ∧ (σ 6 j) < (σ 1 k))))])
            refine j_ifeqP (tgt := 57) hx hb dX3_moveRows_48 (by decide) (fun c_9 => ?_) (fun c_9 => ?_)
            · refine j_iinc (lv' := [(5, .int (iI ((j + 1 : Nat) : Int))), (6, .ref (ra j)), (4, .int (iI 200)), (3, .ref xr), (0, .ref x), (1, .ref (pa i)), (2, .ref (pa k))]) hx hb dX3_moveRows_57 hl (k := 1) rfl (by decide) rfl (fun ls hl => ?_)
              refine lv_goto (tgt := 12) hx hb dX3_moveRows_60 (by decide) ?_
              exact ih (j + 1) (by omega) (by omega) _ (by rw [mvS_f (fun q => c_9 ⟨q.2.2.1, q.2.2.2⟩)]; exact hC) hF  _ _ hB ls (lv_sub hl [0, 2, 3, 4, 5, 6] rfl)
            · refine lv_aload hx hb dX3_moveRows_51 (lv_at hl 0 rfl) ?_
              refine lv_aload_n hx hb dX3_moveRows_53 rfl (lv_at hl 6 rfl) ?_
              refine m_put hx hb hts (fun _ q => List.mem_cons_of_mem _ (List.mem_append_left _ (List.mem_append_right _ q))) tyX2 tyX2_ok nmX2 hown hK hB (mv_row hC (Nat.le_refl _) lw) (ci := 2) rfl 3 (by decide) (List.mem_of_getElem? (i := 2) rfl) rfl rfl rfl rfl (Nat.le_of_ble_eq_true rfl) dX3_moveRows_54 (fun H locs hB => ?_)
              have hF := hF.tr (FrC.up (e1 := rwE (σ 6 j) (σ 7 j) (σ 8 j) (pa k)) (mv_row hC (Nat.le_refl _) lw) (Or.inr (Or.inr (Or.inl rfl))))
              have hC := mv_put hC lw
              have hB : Bk D z s.heap (hup h (ra j) (rwE (σ 6 j) (σ 7 j) (σ 8 j) (pa k))) H locs := hB
              refine j_iinc (lv' := [(5, .int (iI ((j + 1 : Nat) : Int))), (6, .ref (ra j)), (4, .int (iI 200)), (3, .ref xr), (0, .ref x), (1, .ref (pa i)), (2, .ref (pa k))]) hx hb dX3_moveRows_57 hl (k := 1) rfl (by decide) rfl (fun ls hl => ?_)
              refine lv_goto (tgt := 12) hx hb dX3_moveRows_60 (by decide) ?_
              exact ih (j + 1) (by omega) (by omega) _ (by rw [mvS_t ⟨lw, c_3, c_9.1, c_9.2⟩]; exact hC) hF  _ _ hB ls (lv_sub hl [0, 2, 3, 4, 5, 6] rfl)
        · have lw := fun q => lv_2 (mvS_live.mpr q)
          refine lv_astoreN (lv' := [(6, .null), (5, .int (iI (j : Int))), (4, .int (iI 200)), (3, .ref xr), (0, .ref x), (1, .ref (pa i)), (2, .ref (pa k))]) hx hb dX3_moveRows_23 hl (by decide) rfl (fun ls hl => ?_)
          refine lv_aloadN hx hb dX3_moveRows_25 (lv_at hl 0 rfl) ?_
          refine lv_ifnullN (tgt := 57) hx hb dX3_moveRows_27 (by decide) ?_
          refine j_iinc (lv' := [(5, .int (iI ((j + 1 : Nat) : Int))), (6, .null), (4, .int (iI 200)), (3, .ref xr), (0, .ref x), (1, .ref (pa i)), (2, .ref (pa k))]) hx hb dX3_moveRows_57 hl (k := 1) rfl (by decide) rfl (fun ls hl => ?_)
          refine lv_goto (tgt := 12) hx hb dX3_moveRows_60 (by decide) ?_
          exact ih (j + 1) (by omega) (by omega) _ (by rw [mvS_f (fun q => lw q.1)]; exact hC) hF  _ _ hB ls (lv_sub hl [0, 2, 3, 4, 5, 6] rfl)
  exact lp_12 (200 + 1) 0 (by omega) (by omega) _ (by rw [mvS_0]; exact hC) hF  _ _ hB ls (lv_sub hl [0, 1, 2, 3, 4, 5] rfl)

abbrev rmX3_swapRows : Room := { frames := 0, cells := 0, slots := 0, locals := 0 }
set_option maxHeartbeats 4000000 in
set_option maxRecDepth 100000 in
theorem k_X3_swapRows {l : Launch} {D : va_G} {z : Nat} {cI cP cR cJ : ClassId} {h0 : Hp} {x xp xr : Nat} {pa ra : Nat → Nat} {σ : Sg} (hC : CR cP cR x xp xr pa ra σ h0) (hI : Ib σ) {i k : Nat} (hi : (i : Int) ≤ σ 9 0) (hk : (k : Int) ≤ σ 9 0) : Ct l D z (tyL cI cP cR cJ) yX3_swapRows wsX3_swapRows rmX3_swapRows [.ref x, .ref (pa i), .ref (pa k)] h0 (fun v u => v = none ∧ CR cP cR x xp xr pa ra (swS σ i k 200) u ∧ FrC h0 u) := by
  refine Ct.of (cc := cX3_swapRows) (maxL := 7) (ret := none) (by decide) rfl (Nat.le_of_ble_eq_true rfl) ?_
  intro p e s m args below meth c hx hb hr hts hown hlocks hml hnm hK hB ls hl
  have hl : lv_has ls 7 [(0, .ref x), (1, .ref (pa i)), (2, .ref (pa k))] := hl
  have hF := FrC.rf h0
  have hnp := hI.hnp
  have hnr := hI.hnr
  refine lv_aload_n hx hb dX3_swapRows_0 rfl (lv_at hl 0 rfl) ?_
  refine m_get hx hb hts (fun _ q => List.mem_cons_of_mem _ (List.mem_append_left _ (List.mem_append_right _ q))) hown hK hB hC.tb (ci := 3) rfl 3 (by decide) (List.mem_of_getElem? (i := 1) rfl) rfl rfl dX3_swapRows_1 ?_
  refine lv_astore_n (lv' := [(3, .ref xr), (0, .ref x), (1, .ref (pa i)), (2, .ref (pa k))]) hx hb dX3_swapRows_4 rfl hl (by decide) rfl (fun ls hl => ?_)
  refine lv_aload_n hx hb dX3_swapRows_5 rfl (lv_at hl 0 rfl) ?_
  refine m_lenR hx hb hK hB hC dX3_swapRows_6 ?_
  refine lv_istore (lv' := [(4, .int (iI 200)), (3, .ref xr), (0, .ref x), (1, .ref (pa i)), (2, .ref (pa k))]) hx hb dX3_swapRows_7 hl (by decide) rfl (fun ls hl => ?_)
  refine j_iconst hx hb dX3_swapRows_9 ?_
  refine lv_istore (lv' := [(5, .int (iI 0)), (4, .int (iI 200)), (3, .ref xr), (0, .ref x), (1, .ref (pa i)), (2, .ref (pa k))]) hx hb dX3_swapRows_10 hl (by decide) rfl (fun ls hl => ?_)
  have lp_12 : ∀ (fuel j : Nat), j ≤ 200 → 200 + 1 ≤ j + fuel → ∀ (h : Hp) (hC : CR cP cR x xp xr pa ra (swS σ i k j) h) (hF : FrC h0 h) (H : Heap) (locs : List Loc), Bk D z s.heap h H locs → ∀ ls : Array Slot, lv_has ls 7 [(5, .int (iI (j : Int))), (4, .int (iI 200)), (3, .ref xr), (0, .ref x), (1, .ref (pa i)), (2, .ref (pa k))] → W p l e rmX3_swapRows s m args below meth c H locs 0 0 (MQ below (Qx D z (fun v u => v = none ∧ CR cP cR x xp xr pa ra (swS σ i k 200) u ∧ FrC h0 u)) args s (rmX3_swapRows).cells (rmX3_swapRows).slots (zA z)) (F0 m 12 ls []) := by
    intro fuel
    induction fuel with
    | zero => intro j w1 w2; exact absurd w2 (by omega)
    | succ fuel ih =>
      intro j w1 w2 h hC hF  H locs hB ls hl
      have e9 : swS σ i k j 9 0 = σ 9 0 := swS_g (by decide)
      refine lv_iload hx hb dX3_swapRows_12 (lv_at hl 0 rfl) ?_
      refine lv_iload hx hb dX3_swapRows_14 (lv_at hl 1 rfl) ?_
      refine j_icmp_ge (tgt := 72) hx hb dX3_swapRows_16 (by decide) ⟨by omega, by omega⟩ ⟨by decide, by decide⟩ (fun c_1 => ?_) (fun c_1 => ?_)
      · exact m_vret hx hb hr hlocks hB (by decide) (by decide) dX3_swapRows_72 ⟨rfl, (by rw [← (show j = 200 by omega)]; exact hC), hF⟩
      · refine lv_aload_n hx hb dX3_swapRows_19 rfl (lv_at hl 2 rfl) ?_
        refine lv_iload hx hb dX3_swapRows_20 (lv_at hl 0 rfl) ?_
        refine m_ldR (j := j) hx hb hK hB hC (by omega) dX3_swapRows_22 (fun lv_2 => ?_) (fun lv_2 => ?_)
        · have lw := swS_live.mp lv_2
          have rwf := hI.row j lw
          have pnf := hI.pnI j lw
          refine lv_astore (lv' := [(6, .ref (ra j)), (5, .int (iI (j : Int))), (4, .int (iI 200)), (3, .ref xr), (0, .ref x), (1, .ref (pa i)), (2, .ref (pa k))]) hx hb dX3_swapRows_23 hl (by decide) rfl (fun ls hl => ?_)
          refine lv_aload hx hb dX3_swapRows_25 (lv_at hl 0 rfl) ?_
          refine lv_ifnonnull (tgt := 33) hx hb dX3_swapRows_27 (by decide) ?_
          refine lv_aload hx hb dX3_swapRows_33 (lv_at hl 0 rfl) ?_
          refine m_get hx hb hts (fun _ q => List.mem_cons_of_mem _ (List.mem_append_right _ q)) hown hK hB (sw_row hC (Nat.le_refl _) lw) (ci := 2) rfl 3 (by decide) (List.mem_of_getElem? (i := 2) rfl) rfl rfl dX3_swapRows_35 ?_
          refine lv_aload_n hx hb dX3_swapRows_38 rfl (lv_at hl 5 rfl) ?_
          refine m_acmpP_ne (tgt := 51) hx hb hC (by omega) (by omega) dX3_swapRows_39 (by decide) (fun c_3 => ?_) (fun c_3 => ?_)
          · refine lv_aload hx hb dX3_swapRows_51 (lv_at hl 0 rfl) ?_
            refine m_get hx hb hts (fun _ q => List.mem_cons_of_mem _ (List.mem_append_right _ q)) hown hK hB (sw_row hC (Nat.le_refl _) lw) (ci := 2) rfl 3 (by decide) (List.mem_of_getElem? (i := 2) rfl) rfl rfl dX3_swapRows_53 ?_
            refine lv_aload_n hx hb dX3_swapRows_56 rfl (lv_at hl 6 rfl) ?_
            refine m_acmpP_ne (tgt := 66) hx hb hC (by omega) (by omega) dX3_swapRows_57 (by decide) (fun c_4 => ?_) (fun c_4 => ?_)
            · refine j_iinc (lv' := [(5, .int (iI ((j + 1 : Nat) : Int))), (6, .ref (ra j)), (4, .int (iI 200)), (3, .ref xr), (0, .ref x), (1, .ref (pa i)), (2, .ref (pa k))]) hx hb dX3_swapRows_66 hl (k := 1) rfl (by decide) rfl (fun ls hl => ?_)
              refine lv_goto (tgt := 12) hx hb dX3_swapRows_69 (by decide) ?_
              exact ih (j + 1) (by omega) (by omega) _ (by rw [swS_f (fun _ => ⟨c_3, c_4⟩)]; exact hC) hF  _ _ hB ls (lv_sub hl [0, 2, 3, 4, 5, 6] rfl)
            · refine lv_aload hx hb dX3_swapRows_60 (lv_at hl 0 rfl) ?_
              refine lv_aload_n hx hb dX3_swapRows_62 rfl (lv_at hl 5 rfl) ?_
              refine m_put hx hb hts (fun _ q => List.mem_cons_of_mem _ (List.mem_append_right _ q)) tyX2 tyX2_ok nmX2 hown hK hB (sw_row hC (Nat.le_refl _) lw) (ci := 2) rfl 3 (by decide) (List.mem_of_getElem? (i := 2) rfl) rfl rfl rfl rfl (Nat.le_of_ble_eq_true rfl) dX3_swapRows_63 (fun H locs hB => ?_)
              have hF := hF.tr (FrC.up (e1 := rwE (σ 6 j) (σ 7 j) (σ 8 j) (pa i)) (sw_row hC (Nat.le_refl _) lw) (Or.inr (Or.inr (Or.inl rfl))))
              have hC := sw_put (q := i) hC lw
              have hB : Bk D z s.heap (hup h (ra j) (rwE (σ 6 j) (σ 7 j) (σ 8 j) (pa i))) H locs := hB
              refine j_iinc (lv' := [(5, .int (iI ((j + 1 : Nat) : Int))), (6, .ref (ra j)), (4, .int (iI 200)), (3, .ref xr), (0, .ref x), (1, .ref (pa i)), (2, .ref (pa k))]) hx hb dX3_swapRows_66 hl (k := 1) rfl (by decide) rfl (fun ls hl => ?_)
              refine lv_goto (tgt := 12) hx hb dX3_swapRows_69 (by decide) ?_
              exact ih (j + 1) (by omega) (by omega) _ (by rw [swS_s lw (by rw [if_neg c_3, if_pos c_4])]; exact hC) hF  _ _ hB ls (lv_sub hl [0, 2, 3, 4, 5, 6] rfl)
          · refine lv_aload hx hb dX3_swapRows_42 (lv_at hl 0 rfl) ?_
            refine lv_aload_n hx hb dX3_swapRows_44 rfl (lv_at hl 6 rfl) ?_
            refine m_put hx hb hts (fun _ q => List.mem_cons_of_mem _ (List.mem_append_right _ q)) tyX2 tyX2_ok nmX2 hown hK hB (sw_row hC (Nat.le_refl _) lw) (ci := 2) rfl 3 (by decide) (List.mem_of_getElem? (i := 2) rfl) rfl rfl rfl rfl (Nat.le_of_ble_eq_true rfl) dX3_swapRows_45 (fun H locs hB => ?_)
            have hF := hF.tr (FrC.up (e1 := rwE (σ 6 j) (σ 7 j) (σ 8 j) (pa k)) (sw_row hC (Nat.le_refl _) lw) (Or.inr (Or.inr (Or.inl rfl))))
            have hC := sw_put (q := k) hC lw
            have hB : Bk D z s.heap (hup h (ra j) (rwE (σ 6 j) (σ 7 j) (σ 8 j) (pa k))) H locs := hB
            refine lv_goto (tgt := 66) hx hb dX3_swapRows_48 (by decide) ?_
            refine j_iinc (lv' := [(5, .int (iI ((j + 1 : Nat) : Int))), (6, .ref (ra j)), (4, .int (iI 200)), (3, .ref xr), (0, .ref x), (1, .ref (pa i)), (2, .ref (pa k))]) hx hb dX3_swapRows_66 hl (k := 1) rfl (by decide) rfl (fun ls hl => ?_)
            refine lv_goto (tgt := 12) hx hb dX3_swapRows_69 (by decide) ?_
            exact ih (j + 1) (by omega) (by omega) _ (by rw [swS_s lw (by rw [if_pos c_3])]; exact hC) hF  _ _ hB ls (lv_sub hl [0, 2, 3, 4, 5, 6] rfl)
        · have lw := fun q => lv_2 (swS_live.mpr q)
          refine lv_astoreN (lv' := [(6, .null), (5, .int (iI (j : Int))), (4, .int (iI 200)), (3, .ref xr), (0, .ref x), (1, .ref (pa i)), (2, .ref (pa k))]) hx hb dX3_swapRows_23 hl (by decide) rfl (fun ls hl => ?_)
          refine lv_aloadN hx hb dX3_swapRows_25 (lv_at hl 0 rfl) ?_
          refine lv_ifnonnullN hx hb dX3_swapRows_27 ?_
          refine lv_goto (tgt := 66) hx hb dX3_swapRows_30 (by decide) ?_
          refine j_iinc (lv' := [(5, .int (iI ((j + 1 : Nat) : Int))), (6, .null), (4, .int (iI 200)), (3, .ref xr), (0, .ref x), (1, .ref (pa i)), (2, .ref (pa k))]) hx hb dX3_swapRows_66 hl (k := 1) rfl (by decide) rfl (fun ls hl => ?_)
          refine lv_goto (tgt := 12) hx hb dX3_swapRows_69 (by decide) ?_
          exact ih (j + 1) (by omega) (by omega) _ (by rw [swS_f (fun q => absurd q lw)]; exact hC) hF  _ _ hB ls (lv_sub hl [0, 2, 3, 4, 5, 6] rfl)
  exact lp_12 (200 + 1) 0 (by omega) (by omega) _ (by rw [swS_0]; exact hC) hF  _ _ hB ls (lv_sub hl [0, 1, 2, 3, 4, 5] rfl)

abbrev rmX3_keepPart : Room := { frames := 6, cells := 1, slots := 6, locals := 90 }
set_option maxHeartbeats 4000000 in
set_option maxRecDepth 100000 in
theorem k_X3_keepPart {l : Launch} {D : va_G} {z : Nat} {cI cP cR cJ : ClassId} {h0 : Hp} (hfl : l.stackTraces = false) {x xp xr : Nat} {pa ra : Nat → Nat} {σ : Sg} (hC : CR cP cR x xp xr pa ra σ h0) (hI : Ib σ) {ca : Nat} {f t k d : Int} (hca : h0 ca = some (prt (σ 9 0 + 1) f t k d 0)) (ok1 : okR f t) (ok2 : okK k d)  : Cx l D z (tyL cI cP cR cJ) yX3_keepPart wsX3_keepPart rmX3_keepPart [.ref x, .ref ca] h0 (fun v u => v = none ∧ σ 9 0 < 15 ∧ ∃ pa2 : Nat → Nat, CR cP cR x xp xr pa2 ra (mkP σ f t k d) u ∧ FrC h0 u ∧ ca = pa2 (npN σ + 1) ∧ ∀ i : Nat, (i : Int) ≤ σ 9 0 → pa2 i = pa i) (fun E u => E = nE2 ∧ h0 = u ∧ ¬ σ 9 0 < 15) := by
  refine Cx.of (cc := cX3_keepPart) (maxL := 2) (ret := none) (by decide) rfl (Nat.le_of_ble_eq_true rfl) ?_
  intro p e s m args below meth c hx hb hr hts hown hlocks hml hnm hout hK hB ls hl
  have hl : lv_has ls 2 [(0, .ref x), (1, .ref ca)] := hl
  have hF := FrC.rf h0
  have hnp := hI.hnp
  have hnr := hI.hnr
  refine lv_aload_n hx hb dX3_keepPart_0 rfl (lv_at hl 1 rfl) ?_
  refine m_get hx hb hts (fun _ q => List.mem_cons_of_mem _ (List.mem_append_left _ (List.mem_append_left _ (List.mem_append_right _ q)))) hown hK hB hca (ci := 0) rfl 0 (by decide) (List.mem_of_getElem? (i := 3) rfl) rfl rfl dX3_keepPart_1 ?_
  refine lv_aload_n hx hb dX3_keepPart_4 rfl (lv_at hl 0 rfl) ?_
  refine m_get hx hb hts (fun _ q => List.mem_cons_of_mem _ (List.mem_append_left _ (List.mem_append_right _ q))) hown hK hB hC.tb (ci := 3) rfl 1 (by decide) (List.mem_of_getElem? (i := 4) rfl) rfl rfl dX3_keepPart_5 ?_
  refine m_lenP hx hb hK hB hC dX3_keepPart_8 ?_
  refine j_icmp_lt (tgt := 23) hx hb dX3_keepPart_9 (by decide) ⟨by omega, by omega⟩ ⟨by decide, by decide⟩ (fun c_1 => ?_) (fun c_1 => ?_)
  · refine lv_aload_n hx hb dX3_keepPart_23 rfl (lv_at hl 0 rfl) ?_
    refine m_get hx hb hts (fun _ q => List.mem_cons_of_mem _ (List.mem_append_left _ (List.mem_append_right _ q))) hown hK hB hC.tb (ci := 3) rfl 1 (by decide) (List.mem_of_getElem? (i := 4) rfl) rfl rfl dX3_keepPart_24 ?_
    refine lv_aload_n hx hb dX3_keepPart_27 rfl (lv_at hl 1 rfl) ?_
    refine m_get hx hb hts (fun _ q => List.mem_cons_of_mem _ (List.mem_append_left _ (List.mem_append_left _ (List.mem_append_right _ q)))) hown hK hB hca (ci := 0) rfl 0 (by decide) (List.mem_of_getElem? (i := 3) rfl) rfl rfl dX3_keepPart_28 ?_
    refine lv_aload_n hx hb dX3_keepPart_31 rfl (lv_at hl 1 rfl) ?_
    obtain ⟨fp, hfp, _⟩ := hC.2.1
    refine m_astI hx hb hK hB 1 0 (r := (RX0, TX0, 6)) hfp rfl hca rfl (by omega) (by omega) (by decide) dX3_keepPart_32 (fun H locs hB => ?_)
    have en : (σ 9 0 + 1).toNat = npN σ + 1 := by have := hI.npI; omega
    rw [en] at hB
    have htb := (hup_n (a := xp) (e := arQ cP 16 (va_up fp (npN σ + 1) (some ca))) (fun q : x = xp => by have w := hC.tb; rw [q, hfp] at w; cases w)).trans hC.tb
    have hcb := (hup_n (a := xp) (e := arQ cP 16 (va_up fp (npN σ + 1) (some ca))) (fun q : ca = xp => by have w := hca; rw [q, hfp] at w; cases w)).trans hca
    refine lv_aload_n hx hb dX3_keepPart_33 rfl (lv_at hl 0 rfl) ?_
    refine lv_aload_n hx hb dX3_keepPart_34 rfl (lv_at hl 1 rfl) ?_
    refine m_get hx hb hts (fun _ q => List.mem_cons_of_mem _ (List.mem_append_left _ (List.mem_append_left _ (List.mem_append_right _ q)))) hown hK hB hcb (ci := 0) rfl 0 (by decide) (List.mem_of_getElem? (i := 3) rfl) rfl rfl dX3_keepPart_35 ?_
    refine m_put hx hb hts (fun _ q => List.mem_cons_of_mem _ (List.mem_append_left _ (List.mem_append_right _ q))) tyX3 tyX3_ok nmX3 hown hK hB htb (ci := 3) rfl 2 (by decide) (List.mem_of_getElem? (i := 5) rfl) rfl rfl rfl rfl (Nat.le_of_ble_eq_true rfl) dX3_keepPart_38 (fun H locs hB => ?_)
    exact vx_ret (m_vret hx hb hr hlocks hB (by decide) (by decide) dX3_keepPart_41 ⟨rfl, by omega, va_up pa (npN σ + 1) ca, hC.keepP hI (by omega) hca hfp, (FrC.up hfp (by simp [kd])).tr (FrC.up htb (by simp [kd])), va_up_s _ _ _ |>.symm, fun i q => va_up_n (by have := hI.npI; omega)⟩)
  · exact m_throwW (cls := nE2) (Ts := wsX3_keepPart) hx hb hfl hown fitE2 hts (List.mem_of_getElem? (i := 1) rfl) (List.mem_of_getElem? (i := 2) rfl) (fun _ q => List.mem_cons_of_mem _ (List.mem_append_right _ q)) ngE2 otE2 (List.mem_of_getElem? (i := 20) rfl) hK hB (hl.1.trans hml.symm) hout hlocks dX3_keepPart_12 dX3_keepPart_15 dX3_keepPart_16 dX3_keepPart_19 dX3_keepPart_22 (Nat.le_of_ble_eq_true rfl) (Nat.le_of_ble_eq_true rfl) (Nat.le_of_ble_eq_true rfl) (Nat.le_of_ble_eq_true rfl) (Nat.le_of_ble_eq_true rfl) (Nat.le_of_ble_eq_true rfl) ⟨rfl, rfl, by omega⟩

abbrev rmX3_makePart : Room := { frames := 9, cells := 7, slots := 42, locals := 155 }
set_option maxHeartbeats 4000000 in
set_option maxRecDepth 100000 in
theorem k_X3_makePart {l : Launch} {D : va_G} {z : Nat} {cI cP cR cJ : ClassId} {h0 : Hp} (hfl : l.stackTraces = false) {x xp xr : Nat} {pa ra : Nat → Nat} {σ : Sg} (hC : CR cP cR x xp xr pa ra σ h0) (hI : Ib σ) {f t k d : Int} (rf : rg f) (rt : rg t) (rk : rg k) (rd : rg d) : Cx l D z (tyL cI cP cR cJ) yX3_makePart wsX3_makePart rmX3_makePart [.ref x, .int (iI f), .int (iI t), .int (iI k), .int (iI d)] h0 (fun v u => ((okR f t ∧ okK k d) ∧ ¬ ovl σ f t ∧ ¬ inR σ f t ∧ σ 9 0 < 15) ∧ v = some (.int (iI (σ 9 0 + 1))) ∧ ∃ pa2 : Nat → Nat, CR cP cR x xp xr pa2 ra (mkP σ f t k d) u ∧ FrC h0 u) (fun E u => ((E = nE1 ∧ ¬ (okR f t ∧ okK k d)) ∨ (E = nE2 ∧ okR f t ∧ okK k d ∧ (ovl σ f t ∨ inR σ f t ∨ ¬ σ 9 0 < 15))) ∧ CR cP cR x xp xr pa ra σ u ∧ FrC h0 u) := by
  refine Cx.of (cc := cX3_makePart) (maxL := 6) (ret := (some .int)) (by decide) rfl (Nat.le_of_ble_eq_true rfl) ?_
  intro p e s m args below meth c hx hb hr hts hown hlocks hml hnm hout hK hB ls hl
  have hl : lv_has ls 6 [(0, .ref x), (1, .int (iI f)), (2, .int (iI t)), (3, .int (iI k)), (4, .int (iI d))] := hl
  have hF := FrC.rf h0
  have hnp := hI.hnp
  have hnr := hI.hnr
  refine lv_aload_n hx hb dX3_makePart_0 rfl (lv_at hl 0 rfl) ?_
  refine lv_iload_n hx hb dX3_makePart_1 rfl (lv_at hl 1 rfl) ?_
  refine lv_iload_n hx hb dX3_makePart_2 rfl (lv_at hl 2 rfl) ?_
  refine lv_iload_n hx hb dX3_makePart_3 rfl (lv_at hl 3 rfl) ?_
  refine lv_iload hx hb dX3_makePart_4 (lv_at hl 4 rfl) ?_
  refine m_runX (vx_runV (As := [.int (iI f), .int (iI t), .int (iI k), .int (iI d)]) (rest := []) ⟨hx, hb, hml, hown, hts⟩ (k_X3_plannedPart (l := l) hfl hC hI ⟨by omega, by omega⟩ ⟨by omega, by omega⟩ ⟨by omega, by omega⟩ ⟨by omega, by omega⟩) (cwV 4 hts gX3_makePart_X3_plannedPart rfl rfl rfl (by decide +kernel) ⟨by decide, by decide⟩) ⟨Kp.blind _ _ _ _ _, m_recv hK hB (ci := 3) rfl hC.tb, fun U hU hW => hK.pass hB U hU hW⟩ rfl rfl hl.1 rfl (lv_room (Nat.le_of_ble_eq_true rfl)) dX3_makePart_6 ⟨Nat.le_of_ble_eq_true rfl, Nat.le_of_ble_eq_true rfl⟩) hB (fun E u H locs q9 ce hp_2 hB hc9 hv9 hk9 => ?_) (fun v u H locs hp_2 hB => ?_)
  · obtain ⟨rfl, rfl, hn⟩ := hp_2
    exact m_out hout hlocks hB hc9 hv9 hk9 (Nat.le_of_ble_eq_true rfl) (Nat.le_of_ble_eq_true rfl) ⟨Or.inl ⟨rfl, hn⟩, hC, hF⟩
  · obtain ⟨ca_1, rfl, hca_1, rfl, ok1, ok2⟩ := hp_2
    show W _ _ _ _ _ _ _ _ _ _ _ _ _ _ _ (F0 m 9 ls [.ref ca_1])
    obtain ⟨h1, hC, hF, hca, hB⟩ : ∃ h1 : Hp, CR cP cR x xp xr pa ra σ h1 ∧ FrC h0 h1 ∧ h1 ca_1 = some (prt (σ 9 0 + 1) f t k d 0) ∧ Bk D z s.heap h1 H locs := ⟨_, hC.new hca_1, hF.tr (FrC.new hca_1), hup_s _ _ _, hB⟩
    have ok1u := ok1
    have ok2u := ok2
    unfold okR at ok1u
    unfold okK at ok2u
    refine lv_astore (lv' := [(5, .ref ca_1), (0, .ref x), (1, .int (iI f)), (2, .int (iI t)), (3, .int (iI k)), (4, .int (iI d))]) hx hb dX3_makePart_9 hl (by decide) rfl (fun ls hl => ?_)
    refine lv_aload_n hx hb dX3_makePart_11 rfl (lv_at hl 1 rfl) ?_
    refine lv_aload hx hb dX3_makePart_12 (lv_at hl 0 rfl) ?_
    refine m_runX (vx_runV (As := [.ref ca_1]) (rest := []) ⟨hx, hb, hml, hown, hts⟩ (k_X3_refuseOverlap (l := l) hfl hC hI hca (by omega) (by omega) (by omega) (by omega)) (cwV 1 hts gX3_makePart_X3_refuseOverlap rfl rfl rfl (by decide +kernel) ⟨by decide, by decide⟩) ⟨Kp.blind _ _ _ _ _, m_recv hK hB (ci := 3) rfl hC.tb, fun U hU hW => hK.pass hB U hU hW⟩ rfl rfl hl.1 rfl (lv_room (Nat.le_of_ble_eq_true rfl)) dX3_makePart_14 ⟨Nat.le_of_ble_eq_true rfl, Nat.le_of_ble_eq_true rfl⟩) hB (fun E u H locs q9 ce hp_3 hB hc9 hv9 hk9 => ?_) (fun v u H locs hp_3 hB => ?_)
    · obtain ⟨rfl, rfl, hn⟩ := hp_3
      exact m_out hout hlocks hB hc9 hv9 hk9 (Nat.le_of_ble_eq_true rfl) (Nat.le_of_ble_eq_true rfl) ⟨Or.inr ⟨rfl, ok1, ok2, Or.inl hn⟩, hC, hF⟩
    · obtain ⟨rfl, rfl, hp_3'⟩ := hp_3
      show W _ _ _ _ _ _ _ _ _ _ _ _ _ _ _ (F0 m 17 ls [])
      refine lv_aload_n hx hb dX3_makePart_17 rfl (lv_at hl 1 rfl) ?_
      refine lv_aload hx hb dX3_makePart_18 (lv_at hl 0 rfl) ?_
      refine m_runX (vx_runV (As := [.ref ca_1]) (rest := []) ⟨hx, hb, hml, hown, hts⟩ (k_X3_refuseRowsOfRest (l := l) hfl hC hI hca (by omega) (by omega) (by omega) (by omega)) (cwV 1 hts gX3_makePart_X3_refuseRowsOfRest rfl rfl rfl (by decide +kernel) ⟨by decide, by decide⟩) ⟨Kp.blind _ _ _ _ _, m_recv hK hB (ci := 3) rfl hC.tb, fun U hU hW => hK.pass hB U hU hW⟩ rfl rfl hl.1 rfl (lv_room (Nat.le_of_ble_eq_true rfl)) dX3_makePart_20 ⟨Nat.le_of_ble_eq_true rfl, Nat.le_of_ble_eq_true rfl⟩) hB (fun E u H locs q9 ce hp_4 hB hc9 hv9 hk9 => ?_) (fun v u H locs hp_4 hB => ?_)
      · obtain ⟨rfl, rfl, hn⟩ := hp_4
        exact m_out hout hlocks hB hc9 hv9 hk9 (Nat.le_of_ble_eq_true rfl) (Nat.le_of_ble_eq_true rfl) ⟨Or.inr ⟨rfl, ok1, ok2, Or.inr (Or.inl hn)⟩, hC, hF⟩
      · obtain ⟨rfl, rfl, hp_4'⟩ := hp_4
        show W _ _ _ _ _ _ _ _ _ _ _ _ _ _ _ (F0 m 23 ls [])
        refine lv_aload_n hx hb dX3_makePart_23 rfl (lv_at hl 1 rfl) ?_
        refine lv_aload hx hb dX3_makePart_24 (lv_at hl 0 rfl) ?_
        refine m_runX (vx_runV (As := [.ref ca_1]) (rest := []) ⟨hx, hb, hml, hown, hts⟩ (k_X3_keepPart (l := l) hfl hC hI hca ok1 ok2) (cwV 1 hts gX3_makePart_X3_keepPart rfl rfl rfl (by decide +kernel) ⟨by decide, by decide⟩) ⟨Kp.blind _ _ _ _ _, m_recv hK hB (ci := 3) rfl hC.tb, fun U hU hW => hK.pass hB U hU hW⟩ rfl rfl hl.1 rfl (lv_room (Nat.le_of_ble_eq_true rfl)) dX3_makePart_26 ⟨Nat.le_of_ble_eq_true rfl, Nat.le_of_ble_eq_true rfl⟩) hB (fun E u H locs q9 ce hp_5 hB hc9 hv9 hk9 => ?_) (fun v u H locs hp_5 hB => ?_)
        · obtain ⟨rfl, rfl, hn⟩ := hp_5
          exact m_out hout hlocks hB hc9 hv9 hk9 (Nat.le_of_ble_eq_true rfl) (Nat.le_of_ble_eq_true rfl) ⟨Or.inr ⟨rfl, ok1, ok2, Or.inr (Or.inr hn)⟩, hC, hF⟩
        · obtain ⟨rfl, hlt, pa, hC, hFk, eca, epa⟩ := hp_5
          show W _ _ _ _ _ _ _ _ _ _ _ _ _ _ _ (F0 m 29 ls [])
          have hF := hF.tr hFk
          have hnpI := hI.npI
          obtain ⟨K, eK⟩ : ∃ K : Nat, K = npN σ + 1 := ⟨_, rfl⟩
          have eKi : (K : Int) = σ 9 0 + 1 := by omega
          rw [← eK] at eca
          rw [eca] at hl
          obtain ⟨σ, eσ_6, hC, hI, e9⟩ : ∃ σ2 : Sg, σ2 = mkP σ f t k d ∧ CR cP cR x xp xr pa ra σ2 u ∧ Ib σ2 ∧ σ2 9 0 = (K : Int) := ⟨_, rfl, hC, (hI.mk hlt ok1 ok2), (by rw [mkP_9]; omega)⟩
          have hnp := hI.hnp
          refine lv_aload hx hb dX3_makePart_29 (lv_at hl 0 rfl) ?_
          have pf_7 := hI.part K (by omega)
          refine m_get hx hb hts (fun _ q => List.mem_cons_of_mem _ (List.mem_append_left _ (List.mem_append_left _ (List.mem_append_left _ (List.mem_append_left _ (List.mem_append_right _ q)))))) hown hK hB (hC.pt K (by omega)) (ci := 0) rfl 0 (by decide) (List.mem_of_getElem? (i := 1) rfl) rfl rfl dX3_makePart_31 ?_
          exact vx_ret (m_zret hx hb hr rfl hlocks hB (by decide) (by decide) dX3_makePart_34 (by have no := hp_3'; have ni := hp_4'; subst eσ_6; exact ⟨⟨⟨ok1, ok2⟩, no, ni, hlt⟩, ret_e eKi, pa, hC, hF⟩))

abbrev rmX3_carveOut : Room := { frames := 9, cells := 6, slots := 36, locals := 155 }
set_option maxHeartbeats 4000000 in
set_option maxRecDepth 100000 in
theorem k_X3_carveOut {l : Launch} {D : va_G} {z : Nat} {cI cP cR cJ : ClassId} {h0 : Hp} (hfl : l.stackTraces = false) {x xp xr : Nat} {pa ra : Nat → Nat} {σ : Sg} (hC : CR cP cR x xp xr pa ra σ h0) (hI : Ib σ) {f t k d : Int} (rf : rg f) (rt : rg t) (rk : rg k) (rd : rg d) : Cx l D z (tyL cI cP cR cJ) yX3_carveOut wsX3_carveOut rmX3_carveOut [.ref x, .int (iI f), .int (iI t), .int (iI k), .int (iI d)] h0 (fun v u => ((okR f t ∧ okK k d) ∧ ¬ ovl σ f t ∧ σ 9 0 < 15) ∧ v = some (.int (iI (cnt (fun j => live (mvS (mkP σ f t k d) 0 (npN σ + 1) 200) j ∧ pn (mvS (mkP σ f t k d) 0 (npN σ + 1) 200) j = (npN σ + 1)) (nrN (mvS (mkP σ f t k d) 0 (npN σ + 1) 200))))) ∧ ∃ pa2 : Nat → Nat, CR cP cR x xp xr pa2 ra (mvS (mkP σ f t k d) 0 (npN σ + 1) 200) u ∧ FrC h0 u) (fun E u => ((E = nE1 ∧ ¬ (okR f t ∧ okK k d)) ∨ (E = nE2 ∧ okR f t ∧ okK k d ∧ (ovl σ f t ∨ ¬ σ 9 0 < 15))) ∧ CR cP cR x xp xr pa ra σ u ∧ FrC h0 u) := by
  refine Cx.of (cc := cX3_carveOut) (maxL := 6) (ret := (some .int)) (by decide) rfl (Nat.le_of_ble_eq_true rfl) ?_
  intro p e s m args below meth c hx hb hr hts hown hlocks hml hnm hout hK hB ls hl
  have hl : lv_has ls 6 [(0, .ref x), (1, .int (iI f)), (2, .int (iI t)), (3, .int (iI k)), (4, .int (iI d))] := hl
  have hF := FrC.rf h0
  have hnp := hI.hnp
  have hnr := hI.hnr
  refine lv_aload_n hx hb dX3_carveOut_0 rfl (lv_at hl 0 rfl) ?_
  refine lv_iload_n hx hb dX3_carveOut_1 rfl (lv_at hl 1 rfl) ?_
  refine lv_iload_n hx hb dX3_carveOut_2 rfl (lv_at hl 2 rfl) ?_
  refine lv_iload_n hx hb dX3_carveOut_3 rfl (lv_at hl 3 rfl) ?_
  refine lv_iload hx hb dX3_carveOut_4 (lv_at hl 4 rfl) ?_
  refine m_runX (vx_runV (As := [.int (iI f), .int (iI t), .int (iI k), .int (iI d)]) (rest := []) ⟨hx, hb, hml, hown, hts⟩ (k_X3_plannedPart (l := l) hfl hC hI ⟨by omega, by omega⟩ ⟨by omega, by omega⟩ ⟨by omega, by omega⟩ ⟨by omega, by omega⟩) (cwV 4 hts gX3_carveOut_X3_plannedPart rfl rfl rfl (by decide +kernel) ⟨by decide, by decide⟩) ⟨Kp.blind _ _ _ _ _, m_recv hK hB (ci := 3) rfl hC.tb, fun U hU hW => hK.pass hB U hU hW⟩ rfl rfl hl.1 rfl (lv_room (Nat.le_of_ble_eq_true rfl)) dX3_carveOut_6 ⟨Nat.le_of_ble_eq_true rfl, Nat.le_of_ble_eq_true rfl⟩) hB (fun E u H locs q9 ce hp_2 hB hc9 hv9 hk9 => ?_) (fun v u H locs hp_2 hB => ?_)
  · obtain ⟨rfl, rfl, hn⟩ := hp_2
    exact m_out hout hlocks hB hc9 hv9 hk9 (Nat.le_of_ble_eq_true rfl) (Nat.le_of_ble_eq_true rfl) ⟨Or.inl ⟨rfl, hn⟩, hC, hF⟩
  · obtain ⟨ca_1, rfl, hca_1, rfl, ok1, ok2⟩ := hp_2
    show W _ _ _ _ _ _ _ _ _ _ _ _ _ _ _ (F0 m 9 ls [.ref ca_1])
    obtain ⟨h1, hC, hF, hca, hB⟩ : ∃ h1 : Hp, CR cP cR x xp xr pa ra σ h1 ∧ FrC h0 h1 ∧ h1 ca_1 = some (prt (σ 9 0 + 1) f t k d 0) ∧ Bk D z s.heap h1 H locs := ⟨_, hC.new hca_1, hF.tr (FrC.new hca_1), hup_s _ _ _, hB⟩
    have ok1u := ok1
    have ok2u := ok2
    unfold okR at ok1u
    unfold okK at ok2u
    refine lv_astore (lv' := [(5, .ref ca_1), (0, .ref x), (1, .int (iI f)), (2, .int (iI t)), (3, .int (iI k)), (4, .int (iI d))]) hx hb dX3_carveOut_9 hl (by decide) rfl (fun ls hl => ?_)
    refine lv_aload_n hx hb dX3_carveOut_11 rfl (lv_at hl 1 rfl) ?_
    refine lv_aload hx hb dX3_carveOut_12 (lv_at hl 0 rfl) ?_
    refine m_runX (vx_runV (As := [.ref ca_1]) (rest := []) ⟨hx, hb, hml, hown, hts⟩ (k_X3_refuseOverlap (l := l) hfl hC hI hca (by omega) (by omega) (by omega) (by omega)) (cwV 1 hts gX3_carveOut_X3_refuseOverlap rfl rfl rfl (by decide +kernel) ⟨by decide, by decide⟩) ⟨Kp.blind _ _ _ _ _, m_recv hK hB (ci := 3) rfl hC.tb, fun U hU hW => hK.pass hB U hU hW⟩ rfl rfl hl.1 rfl (lv_room (Nat.le_of_ble_eq_true rfl)) dX3_carveOut_14 ⟨Nat.le_of_ble_eq_true rfl, Nat.le_of_ble_eq_true rfl⟩) hB (fun E u H locs q9 ce hp_3 hB hc9 hv9 hk9 => ?_) (fun v u H locs hp_3 hB => ?_)
    · obtain ⟨rfl, rfl, hn⟩ := hp_3
      exact m_out hout hlocks hB hc9 hv9 hk9 (Nat.le_of_ble_eq_true rfl) (Nat.le_of_ble_eq_true rfl) ⟨Or.inr ⟨rfl, ok1, ok2, Or.inl hn⟩, hC, hF⟩
    · obtain ⟨rfl, rfl, hp_3'⟩ := hp_3
      show W _ _ _ _ _ _ _ _ _ _ _ _ _ _ _ (F0 m 17 ls [])
      refine lv_aload_n hx hb dX3_carveOut_17 rfl (lv_at hl 1 rfl) ?_
      refine lv_aload hx hb dX3_carveOut_18 (lv_at hl 0 rfl) ?_
      refine m_runX (vx_runV (As := [.ref ca_1]) (rest := []) ⟨hx, hb, hml, hown, hts⟩ (k_X3_keepPart (l := l) hfl hC hI hca ok1 ok2) (cwV 1 hts gX3_carveOut_X3_keepPart rfl rfl rfl (by decide +kernel) ⟨by decide, by decide⟩) ⟨Kp.blind _ _ _ _ _, m_recv hK hB (ci := 3) rfl hC.tb, fun U hU hW => hK.pass hB U hU hW⟩ rfl rfl hl.1 rfl (lv_room (Nat.le_of_ble_eq_true rfl)) dX3_carveOut_20 ⟨Nat.le_of_ble_eq_true rfl, Nat.le_of_ble_eq_true rfl⟩) hB (fun E u H locs q9 ce hp_4 hB hc9 hv9 hk9 => ?_) (fun v u H locs hp_4 hB => ?_)
      · obtain ⟨rfl, rfl, hn⟩ := hp_4
        exact m_out hout hlocks hB hc9 hv9 hk9 (Nat.le_of_ble_eq_true rfl) (Nat.le_of_ble_eq_true rfl) ⟨Or.inr ⟨rfl, ok1, ok2, Or.inr hn⟩, hC, hF⟩
      · obtain ⟨rfl, hlt, pa, hC, hFk, eca, epa⟩ := hp_4
        show W _ _ _ _ _ _ _ _ _ _ _ _ _ _ _ (F0 m 23 ls [])
        have hF := hF.tr hFk
        have hnpI := hI.npI
        obtain ⟨K, eK⟩ : ∃ K : Nat, K = npN σ + 1 := ⟨_, rfl⟩
        have eKi : (K : Int) = σ 9 0 + 1 := by omega
        rw [← eK] at eca
        rw [eca] at hl
        obtain ⟨σ, eσ_5, hC, hI, e9⟩ : ∃ σ2 : Sg, σ2 = mkP σ f t k d ∧ CR cP cR x xp xr pa ra σ2 u ∧ Ib σ2 ∧ σ2 9 0 = (K : Int) := ⟨_, rfl, hC, (hI.mk hlt ok1 ok2), (by rw [mkP_9]; omega)⟩
        have hnp := hI.hnp
        refine lv_aload_n hx hb dX3_carveOut_23 rfl (lv_at hl 1 rfl) ?_
        refine lv_aload_n hx hb dX3_carveOut_24 rfl (lv_at hl 1 rfl) ?_
        refine m_get hx hb hts (fun _ q => List.mem_cons_of_mem _ (List.mem_append_left _ (List.mem_append_left _ (List.mem_append_left _ (List.mem_append_left _ (List.mem_append_right _ q)))))) hown hK hB hC.tb (ci := 3) rfl 0 (by decide) (List.mem_of_getElem? (i := 1) rfl) rfl rfl dX3_carveOut_25 ?_
        refine lv_aload hx hb dX3_carveOut_28 (lv_at hl 0 rfl) ?_
        refine m_run (va_runV (As := [.ref (pa 0), .ref (pa K)]) (rest := []) ⟨hx, hb, hml, hown, hts⟩ (k_X3_moveRows (l := l) hC hI (i := 0) (k := K) (by omega) (by omega)) (cwV 2 hts gX3_carveOut_X3_moveRows rfl rfl rfl (by decide +kernel) ⟨by decide, by decide⟩) ⟨Kp.blind _ _ _ _ _, m_recv hK hB (ci := 3) rfl hC.tb, fun U hU hW => hK.pass hB U hU hW⟩ rfl rfl hl.1 rfl (lv_room (Nat.le_of_ble_eq_true rfl)) dX3_carveOut_30 ⟨Nat.le_of_ble_eq_true rfl, Nat.le_of_ble_eq_true rfl⟩) hB (fun v u H locs hp_6 hB => ?_)
        obtain ⟨rfl, hC, hFm⟩ := hp_6
        show W _ _ _ _ _ _ _ _ _ _ _ _ _ _ _ (F0 m 33 ls [])
        have hF := hF.tr hFm
        obtain ⟨σ, eσ_7, hC, hI, e9⟩ : ∃ σ2 : Sg, σ2 = mvS σ 0 K 200 ∧ CR cP cR x xp xr pa ra σ2 u ∧ Ib σ2 ∧ σ2 9 0 = σ 9 0 := ⟨_, rfl, hC, (hI.mv (by omega) 200), (mvS_g (by decide))⟩
        have hnp := hI.hnp
        refine lv_aload_n hx hb dX3_carveOut_33 rfl (lv_at hl 1 rfl) ?_
        refine lv_aload hx hb dX3_carveOut_34 (lv_at hl 0 rfl) ?_
        refine m_run (va_runV (As := [.ref (pa K)]) (rest := []) ⟨hx, hb, hml, hown, hts⟩ (k_X3_rowsOf (l := l) hC hI (i := K) (by omega)) (cwV 1 hts gX3_carveOut_X3_rowsOf rfl rfl rfl (by decide +kernel) ⟨by decide, by decide⟩) ⟨Kp.blind _ _ _ _ _, m_recv hK hB (ci := 3) rfl hC.tb, fun U hU hW => hK.pass hB U hU hW⟩ rfl rfl hl.1 rfl (lv_room (Nat.le_of_ble_eq_true rfl)) dX3_carveOut_36 ⟨Nat.le_of_ble_eq_true rfl, Nat.le_of_ble_eq_true rfl⟩) hB (fun v u H locs hp_8 hB => ?_)
        obtain ⟨rfl, rfl⟩ := hp_8
        show W _ _ _ _ _ _ _ _ _ _ _ _ _ _ _ (F0 m 39 ls [.int (iI (cnt (fun j => live σ j ∧ pn σ j = K) (nrN σ)))])
        exact vx_ret (m_zret hx hb hr rfl hlocks hB (by decide) (by decide) dX3_carveOut_39 (by have no := hp_3'; subst eσ_7; subst eσ_5; subst eK; exact ⟨⟨⟨ok1, ok2⟩, no, hlt⟩, rfl, pa, hC, hF⟩))

