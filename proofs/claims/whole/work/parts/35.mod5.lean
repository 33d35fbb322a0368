abbrev rmX4_makePart : Room := { frames := 3, cells := 0, slots := 0, locals := 66 }
set_option maxHeartbeats 4000000 in
set_option maxRecDepth 100000 in
theorem k_X4_makePart {l : Launch} {D : va_G} {z : Nat} {cI cP cR cJ : ClassId} {h0 : Hp} {xm : Nat} {xa : Nat → Nat} {σ : Sg} {th : Int} (hM : MR cI xm xa σ th h0) (hI : Ib σ) {f t k d : Int} (rf : rg f) (rt : rg t) (rk : rg k) (rd : rg d) : Ct l D z (tyL cI cP cR cJ) yX4_makePart wsX4_makePart rmX4_makePart [.ref xm, .int (iI f), .int (iI t), .int (iI k), .int (iI d)] h0 (fun v u => (((okR f t ∧ okK k d) ∧ ¬ ovl σ f t ∧ ¬ inR σ f t ∧ σ 9 0 < 15) ∧ v = some (.int (iI (σ 9 0 + 1))) ∧ MR cI xm xa (mkP σ f t k d) 0 u ∧ FrM h0 u) ∨ ((¬ (okR f t ∧ okK k d)) ∧ v = some (.int (iI 0)) ∧ MR cI xm xa σ 1 u ∧ FrM h0 u) ∨ (((okR f t ∧ okK k d) ∧ ¬ (¬ ovl σ f t ∧ ¬ inR σ f t ∧ σ 9 0 < 15)) ∧ v = some (.int (iI 0)) ∧ MR cI xm xa σ 2 u ∧ FrM h0 u)) := by
  refine Ct.of (cc := cX4_makePart) (maxL := 6) (ret := (some .int)) (by decide) rfl (Nat.le_of_ble_eq_true rfl) ?_
  intro p e s m args below meth c hx hb hr hts hown hlocks hml hnm hK hB ls hl
  have hl : lv_has ls 6 [(0, .ref xm), (1, .int (iI f)), (2, .int (iI t)), (3, .int (iI k)), (4, .int (iI d))] := hl
  have hF := FrM.rf h0
  have hnp := hI.hnp
  have hnr := hI.hnr
  have hnrI := hI.nrI
  have hnpI := hI.npI
  have hre := hI.rest
  refine lv_iload_n hx hb dX4_makePart_0 rfl (lv_at hl 1 rfl) ?_
  refine lv_iload_n hx hb dX4_makePart_1 rfl (lv_at hl 2 rfl) ?_
  refine lv_iload_n hx hb dX4_makePart_2 rfl (lv_at hl 3 rfl) ?_
  refine lv_iload hx hb dX4_makePart_3 (lv_at hl 4 rfl) ?_
  refine m_run (va_runS (As := [.int (iI f), .int (iI t), .int (iI k), .int (iI d)]) (rest := []) ⟨hx, hb, hml, hown, hts⟩ (k_X4_isShape (l := l) ⟨by omega, by omega⟩ ⟨by omega, by omega⟩ ⟨by omega, by omega⟩ ⟨by omega, by omega⟩) (va_cwS 4 hts gX4_makePart_X4_isShape rfl rfl rfl (by decide +kernel) ⟨by decide, by decide⟩) ⟨Kp.blind _ _ _ _ _, fun U hU hW => hK.pass hB U hU hW⟩ rfl rfl hl.1 rfl (lv_room (Nat.le_of_ble_eq_true rfl)) dX4_makePart_5 ⟨Nat.le_of_ble_eq_true rfl, Nat.le_of_ble_eq_true rfl⟩) hB (fun v u H locs hp_1 hB => ?_)
  obtain ⟨rfl, rfl⟩ := hp_1
  show W _ _ _ _ _ _ _ _ _ _ _ _ _ _ _ (F0 m 8 ls [.int (iI (b2 (okR f t ∧ okK k d)))])
  refine lv_istore (lv' := [(5, .int (iI (b2 (okR f t ∧ okK k d)))), (0, .ref xm), (1, .int (iI f)), (2, .int (iI t)), (3, .int (iI k)), (4, .int (iI d))]) hx hb dX4_makePart_8 hl (by decide) rfl (fun ls hl => ?_)
  refine lv_aload_n hx hb dX4_makePart_10 rfl (lv_at hl 1 rfl) ?_
  refine lv_iload hx hb dX4_makePart_11 (lv_at hl 0 rfl) ?_
  refine j_ifneP (tgt := 20) hx hb dX4_makePart_13 (by decide) (fun c_2 => ?_) (fun c_2 => ?_)
  · have hl : lv_has ls 6 [(0, .ref xm), (1, .int (iI f)), (2, .int (iI t)), (3, .int (iI k)), (4, .int (iI d))] := lv_sub hl [1, 2, 3, 4, 5] rfl
    have ok := c_2
    have ok1 := ok.1
    have ok2 := ok.2
    have ok1u := ok1
    unfold okR at ok1u
    have ok2u := ok2
    unfold okK at ok2u
    refine lv_aload_n hx hb dX4_makePart_20 rfl (lv_at hl 0 rfl) ?_
    refine m_get hx hb hts (fun _ q => List.mem_cons_of_mem _ (List.mem_append_right _ q)) hown hK hB hM.1 (ci := 4) rfl 6 (by decide) (List.mem_of_getElem? (i := 1) rfl) rfl rfl dX4_makePart_21 ?_
    refine j_bipush hx hb dX4_makePart_24 (by decide) ?_
    have bd_3 := hI.bd 9 0
    refine j_icmp_eq (tgt := 47) hx hb dX4_makePart_26 (by decide) ⟨by omega, by omega⟩ ⟨by decide, by decide⟩ (fun c_4 => ?_) (fun c_4 => ?_)
    · refine j_iconst hx hb dX4_makePart_47 ?_
      refine lv_goto (tgt := 52) hx hb dX4_makePart_48 (by decide) ?_
      refine m_run (va_runV (As := [.int (iI 2)]) (rest := []) ⟨hx, hb, hml, hown, hts⟩ (k_X4_isFine (l := l) (tc := 2) hM hI ⟨by decide, by decide⟩) (cwV 1 hts gX4_makePart_X4_isFine rfl rfl rfl (by decide +kernel) ⟨by decide, by decide⟩) ⟨Kp.blind _ _ _ _ _, m_recv hK hB (ci := 4) rfl hM.1, fun U hU hW => hK.pass hB U hU hW⟩ rfl rfl hl.1 rfl (lv_room (Nat.le_of_ble_eq_true rfl)) dX4_makePart_52 ⟨Nat.le_of_ble_eq_true rfl, Nat.le_of_ble_eq_true rfl⟩) hB (fun v u H locs hp_5 hB => ?_)
      obtain ⟨ev, hM, hFm⟩ := hp_5
      rw [b2_f (by decide)] at ev
      subst ev
      show W _ _ _ _ _ _ _ _ _ _ _ _ _ _ _ (F0 m 55 ls [.int (iI 0)])
      have hF := hF.tr hFm
      refine j_if_eq (tgt := 70) hx hb dX4_makePart_55 (by decide) ⟨by decide, by decide⟩ (fun c_6 => ?_) (fun c_6 => absurd c_6 (by decide))
      refine j_iconst hx hb dX4_makePart_70 ?_
      exact m_zret hx hb hr rfl hlocks hB (by decide) (by decide) dX4_makePart_71 (by (repeat rw [Int.toNat_natCast]); exact Or.inr (Or.inr (⟨⟨c_2, fun q => by have := q.2.2; omega⟩, rfl, hM, hF⟩)))
    · refine lv_aload_n hx hb dX4_makePart_29 rfl (lv_at hl 0 rfl) ?_
      refine lv_iload_n hx hb dX4_makePart_30 rfl (lv_at hl 1 rfl) ?_
      refine lv_iload_n hx hb dX4_makePart_31 rfl (lv_at hl 2 rfl) ?_
      refine m_run (va_runV (As := [.int (iI f), .int (iI t)]) (rest := [.ref xm]) ⟨hx, hb, hml, hown, hts⟩ (k_X4_overlaps (l := l) hM hI ⟨by omega, by omega⟩ ⟨by omega, by omega⟩) (cwV 2 hts gX4_makePart_X4_overlaps rfl rfl rfl (by decide +kernel) ⟨by decide, by decide⟩) ⟨Kp.blind _ _ _ _ _, m_recv hK hB (ci := 4) rfl hM.1, fun U hU hW => hK.pass hB U hU hW⟩ rfl rfl hl.1 rfl (lv_room (Nat.le_of_ble_eq_true rfl)) dX4_makePart_32 ⟨Nat.le_of_ble_eq_true rfl, Nat.le_of_ble_eq_true rfl⟩) hB (fun v u H locs hp_7 hB => ?_)
      obtain ⟨rfl, rfl⟩ := hp_7
      show W _ _ _ _ _ _ _ _ _ _ _ _ _ _ _ (F0 m 35 ls [.int (iI (b2 (ovl σ f t))), .ref xm])
      refine j_ifneP (tgt := 47) hx hb dX4_makePart_35 (by decide) (fun c_8 => ?_) (fun c_8 => ?_)
      · refine j_iconst hx hb dX4_makePart_47 ?_
        refine lv_goto (tgt := 52) hx hb dX4_makePart_48 (by decide) ?_
        refine m_run (va_runV (As := [.int (iI 2)]) (rest := []) ⟨hx, hb, hml, hown, hts⟩ (k_X4_isFine (l := l) (tc := 2) hM hI ⟨by decide, by decide⟩) (cwV 1 hts gX4_makePart_X4_isFine rfl rfl rfl (by decide +kernel) ⟨by decide, by decide⟩) ⟨Kp.blind _ _ _ _ _, m_recv hK hB (ci := 4) rfl hM.1, fun U hU hW => hK.pass hB U hU hW⟩ rfl rfl hl.1 rfl (lv_room (Nat.le_of_ble_eq_true rfl)) dX4_makePart_52 ⟨Nat.le_of_ble_eq_true rfl, Nat.le_of_ble_eq_true rfl⟩) hB (fun v u H locs hp_9 hB => ?_)
        obtain ⟨ev, hM, hFm⟩ := hp_9
        rw [b2_f (by decide)] at ev
        subst ev
        show W _ _ _ _ _ _ _ _ _ _ _ _ _ _ _ (F0 m 55 ls [.int (iI 0)])
        have hF := hF.tr hFm
        refine j_if_eq (tgt := 70) hx hb dX4_makePart_55 (by decide) ⟨by decide, by decide⟩ (fun c_10 => ?_) (fun c_10 => absurd c_10 (by decide))
        refine j_iconst hx hb dX4_makePart_70 ?_
        exact m_zret hx hb hr rfl hlocks hB (by decide) (by decide) dX4_makePart_71 (by (repeat rw [Int.toNat_natCast]); exact Or.inr (Or.inr (⟨⟨c_2, fun q => q.1 c_8⟩, rfl, hM, hF⟩)))
      · refine lv_aload_n hx hb dX4_makePart_38 rfl (lv_at hl 0 rfl) ?_
        refine lv_iload_n hx hb dX4_makePart_39 rfl (lv_at hl 1 rfl) ?_
        refine lv_iload_n hx hb dX4_makePart_40 rfl (lv_at hl 2 rfl) ?_
        refine m_run (va_runV (As := [.int (iI f), .int (iI t)]) (rest := [.ref xm]) ⟨hx, hb, hml, hown, hts⟩ (k_X4_isInRest (l := l) hM hI ⟨by omega, by omega⟩ (by omega)) (cwV 2 hts gX4_makePart_X4_isInRest rfl rfl rfl (by decide +kernel) ⟨by decide, by decide⟩) ⟨Kp.blind _ _ _ _ _, m_recv hK hB (ci := 4) rfl hM.1, fun U hU hW => hK.pass hB U hU hW⟩ rfl rfl hl.1 rfl (lv_room (Nat.le_of_ble_eq_true rfl)) dX4_makePart_41 ⟨Nat.le_of_ble_eq_true rfl, Nat.le_of_ble_eq_true rfl⟩) hB (fun v u H locs hp_11 hB => ?_)
        obtain ⟨rfl, rfl⟩ := hp_11
        show W _ _ _ _ _ _ _ _ _ _ _ _ _ _ _ (F0 m 44 ls [.int (iI (b2 (inR σ f t))), .ref xm])
        refine j_ifeqP (tgt := 51) hx hb dX4_makePart_44 (by decide) (fun c_12 => ?_) (fun c_12 => ?_)
        · refine j_iconst hx hb dX4_makePart_51 ?_
          refine m_run (va_runV (As := [.int (iI 0)]) (rest := []) ⟨hx, hb, hml, hown, hts⟩ (k_X4_isFine (l := l) (tc := 0) hM hI ⟨by decide, by decide⟩) (cwV 1 hts gX4_makePart_X4_isFine rfl rfl rfl (by decide +kernel) ⟨by decide, by decide⟩) ⟨Kp.blind _ _ _ _ _, m_recv hK hB (ci := 4) rfl hM.1, fun U hU hW => hK.pass hB U hU hW⟩ rfl rfl hl.1 rfl (lv_room (Nat.le_of_ble_eq_true rfl)) dX4_makePart_52 ⟨Nat.le_of_ble_eq_true rfl, Nat.le_of_ble_eq_true rfl⟩) hB (fun v u H locs hp_13 hB => ?_)
          obtain ⟨ev, hM, hFm⟩ := hp_13
          rw [b2_t (by decide)] at ev
          subst ev
          show W _ _ _ _ _ _ _ _ _ _ _ _ _ _ _ (F0 m 55 ls [.int (iI 1)])
          have hF := hF.tr hFm
          refine j_if_eq (tgt := 70) hx hb dX4_makePart_55 (by decide) ⟨by decide, by decide⟩ (fun c_14 => absurd c_14 (by decide)) (fun c_14 => ?_)
          refine lv_aload_n hx hb dX4_makePart_58 rfl (lv_at hl 0 rfl) ?_
          refine lv_iload_n hx hb dX4_makePart_59 rfl (lv_at hl 1 rfl) ?_
          refine lv_iload_n hx hb dX4_makePart_60 rfl (lv_at hl 2 rfl) ?_
          refine lv_iload_n hx hb dX4_makePart_61 rfl (lv_at hl 3 rfl) ?_
          refine lv_iload hx hb dX4_makePart_62 (lv_at hl 4 rfl) ?_
          refine m_run (va_runV (As := [.int (iI f), .int (iI t), .int (iI k), .int (iI d)]) (rest := []) ⟨hx, hb, hml, hown, hts⟩ (k_X4_makes (l := l) hM hI ⟨by omega, by omega⟩ ⟨by omega, by omega⟩ ⟨by omega, by omega⟩ ⟨by omega, by omega⟩ (by omega)) (cwV 4 hts gX4_makePart_X4_makes rfl rfl rfl (by decide +kernel) ⟨by decide, by decide⟩) ⟨Kp.blind _ _ _ _ _, m_recv hK hB (ci := 4) rfl hM.1, fun U hU hW => hK.pass hB U hU hW⟩ rfl rfl hl.1 rfl (lv_room (Nat.le_of_ble_eq_true rfl)) dX4_makePart_64 ⟨Nat.le_of_ble_eq_true rfl, Nat.le_of_ble_eq_true rfl⟩) hB (fun v u H locs hp_15 hB => ?_)
          obtain ⟨rfl, hM, hFm⟩ := hp_15
          obtain ⟨K, eK⟩ : ∃ K : Nat, K = npN σ + 1 := ⟨_, rfl⟩
          rw [← eK]
          show W _ _ _ _ _ _ _ _ _ _ _ _ _ _ _ (F0 m 67 ls [.int (iI (K : Int))])
          have hF := hF.tr hFm
          have eKi : (K : Int) = σ 9 0 + 1 := by omega
          have hlt : σ 9 0 < 15 := by omega
          obtain ⟨σ, eσ_16, hM, hI, e9⟩ : ∃ σ2 : Sg, σ2 = mkP σ f t k d ∧ MR cI xm xa σ2 0 u ∧ Ib σ2 ∧ σ2 9 0 = (K : Int) := ⟨_, rfl, hM, hI.mk (by omega) ok1 ok2, by rw [mkP_9]; omega⟩
          have hnp := hI.hnp
          have hnr := hI.hnr
          have hnrI := hI.nrI
          refine lv_goto (tgt := 71) hx hb dX4_makePart_67 (by decide) ?_
          exact m_zret hx hb hr rfl hlocks hB (by decide) (by decide) dX4_makePart_71 (by (repeat rw [Int.toNat_natCast]); subst eσ_16; exact Or.inl (⟨⟨c_2, c_8, c_12, hlt⟩, ret_e eKi, hM, hF⟩))
        · refine j_iconst hx hb dX4_makePart_47 ?_
          refine lv_goto (tgt := 52) hx hb dX4_makePart_48 (by decide) ?_
          refine m_run (va_runV (As := [.int (iI 2)]) (rest := []) ⟨hx, hb, hml, hown, hts⟩ (k_X4_isFine (l := l) (tc := 2) hM hI ⟨by decide, by decide⟩) (cwV 1 hts gX4_makePart_X4_isFine rfl rfl rfl (by decide +kernel) ⟨by decide, by decide⟩) ⟨Kp.blind _ _ _ _ _, m_recv hK hB (ci := 4) rfl hM.1, fun U hU hW => hK.pass hB U hU hW⟩ rfl rfl hl.1 rfl (lv_room (Nat.le_of_ble_eq_true rfl)) dX4_makePart_52 ⟨Nat.le_of_ble_eq_true rfl, Nat.le_of_ble_eq_true rfl⟩) hB (fun v u H locs hp_17 hB => ?_)
          obtain ⟨ev, hM, hFm⟩ := hp_17
          rw [b2_f (by decide)] at ev
          subst ev
          show W _ _ _ _ _ _ _ _ _ _ _ _ _ _ _ (F0 m 55 ls [.int (iI 0)])
          have hF := hF.tr hFm
          refine j_if_eq (tgt := 70) hx hb dX4_makePart_55 (by decide) ⟨by decide, by decide⟩ (fun c_18 => ?_) (fun c_18 => absurd c_18 (by decide))
          refine j_iconst hx hb dX4_makePart_70 ?_
          exact m_zret hx hb hr rfl hlocks hB (by decide) (by decide) dX4_makePart_71 (by (repeat rw [Int.toNat_natCast]); exact Or.inr (Or.inr (⟨⟨c_2, fun q => q.2.1 c_12⟩, rfl, hM, hF⟩)))
  · refine j_iconst hx hb dX4_makePart_16 ?_
    refine lv_goto (tgt := 52) hx hb dX4_makePart_17 (by decide) ?_
    refine m_run (va_runV (As := [.int (iI 1)]) (rest := []) ⟨hx, hb, hml, hown, hts⟩ (k_X4_isFine (l := l) (tc := 1) hM hI ⟨by decide, by decide⟩) (cwV 1 hts gX4_makePart_X4_isFine rfl rfl rfl (by decide +kernel) ⟨by decide, by decide⟩) ⟨Kp.blind _ _ _ _ _, m_recv hK hB (ci := 4) rfl hM.1, fun U hU hW => hK.pass hB U hU hW⟩ rfl rfl hl.1 rfl (lv_room (Nat.le_of_ble_eq_true rfl)) dX4_makePart_52 ⟨Nat.le_of_ble_eq_true rfl, Nat.le_of_ble_eq_true rfl⟩) hB (fun v u H locs hp_19 hB => ?_)
    obtain ⟨ev, hM, hFm⟩ := hp_19
    rw [b2_f (by decide)] at ev
    subst ev
    show W _ _ _ _ _ _ _ _ _ _ _ _ _ _ _ (F0 m 55 ls [.int (iI 0)])
    have hF := hF.tr hFm
    refine j_if_eq (tgt := 70) hx hb dX4_makePart_55 (by decide) ⟨by decide, by decide⟩ (fun c_20 => ?_) (fun c_20 => absurd c_20 (by decide))
    refine j_iconst hx hb dX4_makePart_70 ?_
    exact m_zret hx hb hr rfl hlocks hB (by decide) (by decide) dX4_makePart_71 (by (repeat rw [Int.toNat_natCast]); exact Or.inr (Or.inl (⟨c_2, rfl, hM, hF⟩)))

abbrev rmX4_carveOut : Room := { frames := 3, cells := 0, slots := 0, locals := 67 }
set_option maxHeartbeats 4000000 in
set_option maxRecDepth 100000 in
theorem k_X4_carveOut {l : Launch} {D : va_G} {z : Nat} {cI cP cR cJ : ClassId} {h0 : Hp} {xm : Nat} {xa : Nat → Nat} {σ : Sg} {th : Int} (hM : MR cI xm xa σ th h0) (hI : Ib σ) {f t k d : Int} (rf : rg f) (rt : rg t) (rk : rg k) (rd : rg d) : Ct l D z (tyL cI cP cR cJ) yX4_carveOut wsX4_carveOut rmX4_carveOut [.ref xm, .int (iI f), .int (iI t), .int (iI k), .int (iI d)] h0 (fun v u => (((okR f t ∧ okK k d) ∧ ¬ ovl σ f t ∧ σ 9 0 < 15) ∧ v = some (.int (iI (cnt (fun j => live (mvS (mkP σ f t k d) 0 (npN σ + 1) 200) j ∧ pn (mvS (mkP σ f t k d) 0 (npN σ + 1) 200) j = npN σ + 1) (nrN (mvS (mkP σ f t k d) 0 (npN σ + 1) 200))))) ∧ MR cI xm xa (mvS (mkP σ f t k d) 0 (npN σ + 1) 200) 0 u ∧ FrM h0 u) ∨ ((¬ (okR f t ∧ okK k d)) ∧ v = some (.int (iI 0)) ∧ MR cI xm xa σ 1 u ∧ FrM h0 u) ∨ (((okR f t ∧ okK k d) ∧ ¬ (¬ ovl σ f t ∧ σ 9 0 < 15)) ∧ v = some (.int (iI 0)) ∧ MR cI xm xa σ 2 u ∧ FrM h0 u)) := by
  refine Ct.of (cc := cX4_carveOut) (maxL := 7) (ret := (some .int)) (by decide) rfl (Nat.le_of_ble_eq_true rfl) ?_
  intro p e s m args below meth c hx hb hr hts hown hlocks hml hnm hK hB ls hl
  have hl : lv_has ls 7 [(0, .ref xm), (1, .int (iI f)), (2, .int (iI t)), (3, .int (iI k)), (4, .int (iI d))] := hl
  have hF := FrM.rf h0
  have hnp := hI.hnp
  have hnr := hI.hnr
  have hnrI := hI.nrI
  have hnpI := hI.npI
  have hre := hI.rest
  refine lv_iload_n hx hb dX4_carveOut_0 rfl (lv_at hl 1 rfl) ?_
  refine lv_iload_n hx hb dX4_carveOut_1 rfl (lv_at hl 2 rfl) ?_
  refine lv_iload_n hx hb dX4_carveOut_2 rfl (lv_at hl 3 rfl) ?_
  refine lv_iload hx hb dX4_carveOut_3 (lv_at hl 4 rfl) ?_
  refine m_run (va_runS (As := [.int (iI f), .int (iI t), .int (iI k), .int (iI d)]) (rest := []) ⟨hx, hb, hml, hown, hts⟩ (k_X4_isShape (l := l) ⟨by omega, by omega⟩ ⟨by omega, by omega⟩ ⟨by omega, by omega⟩ ⟨by omega, by omega⟩) (va_cwS 4 hts gX4_carveOut_X4_isShape rfl rfl rfl (by decide +kernel) ⟨by decide, by decide⟩) ⟨Kp.blind _ _ _ _ _, fun U hU hW => hK.pass hB U hU hW⟩ rfl rfl hl.1 rfl (lv_room (Nat.le_of_ble_eq_true rfl)) dX4_carveOut_5 ⟨Nat.le_of_ble_eq_true rfl, Nat.le_of_ble_eq_true rfl⟩) hB (fun v u H locs hp_1 hB => ?_)
  obtain ⟨rfl, rfl⟩ := hp_1
  show W _ _ _ _ _ _ _ _ _ _ _ _ _ _ _ (F0 m 8 ls [.int (iI (b2 (okR f t ∧ okK k d)))])
  refine lv_istore (lv' := [(5, .int (iI (b2 (okR f t ∧ okK k d)))), (0, .ref xm), (1, .int (iI f)), (2, .int (iI t)), (3, .int (iI k)), (4, .int (iI d))]) hx hb dX4_carveOut_8 hl (by decide) rfl (fun ls hl => ?_)
  refine lv_aload_n hx hb dX4_carveOut_10 rfl (lv_at hl 1 rfl) ?_
  refine lv_iload hx hb dX4_carveOut_11 (lv_at hl 0 rfl) ?_
  refine j_ifneP (tgt := 20) hx hb dX4_carveOut_13 (by decide) (fun c_2 => ?_) (fun c_2 => ?_)
  · have hl : lv_has ls 7 [(0, .ref xm), (1, .int (iI f)), (2, .int (iI t)), (3, .int (iI k)), (4, .int (iI d))] := lv_sub hl [1, 2, 3, 4, 5] rfl
    have ok := c_2
    have ok1 := ok.1
    have ok2 := ok.2
    have ok1u := ok1
    unfold okR at ok1u
    have ok2u := ok2
    unfold okK at ok2u
    refine lv_aload_n hx hb dX4_carveOut_20 rfl (lv_at hl 0 rfl) ?_
    refine m_get hx hb hts (fun _ q => List.mem_cons_of_mem _ (List.mem_append_right _ q)) hown hK hB hM.1 (ci := 4) rfl 6 (by decide) (List.mem_of_getElem? (i := 1) rfl) rfl rfl dX4_carveOut_21 ?_
    refine j_bipush hx hb dX4_carveOut_24 (by decide) ?_
    have bd_3 := hI.bd 9 0
    refine j_icmp_eq (tgt := 38) hx hb dX4_carveOut_26 (by decide) ⟨by omega, by omega⟩ ⟨by decide, by decide⟩ (fun c_4 => ?_) (fun c_4 => ?_)
    · refine j_iconst hx hb dX4_carveOut_38 ?_
      refine lv_goto (tgt := 43) hx hb dX4_carveOut_39 (by decide) ?_
      refine m_run (va_runV (As := [.int (iI 2)]) (rest := []) ⟨hx, hb, hml, hown, hts⟩ (k_X4_isFine (l := l) (tc := 2) hM hI ⟨by decide, by decide⟩) (cwV 1 hts gX4_carveOut_X4_isFine rfl rfl rfl (by decide +kernel) ⟨by decide, by decide⟩) ⟨Kp.blind _ _ _ _ _, m_recv hK hB (ci := 4) rfl hM.1, fun U hU hW => hK.pass hB U hU hW⟩ rfl rfl hl.1 rfl (lv_room (Nat.le_of_ble_eq_true rfl)) dX4_carveOut_43 ⟨Nat.le_of_ble_eq_true rfl, Nat.le_of_ble_eq_true rfl⟩) hB (fun v u H locs hp_5 hB => ?_)
      obtain ⟨ev, hM, hFm⟩ := hp_5
      rw [b2_f (by decide)] at ev
      subst ev
      show W _ _ _ _ _ _ _ _ _ _ _ _ _ _ _ (F0 m 46 ls [.int (iI 0)])
      have hF := hF.tr hFm
      refine j_if_ne (tgt := 51) hx hb dX4_carveOut_46 (by decide) ⟨by decide, by decide⟩ (fun c_6 => absurd c_6 (by decide)) (fun c_6 => ?_)
      refine j_iconst hx hb dX4_carveOut_49 ?_
      exact m_zret hx hb hr rfl hlocks hB (by decide) (by decide) dX4_carveOut_50 (by (repeat rw [Int.toNat_natCast]); exact Or.inr (Or.inr (⟨⟨c_2, fun q => by have := q.2; omega⟩, rfl, hM, hF⟩)))
    · refine lv_aload_n hx hb dX4_carveOut_29 rfl (lv_at hl 0 rfl) ?_
      refine lv_iload_n hx hb dX4_carveOut_30 rfl (lv_at hl 1 rfl) ?_
      refine lv_iload_n hx hb dX4_carveOut_31 rfl (lv_at hl 2 rfl) ?_
      refine m_run (va_runV (As := [.int (iI f), .int (iI t)]) (rest := [.ref xm]) ⟨hx, hb, hml, hown, hts⟩ (k_X4_overlaps (l := l) hM hI ⟨by omega, by omega⟩ ⟨by omega, by omega⟩) (cwV 2 hts gX4_carveOut_X4_overlaps rfl rfl rfl (by decide +kernel) ⟨by decide, by decide⟩) ⟨Kp.blind _ _ _ _ _, m_recv hK hB (ci := 4) rfl hM.1, fun U hU hW => hK.pass hB U hU hW⟩ rfl rfl hl.1 rfl (lv_room (Nat.le_of_ble_eq_true rfl)) dX4_carveOut_32 ⟨Nat.le_of_ble_eq_true rfl, Nat.le_of_ble_eq_true rfl⟩) hB (fun v u H locs hp_7 hB => ?_)
      obtain ⟨rfl, rfl⟩ := hp_7
      show W _ _ _ _ _ _ _ _ _ _ _ _ _ _ _ (F0 m 35 ls [.int (iI (b2 (ovl σ f t))), .ref xm])
      refine j_ifeqP (tgt := 42) hx hb dX4_carveOut_35 (by decide) (fun c_8 => ?_) (fun c_8 => ?_)
      · refine j_iconst hx hb dX4_carveOut_42 ?_
        refine m_run (va_runV (As := [.int (iI 0)]) (rest := []) ⟨hx, hb, hml, hown, hts⟩ (k_X4_isFine (l := l) (tc := 0) hM hI ⟨by decide, by decide⟩) (cwV 1 hts gX4_carveOut_X4_isFine rfl rfl rfl (by decide +kernel) ⟨by decide, by decide⟩) ⟨Kp.blind _ _ _ _ _, m_recv hK hB (ci := 4) rfl hM.1, fun U hU hW => hK.pass hB U hU hW⟩ rfl rfl hl.1 rfl (lv_room (Nat.le_of_ble_eq_true rfl)) dX4_carveOut_43 ⟨Nat.le_of_ble_eq_true rfl, Nat.le_of_ble_eq_true rfl⟩) hB (fun v u H locs hp_9 hB => ?_)
        obtain ⟨ev, hM, hFm⟩ := hp_9
        rw [b2_t (by decide)] at ev
        subst ev
        show W _ _ _ _ _ _ _ _ _ _ _ _ _ _ _ (F0 m 46 ls [.int (iI 1)])
        have hF := hF.tr hFm
        refine j_if_ne (tgt := 51) hx hb dX4_carveOut_46 (by decide) ⟨by decide, by decide⟩ (fun c_10 => ?_) (fun c_10 => absurd c_10 (by decide))
        refine lv_aload_n hx hb dX4_carveOut_51 rfl (lv_at hl 0 rfl) ?_
        refine lv_iload_n hx hb dX4_carveOut_52 rfl (lv_at hl 1 rfl) ?_
        refine lv_iload_n hx hb dX4_carveOut_53 rfl (lv_at hl 2 rfl) ?_
        refine lv_iload_n hx hb dX4_carveOut_54 rfl (lv_at hl 3 rfl) ?_
        refine lv_iload hx hb dX4_carveOut_55 (lv_at hl 4 rfl) ?_
        refine m_run (va_runV (As := [.int (iI f), .int (iI t), .int (iI k), .int (iI d)]) (rest := []) ⟨hx, hb, hml, hown, hts⟩ (k_X4_makes (l := l) hM hI ⟨by omega, by omega⟩ ⟨by omega, by omega⟩ ⟨by omega, by omega⟩ ⟨by omega, by omega⟩ (by omega)) (cwV 4 hts gX4_carveOut_X4_makes rfl rfl rfl (by decide +kernel) ⟨by decide, by decide⟩) ⟨Kp.blind _ _ _ _ _, m_recv hK hB (ci := 4) rfl hM.1, fun U hU hW => hK.pass hB U hU hW⟩ rfl rfl hl.1 rfl (lv_room (Nat.le_of_ble_eq_true rfl)) dX4_carveOut_57 ⟨Nat.le_of_ble_eq_true rfl, Nat.le_of_ble_eq_true rfl⟩) hB (fun v u H locs hp_11 hB => ?_)
        obtain ⟨rfl, hM, hFm⟩ := hp_11
        obtain ⟨K, eK⟩ : ∃ K : Nat, K = npN σ + 1 := ⟨_, rfl⟩
        rw [← eK]
        show W _ _ _ _ _ _ _ _ _ _ _ _ _ _ _ (F0 m 60 ls [.int (iI (K : Int))])
        have hF := hF.tr hFm
        have eKi : (K : Int) = σ 9 0 + 1 := by omega
        have hlt : σ 9 0 < 15 := by omega
        obtain ⟨σ, eσ_12, hM, hI, e9⟩ : ∃ σ2 : Sg, σ2 = mkP σ f t k d ∧ MR cI xm xa σ2 0 u ∧ Ib σ2 ∧ σ2 9 0 = (K : Int) := ⟨_, rfl, hM, hI.mk (by omega) ok1 ok2, by rw [mkP_9]; omega⟩
        have hnp := hI.hnp
        have hnr := hI.hnr
        have hnrI := hI.nrI
        refine lv_istore (lv' := [(6, .int (iI (K : Int))), (0, .ref xm), (1, .int (iI f)), (2, .int (iI t)), (3, .int (iI k)), (4, .int (iI d))]) hx hb dX4_carveOut_60 hl (by decide) rfl (fun ls hl => ?_)
        refine lv_aload_n hx hb dX4_carveOut_62 rfl (lv_at hl 1 rfl) ?_
        refine j_iconst hx hb dX4_carveOut_63 ?_
        refine lv_iload hx hb dX4_carveOut_64 (lv_at hl 0 rfl) ?_
        refine m_run (va_runV (As := [.int (iI 0), .int (iI (K : Int))]) (rest := []) ⟨hx, hb, hml, hown, hts⟩ (k_X4_moves (l := l) hM hI (i := 0) (k := K) (by omega) (by omega)) (cwV 2 hts gX4_carveOut_X4_moves rfl rfl rfl (by decide +kernel) ⟨by decide, by decide⟩) ⟨Kp.blind _ _ _ _ _, m_recv hK hB (ci := 4) rfl hM.1, fun U hU hW => hK.pass hB U hU hW⟩ rfl rfl hl.1 rfl (lv_room (Nat.le_of_ble_eq_true rfl)) dX4_carveOut_66 ⟨Nat.le_of_ble_eq_true rfl, Nat.le_of_ble_eq_true rfl⟩) hB (fun v u H locs hp_13 hB => ?_)
        obtain ⟨rfl, hM, hFm⟩ := hp_13
        show W _ _ _ _ _ _ _ _ _ _ _ _ _ _ _ (F0 m 69 ls [])
        have hF := hF.tr hFm
        obtain ⟨σ, eσ_14, hM, hI, e9⟩ : ∃ σ2 : Sg, σ2 = mvS σ 0 K 200 ∧ MR cI xm xa σ2 0 u ∧ Ib σ2 ∧ σ2 9 0 = σ 9 0 := ⟨_, rfl, hM, hI.mv (by omega) 200, mvS_g (by decide)⟩
        have hnp := hI.hnp
        have hnr := hI.hnr
        have hnrI := hI.nrI
        refine lv_aload_n hx hb dX4_carveOut_69 rfl (lv_at hl 1 rfl) ?_
        refine lv_iload hx hb dX4_carveOut_70 (lv_at hl 0 rfl) ?_
        refine m_run (va_runV (As := [.int (iI (K : Int))]) (rest := []) ⟨hx, hb, hml, hown, hts⟩ (k_X4_rowsOf (l := l) hM hI (i := K) (by omega)) (cwV 1 hts gX4_carveOut_X4_rowsOf rfl rfl rfl (by decide +kernel) ⟨by decide, by decide⟩) ⟨Kp.blind _ _ _ _ _, m_recv hK hB (ci := 4) rfl hM.1, fun U hU hW => hK.pass hB U hU hW⟩ rfl rfl hl.1 rfl (lv_room (Nat.le_of_ble_eq_true rfl)) dX4_carveOut_72 ⟨Nat.le_of_ble_eq_true rfl, Nat.le_of_ble_eq_true rfl⟩) hB (fun v u H locs hp_15 hB => ?_)
        obtain ⟨rfl, rfl⟩ := hp_15
        show W _ _ _ _ _ _ _ _ _ _ _ _ _ _ _ (F0 m 75 ls [.int (iI (cnt (fun j => live σ j ∧ pn σ j = K) (nrN σ)))])
        exact m_zret hx hb hr rfl hlocks hB (by decide) (by decide) dX4_carveOut_75 (by (repeat rw [Int.toNat_natCast]); subst eσ_14; subst eσ_12; exact Or.inl (⟨⟨c_2, c_8, hlt⟩, rfl, hM, hF⟩))
      · refine j_iconst hx hb dX4_carveOut_38 ?_
        refine lv_goto (tgt := 43) hx hb dX4_carveOut_39 (by decide) ?_
        refine m_run (va_runV (As := [.int (iI 2)]) (rest := []) ⟨hx, hb, hml, hown, hts⟩ (k_X4_isFine (l := l) (tc := 2) hM hI ⟨by decide, by decide⟩) (cwV 1 hts gX4_carveOut_X4_isFine rfl rfl rfl (by decide +kernel) ⟨by decide, by decide⟩) ⟨Kp.blind _ _ _ _ _, m_recv hK hB (ci := 4) rfl hM.1, fun U hU hW => hK.pass hB U hU hW⟩ rfl rfl hl.1 rfl (lv_room (Nat.le_of_ble_eq_true rfl)) dX4_carveOut_43 ⟨Nat.le_of_ble_eq_true rfl, Nat.le_of_ble_eq_true rfl⟩) hB (fun v u H locs hp_16 hB => ?_)
        obtain ⟨ev, hM, hFm⟩ := hp_16
        rw [b2_f (by decide)] at ev
        subst ev
        show W _ _ _ _ _ _ _ _ _ _ _ _ _ _ _ (F0 m 46 ls [.int (iI 0)])
        have hF := hF.tr hFm
        refine j_if_ne (tgt := 51) hx hb dX4_carveOut_46 (by decide) ⟨by decide, by decide⟩ (fun c_17 => absurd c_17 (by decide)) (fun c_17 => ?_)
        refine j_iconst hx hb dX4_carveOut_49 ?_
        exact m_zret hx hb hr rfl hlocks hB (by decide) (by decide) dX4_carveOut_50 (by (repeat rw [Int.toNat_natCast]); exact Or.inr (Or.inr (⟨⟨c_2, fun q => q.1 c_8⟩, rfl, hM, hF⟩)))
  · refine j_iconst hx hb dX4_carveOut_16 ?_
    refine lv_goto (tgt := 43) hx hb dX4_carveOut_17 (by decide) ?_
    refine m_run (va_runV (As := [.int (iI 1)]) (rest := []) ⟨hx, hb, hml, hown, hts⟩ (k_X4_isFine (l := l) (tc := 1) hM hI ⟨by decide, by decide⟩) (cwV 1 hts gX4_carveOut_X4_isFine rfl rfl rfl (by decide +kernel) ⟨by decide, by decide⟩) ⟨Kp.blind _ _ _ _ _, m_recv hK hB (ci := 4) rfl hM.1, fun U hU hW => hK.pass hB U hU hW⟩ rfl rfl hl.1 rfl (lv_room (Nat.le_of_ble_eq_true rfl)) dX4_carveOut_43 ⟨Nat.le_of_ble_eq_true rfl, Nat.le_of_ble_eq_true rfl⟩) hB (fun v u H locs hp_18 hB => ?_)
    obtain ⟨ev, hM, hFm⟩ := hp_18
    rw [b2_f (by decide)] at ev
    subst ev
    show W _ _ _ _ _ _ _ _ _ _ _ _ _ _ _ (F0 m 46 ls [.int (iI 0)])
    have hF := hF.tr hFm
    refine j_if_ne (tgt := 51) hx hb dX4_carveOut_46 (by decide) ⟨by decide, by decide⟩ (fun c_19 => absurd c_19 (by decide)) (fun c_19 => ?_)
    refine j_iconst hx hb dX4_carveOut_49 ?_
    exact m_zret hx hb hr rfl hlocks hB (by decide) (by decide) dX4_carveOut_50 (by (repeat rw [Int.toNat_natCast]); exact Or.inr (Or.inl (⟨c_2, rfl, hM, hF⟩)))

abbrev rmX4_split : Room := { frames := 3, cells := 0, slots := 0, locals := 67 }
set_option maxHeartbeats 4000000 in
set_option maxRecDepth 100000 in
theorem k_X4_split {l : Launch} {D : va_G} {z : Nat} {cI cP cR cJ : ClassId} {h0 : Hp} {xm : Nat} {xa : Nat → Nat} {σ : Sg} {th : Int} (hM : MR cI xm xa σ th h0) (hI : Ib σ) {n ky : Int} (rn : rg n) (rk : rg ky) : Ct l D z (tyL cI cP cR cJ) yX4_split wsX4_split rmX4_split [.ref xm, .int (iI n), .int (iI ky)] h0 (fun v u => ((isP σ n ∧ (σ 0 n.toNat < ky ∧ ky < σ 1 n.toNat) ∧ σ 4 n.toNat = 0 ∧ σ 9 0 < 15) ∧ v = some (.int (iI (σ 9 0 + 1))) ∧ MR cI xm xa (mvS (upS (mkP σ ky (σ 1 n.toNat) (σ 2 n.toNat) (σ 3 n.toNat)) 1 n.toNat ky) n.toNat (npN σ + 1) 200) 0 u ∧ FrM h0 u) ∨ ((¬ isP σ n) ∧ v = some (.int (iI 0)) ∧ MR cI xm xa σ 1 u ∧ FrM h0 u) ∨ ((isP σ n ∧ ¬ (σ 0 n.toNat < ky ∧ ky < σ 1 n.toNat)) ∧ v = some (.int (iI 0)) ∧ MR cI xm xa σ 2 u ∧ FrM h0 u) ∨ ((isP σ n ∧ (σ 0 n.toNat < ky ∧ ky < σ 1 n.toNat) ∧ ¬ (σ 4 n.toNat = 0 ∧ σ 9 0 < 15)) ∧ v = some (.int (iI 0)) ∧ MR cI xm xa σ 3 u ∧ FrM h0 u)) := by
  refine Ct.of (cc := cX4_split) (maxL := 5) (ret := (some .int)) (by decide) rfl (Nat.le_of_ble_eq_true rfl) ?_
  intro p e s m args below meth c hx hb hr hts hown hlocks hml hnm hK hB ls hl
  have hl : lv_has ls 5 [(0, .ref xm), (1, .int (iI n)), (2, .int (iI ky))] := hl
  have hF := FrM.rf h0
  have hnp := hI.hnp
  have hnr := hI.hnr
  have hnrI := hI.nrI
  have hnpI := hI.npI
  have hre := hI.rest
  refine lv_aload_n hx hb dX4_split_0 rfl (lv_at hl 0 rfl) ?_
  refine lv_iload_n hx hb dX4_split_1 rfl (lv_at hl 1 rfl) ?_
  refine m_run (va_runV (As := [.int (iI n)]) (rest := []) ⟨hx, hb, hml, hown, hts⟩ (k_X4_isPart (l := l) hM hI ⟨by omega, by omega⟩) (cwV 1 hts gX4_split_X4_isPart rfl rfl rfl (by decide +kernel) ⟨by decide, by decide⟩) ⟨Kp.blind _ _ _ _ _, m_recv hK hB (ci := 4) rfl hM.1, fun U hU hW => hK.pass hB U hU hW⟩ rfl rfl hl.1 rfl (lv_room (Nat.le_of_ble_eq_true rfl)) dX4_split_2 ⟨Nat.le_of_ble_eq_true rfl, Nat.le_of_ble_eq_true rfl⟩) hB (fun v u H locs hp_1 hB => ?_)
  obtain ⟨rfl, rfl⟩ := hp_1
  show W _ _ _ _ _ _ _ _ _ _ _ _ _ _ _ (F0 m 5 ls [.int (iI (b2 (isP σ n)))])
  refine lv_istore_n (lv' := [(3, .int (iI (b2 (isP σ n)))), (0, .ref xm), (1, .int (iI n)), (2, .int (iI ky))]) hx hb dX4_split_5 rfl hl (by decide) rfl (fun ls hl => ?_)
  refine lv_aload_n hx hb dX4_split_6 rfl (lv_at hl 1 rfl) ?_
  refine lv_iload_n hx hb dX4_split_7 rfl (lv_at hl 0 rfl) ?_
  refine j_ifneP (tgt := 15) hx hb dX4_split_8 (by decide) (fun c_2 => ?_) (fun c_2 => ?_)
  · have hnn : 0 ≤ n := by have w := c_2; unfold isP at w; omega
    obtain ⟨ia, rfl⟩ : ∃ ia : Nat, n = (ia : Int) := ⟨n.toNat, by omega⟩
    have hp_ia := isP_i.mp c_2
    have hpt := hI.part ia (by omega)
    refine lv_iload_n hx hb dX4_split_15 rfl (lv_at hl 3 rfl) ?_
    refine lv_aload_n hx hb dX4_split_16 rfl (lv_at hl 1 rfl) ?_
    refine m_get hx hb hts (fun _ q => List.mem_cons_of_mem _ (List.mem_append_right _ q)) hown hK hB hM.1 (ci := 4) rfl 1 (by decide) (List.mem_of_getElem? (i := 1) rfl) rfl rfl dX4_split_17 ?_
    refine lv_iload_n hx hb dX4_split_20 rfl (lv_at hl 2 rfl) ?_
    refine m_mld hx hb hK hB hM 0 (by decide) (i := ia) (show ia < 16 by omega) dX4_split_21 ?_
    refine j_iconst hx hb dX4_split_22 ?_
    refine j_iadd hx hb dX4_split_23 ?_
    refine lv_aload_n hx hb dX4_split_24 rfl (lv_at hl 1 rfl) ?_
    refine m_get hx hb hts (fun _ q => List.mem_cons_of_mem _ (List.mem_append_right _ q)) hown hK hB hM.1 (ci := 4) rfl 2 (by decide) (List.mem_of_getElem? (i := 2) rfl) rfl rfl dX4_split_25 ?_
    refine lv_iload_n hx hb dX4_split_28 rfl (lv_at hl 2 rfl) ?_
    refine m_mld hx hb hK hB hM 1 (by decide) (i := ia) (show ia < 16 by omega) dX4_split_29 ?_
    refine j_iconst hx hb dX4_split_30 ?_
    refine j_isub hx hb dX4_split_31 ?_
    have bd_3 := hI.bd 0 ia
    have bd_4 := hI.bd 1 ia
    refine m_run (va_runS (As := [.int (iI ky), .int (iI ((σ 0 ia) + 1)), .int (iI ((σ 1 ia) - 1))]) (rest := [.ref xm]) ⟨hx, hb, hml, hown, hts⟩ (k_X4_isIn (l := l) ⟨by omega, by omega⟩ ⟨by omega, by omega⟩ ⟨by omega, by omega⟩) (va_cwS 3 hts gX4_split_X4_isIn rfl rfl rfl (by decide +kernel) ⟨by decide, by decide⟩) ⟨Kp.blind _ _ _ _ _, fun U hU hW => hK.pass hB U hU hW⟩ rfl rfl hl.1 rfl (lv_room (Nat.le_of_ble_eq_true rfl)) dX4_split_32 ⟨Nat.le_of_ble_eq_true rfl, Nat.le_of_ble_eq_true rfl⟩) hB (fun v u H locs hp_5 hB => ?_)
    obtain ⟨rfl, rfl⟩ := hp_5
    show W _ _ _ _ _ _ _ _ _ _ _ _ _ _ _ (F0 m 35 ls [.int (iI (b2 (((σ 0 ia) + 1) ≤ ky ∧ ky ≤ ((σ 1 ia) - 1)))), .ref xm])
    refine j_ifneP (tgt := 42) hx hb dX4_split_35 (by decide) (fun c_6 => ?_) (fun c_6 => ?_)
    · have hrg : σ 0 ia < ky ∧ ky < σ 1 ia := by have := c_6; omega
      refine lv_aload_n hx hb dX4_split_42 rfl (lv_at hl 1 rfl) ?_
      refine m_get hx hb hts (fun _ q => List.mem_cons_of_mem _ (List.mem_append_right _ q)) hown hK hB hM.1 (ci := 4) rfl 6 (by decide) (List.mem_of_getElem? (i := 3) rfl) rfl rfl dX4_split_43 ?_
      refine j_bipush hx hb dX4_split_46 (by decide) ?_
      have bd_7 := hI.bd 9 0
      refine j_icmp_eq (tgt := 60) hx hb dX4_split_48 (by decide) ⟨by omega, by omega⟩ ⟨by decide, by decide⟩ (fun c_8 => ?_) (fun c_8 => ?_)
      · refine j_iconst hx hb dX4_split_60 ?_
        refine lv_goto (tgt := 65) hx hb dX4_split_61 (by decide) ?_
        refine m_run (va_runV (As := [.int (iI 3)]) (rest := []) ⟨hx, hb, hml, hown, hts⟩ (k_X4_isFine (l := l) (tc := 3) hM hI ⟨by decide, by decide⟩) (cwV 1 hts gX4_split_X4_isFine rfl rfl rfl (by decide +kernel) ⟨by decide, by decide⟩) ⟨Kp.blind _ _ _ _ _, m_recv hK hB (ci := 4) rfl hM.1, fun U hU hW => hK.pass hB U hU hW⟩ rfl rfl hl.1 rfl (lv_room (Nat.le_of_ble_eq_true rfl)) dX4_split_65 ⟨Nat.le_of_ble_eq_true rfl, Nat.le_of_ble_eq_true rfl⟩) hB (fun v u H locs hp_9 hB => ?_)
        obtain ⟨ev, hM, hFm⟩ := hp_9
        rw [b2_f (by decide)] at ev
        subst ev
        show W _ _ _ _ _ _ _ _ _ _ _ _ _ _ _ (F0 m 68 ls [.int (iI 0)])
        have hF := hF.tr hFm
        refine j_if_ne (tgt := 73) hx hb dX4_split_68 (by decide) ⟨by decide, by decide⟩ (fun c_10 => absurd c_10 (by decide)) (fun c_10 => ?_)
        refine j_iconst hx hb dX4_split_71 ?_
        exact m_zret hx hb hr rfl hlocks hB (by decide) (by decide) dX4_split_72 (by (repeat rw [Int.toNat_natCast]); exact Or.inr (Or.inr (Or.inr (⟨⟨c_2, hrg, fun q => by have := q.1; have := q.2; omega⟩, rfl, hM, hF⟩))))
      · refine lv_aload_n hx hb dX4_split_51 rfl (lv_at hl 1 rfl) ?_
        refine m_get hx hb hts (fun _ q => List.mem_cons_of_mem _ (List.mem_append_right _ q)) hown hK hB hM.1 (ci := 4) rfl 5 (by decide) (List.mem_of_getElem? (i := 4) rfl) rfl rfl dX4_split_52 ?_
        refine lv_iload_n hx hb dX4_split_55 rfl (lv_at hl 2 rfl) ?_
        refine m_mld hx hb hK hB hM 4 (by decide) (i := ia) (show ia < 16 by omega) dX4_split_56 ?_
        have bd_12 := hI.bd 4 ia
        refine j_if_eq (tgt := 64) hx hb dX4_split_57 (by decide) ⟨by omega, by omega⟩ (fun c_11 => ?_) (fun c_11 => ?_)
        · refine j_iconst hx hb dX4_split_64 ?_
          refine m_run (va_runV (As := [.int (iI 0)]) (rest := []) ⟨hx, hb, hml, hown, hts⟩ (k_X4_isFine (l := l) (tc := 0) hM hI ⟨by decide, by decide⟩) (cwV 1 hts gX4_split_X4_isFine rfl rfl rfl (by decide +kernel) ⟨by decide, by decide⟩) ⟨Kp.blind _ _ _ _ _, m_recv hK hB (ci := 4) rfl hM.1, fun U hU hW => hK.pass hB U hU hW⟩ rfl rfl hl.1 rfl (lv_room (Nat.le_of_ble_eq_true rfl)) dX4_split_65 ⟨Nat.le_of_ble_eq_true rfl, Nat.le_of_ble_eq_true rfl⟩) hB (fun v u H locs hp_13 hB => ?_)
          obtain ⟨ev, hM, hFm⟩ := hp_13
          rw [b2_t (by decide)] at ev
          subst ev
          show W _ _ _ _ _ _ _ _ _ _ _ _ _ _ _ (F0 m 68 ls [.int (iI 1)])
          have hF := hF.tr hFm
          refine j_if_ne (tgt := 73) hx hb dX4_split_68 (by decide) ⟨by decide, by decide⟩ (fun c_14 => ?_) (fun c_14 => absurd c_14 (by decide))
          have hl : lv_has ls 5 [(0, .ref xm), (1, .int (iI (ia : Int))), (2, .int (iI ky))] := lv_sub hl [1, 2, 3] rfl
          have h4z : σ 4 ia = 0 := by omega
          have ok1 : okR ky (σ 1 ia) := by unfold okR; omega
          have ok2 : okK (σ 2 ia) (σ 3 ia) := by unfold okK; omega
          refine lv_aload_n hx hb dX4_split_73 rfl (lv_at hl 0 rfl) ?_
          refine lv_iload_n hx hb dX4_split_74 rfl (lv_at hl 2 rfl) ?_
          refine lv_aload_n hx hb dX4_split_75 rfl (lv_at hl 0 rfl) ?_
          refine m_get hx hb hts (fun _ q => List.mem_cons_of_mem _ (List.mem_append_right _ q)) hown hK hB hM.1 (ci := 4) rfl 2 (by decide) (List.mem_of_getElem? (i := 2) rfl) rfl rfl dX4_split_76 ?_
          refine lv_iload_n hx hb dX4_split_79 rfl (lv_at hl 1 rfl) ?_
          refine m_mld hx hb hK hB hM 1 (by decide) (i := ia) (show ia < 16 by omega) dX4_split_80 ?_
          refine lv_aload_n hx hb dX4_split_81 rfl (lv_at hl 0 rfl) ?_
          refine m_get hx hb hts (fun _ q => List.mem_cons_of_mem _ (List.mem_append_right _ q)) hown hK hB hM.1 (ci := 4) rfl 3 (by decide) (List.mem_of_getElem? (i := 5) rfl) rfl rfl dX4_split_82 ?_
          refine lv_iload_n hx hb dX4_split_85 rfl (lv_at hl 1 rfl) ?_
          refine m_mld hx hb hK hB hM 2 (by decide) (i := ia) (show ia < 16 by omega) dX4_split_86 ?_
          refine lv_aload_n hx hb dX4_split_87 rfl (lv_at hl 0 rfl) ?_
          refine m_get hx hb hts (fun _ q => List.mem_cons_of_mem _ (List.mem_append_right _ q)) hown hK hB hM.1 (ci := 4) rfl 4 (by decide) (List.mem_of_getElem? (i := 6) rfl) rfl rfl dX4_split_88 ?_
          refine lv_iload_n hx hb dX4_split_91 rfl (lv_at hl 1 rfl) ?_
          refine m_mld hx hb hK hB hM 3 (by decide) (i := ia) (show ia < 16 by omega) dX4_split_92 ?_
          have bd_15 := hI.bd 2 ia
          have bd_16 := hI.bd 3 ia
          refine m_run (va_runV (As := [.int (iI ky), .int (iI (σ 1 ia)), .int (iI (σ 2 ia)), .int (iI (σ 3 ia))]) (rest := []) ⟨hx, hb, hml, hown, hts⟩ (k_X4_makes (l := l) hM hI ⟨by omega, by omega⟩ ⟨by omega, by omega⟩ ⟨by omega, by omega⟩ ⟨by omega, by omega⟩ (by omega)) (cwV 4 hts gX4_split_X4_makes rfl rfl rfl (by decide +kernel) ⟨by decide, by decide⟩) ⟨Kp.blind _ _ _ _ _, m_recv hK hB (ci := 4) rfl hM.1, fun U hU hW => hK.pass hB U hU hW⟩ rfl rfl hl.1 rfl (lv_room (Nat.le_of_ble_eq_true rfl)) dX4_split_93 ⟨Nat.le_of_ble_eq_true rfl, Nat.le_of_ble_eq_true rfl⟩) hB (fun v u H locs hp_17 hB => ?_)
          obtain ⟨rfl, hM, hFm⟩ := hp_17
          obtain ⟨K, eK⟩ : ∃ K : Nat, K = npN σ + 1 := ⟨_, rfl⟩
          rw [← eK]
          show W _ _ _ _ _ _ _ _ _ _ _ _ _ _ _ (F0 m 96 ls [.int (iI (K : Int))])
          have hF := hF.tr hFm
          have eKi : (K : Int) = σ 9 0 + 1 := by omega
          have hlt : σ 9 0 < 15 := by omega
          obtain ⟨σ, eσ_18, hM, hI, e9⟩ : ∃ σ2 : Sg, σ2 = mkP σ ky (σ 1 ia) (σ 2 ia) (σ 3 ia) ∧ MR cI xm xa σ2 0 u ∧ Ib σ2 ∧ σ2 9 0 = (K : Int) := ⟨_, rfl, hM, hI.mk (by omega) ok1 ok2, by rw [mkP_9]; omega⟩
          have hnp := hI.hnp
          have hnr := hI.hnr
          have hnrI := hI.nrI
          refine lv_istore (lv' := [(4, .int (iI (K : Int))), (0, .ref xm), (1, .int (iI (ia : Int))), (2, .int (iI ky))]) hx hb dX4_split_96 hl (by decide) rfl (fun ls hl => ?_)
          refine lv_aload_n hx hb dX4_split_98 rfl (lv_at hl 1 rfl) ?_
          refine m_get hx hb hts (fun _ q => List.mem_cons_of_mem _ (List.mem_append_right _ q)) hown hK hB hM.1 (ci := 4) rfl 2 (by decide) (List.mem_of_getElem? (i := 2) rfl) rfl rfl dX4_split_99 ?_
          refine lv_iload_n hx hb dX4_split_102 rfl (lv_at hl 2 rfl) ?_
          refine lv_iload_n hx hb dX4_split_103 rfl (lv_at hl 3 rfl) ?_
          refine m_mst hx hb hK hB hM 1 (by decide) (i := ia) (v := ky) (show ia < 16 by omega) dX4_split_104 (fun h1 H locs hM2 hF2 hB => ?_)
          obtain ⟨h2, σ, eσ_19, hM, hF, hB, hI, e9⟩ : ∃ (h2 : Hp) (σ2 : Sg), σ2 = upS σ 1 ia ky ∧ MR cI xm xa σ2 0 h2 ∧ FrM h0 h2 ∧ Bk D z s.heap h2 H locs ∧ Ib σ2 ∧ σ2 9 0 = σ 9 0 := ⟨_, _, rfl, hM2, hF.tr hF2, hB, hI.to1 (by omega) (by omega), upS_g (by decide)⟩
          have hnp := hI.hnp
          have hnr := hI.hnr
          have hnrI := hI.nrI
          refine lv_aload_n hx hb dX4_split_105 rfl (lv_at hl 1 rfl) ?_
          refine lv_iload_n hx hb dX4_split_106 rfl (lv_at hl 2 rfl) ?_
          refine lv_iload hx hb dX4_split_107 (lv_at hl 0 rfl) ?_
          refine m_run (va_runV (As := [.int (iI (ia : Int)), .int (iI (K : Int))]) (rest := []) ⟨hx, hb, hml, hown, hts⟩ (k_X4_moves (l := l) hM hI (i := ia) (k := K) (by omega) (by omega)) (cwV 2 hts gX4_split_X4_moves rfl rfl rfl (by decide +kernel) ⟨by decide, by decide⟩) ⟨Kp.blind _ _ _ _ _, m_recv hK hB (ci := 4) rfl hM.1, fun U hU hW => hK.pass hB U hU hW⟩ rfl rfl hl.1 rfl (lv_room (Nat.le_of_ble_eq_true rfl)) dX4_split_109 ⟨Nat.le_of_ble_eq_true rfl, Nat.le_of_ble_eq_true rfl⟩) hB (fun v u H locs hp_20 hB => ?_)
          obtain ⟨rfl, hM, hFm⟩ := hp_20
          show W _ _ _ _ _ _ _ _ _ _ _ _ _ _ _ (F0 m 112 ls [])
          have hF := hF.tr hFm
          obtain ⟨σ, eσ_21, hM, hI, e9⟩ : ∃ σ2 : Sg, σ2 = mvS σ ia K 200 ∧ MR cI xm xa σ2 0 u ∧ Ib σ2 ∧ σ2 9 0 = σ 9 0 := ⟨_, rfl, hM, hI.mv (by omega) 200, mvS_g (by decide)⟩
          have hnp := hI.hnp
          have hnr := hI.hnr
          have hnrI := hI.nrI
          refine lv_iload hx hb dX4_split_112 (lv_at hl 0 rfl) ?_
          exact m_zret hx hb hr rfl hlocks hB (by decide) (by decide) dX4_split_114 (by (repeat rw [Int.toNat_natCast]); subst eσ_21; subst eσ_19; subst eσ_18; exact Or.inl (⟨⟨c_2, hrg, h4z, hlt⟩, ret_e eKi, hM, hF⟩))
        · refine j_iconst hx hb dX4_split_60 ?_
          refine lv_goto (tgt := 65) hx hb dX4_split_61 (by decide) ?_
          refine m_run (va_runV (As := [.int (iI 3)]) (rest := []) ⟨hx, hb, hml, hown, hts⟩ (k_X4_isFine (l := l) (tc := 3) hM hI ⟨by decide, by decide⟩) (cwV 1 hts gX4_split_X4_isFine rfl rfl rfl (by decide +kernel) ⟨by decide, by decide⟩) ⟨Kp.blind _ _ _ _ _, m_recv hK hB (ci := 4) rfl hM.1, fun U hU hW => hK.pass hB U hU hW⟩ rfl rfl hl.1 rfl (lv_room (Nat.le_of_ble_eq_true rfl)) dX4_split_65 ⟨Nat.le_of_ble_eq_true rfl, Nat.le_of_ble_eq_true rfl⟩) hB (fun v u H locs hp_22 hB => ?_)
          obtain ⟨ev, hM, hFm⟩ := hp_22
          rw [b2_f (by decide)] at ev
          subst ev
          show W _ _ _ _ _ _ _ _ _ _ _ _ _ _ _ (F0 m 68 ls [.int (iI 0)])
          have hF := hF.tr hFm
          refine j_if_ne (tgt := 73) hx hb dX4_split_68 (by decide) ⟨by decide, by decide⟩ (fun c_23 => absurd c_23 (by decide)) (fun c_23 => ?_)
          refine j_iconst hx hb dX4_split_71 ?_
          exact m_zret hx hb hr rfl hlocks hB (by decide) (by decide) dX4_split_72 (by (repeat rw [Int.toNat_natCast]); exact Or.inr (Or.inr (Or.inr (⟨⟨c_2, hrg, fun q => by have := q.1; have := q.2; omega⟩, rfl, hM, hF⟩))))
    · refine j_iconst hx hb dX4_split_38 ?_
      refine lv_goto (tgt := 65) hx hb dX4_split_39 (by decide) ?_
      refine m_run (va_runV (As := [.int (iI 2)]) (rest := []) ⟨hx, hb, hml, hown, hts⟩ (k_X4_isFine (l := l) (tc := 2) hM hI ⟨by decide, by decide⟩) (cwV 1 hts gX4_split_X4_isFine rfl rfl rfl (by decide +kernel) ⟨by decide, by decide⟩) ⟨Kp.blind _ _ _ _ _, m_recv hK hB (ci := 4) rfl hM.1, fun U hU hW => hK.pass hB U hU hW⟩ rfl rfl hl.1 rfl (lv_room (Nat.le_of_ble_eq_true rfl)) dX4_split_65 ⟨Nat.le_of_ble_eq_true rfl, Nat.le_of_ble_eq_true rfl⟩) hB (fun v u H locs hp_24 hB => ?_)
      obtain ⟨ev, hM, hFm⟩ := hp_24
      rw [b2_f (by decide)] at ev
      subst ev
      show W _ _ _ _ _ _ _ _ _ _ _ _ _ _ _ (F0 m 68 ls [.int (iI 0)])
      have hF := hF.tr hFm
      refine j_if_ne (tgt := 73) hx hb dX4_split_68 (by decide) ⟨by decide, by decide⟩ (fun c_25 => absurd c_25 (by decide)) (fun c_25 => ?_)
      refine j_iconst hx hb dX4_split_71 ?_
      exact m_zret hx hb hr rfl hlocks hB (by decide) (by decide) dX4_split_72 (by (repeat rw [Int.toNat_natCast]); exact Or.inr (Or.inr (Or.inl (⟨⟨c_2, fun q => c_6 ⟨by omega, by omega⟩⟩, rfl, hM, hF⟩))))
  · refine j_iconst hx hb dX4_split_11 ?_
    refine lv_goto (tgt := 65) hx hb dX4_split_12 (by decide) ?_
    refine m_run (va_runV (As := [.int (iI 1)]) (rest := []) ⟨hx, hb, hml, hown, hts⟩ (k_X4_isFine (l := l) (tc := 1) hM hI ⟨by decide, by decide⟩) (cwV 1 hts gX4_split_X4_isFine rfl rfl rfl (by decide +kernel) ⟨by decide, by decide⟩) ⟨Kp.blind _ _ _ _ _, m_recv hK hB (ci := 4) rfl hM.1, fun U hU hW => hK.pass hB U hU hW⟩ rfl rfl hl.1 rfl (lv_room (Nat.le_of_ble_eq_true rfl)) dX4_split_65 ⟨Nat.le_of_ble_eq_true rfl, Nat.le_of_ble_eq_true rfl⟩) hB (fun v u H locs hp_26 hB => ?_)
    obtain ⟨ev, hM, hFm⟩ := hp_26
    rw [b2_f (by decide)] at ev
    subst ev
    show W _ _ _ _ _ _ _ _ _ _ _ _ _ _ _ (F0 m 68 ls [.int (iI 0)])
    have hF := hF.tr hFm
    refine j_if_ne (tgt := 73) hx hb dX4_split_68 (by decide) ⟨by decide, by decide⟩ (fun c_27 => absurd c_27 (by decide)) (fun c_27 => ?_)
    refine j_iconst hx hb dX4_split_71 ?_
    exact m_zret hx hb hr rfl hlocks hB (by decide) (by decide) dX4_split_72 (by (repeat rw [Int.toNat_natCast]); exact Or.inr (Or.inl (⟨c_2, rfl, hM, hF⟩)))

abbrev rmX4_merge : Room := { frames := 3, cells := 0, slots := 0, locals := 67 }
set_option maxHeartbeats 4000000 in
set_option maxRecDepth 100000 in
theorem k_X4_merge {l : Launch} {D : va_G} {z : Nat} {cI cP cR cJ : ClassId} {h0 : Hp} {xm : Nat} {xa : Nat → Nat} {σ : Sg} {th : Int} (hM : MR cI xm xa σ th h0) (hI : Ib σ) {n n2 : Int} (rn : rg n) (rn2 : rg n2) : Ct l D z (tyL cI cP cR cJ) yX4_merge wsX4_merge rmX4_merge [.ref xm, .int (iI n), .int (iI n2)] h0 (fun v u => (((isP σ n ∧ isP σ n2) ∧ (σ 4 n.toNat = 0 ∧ σ 4 n2.toNat = 0 ∧ σ 0 n2.toNat = σ 1 n.toNat ∧ σ 2 n2.toNat = σ 2 n.toNat ∧ σ 3 n2.toNat = σ 3 n.toNat)) ∧ v = some (.int (iI (cnt (fun j => live (upS (mvS (upS σ 1 n.toNat (σ 1 n2.toNat)) n2.toNat n.toNat 200) 4 n2.toNat 2) j ∧ pn (upS (mvS (upS σ 1 n.toNat (σ 1 n2.toNat)) n2.toNat n.toNat 200) 4 n2.toNat 2) j = n.toNat) (nrN (upS (mvS (upS σ 1 n.toNat (σ 1 n2.toNat)) n2.toNat n.toNat 200) 4 n2.toNat 2))))) ∧ MR cI xm xa (upS (mvS (upS σ 1 n.toNat (σ 1 n2.toNat)) n2.toNat n.toNat 200) 4 n2.toNat 2) 0 u ∧ FrM h0 u) ∨ ((¬ (isP σ n ∧ isP σ n2)) ∧ v = some (.int (iI 0)) ∧ MR cI xm xa σ 1 u ∧ FrM h0 u) ∨ (((isP σ n ∧ isP σ n2) ∧ ¬ (σ 4 n.toNat = 0 ∧ σ 4 n2.toNat = 0 ∧ σ 0 n2.toNat = σ 1 n.toNat ∧ σ 2 n2.toNat = σ 2 n.toNat ∧ σ 3 n2.toNat = σ 3 n.toNat)) ∧ v = some (.int (iI 0)) ∧ MR cI xm xa σ 2 u ∧ FrM h0 u)) := by
  refine Ct.of (cc := cX4_merge) (maxL := 5) (ret := (some .int)) (by decide) rfl (Nat.le_of_ble_eq_true rfl) ?_
  intro p e s m args below meth c hx hb hr hts hown hlocks hml hnm hK hB ls hl
  have hl : lv_has ls 5 [(0, .ref xm), (1, .int (iI n)), (2, .int (iI n2))] := hl
  have hF := FrM.rf h0
  have hnp := hI.hnp
  have hnr := hI.hnr
  have hnrI := hI.nrI
  have hnpI := hI.npI
  have hre := hI.rest
  refine lv_aload_n hx hb dX4_merge_0 rfl (lv_at hl 0 rfl) ?_
  refine lv_iload_n hx hb dX4_merge_1 rfl (lv_at hl 1 rfl) ?_
  refine m_run (va_runV (As := [.int (iI n)]) (rest := []) ⟨hx, hb, hml, hown, hts⟩ (k_X4_isPart (l := l) hM hI ⟨by omega, by omega⟩) (cwV 1 hts gX4_merge_X4_isPart rfl rfl rfl (by decide +kernel) ⟨by decide, by decide⟩) ⟨Kp.blind _ _ _ _ _, m_recv hK hB (ci := 4) rfl hM.1, fun U hU hW => hK.pass hB U hU hW⟩ rfl rfl hl.1 rfl (lv_room (Nat.le_of_ble_eq_true rfl)) dX4_merge_2 ⟨Nat.le_of_ble_eq_true rfl, Nat.le_of_ble_eq_true rfl⟩) hB (fun v u H locs hp_1 hB => ?_)
  obtain ⟨rfl, rfl⟩ := hp_1
  show W _ _ _ _ _ _ _ _ _ _ _ _ _ _ _ (F0 m 5 ls [.int (iI (b2 (isP σ n)))])
  refine j_ifeqP (tgt := 20) hx hb dX4_merge_5 (by decide) (fun c_2 => ?_) (fun c_2 => ?_)
  · refine j_iconst hx hb dX4_merge_20 ?_
    refine lv_istore_n (lv' := [(3, .int (iI 0)), (0, .ref xm), (1, .int (iI n)), (2, .int (iI n2))]) hx hb dX4_merge_21 rfl hl (by decide) rfl (fun ls hl => ?_)
    refine lv_iload_n hx hb dX4_merge_22 rfl (lv_at hl 0 rfl) ?_
    refine j_if_eq (tgt := 93) hx hb dX4_merge_23 (by decide) ⟨by decide, by decide⟩ (fun c_3 => ?_) (fun c_3 => absurd c_3 (by decide))
    refine j_iconst hx hb dX4_merge_93 ?_
    refine lv_istore (lv' := [(4, .int (iI 0)), (3, .int (iI 0)), (0, .ref xm), (1, .int (iI n)), (2, .int (iI n2))]) hx hb dX4_merge_94 hl (by decide) rfl (fun ls hl => ?_)
    refine lv_aload_n hx hb dX4_merge_96 rfl (lv_at hl 2 rfl) ?_
    refine lv_iload_n hx hb dX4_merge_97 rfl (lv_at hl 1 rfl) ?_
    refine j_if_ne (tgt := 105) hx hb dX4_merge_98 (by decide) ⟨by decide, by decide⟩ (fun c_4 => absurd c_4 (by decide)) (fun c_4 => ?_)
    refine j_iconst hx hb dX4_merge_101 ?_
    refine lv_goto (tgt := 115) hx hb dX4_merge_102 (by decide) ?_
    refine m_run (va_runV (As := [.int (iI 1)]) (rest := []) ⟨hx, hb, hml, hown, hts⟩ (k_X4_isFine (l := l) (tc := 1) hM hI ⟨by decide, by decide⟩) (cwV 1 hts gX4_merge_X4_isFine rfl rfl rfl (by decide +kernel) ⟨by decide, by decide⟩) ⟨Kp.blind _ _ _ _ _, m_recv hK hB (ci := 4) rfl hM.1, fun U hU hW => hK.pass hB U hU hW⟩ rfl rfl hl.1 rfl (lv_room (Nat.le_of_ble_eq_true rfl)) dX4_merge_115 ⟨Nat.le_of_ble_eq_true rfl, Nat.le_of_ble_eq_true rfl⟩) hB (fun v u H locs hp_5 hB => ?_)
    obtain ⟨ev, hM, hFm⟩ := hp_5
    rw [b2_f (by decide)] at ev
    subst ev
    show W _ _ _ _ _ _ _ _ _ _ _ _ _ _ _ (F0 m 118 ls [.int (iI 0)])
    have hF := hF.tr hFm
    refine j_if_ne (tgt := 123) hx hb dX4_merge_118 (by decide) ⟨by decide, by decide⟩ (fun c_6 => absurd c_6 (by decide)) (fun c_6 => ?_)
    refine j_iconst hx hb dX4_merge_121 ?_
    exact m_zret hx hb hr rfl hlocks hB (by decide) (by decide) dX4_merge_122 (by (repeat rw [Int.toNat_natCast]); exact Or.inr (Or.inl (⟨fun q => c_2 q.1, rfl, hM, hF⟩)))
  · refine lv_aload_n hx hb dX4_merge_8 rfl (lv_at hl 0 rfl) ?_
    refine lv_iload_n hx hb dX4_merge_9 rfl (lv_at hl 2 rfl) ?_
    refine m_run (va_runV (As := [.int (iI n2)]) (rest := []) ⟨hx, hb, hml, hown, hts⟩ (k_X4_isPart (l := l) hM hI ⟨by omega, by omega⟩) (cwV 1 hts gX4_merge_X4_isPart rfl rfl rfl (by decide +kernel) ⟨by decide, by decide⟩) ⟨Kp.blind _ _ _ _ _, m_recv hK hB (ci := 4) rfl hM.1, fun U hU hW => hK.pass hB U hU hW⟩ rfl rfl hl.1 rfl (lv_room (Nat.le_of_ble_eq_true rfl)) dX4_merge_10 ⟨Nat.le_of_ble_eq_true rfl, Nat.le_of_ble_eq_true rfl⟩) hB (fun v u H locs hp_7 hB => ?_)
    obtain ⟨rfl, rfl⟩ := hp_7
    show W _ _ _ _ _ _ _ _ _ _ _ _ _ _ _ (F0 m 13 ls [.int (iI (b2 (isP σ n2)))])
    refine j_ifeqP (tgt := 20) hx hb dX4_merge_13 (by decide) (fun c_8 => ?_) (fun c_8 => ?_)
    · refine j_iconst hx hb dX4_merge_20 ?_
      refine lv_istore_n (lv' := [(3, .int (iI 0)), (0, .ref xm), (1, .int (iI n)), (2, .int (iI n2))]) hx hb dX4_merge_21 rfl hl (by decide) rfl (fun ls hl => ?_)
      refine lv_iload_n hx hb dX4_merge_22 rfl (lv_at hl 0 rfl) ?_
      refine j_if_eq (tgt := 93) hx hb dX4_merge_23 (by decide) ⟨by decide, by decide⟩ (fun c_9 => ?_) (fun c_9 => absurd c_9 (by decide))
      refine j_iconst hx hb dX4_merge_93 ?_
      refine lv_istore (lv' := [(4, .int (iI 0)), (3, .int (iI 0)), (0, .ref xm), (1, .int (iI n)), (2, .int (iI n2))]) hx hb dX4_merge_94 hl (by decide) rfl (fun ls hl => ?_)
      refine lv_aload_n hx hb dX4_merge_96 rfl (lv_at hl 2 rfl) ?_
      refine lv_iload_n hx hb dX4_merge_97 rfl (lv_at hl 1 rfl) ?_
      refine j_if_ne (tgt := 105) hx hb dX4_merge_98 (by decide) ⟨by decide, by decide⟩ (fun c_10 => absurd c_10 (by decide)) (fun c_10 => ?_)
      refine j_iconst hx hb dX4_merge_101 ?_
      refine lv_goto (tgt := 115) hx hb dX4_merge_102 (by decide) ?_
      refine m_run (va_runV (As := [.int (iI 1)]) (rest := []) ⟨hx, hb, hml, hown, hts⟩ (k_X4_isFine (l := l) (tc := 1) hM hI ⟨by decide, by decide⟩) (cwV 1 hts gX4_merge_X4_isFine rfl rfl rfl (by decide +kernel) ⟨by decide, by decide⟩) ⟨Kp.blind _ _ _ _ _, m_recv hK hB (ci := 4) rfl hM.1, fun U hU hW => hK.pass hB U hU hW⟩ rfl rfl hl.1 rfl (lv_room (Nat.le_of_ble_eq_true rfl)) dX4_merge_115 ⟨Nat.le_of_ble_eq_true rfl, Nat.le_of_ble_eq_true rfl⟩) hB (fun v u H locs hp_11 hB => ?_)
      obtain ⟨ev, hM, hFm⟩ := hp_11
      rw [b2_f (by decide)] at ev
      subst ev
      show W _ _ _ _ _ _ _ _ _ _ _ _ _ _ _ (F0 m 118 ls [.int (iI 0)])
      have hF := hF.tr hFm
      refine j_if_ne (tgt := 123) hx hb dX4_merge_118 (by decide) ⟨by decide, by decide⟩ (fun c_12 => absurd c_12 (by decide)) (fun c_12 => ?_)
      refine j_iconst hx hb dX4_merge_121 ?_
      exact m_zret hx hb hr rfl hlocks hB (by decide) (by decide) dX4_merge_122 (by (repeat rw [Int.toNat_natCast]); exact Or.inr (Or.inl (⟨fun q => c_8 q.2, rfl, hM, hF⟩)))
    · refine j_iconst hx hb dX4_merge_16 ?_
      refine lv_goto (tgt := 21) hx hb dX4_merge_17 (by decide) ?_
      refine lv_istore_n (lv' := [(3, .int (iI 1)), (0, .ref xm), (1, .int (iI n)), (2, .int (iI n2))]) hx hb dX4_merge_21 rfl hl (by decide) rfl (fun ls hl => ?_)
      refine lv_iload_n hx hb dX4_merge_22 rfl (lv_at hl 0 rfl) ?_
      refine j_if_eq (tgt := 93) hx hb dX4_merge_23 (by decide) ⟨by decide, by decide⟩ (fun c_13 => absurd c_13 (by decide)) (fun c_13 => ?_)
      have hnn : 0 ≤ n := by have w := c_2; unfold isP at w; omega
      obtain ⟨ia, rfl⟩ : ∃ ia : Nat, n = (ia : Int) := ⟨n.toNat, by omega⟩
      have hp_ia := isP_i.mp c_2
      have hnn : 0 ≤ n2 := by have w := c_8; unfold isP at w; omega
      obtain ⟨ib, rfl⟩ : ∃ ib : Nat, n2 = (ib : Int) := ⟨n2.toNat, by omega⟩
      have hp_ib := isP_i.mp c_8
      have hpa := hI.part ia (by omega)
      have hpb := hI.part ib (by omega)
      have hbb := (⟨c_2, c_8⟩ : isP σ (ia : Int) ∧ isP σ (ib : Int))
      refine lv_aload_n hx hb dX4_merge_26 rfl (lv_at hl 1 rfl) ?_
      refine m_get hx hb hts (fun _ q => List.mem_cons_of_mem _ (List.mem_append_right _ q)) hown hK hB hM.1 (ci := 4) rfl 5 (by decide) (List.mem_of_getElem? (i := 1) rfl) rfl rfl dX4_merge_27 ?_
      refine lv_iload_n hx hb dX4_merge_30 rfl (lv_at hl 2 rfl) ?_
      refine m_mld hx hb hK hB hM 4 (by decide) (i := ia) (show ia < 16 by omega) dX4_merge_31 ?_
      have bd_15 := hI.bd 4 ia
      refine j_if_ne (tgt := 93) hx hb dX4_merge_32 (by decide) ⟨by omega, by omega⟩ (fun c_14 => ?_) (fun c_14 => ?_)
      · refine j_iconst hx hb dX4_merge_93 ?_
        refine lv_istore (lv' := [(4, .int (iI 0)), (3, .int (iI 1)), (0, .ref xm), (1, .int (iI (ia : Int))), (2, .int (iI (ib : Int)))]) hx hb dX4_merge_94 hl (by decide) rfl (fun ls hl => ?_)
        refine lv_aload_n hx hb dX4_merge_96 rfl (lv_at hl 2 rfl) ?_
        refine lv_iload_n hx hb dX4_merge_97 rfl (lv_at hl 1 rfl) ?_
        refine j_if_ne (tgt := 105) hx hb dX4_merge_98 (by decide) ⟨by decide, by decide⟩ (fun c_16 => ?_) (fun c_16 => absurd c_16 (by decide))
        refine lv_iload hx hb dX4_merge_105 (lv_at hl 0 rfl) ?_
        refine j_if_ne (tgt := 114) hx hb dX4_merge_107 (by decide) ⟨by decide, by decide⟩ (fun c_17 => absurd c_17 (by decide)) (fun c_17 => ?_)
        refine j_iconst hx hb dX4_merge_110 ?_
        refine lv_goto (tgt := 115) hx hb dX4_merge_111 (by decide) ?_
        refine m_run (va_runV (As := [.int (iI 2)]) (rest := []) ⟨hx, hb, hml, hown, hts⟩ (k_X4_isFine (l := l) (tc := 2) hM hI ⟨by decide, by decide⟩) (cwV 1 hts gX4_merge_X4_isFine rfl rfl rfl (by decide +kernel) ⟨by decide, by decide⟩) ⟨Kp.blind _ _ _ _ _, m_recv hK hB (ci := 4) rfl hM.1, fun U hU hW => hK.pass hB U hU hW⟩ rfl rfl hl.1 rfl (lv_room (Nat.le_of_ble_eq_true rfl)) dX4_merge_115 ⟨Nat.le_of_ble_eq_true rfl, Nat.le_of_ble_eq_true rfl⟩) hB (fun v u H locs hp_18 hB => ?_)
        obtain ⟨ev, hM, hFm⟩ := hp_18
        rw [b2_f (by decide)] at ev
        subst ev
        show W _ _ _ _ _ _ _ _ _ _ _ _ _ _ _ (F0 m 118 ls [.int (iI 0)])
        have hF := hF.tr hFm
        refine j_if_ne (tgt := 123) hx hb dX4_merge_118 (by decide) ⟨by decide, by decide⟩ (fun c_19 => absurd c_19 (by decide)) (fun c_19 => ?_)
        refine j_iconst hx hb dX4_merge_121 ?_
        exact m_zret hx hb hr rfl hlocks hB (by decide) (by decide) dX4_merge_122 (by (repeat rw [Int.toNat_natCast]); exact Or.inr (Or.inr (⟨⟨hbb, fun q => by omega⟩, rfl, hM, hF⟩)))
      · refine lv_aload_n hx hb dX4_merge_35 rfl (lv_at hl 1 rfl) ?_
        refine m_get hx hb hts (fun _ q => List.mem_cons_of_mem _ (List.mem_append_right _ q)) hown hK hB hM.1 (ci := 4) rfl 5 (by decide) (List.mem_of_getElem? (i := 1) rfl) rfl rfl dX4_merge_36 ?_
        refine lv_iload_n hx hb dX4_merge_39 rfl (lv_at hl 3 rfl) ?_
        refine m_mld hx hb hK hB hM 4 (by decide) (i := ib) (show ib < 16 by omega) dX4_merge_40 ?_
        have bd_21 := hI.bd 4 ib
        refine j_if_ne (tgt := 93) hx hb dX4_merge_41 (by decide) ⟨by omega, by omega⟩ (fun c_20 => ?_) (fun c_20 => ?_)
        · refine j_iconst hx hb dX4_merge_93 ?_
          refine lv_istore (lv' := [(4, .int (iI 0)), (3, .int (iI 1)), (0, .ref xm), (1, .int (iI (ia : Int))), (2, .int (iI (ib : Int)))]) hx hb dX4_merge_94 hl (by decide) rfl (fun ls hl => ?_)
          refine lv_aload_n hx hb dX4_merge_96 rfl (lv_at hl 2 rfl) ?_
          refine lv_iload_n hx hb dX4_merge_97 rfl (lv_at hl 1 rfl) ?_
          refine j_if_ne (tgt := 105) hx hb dX4_merge_98 (by decide) ⟨by decide, by decide⟩ (fun c_22 => ?_) (fun c_22 => absurd c_22 (by decide))
          refine lv_iload hx hb dX4_merge_105 (lv_at hl 0 rfl) ?_
          refine j_if_ne (tgt := 114) hx hb dX4_merge_107 (by decide) ⟨by decide, by decide⟩ (fun c_23 => absurd c_23 (by decide)) (fun c_23 => ?_)
          refine j_iconst hx hb dX4_merge_110 ?_
          refine lv_goto (tgt := 115) hx hb dX4_merge_111 (by decide) ?_
          refine m_run (va_runV (As := [.int (iI 2)]) (rest := []) ⟨hx, hb, hml, hown, hts⟩ (k_X4_isFine (l := l) (tc := 2) hM hI ⟨by decide, by decide⟩) (cwV 1 hts gX4_merge_X4_isFine rfl rfl rfl (by decide +kernel) ⟨by decide, by decide⟩) ⟨Kp.blind _ _ _ _ _, m_recv hK hB (ci := 4) rfl hM.1, fun U hU hW => hK.pass hB U hU hW⟩ rfl rfl hl.1 rfl (lv_room (Nat.le_of_ble_eq_true rfl)) dX4_merge_115 ⟨Nat.le_of_ble_eq_true rfl, Nat.le_of_ble_eq_true rfl⟩) hB (fun v u H locs hp_24 hB => ?_)
          obtain ⟨ev, hM, hFm⟩ := hp_24
          rw [b2_f (by decide)] at ev
          subst ev
          show W _ _ _ _ _ _ _ _ _ _ _ _ _ _ _ (F0 m 118 ls [.int (iI 0)])
          have hF := hF.tr hFm
          refine j_if_ne (tgt := 123) hx hb dX4_merge_118 (by decide) ⟨by decide, by decide⟩ (fun c_25 => absurd c_25 (by decide)) (fun c_25 => ?_)
          refine j_iconst hx hb dX4_merge_121 ?_
          exact m_zret hx hb hr rfl hlocks hB (by decide) (by decide) dX4_merge_122 (by (repeat rw [Int.toNat_natCast]); exact Or.inr (Or.inr (⟨⟨hbb, fun q => by omega⟩, rfl, hM, hF⟩)))
        · refine lv_aload_n hx hb dX4_merge_44 rfl (lv_at hl 1 rfl) ?_
          refine m_get hx hb hts (fun _ q => List.mem_cons_of_mem _ (List.mem_append_right _ q)) hown hK hB hM.1 (ci := 4) rfl 1 (by decide) (List.mem_of_getElem? (i := 2) rfl) rfl rfl dX4_merge_45 ?_
          refine lv_iload_n hx hb dX4_merge_48 rfl (lv_at hl 3 rfl) ?_
          refine m_mld hx hb hK hB hM 0 (by decide) (i := ib) (show ib < 16 by omega) dX4_merge_49 ?_
          refine lv_aload_n hx hb dX4_merge_50 rfl (lv_at hl 1 rfl) ?_
          refine m_get hx hb hts (fun _ q => List.mem_cons_of_mem _ (List.mem_append_right _ q)) hown hK hB hM.1 (ci := 4) rfl 2 (by decide) (List.mem_of_getElem? (i := 3) rfl) rfl rfl dX4_merge_51 ?_
          refine lv_iload_n hx hb dX4_merge_54 rfl (lv_at hl 2 rfl) ?_
          refine m_mld hx hb hK hB hM 1 (by decide) (i := ia) (show ia < 16 by omega) dX4_merge_55 ?_
          have bd_26 := hI.bd 0 ib
          have bd_27 := hI.bd 1 ia
          refine j_icmp_ne (tgt := 93) hx hb dX4_merge_56 (by decide) ⟨by omega, by omega⟩ ⟨by omega, by omega⟩ (fun c_28 => ?_) (fun c_28 => ?_)
          · refine j_iconst hx hb dX4_merge_93 ?_
            refine lv_istore (lv' := [(4, .int (iI 0)), (3, .int (iI 1)), (0, .ref xm), (1, .int (iI (ia : Int))), (2, .int (iI (ib : Int)))]) hx hb dX4_merge_94 hl (by decide) rfl (fun ls hl => ?_)
            refine lv_aload_n hx hb dX4_merge_96 rfl (lv_at hl 2 rfl) ?_
            refine lv_iload_n hx hb dX4_merge_97 rfl (lv_at hl 1 rfl) ?_
            refine j_if_ne (tgt := 105) hx hb dX4_merge_98 (by decide) ⟨by decide, by decide⟩ (fun c_29 => ?_) (fun c_29 => absurd c_29 (by decide))
            refine lv_iload hx hb dX4_merge_105 (lv_at hl 0 rfl) ?_
            refine j_if_ne (tgt := 114) hx hb dX4_merge_107 (by decide) ⟨by decide, by decide⟩ (fun c_30 => absurd c_30 (by decide)) (fun c_30 => ?_)
            refine j_iconst hx hb dX4_merge_110 ?_
            refine lv_goto (tgt := 115) hx hb dX4_merge_111 (by decide) ?_
            refine m_run (va_runV (As := [.int (iI 2)]) (rest := []) ⟨hx, hb, hml, hown, hts⟩ (k_X4_isFine (l := l) (tc := 2) hM hI ⟨by decide, by decide⟩) (cwV 1 hts gX4_merge_X4_isFine rfl rfl rfl (by decide +kernel) ⟨by decide, by decide⟩) ⟨Kp.blind _ _ _ _ _, m_recv hK hB (ci := 4) rfl hM.1, fun U hU hW => hK.pass hB U hU hW⟩ rfl rfl hl.1 rfl (lv_room (Nat.le_of_ble_eq_true rfl)) dX4_merge_115 ⟨Nat.le_of_ble_eq_true rfl, Nat.le_of_ble_eq_true rfl⟩) hB (fun v u H locs hp_31 hB => ?_)
            obtain ⟨ev, hM, hFm⟩ := hp_31
            rw [b2_f (by decide)] at ev
            subst ev
            show W _ _ _ _ _ _ _ _ _ _ _ _ _ _ _ (F0 m 118 ls [.int (iI 0)])
            have hF := hF.tr hFm
            refine j_if_ne (tgt := 123) hx hb dX4_merge_118 (by decide) ⟨by decide, by decide⟩ (fun c_32 => absurd c_32 (by decide)) (fun c_32 => ?_)
            refine j_iconst hx hb dX4_merge_121 ?_
            exact m_zret hx hb hr rfl hlocks hB (by decide) (by decide) dX4_merge_122 (by (repeat rw [Int.toNat_natCast]); exact Or.inr (Or.inr (⟨⟨hbb, fun q => by omega⟩, rfl, hM, hF⟩)))
          · refine lv_aload_n hx hb dX4_merge_59 rfl (lv_at hl 1 rfl) ?_
            refine m_get hx hb hts (fun _ q => List.mem_cons_of_mem _ (List.mem_append_right _ q)) hown hK hB hM.1 (ci := 4) rfl 3 (by decide) (List.mem_of_getElem? (i := 4) rfl) rfl rfl dX4_merge_60 ?_
            refine lv_iload_n hx hb dX4_merge_63 rfl (lv_at hl 2 rfl) ?_
            refine m_mld hx hb hK hB hM 2 (by decide) (i := ia) (show ia < 16 by omega) dX4_merge_64 ?_
            refine lv_aload_n hx hb dX4_merge_65 rfl (lv_at hl 1 rfl) ?_
            refine m_get hx hb hts (fun _ q => List.mem_cons_of_mem _ (List.mem_append_right _ q)) hown hK hB hM.1 (ci := 4) rfl 3 (by decide) (List.mem_of_getElem? (i := 4) rfl) rfl rfl dX4_merge_66 ?_
            refine lv_iload_n hx hb dX4_merge_69 rfl (lv_at hl 3 rfl) ?_
            refine m_mld hx hb hK hB hM 2 (by decide) (i := ib) (show ib < 16 by omega) dX4_merge_70 ?_
            have bd_33 := hI.bd 2 ia
            have bd_34 := hI.bd 2 ib
            refine j_icmp_ne (tgt := 93) hx hb dX4_merge_71 (by decide) ⟨by omega, by omega⟩ ⟨by omega, by omega⟩ (fun c_35 => ?_) (fun c_35 => ?_)
            · refine j_iconst hx hb dX4_merge_93 ?_
              refine lv_istore (lv' := [(4, .int (iI 0)), (3, .int (iI 1)), (0, .ref xm), (1, .int (iI (ia : Int))), (2, .int (iI (ib : Int)))]) hx hb dX4_merge_94 hl (by decide) rfl (fun ls hl => ?_)
              refine lv_aload_n hx hb dX4_merge_96 rfl (lv_at hl 2 rfl) ?_
              refine lv_iload_n hx hb dX4_merge_97 rfl (lv_at hl 1 rfl) ?_
              refine j_if_ne (tgt := 105) hx hb dX4_merge_98 (by decide) ⟨by decide, by decide⟩ (fun c_36 => ?_) (fun c_36 => absurd c_36 (by decide))
              refine lv_iload hx hb dX4_merge_105 (lv_at hl 0 rfl) ?_
              refine j_if_ne (tgt := 114) hx hb dX4_merge_107 (by decide) ⟨by decide, by decide⟩ (fun c_37 => absurd c_37 (by decide)) (fun c_37 => ?_)
              refine j_iconst hx hb dX4_merge_110 ?_
              refine lv_goto (tgt := 115) hx hb dX4_merge_111 (by decide) ?_
              refine m_run (va_runV (As := [.int (iI 2)]) (rest := []) ⟨hx, hb, hml, hown, hts⟩ (k_X4_isFine (l := l) (tc := 2) hM hI ⟨by decide, by decide⟩) (cwV 1 hts gX4_merge_X4_isFine rfl rfl rfl (by decide +kernel) ⟨by decide, by decide⟩) ⟨Kp.blind _ _ _ _ _, m_recv hK hB (ci := 4) rfl hM.1, fun U hU hW => hK.pass hB U hU hW⟩ rfl rfl hl.1 rfl (lv_room (Nat.le_of_ble_eq_true rfl)) dX4_merge_115 ⟨Nat.le_of_ble_eq_true rfl, Nat.le_of_ble_eq_true rfl⟩) hB (fun v u H locs hp_38 hB => ?_)
              obtain ⟨ev, hM, hFm⟩ := hp_38
              rw [b2_f (by decide)] at ev
              subst ev
              show W _ _ _ _ _ _ _ _ _ _ _ _ _ _ _ (F0 m 118 ls [.int (iI 0)])
              have hF := hF.tr hFm
              refine j_if_ne (tgt := 123) hx hb dX4_merge_118 (by decide) ⟨by decide, by decide⟩ (fun c_39 => absurd c_39 (by decide)) (fun c_39 => ?_)
              refine j_iconst hx hb dX4_merge_121 ?_
              exact m_zret hx hb hr rfl hlocks hB (by decide) (by decide) dX4_merge_122 (by (repeat rw [Int.toNat_natCast]); exact Or.inr (Or.inr (⟨⟨hbb, fun q => by omega⟩, rfl, hM, hF⟩)))
            · refine lv_aload_n hx hb dX4_merge_74 rfl (lv_at hl 1 rfl) ?_
              refine m_get hx hb hts (fun _ q => List.mem_cons_of_mem _ (List.mem_append_right _ q)) hown hK hB hM.1 (ci := 4) rfl 4 (by decide) (List.mem_of_getElem? (i := 5) rfl) rfl rfl dX4_merge_75 ?_
              refine lv_iload_n hx hb dX4_merge_78 rfl (lv_at hl 2 rfl) ?_
              refine m_mld hx hb hK hB hM 3 (by decide) (i := ia) (show ia < 16 by omega) dX4_merge_79 ?_
              refine lv_aload_n hx hb dX4_merge_80 rfl (lv_at hl 1 rfl) ?_
              refine m_get hx hb hts (fun _ q => List.mem_cons_of_mem _ (List.mem_append_right _ q)) hown hK hB hM.1 (ci := 4) rfl 4 (by decide) (List.mem_of_getElem? (i := 5) rfl) rfl rfl dX4_merge_81 ?_
              refine lv_iload_n hx hb dX4_merge_84 rfl (lv_at hl 3 rfl) ?_
              refine m_mld hx hb hK hB hM 3 (by decide) (i := ib) (show ib < 16 by omega) dX4_merge_85 ?_
              have bd_40 := hI.bd 3 ia
              have bd_41 := hI.bd 3 ib
              refine j_icmp_ne (tgt := 93) hx hb dX4_merge_86 (by decide) ⟨by omega, by omega⟩ ⟨by omega, by omega⟩ (fun c_42 => ?_) (fun c_42 => ?_)
              · refine j_iconst hx hb dX4_merge_93 ?_
                refine lv_istore (lv' := [(4, .int (iI 0)), (3, .int (iI 1)), (0, .ref xm), (1, .int (iI (ia : Int))), (2, .int (iI (ib : Int)))]) hx hb dX4_merge_94 hl (by decide) rfl (fun ls hl => ?_)
                refine lv_aload_n hx hb dX4_merge_96 rfl (lv_at hl 2 rfl) ?_
                refine lv_iload_n hx hb dX4_merge_97 rfl (lv_at hl 1 rfl) ?_
                refine j_if_ne (tgt := 105) hx hb dX4_merge_98 (by decide) ⟨by decide, by decide⟩ (fun c_43 => ?_) (fun c_43 => absurd c_43 (by decide))
                refine lv_iload hx hb dX4_merge_105 (lv_at hl 0 rfl) ?_
                refine j_if_ne (tgt := 114) hx hb dX4_merge_107 (by decide) ⟨by decide, by decide⟩ (fun c_44 => absurd c_44 (by decide)) (fun c_44 => ?_)
                refine j_iconst hx hb dX4_merge_110 ?_
                refine lv_goto (tgt := 115) hx hb dX4_merge_111 (by decide) ?_
                refine m_run (va_runV (As := [.int (iI 2)]) (rest := []) ⟨hx, hb, hml, hown, hts⟩ (k_X4_isFine (l := l) (tc := 2) hM hI ⟨by decide, by decide⟩) (cwV 1 hts gX4_merge_X4_isFine rfl rfl rfl (by decide +kernel) ⟨by decide, by decide⟩) ⟨Kp.blind _ _ _ _ _, m_recv hK hB (ci := 4) rfl hM.1, fun U hU hW => hK.pass hB U hU hW⟩ rfl rfl hl.1 rfl (lv_room (Nat.le_of_ble_eq_true rfl)) dX4_merge_115 ⟨Nat.le_of_ble_eq_true rfl, Nat.le_of_ble_eq_true rfl⟩) hB (fun v u H locs hp_45 hB => ?_)
                obtain ⟨ev, hM, hFm⟩ := hp_45
                rw [b2_f (by decide)] at ev
                subst ev
                show W _ _ _ _ _ _ _ _ _ _ _ _ _ _ _ (F0 m 118 ls [.int (iI 0)])
                have hF := hF.tr hFm
                refine j_if_ne (tgt := 123) hx hb dX4_merge_118 (by decide) ⟨by decide, by decide⟩ (fun c_46 => absurd c_46 (by decide)) (fun c_46 => ?_)
                refine j_iconst hx hb dX4_merge_121 ?_
                exact m_zret hx hb hr rfl hlocks hB (by decide) (by decide) dX4_merge_122 (by (repeat rw [Int.toNat_natCast]); exact Or.inr (Or.inr (⟨⟨hbb, fun q => by omega⟩, rfl, hM, hF⟩)))
              · have hfv : σ 4 ia = 0 ∧ σ 4 ib = 0 ∧ σ 0 ib = σ 1 ia ∧ σ 2 ib = σ 2 ia ∧ σ 3 ib = σ 3 ia := ⟨by omega, by omega, by omega, by omega, by omega⟩
                refine j_iconst hx hb dX4_merge_89 ?_
                refine lv_goto (tgt := 94) hx hb dX4_merge_90 (by decide) ?_
                refine lv_istore (lv' := [(4, .int (iI 1)), (3, .int (iI 1)), (0, .ref xm), (1, .int (iI (ia : Int))), (2, .int (iI (ib : Int)))]) hx hb dX4_merge_94 hl (by decide) rfl (fun ls hl => ?_)
                refine lv_aload_n hx hb dX4_merge_96 rfl (lv_at hl 2 rfl) ?_
                refine lv_iload_n hx hb dX4_merge_97 rfl (lv_at hl 1 rfl) ?_
                refine j_if_ne (tgt := 105) hx hb dX4_merge_98 (by decide) ⟨by decide, by decide⟩ (fun c_47 => ?_) (fun c_47 => absurd c_47 (by decide))
                refine lv_iload hx hb dX4_merge_105 (lv_at hl 0 rfl) ?_
                refine j_if_ne (tgt := 114) hx hb dX4_merge_107 (by decide) ⟨by decide, by decide⟩ (fun c_48 => ?_) (fun c_48 => absurd c_48 (by decide))
                refine j_iconst hx hb dX4_merge_114 ?_
                refine m_run (va_runV (As := [.int (iI 0)]) (rest := []) ⟨hx, hb, hml, hown, hts⟩ (k_X4_isFine (l := l) (tc := 0) hM hI ⟨by decide, by decide⟩) (cwV 1 hts gX4_merge_X4_isFine rfl rfl rfl (by decide +kernel) ⟨by decide, by decide⟩) ⟨Kp.blind _ _ _ _ _, m_recv hK hB (ci := 4) rfl hM.1, fun U hU hW => hK.pass hB U hU hW⟩ rfl rfl hl.1 rfl (lv_room (Nat.le_of_ble_eq_true rfl)) dX4_merge_115 ⟨Nat.le_of_ble_eq_true rfl, Nat.le_of_ble_eq_true rfl⟩) hB (fun v u H locs hp_49 hB => ?_)
                obtain ⟨ev, hM, hFm⟩ := hp_49
                rw [b2_t (by decide)] at ev
                subst ev
                show W _ _ _ _ _ _ _ _ _ _ _ _ _ _ _ (F0 m 118 ls [.int (iI 1)])
                have hF := hF.tr hFm
                refine j_if_ne (tgt := 123) hx hb dX4_merge_118 (by decide) ⟨by decide, by decide⟩ (fun c_50 => ?_) (fun c_50 => absurd c_50 (by decide))
                refine lv_aload_n hx hb dX4_merge_123 rfl (lv_at hl 2 rfl) ?_
                refine m_get hx hb hts (fun _ q => List.mem_cons_of_mem _ (List.mem_append_right _ q)) hown hK hB hM.1 (ci := 4) rfl 2 (by decide) (List.mem_of_getElem? (i := 3) rfl) rfl rfl dX4_merge_124 ?_
                refine lv_iload_n hx hb dX4_merge_127 rfl (lv_at hl 3 rfl) ?_
                refine lv_aload_n hx hb dX4_merge_128 rfl (lv_at hl 2 rfl) ?_
                refine m_get hx hb hts (fun _ q => List.mem_cons_of_mem _ (List.mem_append_right _ q)) hown hK hB hM.1 (ci := 4) rfl 2 (by decide) (List.mem_of_getElem? (i := 3) rfl) rfl rfl dX4_merge_129 ?_
                refine lv_iload_n hx hb dX4_merge_132 rfl (lv_at hl 4 rfl) ?_
                refine m_mld hx hb hK hB hM 1 (by decide) (i := ib) (show ib < 16 by omega) dX4_merge_133 ?_
                have bd_51 := hI.bd 1 ib
                refine m_mst hx hb hK hB hM 1 (by decide) (i := ia) (v := (σ 1 ib)) (show ia < 16 by omega) dX4_merge_134 (fun h1 H locs hM2 hF2 hB => ?_)
                obtain ⟨h2, σ, eσ_52, hM, hF, hB, hI, e9⟩ : ∃ (h2 : Hp) (σ2 : Sg), σ2 = upS σ 1 ia (σ 1 ib) ∧ MR cI xm xa σ2 0 h2 ∧ FrM h0 h2 ∧ Bk D z s.heap h2 H locs ∧ Ib σ2 ∧ σ2 9 0 = σ 9 0 := ⟨_, _, rfl, hM2, hF.tr hF2, hB, hI.to1 (by omega) (by omega), upS_g (by decide)⟩
                have hnp := hI.hnp
                have hnr := hI.hnr
                have hnrI := hI.nrI
                refine lv_aload_n hx hb dX4_merge_135 rfl (lv_at hl 2 rfl) ?_
                refine m_get hx hb hts (fun _ q => List.mem_cons_of_mem _ (List.mem_append_right _ q)) hown hK hB hM.1 (ci := 4) rfl 5 (by decide) (List.mem_of_getElem? (i := 1) rfl) rfl rfl dX4_merge_136 ?_
                refine lv_iload_n hx hb dX4_merge_139 rfl (lv_at hl 4 rfl) ?_
                refine j_iconst hx hb dX4_merge_140 ?_
                refine m_mst hx hb hK hB hM 4 (by decide) (i := ib) (v := 2) (show ib < 16 by omega) dX4_merge_141 (fun h1 H locs hM2 hF2 hB => ?_)
                obtain ⟨h2, σ, eσ_53, hM, hF, hB, hI, e9⟩ : ∃ (h2 : Hp) (σ2 : Sg), σ2 = upS σ 4 ib 2 ∧ MR cI xm xa σ2 0 h2 ∧ FrM h0 h2 ∧ Bk D z s.heap h2 H locs ∧ Ib σ2 ∧ σ2 9 0 = σ 9 0 := ⟨_, _, rfl, hM2, hF.tr hF2, hB, hI.st4 (by omega) (by omega), upS_g (by decide)⟩
                have hnp := hI.hnp
                have hnr := hI.hnr
                have hnrI := hI.nrI
                refine lv_aload_n hx hb dX4_merge_142 rfl (lv_at hl 2 rfl) ?_
                refine lv_iload_n hx hb dX4_merge_143 rfl (lv_at hl 4 rfl) ?_
                refine lv_iload_n hx hb dX4_merge_144 rfl (lv_at hl 3 rfl) ?_
                refine m_run (va_runV (As := [.int (iI (ib : Int)), .int (iI (ia : Int))]) (rest := []) ⟨hx, hb, hml, hown, hts⟩ (k_X4_moves (l := l) hM hI (i := ib) (k := ia) (by omega) (by omega)) (cwV 2 hts gX4_merge_X4_moves rfl rfl rfl (by decide +kernel) ⟨by decide, by decide⟩) ⟨Kp.blind _ _ _ _ _, m_recv hK hB (ci := 4) rfl hM.1, fun U hU hW => hK.pass hB U hU hW⟩ rfl rfl hl.1 rfl (lv_room (Nat.le_of_ble_eq_true rfl)) dX4_merge_145 ⟨Nat.le_of_ble_eq_true rfl, Nat.le_of_ble_eq_true rfl⟩) hB (fun v u H locs hp_54 hB => ?_)
                obtain ⟨rfl, hM, hFm⟩ := hp_54
                show W _ _ _ _ _ _ _ _ _ _ _ _ _ _ _ (F0 m 148 ls [])
                have hF := hF.tr hFm
                obtain ⟨σ, eσ_55, hM, hI, e9⟩ : ∃ σ2 : Sg, σ2 = mvS σ ib ia 200 ∧ MR cI xm xa σ2 0 u ∧ Ib σ2 ∧ σ2 9 0 = σ 9 0 := ⟨_, rfl, hM, hI.mv (by omega) 200, mvS_g (by decide)⟩
                have hnp := hI.hnp
                have hnr := hI.hnr
                have hnrI := hI.nrI
                refine lv_aload_n hx hb dX4_merge_148 rfl (lv_at hl 2 rfl) ?_
                refine lv_iload_n hx hb dX4_merge_149 rfl (lv_at hl 3 rfl) ?_
                refine m_run (va_runV (As := [.int (iI (ia : Int))]) (rest := []) ⟨hx, hb, hml, hown, hts⟩ (k_X4_rowsOf (l := l) hM hI (i := ia) (by omega)) (cwV 1 hts gX4_merge_X4_rowsOf rfl rfl rfl (by decide +kernel) ⟨by decide, by decide⟩) ⟨Kp.blind _ _ _ _ _, m_recv hK hB (ci := 4) rfl hM.1, fun U hU hW => hK.pass hB U hU hW⟩ rfl rfl hl.1 rfl (lv_room (Nat.le_of_ble_eq_true rfl)) dX4_merge_150 ⟨Nat.le_of_ble_eq_true rfl, Nat.le_of_ble_eq_true rfl⟩) hB (fun v u H locs hp_56 hB => ?_)
                obtain ⟨rfl, rfl⟩ := hp_56
                show W _ _ _ _ _ _ _ _ _ _ _ _ _ _ _ (F0 m 153 ls [.int (iI (cnt (fun j => live σ j ∧ pn σ j = ia) (nrN σ)))])
                exact m_zret hx hb hr rfl hlocks hB (by decide) (by decide) dX4_merge_153 (by rw [← mv_st]; (repeat rw [Int.toNat_natCast]); subst eσ_55; subst eσ_53; subst eσ_52; exact Or.inl (⟨⟨hbb, hfv⟩, rfl, hM, hF⟩))

abbrev rmX4_detach : Room := { frames := 2, cells := 0, slots := 0, locals := 43 }
set_option maxHeartbeats 4000000 in
set_option maxRecDepth 100000 in
theorem k_X4_detach {l : Launch} {D : va_G} {z : Nat} {cI cP cR cJ : ClassId} {h0 : Hp} {xm : Nat} {xa : Nat → Nat} {σ : Sg} {th : Int} (hM : MR cI xm xa σ th h0) (hI : Ib σ) {n : Int} (rn : rg n) : Ct l D z (tyL cI cP cR cJ) yX4_detach wsX4_detach rmX4_detach [.ref xm, .int (iI n)] h0 (fun v u => ((isP σ n ∧ σ 4 n.toNat = 0) ∧ v = some (.int (iI (cnt (fun j => live (upS (upS σ 4 n.toNat 1) 11 0 1) j ∧ pn (upS (upS σ 4 n.toNat 1) 11 0 1) j = n.toNat) (nrN (upS (upS σ 4 n.toNat 1) 11 0 1))))) ∧ MR cI xm xa (upS (upS σ 4 n.toNat 1) 11 0 1) 0 u ∧ FrM h0 u) ∨ ((¬ isP σ n) ∧ v = some (.int (iI 0)) ∧ MR cI xm xa σ 1 u ∧ FrM h0 u) ∨ ((isP σ n ∧ σ 4 n.toNat ≠ 0) ∧ v = some (.int (iI 0)) ∧ MR cI xm xa σ 2 u ∧ FrM h0 u)) := by
  refine Ct.of (cc := cX4_detach) (maxL := 3) (ret := (some .int)) (by decide) rfl (Nat.le_of_ble_eq_true rfl) ?_
  intro p e s m args below meth c hx hb hr hts hown hlocks hml hnm hK hB ls hl
  have hl : lv_has ls 3 [(0, .ref xm), (1, .int (iI n))] := hl
  have hF := FrM.rf h0
  have hnp := hI.hnp
  have hnr := hI.hnr
  have hnrI := hI.nrI
  have hnpI := hI.npI
  have hre := hI.rest
  refine lv_aload_n hx hb dX4_detach_0 rfl (lv_at hl 0 rfl) ?_
  refine lv_iload_n hx hb dX4_detach_1 rfl (lv_at hl 1 rfl) ?_
  refine m_run (va_runV (As := [.int (iI n)]) (rest := []) ⟨hx, hb, hml, hown, hts⟩ (k_X4_isPart (l := l) hM hI ⟨by omega, by omega⟩) (cwV 1 hts gX4_detach_X4_isPart rfl rfl rfl (by decide +kernel) ⟨by decide, by decide⟩) ⟨Kp.blind _ _ _ _ _, m_recv hK hB (ci := 4) rfl hM.1, fun U hU hW => hK.pass hB U hU hW⟩ rfl rfl hl.1 rfl (lv_room (Nat.le_of_ble_eq_true rfl)) dX4_detach_2 ⟨Nat.le_of_ble_eq_true rfl, Nat.le_of_ble_eq_true rfl⟩) hB (fun v u H locs hp_1 hB => ?_)
  obtain ⟨rfl, rfl⟩ := hp_1
  show W _ _ _ _ _ _ _ _ _ _ _ _ _ _ _ (F0 m 5 ls [.int (iI (b2 (isP σ n)))])
  refine lv_istore_n (lv' := [(2, .int (iI (b2 (isP σ n)))), (0, .ref xm), (1, .int (iI n))]) hx hb dX4_detach_5 rfl hl (by decide) rfl (fun ls hl => ?_)
  refine lv_aload_n hx hb dX4_detach_6 rfl (lv_at hl 1 rfl) ?_
  refine lv_iload_n hx hb dX4_detach_7 rfl (lv_at hl 0 rfl) ?_
  refine j_ifneP (tgt := 15) hx hb dX4_detach_8 (by decide) (fun c_2 => ?_) (fun c_2 => ?_)
  · have hnn : 0 ≤ n := by have w := c_2; unfold isP at w; omega
    obtain ⟨ia, rfl⟩ : ∃ ia : Nat, n = (ia : Int) := ⟨n.toNat, by omega⟩
    have hp_ia := isP_i.mp c_2
    have hpt := hI.part ia (by omega)
    refine lv_aload_n hx hb dX4_detach_15 rfl (lv_at hl 1 rfl) ?_
    refine m_get hx hb hts (fun _ q => List.mem_cons_of_mem _ (List.mem_append_right _ q)) hown hK hB hM.1 (ci := 4) rfl 5 (by decide) (List.mem_of_getElem? (i := 1) rfl) rfl rfl dX4_detach_16 ?_
    refine lv_iload_n hx hb dX4_detach_19 rfl (lv_at hl 2 rfl) ?_
    refine m_mld hx hb hK hB hM 4 (by decide) (i := ia) (show ia < 16 by omega) dX4_detach_20 ?_
    refine j_iconst hx hb dX4_detach_21 ?_
    have bd_3 := hI.bd 4 ia
    refine j_icmp_ne (tgt := 29) hx hb dX4_detach_22 (by decide) ⟨by omega, by omega⟩ ⟨by decide, by decide⟩ (fun c_4 => ?_) (fun c_4 => ?_)
    · refine j_iconst hx hb dX4_detach_29 ?_
      refine m_run (va_runV (As := [.int (iI 0)]) (rest := []) ⟨hx, hb, hml, hown, hts⟩ (k_X4_isFine (l := l) (tc := 0) hM hI ⟨by decide, by decide⟩) (cwV 1 hts gX4_detach_X4_isFine rfl rfl rfl (by decide +kernel) ⟨by decide, by decide⟩) ⟨Kp.blind _ _ _ _ _, m_recv hK hB (ci := 4) rfl hM.1, fun U hU hW => hK.pass hB U hU hW⟩ rfl rfl hl.1 rfl (lv_room (Nat.le_of_ble_eq_true rfl)) dX4_detach_30 ⟨Nat.le_of_ble_eq_true rfl, Nat.le_of_ble_eq_true rfl⟩) hB (fun v u H locs hp_5 hB => ?_)
      obtain ⟨ev, hM, hFm⟩ := hp_5
      rw [b2_t (by decide)] at ev
      subst ev
      show W _ _ _ _ _ _ _ _ _ _ _ _ _ _ _ (F0 m 33 ls [.int (iI 1)])
      have hF := hF.tr hFm
      refine j_if_ne (tgt := 38) hx hb dX4_detach_33 (by decide) ⟨by decide, by decide⟩ (fun c_6 => ?_) (fun c_6 => absurd c_6 (by decide))
      have hl : lv_has ls 3 [(0, .ref xm), (1, .int (iI (ia : Int)))] := lv_sub hl [1, 2] rfl
      have h4z : σ 4 ia = 0 := by omega
      refine lv_aload_n hx hb dX4_detach_38 rfl (lv_at hl 0 rfl) ?_
      refine m_get hx hb hts (fun _ q => List.mem_cons_of_mem _ (List.mem_append_right _ q)) hown hK hB hM.1 (ci := 4) rfl 5 (by decide) (List.mem_of_getElem? (i := 1) rfl) rfl rfl dX4_detach_39 ?_
      refine lv_iload_n hx hb dX4_detach_42 rfl (lv_at hl 1 rfl) ?_
      refine j_iconst hx hb dX4_detach_43 ?_
      refine m_mst hx hb hK hB hM 4 (by decide) (i := ia) (v := 1) (show ia < 16 by omega) dX4_detach_44 (fun h1 H locs hM2 hF2 hB => ?_)
      obtain ⟨h2, σ, eσ_7, hM, hF, hB, hI, e9⟩ : ∃ (h2 : Hp) (σ2 : Sg), σ2 = upS σ 4 ia 1 ∧ MR cI xm xa σ2 0 h2 ∧ FrM h0 h2 ∧ Bk D z s.heap h2 H locs ∧ Ib σ2 ∧ σ2 9 0 = σ 9 0 := ⟨_, _, rfl, hM2, hF.tr hF2, hB, hI.st4 (by omega) (by omega), upS_g (by decide)⟩
      have hnp := hI.hnp
      have hnr := hI.hnr
      have hnrI := hI.nrI
      refine lv_aload_n hx hb dX4_detach_45 rfl (lv_at hl 0 rfl) ?_
      refine j_iconst hx hb dX4_detach_46 ?_
      refine m_put hx hb hts (fun _ q => List.mem_cons_of_mem _ (List.mem_append_right _ q)) tyX4 tyX4_ok nmX4 hown hK hB hM.1 (ci := 4) rfl 12 (by decide) (List.mem_of_getElem? (i := 2) rfl) rfl rfl (by decide) (by decide) (Nat.le_of_ble_eq_true rfl) dX4_detach_47 (fun H locs hB => ?_)
      obtain ⟨h2, σ, eσ_8, hM, hF, hB, hI, e9⟩ : ∃ (h2 : Hp) (σ2 : Sg), σ2 = upS σ 11 0 1 ∧ MR cI xm xa σ2 0 h2 ∧ FrM h0 h2 ∧ Bk D z s.heap h2 H locs ∧ Ib σ2 ∧ σ2 9 0 = σ 9 0 := ⟨_, _, rfl, hM.w11, hF.tr (FrM.up hM.1 (Or.inl rfl)), hB, hI.stale (by omega), upS_g (by decide)⟩
      have hnp := hI.hnp
      have hnr := hI.hnr
      have hnrI := hI.nrI
      refine lv_aload_n hx hb dX4_detach_50 rfl (lv_at hl 0 rfl) ?_
      refine lv_iload_n hx hb dX4_detach_51 rfl (lv_at hl 1 rfl) ?_
      refine m_run (va_runV (As := [.int (iI (ia : Int))]) (rest := []) ⟨hx, hb, hml, hown, hts⟩ (k_X4_rowsOf (l := l) hM hI (i := ia) (by omega)) (cwV 1 hts gX4_detach_X4_rowsOf rfl rfl rfl (by decide +kernel) ⟨by decide, by decide⟩) ⟨Kp.blind _ _ _ _ _, m_recv hK hB (ci := 4) rfl hM.1, fun U hU hW => hK.pass hB U hU hW⟩ rfl rfl hl.1 rfl (lv_room (Nat.le_of_ble_eq_true rfl)) dX4_detach_52 ⟨Nat.le_of_ble_eq_true rfl, Nat.le_of_ble_eq_true rfl⟩) hB (fun v u H locs hp_9 hB => ?_)
      obtain ⟨rfl, rfl⟩ := hp_9
      show W _ _ _ _ _ _ _ _ _ _ _ _ _ _ _ (F0 m 55 ls [.int (iI (cnt (fun j => live σ j ∧ pn σ j = ia) (nrN σ)))])
      exact m_zret hx hb hr rfl hlocks hB (by decide) (by decide) dX4_detach_55 (by (repeat rw [Int.toNat_natCast]); subst eσ_8; subst eσ_7; exact Or.inl (⟨⟨c_2, h4z⟩, rfl, hM, hF⟩))
    · refine j_iconst hx hb dX4_detach_25 ?_
      refine lv_goto (tgt := 30) hx hb dX4_detach_26 (by decide) ?_
      refine m_run (va_runV (As := [.int (iI 2)]) (rest := []) ⟨hx, hb, hml, hown, hts⟩ (k_X4_isFine (l := l) (tc := 2) hM hI ⟨by decide, by decide⟩) (cwV 1 hts gX4_detach_X4_isFine rfl rfl rfl (by decide +kernel) ⟨by decide, by decide⟩) ⟨Kp.blind _ _ _ _ _, m_recv hK hB (ci := 4) rfl hM.1, fun U hU hW => hK.pass hB U hU hW⟩ rfl rfl hl.1 rfl (lv_room (Nat.le_of_ble_eq_true rfl)) dX4_detach_30 ⟨Nat.le_of_ble_eq_true rfl, Nat.le_of_ble_eq_true rfl⟩) hB (fun v u H locs hp_10 hB => ?_)
      obtain ⟨ev, hM, hFm⟩ := hp_10
      rw [b2_f (by decide)] at ev
      subst ev
      show W _ _ _ _ _ _ _ _ _ _ _ _ _ _ _ (F0 m 33 ls [.int (iI 0)])
      have hF := hF.tr hFm
      refine j_if_ne (tgt := 38) hx hb dX4_detach_33 (by decide) ⟨by decide, by decide⟩ (fun c_11 => absurd c_11 (by decide)) (fun c_11 => ?_)
      refine j_iconst hx hb dX4_detach_36 ?_
      exact m_zret hx hb hr rfl hlocks hB (by decide) (by decide) dX4_detach_37 (by (repeat rw [Int.toNat_natCast]); exact Or.inr (Or.inr (⟨⟨c_2, by omega⟩, rfl, hM, hF⟩)))
  · refine j_iconst hx hb dX4_detach_11 ?_
    refine lv_goto (tgt := 30) hx hb dX4_detach_12 (by decide) ?_
    refine m_run (va_runV (As := [.int (iI 1)]) (rest := []) ⟨hx, hb, hml, hown, hts⟩ (k_X4_isFine (l := l) (tc := 1) hM hI ⟨by decide, by decide⟩) (cwV 1 hts gX4_detach_X4_isFine rfl rfl rfl (by decide +kernel) ⟨by decide, by decide⟩) ⟨Kp.blind _ _ _ _ _, m_recv hK hB (ci := 4) rfl hM.1, fun U hU hW => hK.pass hB U hU hW⟩ rfl rfl hl.1 rfl (lv_room (Nat.le_of_ble_eq_true rfl)) dX4_detach_30 ⟨Nat.le_of_ble_eq_true rfl, Nat.le_of_ble_eq_true rfl⟩) hB (fun v u H locs hp_12 hB => ?_)
    obtain ⟨ev, hM, hFm⟩ := hp_12
    rw [b2_f (by decide)] at ev
    subst ev
    show W _ _ _ _ _ _ _ _ _ _ _ _ _ _ _ (F0 m 33 ls [.int (iI 0)])
    have hF := hF.tr hFm
    refine j_if_ne (tgt := 38) hx hb dX4_detach_33 (by decide) ⟨by decide, by decide⟩ (fun c_13 => absurd c_13 (by decide)) (fun c_13 => ?_)
    refine j_iconst hx hb dX4_detach_36 ?_
    exact m_zret hx hb hr rfl hlocks hB (by decide) (by decide) dX4_detach_37 (by (repeat rw [Int.toNat_natCast]); exact Or.inr (Or.inl (⟨c_2, rfl, hM, hF⟩)))

abbrev rmX4_attach : Room := { frames := 2, cells := 0, slots := 0, locals := 46 }
set_option maxHeartbeats 4000000 in
set_option maxRecDepth 100000 in
theorem k_X4_attach {l : Launch} {D : va_G} {z : Nat} {cI cP cR cJ : ClassId} {h0 : Hp} {xm : Nat} {xa : Nat → Nat} {σ : Sg} {th : Int} (hM : MR cI xm xa σ th h0) (hI : Ib σ) {n : Int} (rn : rg n) : Ct l D z (tyL cI cP cR cJ) yX4_attach wsX4_attach rmX4_attach [.ref xm, .int (iI n)] h0 (fun v u => ((isP σ n ∧ (σ 4 n.toNat = 1 ∧ ¬ ovl σ (σ 0 n.toNat) (σ 1 n.toNat) ∧ ¬ inR σ (σ 0 n.toNat) (σ 1 n.toNat))) ∧ v = some (.int (iI (cnt (fun j => live (upS (upS σ 4 n.toNat 0) 11 0 1) j ∧ pn (upS (upS σ 4 n.toNat 0) 11 0 1) j = n.toNat) (nrN (upS (upS σ 4 n.toNat 0) 11 0 1))))) ∧ MR cI xm xa (upS (upS σ 4 n.toNat 0) 11 0 1) 0 u ∧ FrM h0 u) ∨ ((¬ isP σ n) ∧ v = some (.int (iI 0)) ∧ MR cI xm xa σ 1 u ∧ FrM h0 u) ∨ ((isP σ n ∧ ¬ (σ 4 n.toNat = 1 ∧ ¬ ovl σ (σ 0 n.toNat) (σ 1 n.toNat) ∧ ¬ inR σ (σ 0 n.toNat) (σ 1 n.toNat))) ∧ v = some (.int (iI 0)) ∧ MR cI xm xa σ 2 u ∧ FrM h0 u)) := by
  refine Ct.of (cc := cX4_attach) (maxL := 3) (ret := (some .int)) (by decide) rfl (Nat.le_of_ble_eq_true rfl) ?_
  intro p e s m args below meth c hx hb hr hts hown hlocks hml hnm hK hB ls hl
  have hl : lv_has ls 3 [(0, .ref xm), (1, .int (iI n))] := hl
  have hF := FrM.rf h0
  have hnp := hI.hnp
  have hnr := hI.hnr
  have hnrI := hI.nrI
  have hnpI := hI.npI
  have hre := hI.rest
  refine lv_aload_n hx hb dX4_attach_0 rfl (lv_at hl 0 rfl) ?_
  refine lv_iload_n hx hb dX4_attach_1 rfl (lv_at hl 1 rfl) ?_
  refine m_run (va_runV (As := [.int (iI n)]) (rest := []) ⟨hx, hb, hml, hown, hts⟩ (k_X4_isPart (l := l) hM hI ⟨by omega, by omega⟩) (cwV 1 hts gX4_attach_X4_isPart rfl rfl rfl (by decide +kernel) ⟨by decide, by decide⟩) ⟨Kp.blind _ _ _ _ _, m_recv hK hB (ci := 4) rfl hM.1, fun U hU hW => hK.pass hB U hU hW⟩ rfl rfl hl.1 rfl (lv_room (Nat.le_of_ble_eq_true rfl)) dX4_attach_2 ⟨Nat.le_of_ble_eq_true rfl, Nat.le_of_ble_eq_true rfl⟩) hB (fun v u H locs hp_1 hB => ?_)
  obtain ⟨rfl, rfl⟩ := hp_1
  show W _ _ _ _ _ _ _ _ _ _ _ _ _ _ _ (F0 m 5 ls [.int (iI (b2 (isP σ n)))])
  refine lv_istore_n (lv' := [(2, .int (iI (b2 (isP σ n)))), (0, .ref xm), (1, .int (iI n))]) hx hb dX4_attach_5 rfl hl (by decide) rfl (fun ls hl => ?_)
  refine lv_aload_n hx hb dX4_attach_6 rfl (lv_at hl 1 rfl) ?_
  refine lv_iload_n hx hb dX4_attach_7 rfl (lv_at hl 0 rfl) ?_
  refine j_ifneP (tgt := 15) hx hb dX4_attach_8 (by decide) (fun c_2 => ?_) (fun c_2 => ?_)
  · have hnn : 0 ≤ n := by have w := c_2; unfold isP at w; omega
    obtain ⟨ia, rfl⟩ : ∃ ia : Nat, n = (ia : Int) := ⟨n.toNat, by omega⟩
    have hp_ia := isP_i.mp c_2
    have hpt := hI.part ia (by omega)
    refine lv_aload_n hx hb dX4_attach_15 rfl (lv_at hl 1 rfl) ?_
    refine m_get hx hb hts (fun _ q => List.mem_cons_of_mem _ (List.mem_append_right _ q)) hown hK hB hM.1 (ci := 4) rfl 5 (by decide) (List.mem_of_getElem? (i := 1) rfl) rfl rfl dX4_attach_16 ?_
    refine lv_iload_n hx hb dX4_attach_19 rfl (lv_at hl 2 rfl) ?_
    refine m_mld hx hb hK hB hM 4 (by decide) (i := ia) (show ia < 16 by omega) dX4_attach_20 ?_
    have bd_4 := hI.bd 4 ia
    refine j_if_eq (tgt := 62) hx hb dX4_attach_21 (by decide) ⟨by omega, by omega⟩ (fun c_3 => ?_) (fun c_3 => ?_)
    · refine j_iconst hx hb dX4_attach_62 ?_
      refine lv_goto (tgt := 67) hx hb dX4_attach_63 (by decide) ?_
      refine m_run (va_runV (As := [.int (iI 2)]) (rest := []) ⟨hx, hb, hml, hown, hts⟩ (k_X4_isFine (l := l) (tc := 2) hM hI ⟨by decide, by decide⟩) (cwV 1 hts gX4_attach_X4_isFine rfl rfl rfl (by decide +kernel) ⟨by decide, by decide⟩) ⟨Kp.blind _ _ _ _ _, m_recv hK hB (ci := 4) rfl hM.1, fun U hU hW => hK.pass hB U hU hW⟩ rfl rfl hl.1 rfl (lv_room (Nat.le_of_ble_eq_true rfl)) dX4_attach_67 ⟨Nat.le_of_ble_eq_true rfl, Nat.le_of_ble_eq_true rfl⟩) hB (fun v u H locs hp_5 hB => ?_)
      obtain ⟨ev, hM, hFm⟩ := hp_5
      rw [b2_f (by decide)] at ev
      subst ev
      show W _ _ _ _ _ _ _ _ _ _ _ _ _ _ _ (F0 m 70 ls [.int (iI 0)])
      have hF := hF.tr hFm
      refine j_if_ne (tgt := 75) hx hb dX4_attach_70 (by decide) ⟨by decide, by decide⟩ (fun c_6 => absurd c_6 (by decide)) (fun c_6 => ?_)
      refine j_iconst hx hb dX4_attach_73 ?_
      exact m_zret hx hb hr rfl hlocks hB (by decide) (by decide) dX4_attach_74 (by (repeat rw [Int.toNat_natCast]); exact Or.inr (Or.inr (⟨⟨c_2, fun q => by have := q.1; omega⟩, rfl, hM, hF⟩)))
    · refine lv_aload_n hx hb dX4_attach_24 rfl (lv_at hl 1 rfl) ?_
      refine lv_aload_n hx hb dX4_attach_25 rfl (lv_at hl 1 rfl) ?_
      refine m_get hx hb hts (fun _ q => List.mem_cons_of_mem _ (List.mem_append_right _ q)) hown hK hB hM.1 (ci := 4) rfl 1 (by decide) (List.mem_of_getElem? (i := 2) rfl) rfl rfl dX4_attach_26 ?_
      refine lv_iload_n hx hb dX4_attach_29 rfl (lv_at hl 2 rfl) ?_
      refine m_mld hx hb hK hB hM 0 (by decide) (i := ia) (show ia < 16 by omega) dX4_attach_30 ?_
      refine lv_aload_n hx hb dX4_attach_31 rfl (lv_at hl 1 rfl) ?_
      refine m_get hx hb hts (fun _ q => List.mem_cons_of_mem _ (List.mem_append_right _ q)) hown hK hB hM.1 (ci := 4) rfl 2 (by decide) (List.mem_of_getElem? (i := 3) rfl) rfl rfl dX4_attach_32 ?_
      refine lv_iload_n hx hb dX4_attach_35 rfl (lv_at hl 2 rfl) ?_
      refine m_mld hx hb hK hB hM 1 (by decide) (i := ia) (show ia < 16 by omega) dX4_attach_36 ?_
      have bd_7 := hI.bd 0 ia
      have bd_8 := hI.bd 1 ia
      refine m_run (va_runV (As := [.int (iI (σ 0 ia)), .int (iI (σ 1 ia))]) (rest := [.ref xm]) ⟨hx, hb, hml, hown, hts⟩ (k_X4_overlaps (l := l) hM hI ⟨by omega, by omega⟩ ⟨by omega, by omega⟩) (cwV 2 hts gX4_attach_X4_overlaps rfl rfl rfl (by decide +kernel) ⟨by decide, by decide⟩) ⟨Kp.blind _ _ _ _ _, m_recv hK hB (ci := 4) rfl hM.1, fun U hU hW => hK.pass hB U hU hW⟩ rfl rfl hl.1 rfl (lv_room (Nat.le_of_ble_eq_true rfl)) dX4_attach_37 ⟨Nat.le_of_ble_eq_true rfl, Nat.le_of_ble_eq_true rfl⟩) hB (fun v u H locs hp_9 hB => ?_)
      obtain ⟨rfl, rfl⟩ := hp_9
      show W _ _ _ _ _ _ _ _ _ _ _ _ _ _ _ (F0 m 40 ls [.int (iI (b2 (ovl σ (σ 0 ia) (σ 1 ia)))), .ref xm])
      refine j_ifneP (tgt := 62) hx hb dX4_attach_40 (by decide) (fun c_10 => ?_) (fun c_10 => ?_)
      · refine j_iconst hx hb dX4_attach_62 ?_
        refine lv_goto (tgt := 67) hx hb dX4_attach_63 (by decide) ?_
        refine m_run (va_runV (As := [.int (iI 2)]) (rest := []) ⟨hx, hb, hml, hown, hts⟩ (k_X4_isFine (l := l) (tc := 2) hM hI ⟨by decide, by decide⟩) (cwV 1 hts gX4_attach_X4_isFine rfl rfl rfl (by decide +kernel) ⟨by decide, by decide⟩) ⟨Kp.blind _ _ _ _ _, m_recv hK hB (ci := 4) rfl hM.1, fun U hU hW => hK.pass hB U hU hW⟩ rfl rfl hl.1 rfl (lv_room (Nat.le_of_ble_eq_true rfl)) dX4_attach_67 ⟨Nat.le_of_ble_eq_true rfl, Nat.le_of_ble_eq_true rfl⟩) hB (fun v u H locs hp_11 hB => ?_)
        obtain ⟨ev, hM, hFm⟩ := hp_11
        rw [b2_f (by decide)] at ev
        subst ev
        show W _ _ _ _ _ _ _ _ _ _ _ _ _ _ _ (F0 m 70 ls [.int (iI 0)])
        have hF := hF.tr hFm
        refine j_if_ne (tgt := 75) hx hb dX4_attach_70 (by decide) ⟨by decide, by decide⟩ (fun c_12 => absurd c_12 (by decide)) (fun c_12 => ?_)
        refine j_iconst hx hb dX4_attach_73 ?_
        exact m_zret hx hb hr rfl hlocks hB (by decide) (by decide) dX4_attach_74 (by (repeat rw [Int.toNat_natCast]); exact Or.inr (Or.inr (⟨⟨c_2, fun q => q.2.1 c_10⟩, rfl, hM, hF⟩)))
      · refine lv_aload_n hx hb dX4_attach_43 rfl (lv_at hl 1 rfl) ?_
        refine lv_aload_n hx hb dX4_attach_44 rfl (lv_at hl 1 rfl) ?_
        refine m_get hx hb hts (fun _ q => List.mem_cons_of_mem _ (List.mem_append_right _ q)) hown hK hB hM.1 (ci := 4) rfl 1 (by decide) (List.mem_of_getElem? (i := 2) rfl) rfl rfl dX4_attach_45 ?_
        refine lv_iload_n hx hb dX4_attach_48 rfl (lv_at hl 2 rfl) ?_
        refine m_mld hx hb hK hB hM 0 (by decide) (i := ia) (show ia < 16 by omega) dX4_attach_49 ?_
        refine lv_aload_n hx hb dX4_attach_50 rfl (lv_at hl 1 rfl) ?_
        refine m_get hx hb hts (fun _ q => List.mem_cons_of_mem _ (List.mem_append_right _ q)) hown hK hB hM.1 (ci := 4) rfl 2 (by decide) (List.mem_of_getElem? (i := 3) rfl) rfl rfl dX4_attach_51 ?_
        refine lv_iload_n hx hb dX4_attach_54 rfl (lv_at hl 2 rfl) ?_
        refine m_mld hx hb hK hB hM 1 (by decide) (i := ia) (show ia < 16 by omega) dX4_attach_55 ?_
        refine m_run (va_runV (As := [.int (iI (σ 0 ia)), .int (iI (σ 1 ia))]) (rest := [.ref xm]) ⟨hx, hb, hml, hown, hts⟩ (k_X4_isInRest (l := l) hM hI ⟨by omega, by omega⟩ (by omega)) (cwV 2 hts gX4_attach_X4_isInRest rfl rfl rfl (by decide +kernel) ⟨by decide, by decide⟩) ⟨Kp.blind _ _ _ _ _, m_recv hK hB (ci := 4) rfl hM.1, fun U hU hW => hK.pass hB U hU hW⟩ rfl rfl hl.1 rfl (lv_room (Nat.le_of_ble_eq_true rfl)) dX4_attach_56 ⟨Nat.le_of_ble_eq_true rfl, Nat.le_of_ble_eq_true rfl⟩) hB (fun v u H locs hp_13 hB => ?_)
        obtain ⟨rfl, rfl⟩ := hp_13
        show W _ _ _ _ _ _ _ _ _ _ _ _ _ _ _ (F0 m 59 ls [.int (iI (b2 (inR σ (σ 0 ia) (σ 1 ia)))), .ref xm])
        refine j_ifeqP (tgt := 66) hx hb dX4_attach_59 (by decide) (fun c_14 => ?_) (fun c_14 => ?_)
        · refine j_iconst hx hb dX4_attach_66 ?_
          refine m_run (va_runV (As := [.int (iI 0)]) (rest := []) ⟨hx, hb, hml, hown, hts⟩ (k_X4_isFine (l := l) (tc := 0) hM hI ⟨by decide, by decide⟩) (cwV 1 hts gX4_attach_X4_isFine rfl rfl rfl (by decide +kernel) ⟨by decide, by decide⟩) ⟨Kp.blind _ _ _ _ _, m_recv hK hB (ci := 4) rfl hM.1, fun U hU hW => hK.pass hB U hU hW⟩ rfl rfl hl.1 rfl (lv_room (Nat.le_of_ble_eq_true rfl)) dX4_attach_67 ⟨Nat.le_of_ble_eq_true rfl, Nat.le_of_ble_eq_true rfl⟩) hB (fun v u H locs hp_15 hB => ?_)
          obtain ⟨ev, hM, hFm⟩ := hp_15
          rw [b2_t (by decide)] at ev
          subst ev
          show W _ _ _ _ _ _ _ _ _ _ _ _ _ _ _ (F0 m 70 ls [.int (iI 1)])
          have hF := hF.tr hFm
          refine j_if_ne (tgt := 75) hx hb dX4_attach_70 (by decide) ⟨by decide, by decide⟩ (fun c_16 => ?_) (fun c_16 => absurd c_16 (by decide))
          have hl : lv_has ls 3 [(0, .ref xm), (1, .int (iI (ia : Int)))] := lv_sub hl [1, 2] rfl
          have h4z : σ 4 ia = 1 := by omega
          refine lv_aload_n hx hb dX4_attach_75 rfl (lv_at hl 0 rfl) ?_
          refine m_get hx hb hts (fun _ q => List.mem_cons_of_mem _ (List.mem_append_right _ q)) hown hK hB hM.1 (ci := 4) rfl 5 (by decide) (List.mem_of_getElem? (i := 1) rfl) rfl rfl dX4_attach_76 ?_
          refine lv_iload_n hx hb dX4_attach_79 rfl (lv_at hl 1 rfl) ?_
          refine j_iconst hx hb dX4_attach_80 ?_
          refine m_mst hx hb hK hB hM 4 (by decide) (i := ia) (v := 0) (show ia < 16 by omega) dX4_attach_81 (fun h1 H locs hM2 hF2 hB => ?_)
          obtain ⟨h2, σ, eσ_17, hM, hF, hB, hI, e9⟩ : ∃ (h2 : Hp) (σ2 : Sg), σ2 = upS σ 4 ia 0 ∧ MR cI xm xa σ2 0 h2 ∧ FrM h0 h2 ∧ Bk D z s.heap h2 H locs ∧ Ib σ2 ∧ σ2 9 0 = σ 9 0 := ⟨_, _, rfl, hM2, hF.tr hF2, hB, hI.st4 (by omega) (by omega), upS_g (by decide)⟩
          have hnp := hI.hnp
          have hnr := hI.hnr
          have hnrI := hI.nrI
          refine lv_aload_n hx hb dX4_attach_82 rfl (lv_at hl 0 rfl) ?_
          refine j_iconst hx hb dX4_attach_83 ?_
          refine m_put hx hb hts (fun _ q => List.mem_cons_of_mem _ (List.mem_append_right _ q)) tyX4 tyX4_ok nmX4 hown hK hB hM.1 (ci := 4) rfl 12 (by decide) (List.mem_of_getElem? (i := 4) rfl) rfl rfl (by decide) (by decide) (Nat.le_of_ble_eq_true rfl) dX4_attach_84 (fun H locs hB => ?_)
          obtain ⟨h2, σ, eσ_18, hM, hF, hB, hI, e9⟩ : ∃ (h2 : Hp) (σ2 : Sg), σ2 = upS σ 11 0 1 ∧ MR cI xm xa σ2 0 h2 ∧ FrM h0 h2 ∧ Bk D z s.heap h2 H locs ∧ Ib σ2 ∧ σ2 9 0 = σ 9 0 := ⟨_, _, rfl, hM.w11, hF.tr (FrM.up hM.1 (Or.inl rfl)), hB, hI.stale (by omega), upS_g (by decide)⟩
          have hnp := hI.hnp
          have hnr := hI.hnr
          have hnrI := hI.nrI
          refine lv_aload_n hx hb dX4_attach_87 rfl (lv_at hl 0 rfl) ?_
          refine lv_iload_n hx hb dX4_attach_88 rfl (lv_at hl 1 rfl) ?_
          refine m_run (va_runV (As := [.int (iI (ia : Int))]) (rest := []) ⟨hx, hb, hml, hown, hts⟩ (k_X4_rowsOf (l := l) hM hI (i := ia) (by omega)) (cwV 1 hts gX4_attach_X4_rowsOf rfl rfl rfl (by decide +kernel) ⟨by decide, by decide⟩) ⟨Kp.blind _ _ _ _ _, m_recv hK hB (ci := 4) rfl hM.1, fun U hU hW => hK.pass hB U hU hW⟩ rfl rfl hl.1 rfl (lv_room (Nat.le_of_ble_eq_true rfl)) dX4_attach_89 ⟨Nat.le_of_ble_eq_true rfl, Nat.le_of_ble_eq_true rfl⟩) hB (fun v u H locs hp_19 hB => ?_)
          obtain ⟨rfl, rfl⟩ := hp_19
          show W _ _ _ _ _ _ _ _ _ _ _ _ _ _ _ (F0 m 92 ls [.int (iI (cnt (fun j => live σ j ∧ pn σ j = ia) (nrN σ)))])
          exact m_zret hx hb hr rfl hlocks hB (by decide) (by decide) dX4_attach_92 (by (repeat rw [Int.toNat_natCast]); subst eσ_18; subst eσ_17; exact Or.inl (⟨⟨c_2, h4z, c_10, c_14⟩, rfl, hM, hF⟩))
        · refine j_iconst hx hb dX4_attach_62 ?_
          refine lv_goto (tgt := 67) hx hb dX4_attach_63 (by decide) ?_
          refine m_run (va_runV (As := [.int (iI 2)]) (rest := []) ⟨hx, hb, hml, hown, hts⟩ (k_X4_isFine (l := l) (tc := 2) hM hI ⟨by decide, by decide⟩) (cwV 1 hts gX4_attach_X4_isFine rfl rfl rfl (by decide +kernel) ⟨by decide, by decide⟩) ⟨Kp.blind _ _ _ _ _, m_recv hK hB (ci := 4) rfl hM.1, fun U hU hW => hK.pass hB U hU hW⟩ rfl rfl hl.1 rfl (lv_room (Nat.le_of_ble_eq_true rfl)) dX4_attach_67 ⟨Nat.le_of_ble_eq_true rfl, Nat.le_of_ble_eq_true rfl⟩) hB (fun v u H locs hp_20 hB => ?_)
          obtain ⟨ev, hM, hFm⟩ := hp_20
          rw [b2_f (by decide)] at ev
          subst ev
          show W _ _ _ _ _ _ _ _ _ _ _ _ _ _ _ (F0 m 70 ls [.int (iI 0)])
          have hF := hF.tr hFm
          refine j_if_ne (tgt := 75) hx hb dX4_attach_70 (by decide) ⟨by decide, by decide⟩ (fun c_21 => absurd c_21 (by decide)) (fun c_21 => ?_)
          refine j_iconst hx hb dX4_attach_73 ?_
          exact m_zret hx hb hr rfl hlocks hB (by decide) (by decide) dX4_attach_74 (by (repeat rw [Int.toNat_natCast]); exact Or.inr (Or.inr (⟨⟨c_2, fun q => q.2.2 c_14⟩, rfl, hM, hF⟩)))
  · refine j_iconst hx hb dX4_attach_11 ?_
    refine lv_goto (tgt := 67) hx hb dX4_attach_12 (by decide) ?_
    refine m_run (va_runV (As := [.int (iI 1)]) (rest := []) ⟨hx, hb, hml, hown, hts⟩ (k_X4_isFine (l := l) (tc := 1) hM hI ⟨by decide, by decide⟩) (cwV 1 hts gX4_attach_X4_isFine rfl rfl rfl (by decide +kernel) ⟨by decide, by decide⟩) ⟨Kp.blind _ _ _ _ _, m_recv hK hB (ci := 4) rfl hM.1, fun U hU hW => hK.pass hB U hU hW⟩ rfl rfl hl.1 rfl (lv_room (Nat.le_of_ble_eq_true rfl)) dX4_attach_67 ⟨Nat.le_of_ble_eq_true rfl, Nat.le_of_ble_eq_true rfl⟩) hB (fun v u H locs hp_22 hB => ?_)
    obtain ⟨ev, hM, hFm⟩ := hp_22
    rw [b2_f (by decide)] at ev
    subst ev
    show W _ _ _ _ _ _ _ _ _ _ _ _ _ _ _ (F0 m 70 ls [.int (iI 0)])
    have hF := hF.tr hFm
    refine j_if_ne (tgt := 75) hx hb dX4_attach_70 (by decide) ⟨by decide, by decide⟩ (fun c_23 => absurd c_23 (by decide)) (fun c_23 => ?_)
    refine j_iconst hx hb dX4_attach_73 ?_
    exact m_zret hx hb hr rfl hlocks hB (by decide) (by decide) dX4_attach_74 (by (repeat rw [Int.toNat_natCast]); exact Or.inr (Or.inl (⟨c_2, rfl, hM, hF⟩)))

abbrev rmX4_exchange : Room := { frames := 3, cells := 0, slots := 0, locals := 68 }
set_option maxHeartbeats 4000000 in
set_option maxRecDepth 100000 in
theorem k_X4_exchange {l : Launch} {D : va_G} {z : Nat} {cI cP cR cJ : ClassId} {h0 : Hp} {xm : Nat} {xa : Nat → Nat} {σ : Sg} {th : Int} (hM : MR cI xm xa σ th h0) (hI : Ib σ) {n n2 : Int} (rn : rg n) (rn2 : rg n2) : Ct l D z (tyL cI cP cR cJ) yX4_exchange wsX4_exchange rmX4_exchange [.ref xm, .int (iI n), .int (iI n2)] h0 (fun v u => (((isP σ n ∧ isP σ n2) ∧ (σ 4 n.toNat = 0 ∧ σ 4 n2.toNat = 1 ∧ ¬ forn σ n.toNat n2.toNat ∧ ¬ forn σ n2.toNat n.toNat)) ∧ v = some (.int (iI (cnt (fun j => live (upS (swS σ n.toNat n2.toNat 200) 11 0 1) j ∧ pn (upS (swS σ n.toNat n2.toNat 200) 11 0 1) j = n.toNat) (nrN (upS (swS σ n.toNat n2.toNat 200) 11 0 1))))) ∧ MR cI xm xa (upS (swS σ n.toNat n2.toNat 200) 11 0 1) 0 u ∧ FrM h0 u) ∨ ((¬ (isP σ n ∧ isP σ n2)) ∧ v = some (.int (iI 0)) ∧ MR cI xm xa σ 1 u ∧ FrM h0 u) ∨ (((isP σ n ∧ isP σ n2) ∧ ¬ (σ 4 n.toNat = 0 ∧ σ 4 n2.toNat = 1 ∧ ¬ forn σ n.toNat n2.toNat ∧ ¬ forn σ n2.toNat n.toNat)) ∧ v = some (.int (iI 0)) ∧ MR cI xm xa σ 2 u ∧ FrM h0 u)) := by
  refine Ct.of (cc := cX4_exchange) (maxL := 7) (ret := (some .int)) (by decide) rfl (Nat.le_of_ble_eq_true rfl) ?_
  intro p e s m args below meth c hx hb hr hts hown hlocks hml hnm hK hB ls hl
  have hl : lv_has ls 7 [(0, .ref xm), (1, .int (iI n)), (2, .int (iI n2))] := hl
  have hF := FrM.rf h0
  have hnp := hI.hnp
  have hnr := hI.hnr
  have hnrI := hI.nrI
  have hnpI := hI.npI
  have hre := hI.rest
  refine lv_aload_n hx hb dX4_exchange_0 rfl (lv_at hl 0 rfl) ?_
  refine lv_iload_n hx hb dX4_exchange_1 rfl (lv_at hl 1 rfl) ?_
  refine m_run (va_runV (As := [.int (iI n)]) (rest := []) ⟨hx, hb, hml, hown, hts⟩ (k_X4_isPart (l := l) hM hI ⟨by omega, by omega⟩) (cwV 1 hts gX4_exchange_X4_isPart rfl rfl rfl (by decide +kernel) ⟨by decide, by decide⟩) ⟨Kp.blind _ _ _ _ _, m_recv hK hB (ci := 4) rfl hM.1, fun U hU hW => hK.pass hB U hU hW⟩ rfl rfl hl.1 rfl (lv_room (Nat.le_of_ble_eq_true rfl)) dX4_exchange_2 ⟨Nat.le_of_ble_eq_true rfl, Nat.le_of_ble_eq_true rfl⟩) hB (fun v u H locs hp_1 hB => ?_)
  obtain ⟨rfl, rfl⟩ := hp_1
  show W _ _ _ _ _ _ _ _ _ _ _ _ _ _ _ (F0 m 5 ls [.int (iI (b2 (isP σ n)))])
  refine j_ifeqP (tgt := 20) hx hb dX4_exchange_5 (by decide) (fun c_2 => ?_) (fun c_2 => ?_)
  · refine j_iconst hx hb dX4_exchange_20 ?_
    refine lv_istore_n (lv' := [(3, .int (iI 0)), (0, .ref xm), (1, .int (iI n)), (2, .int (iI n2))]) hx hb dX4_exchange_21 rfl hl (by decide) rfl (fun ls hl => ?_)
    refine lv_iload_n hx hb dX4_exchange_22 rfl (lv_at hl 0 rfl) ?_
    refine j_if_eq (tgt := 67) hx hb dX4_exchange_23 (by decide) ⟨by decide, by decide⟩ (fun c_3 => ?_) (fun c_3 => absurd c_3 (by decide))
    refine j_iconst hx hb dX4_exchange_67 ?_
    refine lv_istore (lv' := [(4, .int (iI 0)), (3, .int (iI 0)), (0, .ref xm), (1, .int (iI n)), (2, .int (iI n2))]) hx hb dX4_exchange_68 hl (by decide) rfl (fun ls hl => ?_)
    refine lv_aload_n hx hb dX4_exchange_70 rfl (lv_at hl 2 rfl) ?_
    refine lv_iload_n hx hb dX4_exchange_71 rfl (lv_at hl 1 rfl) ?_
    refine j_if_ne (tgt := 79) hx hb dX4_exchange_72 (by decide) ⟨by decide, by decide⟩ (fun c_4 => absurd c_4 (by decide)) (fun c_4 => ?_)
    refine j_iconst hx hb dX4_exchange_75 ?_
    refine lv_goto (tgt := 89) hx hb dX4_exchange_76 (by decide) ?_
    refine m_run (va_runV (As := [.int (iI 1)]) (rest := []) ⟨hx, hb, hml, hown, hts⟩ (k_X4_isFine (l := l) (tc := 1) hM hI ⟨by decide, by decide⟩) (cwV 1 hts gX4_exchange_X4_isFine rfl rfl rfl (by decide +kernel) ⟨by decide, by decide⟩) ⟨Kp.blind _ _ _ _ _, m_recv hK hB (ci := 4) rfl hM.1, fun U hU hW => hK.pass hB U hU hW⟩ rfl rfl hl.1 rfl (lv_room (Nat.le_of_ble_eq_true rfl)) dX4_exchange_89 ⟨Nat.le_of_ble_eq_true rfl, Nat.le_of_ble_eq_true rfl⟩) hB (fun v u H locs hp_5 hB => ?_)
    obtain ⟨ev, hM, hFm⟩ := hp_5
    rw [b2_f (by decide)] at ev
    subst ev
    show W _ _ _ _ _ _ _ _ _ _ _ _ _ _ _ (F0 m 92 ls [.int (iI 0)])
    have hF := hF.tr hFm
    refine j_if_ne (tgt := 97) hx hb dX4_exchange_92 (by decide) ⟨by decide, by decide⟩ (fun c_6 => absurd c_6 (by decide)) (fun c_6 => ?_)
    refine j_iconst hx hb dX4_exchange_95 ?_
    exact m_zret hx hb hr rfl hlocks hB (by decide) (by decide) dX4_exchange_96 (by (repeat rw [Int.toNat_natCast]); exact Or.inr (Or.inl (⟨fun q => c_2 q.1, rfl, hM, hF⟩)))
  · refine lv_aload_n hx hb dX4_exchange_8 rfl (lv_at hl 0 rfl) ?_
    refine lv_iload_n hx hb dX4_exchange_9 rfl (lv_at hl 2 rfl) ?_
    refine m_run (va_runV (As := [.int (iI n2)]) (rest := []) ⟨hx, hb, hml, hown, hts⟩ (k_X4_isPart (l := l) hM hI ⟨by omega, by omega⟩) (cwV 1 hts gX4_exchange_X4_isPart rfl rfl rfl (by decide +kernel) ⟨by decide, by decide⟩) ⟨Kp.blind _ _ _ _ _, m_recv hK hB (ci := 4) rfl hM.1, fun U hU hW => hK.pass hB U hU hW⟩ rfl rfl hl.1 rfl (lv_room (Nat.le_of_ble_eq_true rfl)) dX4_exchange_10 ⟨Nat.le_of_ble_eq_true rfl, Nat.le_of_ble_eq_true rfl⟩) hB (fun v u H locs hp_7 hB => ?_)
    obtain ⟨rfl, rfl⟩ := hp_7
    show W _ _ _ _ _ _ _ _ _ _ _ _ _ _ _ (F0 m 13 ls [.int (iI (b2 (isP σ n2)))])
    refine j_ifeqP (tgt := 20) hx hb dX4_exchange_13 (by decide) (fun c_8 => ?_) (fun c_8 => ?_)
    · refine j_iconst hx hb dX4_exchange_20 ?_
      refine lv_istore_n (lv' := [(3, .int (iI 0)), (0, .ref xm), (1, .int (iI n)), (2, .int (iI n2))]) hx hb dX4_exchange_21 rfl hl (by decide) rfl (fun ls hl => ?_)
      refine lv_iload_n hx hb dX4_exchange_22 rfl (lv_at hl 0 rfl) ?_
      refine j_if_eq (tgt := 67) hx hb dX4_exchange_23 (by decide) ⟨by decide, by decide⟩ (fun c_9 => ?_) (fun c_9 => absurd c_9 (by decide))
      refine j_iconst hx hb dX4_exchange_67 ?_
      refine lv_istore (lv' := [(4, .int (iI 0)), (3, .int (iI 0)), (0, .ref xm), (1, .int (iI n)), (2, .int (iI n2))]) hx hb dX4_exchange_68 hl (by decide) rfl (fun ls hl => ?_)
      refine lv_aload_n hx hb dX4_exchange_70 rfl (lv_at hl 2 rfl) ?_
      refine lv_iload_n hx hb dX4_exchange_71 rfl (lv_at hl 1 rfl) ?_
      refine j_if_ne (tgt := 79) hx hb dX4_exchange_72 (by decide) ⟨by decide, by decide⟩ (fun c_10 => absurd c_10 (by decide)) (fun c_10 => ?_)
      refine j_iconst hx hb dX4_exchange_75 ?_
      refine lv_goto (tgt := 89) hx hb dX4_exchange_76 (by decide) ?_
      refine m_run (va_runV (As := [.int (iI 1)]) (rest := []) ⟨hx, hb, hml, hown, hts⟩ (k_X4_isFine (l := l) (tc := 1) hM hI ⟨by decide, by decide⟩) (cwV 1 hts gX4_exchange_X4_isFine rfl rfl rfl (by decide +kernel) ⟨by decide, by decide⟩) ⟨Kp.blind _ _ _ _ _, m_recv hK hB (ci := 4) rfl hM.1, fun U hU hW => hK.pass hB U hU hW⟩ rfl rfl hl.1 rfl (lv_room (Nat.le_of_ble_eq_true rfl)) dX4_exchange_89 ⟨Nat.le_of_ble_eq_true rfl, Nat.le_of_ble_eq_true rfl⟩) hB (fun v u H locs hp_11 hB => ?_)
      obtain ⟨ev, hM, hFm⟩ := hp_11
      rw [b2_f (by decide)] at ev
      subst ev
      show W _ _ _ _ _ _ _ _ _ _ _ _ _ _ _ (F0 m 92 ls [.int (iI 0)])
      have hF := hF.tr hFm
      refine j_if_ne (tgt := 97) hx hb dX4_exchange_92 (by decide) ⟨by decide, by decide⟩ (fun c_12 => absurd c_12 (by decide)) (fun c_12 => ?_)
      refine j_iconst hx hb dX4_exchange_95 ?_
      exact m_zret hx hb hr rfl hlocks hB (by decide) (by decide) dX4_exchange_96 (by (repeat rw [Int.toNat_natCast]); exact Or.inr (Or.inl (⟨fun q => c_8 q.2, rfl, hM, hF⟩)))
    · refine j_iconst hx hb dX4_exchange_16 ?_
      refine lv_goto (tgt := 21) hx hb dX4_exchange_17 (by decide) ?_
      refine lv_istore_n (lv' := [(3, .int (iI 1)), (0, .ref xm), (1, .int (iI n)), (2, .int (iI n2))]) hx hb dX4_exchange_21 rfl hl (by decide) rfl (fun ls hl => ?_)
      refine lv_iload_n hx hb dX4_exchange_22 rfl (lv_at hl 0 rfl) ?_
      refine j_if_eq (tgt := 67) hx hb dX4_exchange_23 (by decide) ⟨by decide, by decide⟩ (fun c_13 => absurd c_13 (by decide)) (fun c_13 => ?_)
      have hnn : 0 ≤ n := by have w := c_2; unfold isP at w; omega
      obtain ⟨ia, rfl⟩ : ∃ ia : Nat, n = (ia : Int) := ⟨n.toNat, by omega⟩
      have hp_ia := isP_i.mp c_2
      have hnn : 0 ≤ n2 := by have w := c_8; unfold isP at w; omega
      obtain ⟨ib, rfl⟩ : ∃ ib : Nat, n2 = (ib : Int) := ⟨n2.toNat, by omega⟩
      have hp_ib := isP_i.mp c_8
      have hpa := hI.part ia (by omega)
      have hpb := hI.part ib (by omega)
      have hbb := (⟨c_2, c_8⟩ : isP σ (ia : Int) ∧ isP σ (ib : Int))
      refine lv_aload_n hx hb dX4_exchange_26 rfl (lv_at hl 1 rfl) ?_
      refine m_get hx hb hts (fun _ q => List.mem_cons_of_mem _ (List.mem_append_right _ q)) hown hK hB hM.1 (ci := 4) rfl 5 (by decide) (List.mem_of_getElem? (i := 1) rfl) rfl rfl dX4_exchange_27 ?_
      refine lv_iload_n hx hb dX4_exchange_30 rfl (lv_at hl 2 rfl) ?_
      refine m_mld hx hb hK hB hM 4 (by decide) (i := ia) (show ia < 16 by omega) dX4_exchange_31 ?_
      have bd_15 := hI.bd 4 ia
      refine j_if_ne (tgt := 67) hx hb dX4_exchange_32 (by decide) ⟨by omega, by omega⟩ (fun c_14 => ?_) (fun c_14 => ?_)
      · refine j_iconst hx hb dX4_exchange_67 ?_
        refine lv_istore (lv' := [(4, .int (iI 0)), (3, .int (iI 1)), (0, .ref xm), (1, .int (iI (ia : Int))), (2, .int (iI (ib : Int)))]) hx hb dX4_exchange_68 hl (by decide) rfl (fun ls hl => ?_)
        refine lv_aload_n hx hb dX4_exchange_70 rfl (lv_at hl 2 rfl) ?_
        refine lv_iload_n hx hb dX4_exchange_71 rfl (lv_at hl 1 rfl) ?_
        refine j_if_ne (tgt := 79) hx hb dX4_exchange_72 (by decide) ⟨by decide, by decide⟩ (fun c_16 => ?_) (fun c_16 => absurd c_16 (by decide))
        refine lv_iload hx hb dX4_exchange_79 (lv_at hl 0 rfl) ?_
        refine j_if_ne (tgt := 88) hx hb dX4_exchange_81 (by decide) ⟨by decide, by decide⟩ (fun c_17 => absurd c_17 (by decide)) (fun c_17 => ?_)
        refine j_iconst hx hb dX4_exchange_84 ?_
        refine lv_goto (tgt := 89) hx hb dX4_exchange_85 (by decide) ?_
        refine m_run (va_runV (As := [.int (iI 2)]) (rest := []) ⟨hx, hb, hml, hown, hts⟩ (k_X4_isFine (l := l) (tc := 2) hM hI ⟨by decide, by decide⟩) (cwV 1 hts gX4_exchange_X4_isFine rfl rfl rfl (by decide +kernel) ⟨by decide, by decide⟩) ⟨Kp.blind _ _ _ _ _, m_recv hK hB (ci := 4) rfl hM.1, fun U hU hW => hK.pass hB U hU hW⟩ rfl rfl hl.1 rfl (lv_room (Nat.le_of_ble_eq_true rfl)) dX4_exchange_89 ⟨Nat.le_of_ble_eq_true rfl, Nat.le_of_ble_eq_true rfl⟩) hB (fun v u H locs hp_18 hB => ?_)
        obtain ⟨ev, hM, hFm⟩ := hp_18
        rw [b2_f (by decide)] at ev
        subst ev
        show W _ _ _ _ _ _ _ _ _ _ _ _ _ _ _ (F0 m 92 ls [.int (iI 0)])
        have hF := hF.tr hFm
        refine j_if_ne (tgt := 97) hx hb dX4_exchange_92 (by decide) ⟨by decide, by decide⟩ (fun c_19 => absurd c_19 (by decide)) (fun c_19 => ?_)
        refine j_iconst hx hb dX4_exchange_95 ?_
        exact m_zret hx hb hr rfl hlocks hB (by decide) (by decide) dX4_exchange_96 (by (repeat rw [Int.toNat_natCast]); exact Or.inr (Or.inr (⟨⟨hbb, fun q => by have := q.1; have := q.2.1; omega⟩, rfl, hM, hF⟩)))
      · refine lv_aload_n hx hb dX4_exchange_35 rfl (lv_at hl 1 rfl) ?_
        refine m_get hx hb hts (fun _ q => List.mem_cons_of_mem _ (List.mem_append_right _ q)) hown hK hB hM.1 (ci := 4) rfl 5 (by decide) (List.mem_of_getElem? (i := 1) rfl) rfl rfl dX4_exchange_36 ?_
        refine lv_iload_n hx hb dX4_exchange_39 rfl (lv_at hl 3 rfl) ?_
        refine m_mld hx hb hK hB hM 4 (by decide) (i := ib) (show ib < 16 by omega) dX4_exchange_40 ?_
        refine j_iconst hx hb dX4_exchange_41 ?_
        have bd_20 := hI.bd 4 ib
        refine j_icmp_ne (tgt := 67) hx hb dX4_exchange_42 (by decide) ⟨by omega, by omega⟩ ⟨by decide, by decide⟩ (fun c_21 => ?_) (fun c_21 => ?_)
        · refine j_iconst hx hb dX4_exchange_67 ?_
          refine lv_istore (lv' := [(4, .int (iI 0)), (3, .int (iI 1)), (0, .ref xm), (1, .int (iI (ia : Int))), (2, .int (iI (ib : Int)))]) hx hb dX4_exchange_68 hl (by decide) rfl (fun ls hl => ?_)
          refine lv_aload_n hx hb dX4_exchange_70 rfl (lv_at hl 2 rfl) ?_
          refine lv_iload_n hx hb dX4_exchange_71 rfl (lv_at hl 1 rfl) ?_
          refine j_if_ne (tgt := 79) hx hb dX4_exchange_72 (by decide) ⟨by decide, by decide⟩ (fun c_22 => ?_) (fun c_22 => absurd c_22 (by decide))
          refine lv_iload hx hb dX4_exchange_79 (lv_at hl 0 rfl) ?_
          refine j_if_ne (tgt := 88) hx hb dX4_exchange_81 (by decide) ⟨by decide, by decide⟩ (fun c_23 => absurd c_23 (by decide)) (fun c_23 => ?_)
          refine j_iconst hx hb dX4_exchange_84 ?_
          refine lv_goto (tgt := 89) hx hb dX4_exchange_85 (by decide) ?_
          refine m_run (va_runV (As := [.int (iI 2)]) (rest := []) ⟨hx, hb, hml, hown, hts⟩ (k_X4_isFine (l := l) (tc := 2) hM hI ⟨by decide, by decide⟩) (cwV 1 hts gX4_exchange_X4_isFine rfl rfl rfl (by decide +kernel) ⟨by decide, by decide⟩) ⟨Kp.blind _ _ _ _ _, m_recv hK hB (ci := 4) rfl hM.1, fun U hU hW => hK.pass hB U hU hW⟩ rfl rfl hl.1 rfl (lv_room (Nat.le_of_ble_eq_true rfl)) dX4_exchange_89 ⟨Nat.le_of_ble_eq_true rfl, Nat.le_of_ble_eq_true rfl⟩) hB (fun v u H locs hp_24 hB => ?_)
          obtain ⟨ev, hM, hFm⟩ := hp_24
          rw [b2_f (by decide)] at ev
          subst ev
          show W _ _ _ _ _ _ _ _ _ _ _ _ _ _ _ (F0 m 92 ls [.int (iI 0)])
          have hF := hF.tr hFm
          refine j_if_ne (tgt := 97) hx hb dX4_exchange_92 (by decide) ⟨by decide, by decide⟩ (fun c_25 => absurd c_25 (by decide)) (fun c_25 => ?_)
          refine j_iconst hx hb dX4_exchange_95 ?_
          exact m_zret hx hb hr rfl hlocks hB (by decide) (by decide) dX4_exchange_96 (by (repeat rw [Int.toNat_natCast]); exact Or.inr (Or.inr (⟨⟨hbb, fun q => by have := q.1; have := q.2.1; omega⟩, rfl, hM, hF⟩)))
        · refine lv_aload_n hx hb dX4_exchange_45 rfl (lv_at hl 1 rfl) ?_
          refine lv_iload_n hx hb dX4_exchange_46 rfl (lv_at hl 2 rfl) ?_
          refine lv_iload_n hx hb dX4_exchange_47 rfl (lv_at hl 3 rfl) ?_
          refine m_run (va_runV (As := [.int (iI (ia : Int)), .int (iI (ib : Int))]) (rest := []) ⟨hx, hb, hml, hown, hts⟩ (k_X4_fits (l := l) hM hI (i := ia) (k := ib) (by omega) (by omega)) (cwV 2 hts gX4_exchange_X4_fits rfl rfl rfl (by decide +kernel) ⟨by decide, by decide⟩) ⟨Kp.blind _ _ _ _ _, m_recv hK hB (ci := 4) rfl hM.1, fun U hU hW => hK.pass hB U hU hW⟩ rfl rfl hl.1 rfl (lv_room (Nat.le_of_ble_eq_true rfl)) dX4_exchange_48 ⟨Nat.le_of_ble_eq_true rfl, Nat.le_of_ble_eq_true rfl⟩) hB (fun v u H locs hp_26 hB => ?_)
          obtain ⟨rfl, rfl⟩ := hp_26
          show W _ _ _ _ _ _ _ _ _ _ _ _ _ _ _ (F0 m 51 ls [.int (iI (b2 (¬ forn σ ia ib)))])
          refine j_ifeqP (tgt := 67) hx hb dX4_exchange_51 (by decide) (fun c_27 => ?_) (fun c_27 => ?_)
          · refine j_iconst hx hb dX4_exchange_67 ?_
            refine lv_istore (lv' := [(4, .int (iI 0)), (3, .int (iI 1)), (0, .ref xm), (1, .int (iI (ia : Int))), (2, .int (iI (ib : Int)))]) hx hb dX4_exchange_68 hl (by decide) rfl (fun ls hl => ?_)
            refine lv_aload_n hx hb dX4_exchange_70 rfl (lv_at hl 2 rfl) ?_
            refine lv_iload_n hx hb dX4_exchange_71 rfl (lv_at hl 1 rfl) ?_
            refine j_if_ne (tgt := 79) hx hb dX4_exchange_72 (by decide) ⟨by decide, by decide⟩ (fun c_28 => ?_) (fun c_28 => absurd c_28 (by decide))
            refine lv_iload hx hb dX4_exchange_79 (lv_at hl 0 rfl) ?_
            refine j_if_ne (tgt := 88) hx hb dX4_exchange_81 (by decide) ⟨by decide, by decide⟩ (fun c_29 => absurd c_29 (by decide)) (fun c_29 => ?_)
            refine j_iconst hx hb dX4_exchange_84 ?_
            refine lv_goto (tgt := 89) hx hb dX4_exchange_85 (by decide) ?_
            refine m_run (va_runV (As := [.int (iI 2)]) (rest := []) ⟨hx, hb, hml, hown, hts⟩ (k_X4_isFine (l := l) (tc := 2) hM hI ⟨by decide, by decide⟩) (cwV 1 hts gX4_exchange_X4_isFine rfl rfl rfl (by decide +kernel) ⟨by decide, by decide⟩) ⟨Kp.blind _ _ _ _ _, m_recv hK hB (ci := 4) rfl hM.1, fun U hU hW => hK.pass hB U hU hW⟩ rfl rfl hl.1 rfl (lv_room (Nat.le_of_ble_eq_true rfl)) dX4_exchange_89 ⟨Nat.le_of_ble_eq_true rfl, Nat.le_of_ble_eq_true rfl⟩) hB (fun v u H locs hp_30 hB => ?_)
            obtain ⟨ev, hM, hFm⟩ := hp_30
            rw [b2_f (by decide)] at ev
            subst ev
            show W _ _ _ _ _ _ _ _ _ _ _ _ _ _ _ (F0 m 92 ls [.int (iI 0)])
            have hF := hF.tr hFm
            refine j_if_ne (tgt := 97) hx hb dX4_exchange_92 (by decide) ⟨by decide, by decide⟩ (fun c_31 => absurd c_31 (by decide)) (fun c_31 => ?_)
            refine j_iconst hx hb dX4_exchange_95 ?_
            exact m_zret hx hb hr rfl hlocks hB (by decide) (by decide) dX4_exchange_96 (by (repeat rw [Int.toNat_natCast]); exact Or.inr (Or.inr (⟨⟨hbb, fun q => c_27 q.2.2.1⟩, rfl, hM, hF⟩)))
          · refine lv_aload_n hx hb dX4_exchange_54 rfl (lv_at hl 1 rfl) ?_
            refine lv_iload_n hx hb dX4_exchange_55 rfl (lv_at hl 3 rfl) ?_
            refine lv_iload_n hx hb dX4_exchange_56 rfl (lv_at hl 2 rfl) ?_
            refine m_run (va_runV (As := [.int (iI (ib : Int)), .int (iI (ia : Int))]) (rest := []) ⟨hx, hb, hml, hown, hts⟩ (k_X4_fits (l := l) hM hI (i := ib) (k := ia) (by omega) (by omega)) (cwV 2 hts gX4_exchange_X4_fits rfl rfl rfl (by decide +kernel) ⟨by decide, by decide⟩) ⟨Kp.blind _ _ _ _ _, m_recv hK hB (ci := 4) rfl hM.1, fun U hU hW => hK.pass hB U hU hW⟩ rfl rfl hl.1 rfl (lv_room (Nat.le_of_ble_eq_true rfl)) dX4_exchange_57 ⟨Nat.le_of_ble_eq_true rfl, Nat.le_of_ble_eq_true rfl⟩) hB (fun v u H locs hp_32 hB => ?_)
            obtain ⟨rfl, rfl⟩ := hp_32
            show W _ _ _ _ _ _ _ _ _ _ _ _ _ _ _ (F0 m 60 ls [.int (iI (b2 (¬ forn σ ib ia)))])
            refine j_ifeqP (tgt := 67) hx hb dX4_exchange_60 (by decide) (fun c_33 => ?_) (fun c_33 => ?_)
            · refine j_iconst hx hb dX4_exchange_67 ?_
              refine lv_istore (lv' := [(4, .int (iI 0)), (3, .int (iI 1)), (0, .ref xm), (1, .int (iI (ia : Int))), (2, .int (iI (ib : Int)))]) hx hb dX4_exchange_68 hl (by decide) rfl (fun ls hl => ?_)
              refine lv_aload_n hx hb dX4_exchange_70 rfl (lv_at hl 2 rfl) ?_
              refine lv_iload_n hx hb dX4_exchange_71 rfl (lv_at hl 1 rfl) ?_
              refine j_if_ne (tgt := 79) hx hb dX4_exchange_72 (by decide) ⟨by decide, by decide⟩ (fun c_34 => ?_) (fun c_34 => absurd c_34 (by decide))
              refine lv_iload hx hb dX4_exchange_79 (lv_at hl 0 rfl) ?_
              refine j_if_ne (tgt := 88) hx hb dX4_exchange_81 (by decide) ⟨by decide, by decide⟩ (fun c_35 => absurd c_35 (by decide)) (fun c_35 => ?_)
              refine j_iconst hx hb dX4_exchange_84 ?_
              refine lv_goto (tgt := 89) hx hb dX4_exchange_85 (by decide) ?_
              refine m_run (va_runV (As := [.int (iI 2)]) (rest := []) ⟨hx, hb, hml, hown, hts⟩ (k_X4_isFine (l := l) (tc := 2) hM hI ⟨by decide, by decide⟩) (cwV 1 hts gX4_exchange_X4_isFine rfl rfl rfl (by decide +kernel) ⟨by decide, by decide⟩) ⟨Kp.blind _ _ _ _ _, m_recv hK hB (ci := 4) rfl hM.1, fun U hU hW => hK.pass hB U hU hW⟩ rfl rfl hl.1 rfl (lv_room (Nat.le_of_ble_eq_true rfl)) dX4_exchange_89 ⟨Nat.le_of_ble_eq_true rfl, Nat.le_of_ble_eq_true rfl⟩) hB (fun v u H locs hp_36 hB => ?_)
              obtain ⟨ev, hM, hFm⟩ := hp_36
              rw [b2_f (by decide)] at ev
              subst ev
              show W _ _ _ _ _ _ _ _ _ _ _ _ _ _ _ (F0 m 92 ls [.int (iI 0)])
              have hF := hF.tr hFm
              refine j_if_ne (tgt := 97) hx hb dX4_exchange_92 (by decide) ⟨by decide, by decide⟩ (fun c_37 => absurd c_37 (by decide)) (fun c_37 => ?_)
              refine j_iconst hx hb dX4_exchange_95 ?_
              exact m_zret hx hb hr rfl hlocks hB (by decide) (by decide) dX4_exchange_96 (by (repeat rw [Int.toNat_natCast]); exact Or.inr (Or.inr (⟨⟨hbb, fun q => c_33 q.2.2.2⟩, rfl, hM, hF⟩)))
            · have hxc : σ 4 ia = 0 ∧ σ 4 ib = 1 ∧ ¬ forn σ ia ib ∧ ¬ forn σ ib ia := ⟨by omega, by omega, c_27, c_33⟩
              refine j_iconst hx hb dX4_exchange_63 ?_
              refine lv_goto (tgt := 68) hx hb dX4_exchange_64 (by decide) ?_
              refine lv_istore (lv' := [(4, .int (iI 1)), (3, .int (iI 1)), (0, .ref xm), (1, .int (iI (ia : Int))), (2, .int (iI (ib : Int)))]) hx hb dX4_exchange_68 hl (by decide) rfl (fun ls hl => ?_)
              refine lv_aload_n hx hb dX4_exchange_70 rfl (lv_at hl 2 rfl) ?_
              refine lv_iload_n hx hb dX4_exchange_71 rfl (lv_at hl 1 rfl) ?_
              refine j_if_ne (tgt := 79) hx hb dX4_exchange_72 (by decide) ⟨by decide, by decide⟩ (fun c_38 => ?_) (fun c_38 => absurd c_38 (by decide))
              refine lv_iload hx hb dX4_exchange_79 (lv_at hl 0 rfl) ?_
              refine j_if_ne (tgt := 88) hx hb dX4_exchange_81 (by decide) ⟨by decide, by decide⟩ (fun c_39 => ?_) (fun c_39 => absurd c_39 (by decide))
              refine j_iconst hx hb dX4_exchange_88 ?_
              refine m_run (va_runV (As := [.int (iI 0)]) (rest := []) ⟨hx, hb, hml, hown, hts⟩ (k_X4_isFine (l := l) (tc := 0) hM hI ⟨by decide, by decide⟩) (cwV 1 hts gX4_exchange_X4_isFine rfl rfl rfl (by decide +kernel) ⟨by decide, by decide⟩) ⟨Kp.blind _ _ _ _ _, m_recv hK hB (ci := 4) rfl hM.1, fun U hU hW => hK.pass hB U hU hW⟩ rfl rfl hl.1 rfl (lv_room (Nat.le_of_ble_eq_true rfl)) dX4_exchange_89 ⟨Nat.le_of_ble_eq_true rfl, Nat.le_of_ble_eq_true rfl⟩) hB (fun v u H locs hp_40 hB => ?_)
              obtain ⟨ev, hM, hFm⟩ := hp_40
              rw [b2_t (by decide)] at ev
              subst ev
              show W _ _ _ _ _ _ _ _ _ _ _ _ _ _ _ (F0 m 92 ls [.int (iI 1)])
              have hF := hF.tr hFm
              refine j_if_ne (tgt := 97) hx hb dX4_exchange_92 (by decide) ⟨by decide, by decide⟩ (fun c_41 => ?_) (fun c_41 => absurd c_41 (by decide))
              refine j_iconst hx hb dX4_exchange_97 ?_
              refine lv_istore (lv' := [(5, .int (iI 0)), (4, .int (iI 1)), (3, .int (iI 1)), (0, .ref xm), (1, .int (iI (ia : Int))), (2, .int (iI (ib : Int)))]) hx hb dX4_exchange_98 hl (by decide) rfl (fun ls hl => ?_)
              have lp_100 : ∀ (fuel j : Nat), j ≤ (nrN σ) → (nrN σ) + 1 ≤ j + fuel → ∀ (h : Hp) (hM : MR cI xm xa (swS σ ia ib j) 0 h) (hF : FrM h0 h) (H : Heap) (locs : List Loc), Bk D z s.heap h H locs → ∀ ls : Array Slot, lv_has ls 7 [(5, .int (iI (j : Int))), (4, .int (iI 1)), (3, .int (iI 1)), (0, .ref xm), (1, .int (iI (ia : Int))), (2, .int (iI (ib : Int)))] → W p l e rmX4_exchange s m args below meth c H locs 0 0 (MQ below (Qx D z (fun v u => (((isP σ (ia : Int) ∧ isP σ (ib : Int)) ∧ (σ 4 (ia : Int).toNat = 0 ∧ σ 4 (ib : Int).toNat = 1 ∧ ¬ forn σ (ia : Int).toNat (ib : Int).toNat ∧ ¬ forn σ (ib : Int).toNat (ia : Int).toNat)) ∧ v = some (.int (iI (cnt (fun j => live (upS (swS σ (ia : Int).toNat (ib : Int).toNat 200) 11 0 1) j ∧ pn (upS (swS σ (ia : Int).toNat (ib : Int).toNat 200) 11 0 1) j = (ia : Int).toNat) (nrN (upS (swS σ (ia : Int).toNat (ib : Int).toNat 200) 11 0 1))))) ∧ MR cI xm xa (upS (swS σ (ia : Int).toNat (ib : Int).toNat 200) 11 0 1) 0 u ∧ FrM h0 u) ∨ ((¬ (isP σ (ia : Int) ∧ isP σ (ib : Int))) ∧ v = some (.int (iI 0)) ∧ MR cI xm xa σ 1 u ∧ FrM h0 u) ∨ (((isP σ (ia : Int) ∧ isP σ (ib : Int)) ∧ ¬ (σ 4 (ia : Int).toNat = 0 ∧ σ 4 (ib : Int).toNat = 1 ∧ ¬ forn σ (ia : Int).toNat (ib : Int).toNat ∧ ¬ forn σ (ib : Int).toNat (ia : Int).toNat)) ∧ v = some (.int (iI 0)) ∧ MR cI xm xa σ 2 u ∧ FrM h0 u))) args s (rmX4_exchange).cells (rmX4_exchange).slots (zA z)) (F0 m 100 ls []) := by
                intro fuel
                induction fuel with
                | zero => intro j w1 w2; exact absurd w2 (by omega)
                | succ fuel ih100 =>
                  intro j w1 w2 h hM hF  H locs hB ls hl
                  have hx0 : h xm = some (mdl xa 0 (σ 9 0) (σ 10 0) (σ 11 0)) := by have w := hM.1; rw [swS_g (by decide), swS_g (by decide), swS_g (by decide)] at w; exact w
                  refine lv_iload hx hb dX4_exchange_100 (lv_at hl 0 rfl) ?_
                  refine lv_aload_n hx hb dX4_exchange_102 rfl (lv_at hl 3 rfl) ?_
                  refine m_get hx hb hts (fun _ q => List.mem_cons_of_mem _ (List.mem_append_right _ q)) hown hK hB hx0 (ci := 4) rfl 11 (by decide) (List.mem_of_getElem? (i := 2) rfl) rfl rfl dX4_exchange_103 ?_
                  have bd_42 := hI.bd 10 0
                  refine j_icmp_ge (tgt := 153) hx hb dX4_exchange_106 (by decide) ⟨by omega, by omega⟩ ⟨by omega, by omega⟩ (fun c_43 => ?_) (fun c_43 => ?_)
                  · have hM : MR cI xm xa (swS σ ia ib 200) 0 h := by rw [← swS_nr hI, ← (show j = nrN σ by omega)]; exact hM
                    obtain ⟨σ, eσ_44, hM, hI, e9⟩ : ∃ σ2 : Sg, σ2 = swS σ ia ib 200 ∧ MR cI xm xa σ2 0 h ∧ Ib σ2 ∧ σ2 9 0 = σ 9 0 := ⟨_, rfl, hM, hI.sw (by omega) (by omega) 200, swS_g (by decide)⟩
                    have hnp := hI.hnp
                    have hnr := hI.hnr
                    have hnrI := hI.nrI
                    refine lv_aload_n hx hb dX4_exchange_153 rfl (lv_at hl 3 rfl) ?_
                    refine j_iconst hx hb dX4_exchange_154 ?_
                    refine m_put hx hb hts (fun _ q => List.mem_cons_of_mem _ (List.mem_append_right _ q)) tyX4 tyX4_ok nmX4 hown hK hB hM.1 (ci := 4) rfl 12 (by decide) (List.mem_of_getElem? (i := 4) rfl) rfl rfl (by decide) (by decide) (Nat.le_of_ble_eq_true rfl) dX4_exchange_155 (fun H locs hB => ?_)
                    obtain ⟨h2, σ, eσ_45, hM, hF, hB, hI, e9⟩ : ∃ (h2 : Hp) (σ2 : Sg), σ2 = upS σ 11 0 1 ∧ MR cI xm xa σ2 0 h2 ∧ FrM h0 h2 ∧ Bk D z s.heap h2 H locs ∧ Ib σ2 ∧ σ2 9 0 = σ 9 0 := ⟨_, _, rfl, hM.w11, hF.tr (FrM.up hM.1 (Or.inl rfl)), hB, hI.stale (by omega), upS_g (by decide)⟩
                    have hnp := hI.hnp
                    have hnr := hI.hnr
                    have hnrI := hI.nrI
                    refine lv_aload_n hx hb dX4_exchange_158 rfl (lv_at hl 3 rfl) ?_
                    refine lv_iload_n hx hb dX4_exchange_159 rfl (lv_at hl 4 rfl) ?_
                    refine m_run (va_runV (As := [.int (iI (ia : Int))]) (rest := []) ⟨hx, hb, hml, hown, hts⟩ (k_X4_rowsOf (l := l) hM hI (i := ia) (by omega)) (cwV 1 hts gX4_exchange_X4_rowsOf rfl rfl rfl (by decide +kernel) ⟨by decide, by decide⟩) ⟨Kp.blind _ _ _ _ _, m_recv hK hB (ci := 4) rfl hM.1, fun U hU hW => hK.pass hB U hU hW⟩ rfl rfl hl.1 rfl (lv_room (Nat.le_of_ble_eq_true rfl)) dX4_exchange_160 ⟨Nat.le_of_ble_eq_true rfl, Nat.le_of_ble_eq_true rfl⟩) hB (fun v u H locs hp_46 hB => ?_)
                    obtain ⟨rfl, rfl⟩ := hp_46
                    show W _ _ _ _ _ _ _ _ _ _ _ _ _ _ _ (F0 m 163 ls [.int (iI (cnt (fun j => live σ j ∧ pn σ j = ia) (nrN σ)))])
                    exact m_zret hx hb hr rfl hlocks hB (by decide) (by decide) dX4_exchange_163 (by (repeat rw [Int.toNat_natCast]); subst eσ_45; subst eσ_44; exact Or.inl (⟨⟨hbb, hxc⟩, rfl, hM, hF⟩))
                  · refine lv_aload_n hx hb dX4_exchange_109 rfl (lv_at hl 3 rfl) ?_
                    refine m_get hx hb hts (fun _ q => List.mem_cons_of_mem _ (List.mem_append_right _ q)) hown hK hB hx0 (ci := 4) rfl 7 (by decide) (List.mem_of_getElem? (i := 3) rfl) rfl rfl dX4_exchange_110 ?_
                    refine lv_iload hx hb dX4_exchange_113 (lv_at hl 0 rfl) ?_
                    refine m_mld hx hb hK hB hM 5 (by decide) (i := j) (show j < 200 by omega) dX4_exchange_115 ?_
                    refine j_topE (swS_n (Nat.le_refl _)) ?_
                    refine lv_istore (lv' := [(6, .int (iI (σ 5 j))), (5, .int (iI (j : Int))), (4, .int (iI 1)), (3, .int (iI 1)), (0, .ref xm), (1, .int (iI (ia : Int))), (2, .int (iI (ib : Int)))]) hx hb dX4_exchange_116 hl (by decide) rfl (fun ls hl => ?_)
                    refine lv_aload_n hx hb dX4_exchange_118 rfl (lv_at hl 4 rfl) ?_
                    refine m_get hx hb hts (fun _ q => List.mem_cons_of_mem _ (List.mem_append_right _ q)) hown hK hB hx0 (ci := 4) rfl 7 (by decide) (List.mem_of_getElem? (i := 3) rfl) rfl rfl dX4_exchange_119 ?_
                    refine lv_iload hx hb dX4_exchange_122 (lv_at hl 1 rfl) ?_
                    refine lv_iload hx hb dX4_exchange_124 (lv_at hl 0 rfl) ?_
                    refine lv_iload_n hx hb dX4_exchange_126 rfl (lv_at hl 5 rfl) ?_
                    have bd_47 := hI.bd 5 j
                    refine j_icmp_ne (tgt := 134) hx hb dX4_exchange_127 (by decide) ⟨by omega, by omega⟩ ⟨by omega, by omega⟩ (fun c_48 => ?_) (fun c_48 => ?_)
                    · refine lv_iload hx hb dX4_exchange_134 (lv_at hl 0 rfl) ?_
                      refine lv_iload_n hx hb dX4_exchange_136 rfl (lv_at hl 6 rfl) ?_
                      refine j_icmp_ne (tgt := 144) hx hb dX4_exchange_137 (by decide) ⟨by omega, by omega⟩ ⟨by omega, by omega⟩ (fun c_49 => ?_) (fun c_49 => ?_)
                      · refine lv_iload hx hb dX4_exchange_144 (lv_at hl 0 rfl) ?_
                        refine m_mst hx hb hK hB hM 5 (by decide) (i := j) (v := (σ 5 j)) (show j < 200 by omega) dX4_exchange_146 (fun h1 H locs hM2 hF2 hB => ?_)
                        have hM := hM2
                        have hF := hF.tr hF2
                        refine j_iinc (lv' := [(5, .int (iI ((j + 1 : Nat) : Int))), (6, .int (iI (σ 5 j))), (4, .int (iI 1)), (3, .int (iI 1)), (0, .ref xm), (1, .int (iI (ia : Int))), (2, .int (iI (ib : Int)))]) hx hb dX4_exchange_147 hl (k := 1) rfl (by decide) rfl (fun ls hl => ?_)
                        refine lv_goto (tgt := 100) hx hb dX4_exchange_150 (by decide) ?_
                        exact ih100 (j + 1) (by omega) (by omega) _ (by rw [swS_f (fun lw => ⟨fun q => c_48 (hI.pn5 lw q), fun q => c_49 (hI.pn5 lw q)⟩)]; have w := upS_same (swS σ ia ib j) 5 j; rw [swS_n (Nat.le_refl _)] at w; rw [w] at hM; exact hM) hF  _ _ hB ls (lv_sub hl [0, 2, 3, 4, 5, 6] rfl)
                      · refine lv_iload_n hx hb dX4_exchange_140 rfl (lv_at hl 5 rfl) ?_
                        refine lv_goto (tgt := 146) hx hb dX4_exchange_141 (by decide) ?_
                        refine m_mst hx hb hK hB hM 5 (by decide) (i := j) (v := (ia : Int)) (show j < 200 by omega) dX4_exchange_146 (fun h1 H locs hM2 hF2 hB => ?_)
                        have hM := hM2
                        have hF := hF.tr hF2
                        refine j_iinc (lv' := [(5, .int (iI ((j + 1 : Nat) : Int))), (6, .int (iI (σ 5 j))), (4, .int (iI 1)), (3, .int (iI 1)), (0, .ref xm), (1, .int (iI (ia : Int))), (2, .int (iI (ib : Int)))]) hx hb dX4_exchange_147 hl (k := 1) rfl (by decide) rfl (fun ls hl => ?_)
                        refine lv_goto (tgt := 100) hx hb dX4_exchange_150 (by decide) ?_
                        exact ih100 (j + 1) (by omega) (by omega) _ (by rw [swS_s ⟨by omega, by omega⟩ ((if_neg (fun q => c_48 (by unfold pn at q; omega))).trans (if_pos (pn_is c_49)))]; exact hM) hF  _ _ hB ls (lv_sub hl [0, 2, 3, 4, 5, 6] rfl)
                    · refine lv_iload_n hx hb dX4_exchange_130 rfl (lv_at hl 6 rfl) ?_
                      refine lv_goto (tgt := 146) hx hb dX4_exchange_131 (by decide) ?_
                      refine m_mst hx hb hK hB hM 5 (by decide) (i := j) (v := (ib : Int)) (show j < 200 by omega) dX4_exchange_146 (fun h1 H locs hM2 hF2 hB => ?_)
                      have hM := hM2
                      have hF := hF.tr hF2
                      refine j_iinc (lv' := [(5, .int (iI ((j + 1 : Nat) : Int))), (6, .int (iI (σ 5 j))), (4, .int (iI 1)), (3, .int (iI 1)), (0, .ref xm), (1, .int (iI (ia : Int))), (2, .int (iI (ib : Int)))]) hx hb dX4_exchange_147 hl (k := 1) rfl (by decide) rfl (fun ls hl => ?_)
                      refine lv_goto (tgt := 100) hx hb dX4_exchange_150 (by decide) ?_
                      exact ih100 (j + 1) (by omega) (by omega) _ (by rw [swS_s ⟨by omega, by omega⟩ (if_pos (pn_is c_48))]; exact hM) hF  _ _ hB ls (lv_sub hl [0, 2, 3, 4, 5, 6] rfl)
              exact lp_100 ((nrN σ) + 1) 0 (by omega) (by omega) _ (by rw [swS_0]; exact hM) hF  _ _ hB ls (lv_sub hl [0, 1, 2, 3, 4, 5] rfl)

abbrev rmX4_insert : Room := { frames := 3, cells := 0, slots := 0, locals := 66 }
set_option maxHeartbeats 4000000 in
set_option maxRecDepth 100000 in
theorem k_X4_insert {l : Launch} {D : va_G} {z : Nat} {cI cP cR cJ : ClassId} {h0 : Hp} {xm : Nat} {xa : Nat → Nat} {σ : Sg} {th : Int} (hM : MR cI xm xa σ th h0) (hI : Ib σ) {ky sr vl : Int} (rk : rg ky) (rs : rg sr) (rv : rg vl) : Ct l D z (tyL cI cP cR cJ) yX4_insert wsX4_insert rmX4_insert [.ref xm, .int (iI ky), .int (iI sr), .int (iI vl)] h0 (fun v u => ((((0 ≤ ky ∧ ky ≤ 999) ∧ (0 ≤ sr ∧ sr ≤ 9) ∧ (0 ≤ vl ∧ vl ≤ 99)) ∧ σ 10 0 < 200) ∧ v = some (.int (iI (σ 10 0))) ∧ MR cI xm xa (inS σ ((pw σ ky : Nat) : Int) ky sr vl) 0 u ∧ FrM h0 u) ∨ ((¬ ((0 ≤ ky ∧ ky ≤ 999) ∧ (0 ≤ sr ∧ sr ≤ 9) ∧ (0 ≤ vl ∧ vl ≤ 99))) ∧ v = some (.int (iI 0)) ∧ MR cI xm xa σ 1 u ∧ FrM h0 u) ∨ ((((0 ≤ ky ∧ ky ≤ 999) ∧ (0 ≤ sr ∧ sr ≤ 9) ∧ (0 ≤ vl ∧ vl ≤ 99)) ∧ ¬ σ 10 0 < 200) ∧ v = some (.int (iI 0)) ∧ MR cI xm xa σ 2 u ∧ FrM h0 u)) := by
  refine Ct.of (cc := cX4_insert) (maxL := 5) (ret := (some .int)) (by decide) rfl (Nat.le_of_ble_eq_true rfl) ?_
  intro p e s m args below meth c hx hb hr hts hown hlocks hml hnm hK hB ls hl
  have hl : lv_has ls 5 [(0, .ref xm), (1, .int (iI ky)), (2, .int (iI sr)), (3, .int (iI vl))] := hl
  have hF := FrM.rf h0
  have hnp := hI.hnp
  have hnr := hI.hnr
  have hnrI := hI.nrI
  have hnpI := hI.npI
  have hre := hI.rest
  refine lv_iload_n hx hb dX4_insert_0 rfl (lv_at hl 1 rfl) ?_
  refine lv_iload_n hx hb dX4_insert_1 rfl (lv_at hl 2 rfl) ?_
  refine m_run (va_runS (As := [.int (iI ky), .int (iI sr)]) (rest := []) ⟨hx, hb, hml, hown, hts⟩ (k_X4_isShaped (l := l) ⟨by omega, by omega⟩ ⟨by omega, by omega⟩) (va_cwS 2 hts gX4_insert_X4_isShaped rfl rfl rfl (by decide +kernel) ⟨by decide, by decide⟩) ⟨Kp.blind _ _ _ _ _, fun U hU hW => hK.pass hB U hU hW⟩ rfl rfl hl.1 rfl (lv_room (Nat.le_of_ble_eq_true rfl)) dX4_insert_2 ⟨Nat.le_of_ble_eq_true rfl, Nat.le_of_ble_eq_true rfl⟩) hB (fun v u H locs hp_1 hB => ?_)
  obtain ⟨rfl, rfl⟩ := hp_1
  show W _ _ _ _ _ _ _ _ _ _ _ _ _ _ _ (F0 m 5 ls [.int (iI (b2 ((0 ≤ ky ∧ ky ≤ 999) ∧ 0 ≤ sr ∧ sr ≤ 9)))])
  refine j_ifeqP (tgt := 22) hx hb dX4_insert_5 (by decide) (fun c_2 => ?_) (fun c_2 => ?_)
  · refine j_iconst hx hb dX4_insert_22 ?_
    refine lv_istore (lv' := [(4, .int (iI 0)), (0, .ref xm), (1, .int (iI ky)), (2, .int (iI sr)), (3, .int (iI vl))]) hx hb dX4_insert_23 hl (by decide) rfl (fun ls hl => ?_)
    refine lv_aload_n hx hb dX4_insert_25 rfl (lv_at hl 1 rfl) ?_
    refine lv_iload hx hb dX4_insert_26 (lv_at hl 0 rfl) ?_
    refine j_if_ne (tgt := 35) hx hb dX4_insert_28 (by decide) ⟨by decide, by decide⟩ (fun c_3 => absurd c_3 (by decide)) (fun c_3 => ?_)
    refine j_iconst hx hb dX4_insert_31 ?_
    refine lv_goto (tgt := 50) hx hb dX4_insert_32 (by decide) ?_
    refine m_run (va_runV (As := [.int (iI 1)]) (rest := []) ⟨hx, hb, hml, hown, hts⟩ (k_X4_isFine (l := l) (tc := 1) hM hI ⟨by decide, by decide⟩) (cwV 1 hts gX4_insert_X4_isFine rfl rfl rfl (by decide +kernel) ⟨by decide, by decide⟩) ⟨Kp.blind _ _ _ _ _, m_recv hK hB (ci := 4) rfl hM.1, fun U hU hW => hK.pass hB U hU hW⟩ rfl rfl hl.1 rfl (lv_room (Nat.le_of_ble_eq_true rfl)) dX4_insert_50 ⟨Nat.le_of_ble_eq_true rfl, Nat.le_of_ble_eq_true rfl⟩) hB (fun v u H locs hp_4 hB => ?_)
    obtain ⟨ev, hM, hFm⟩ := hp_4
    rw [b2_f (by decide)] at ev
    subst ev
    show W _ _ _ _ _ _ _ _ _ _ _ _ _ _ _ (F0 m 53 ls [.int (iI 0)])
    have hF := hF.tr hFm
    refine j_if_ne (tgt := 58) hx hb dX4_insert_53 (by decide) ⟨by decide, by decide⟩ (fun c_5 => absurd c_5 (by decide)) (fun c_5 => ?_)
    refine j_iconst hx hb dX4_insert_56 ?_
    exact m_zret hx hb hr rfl hlocks hB (by decide) (by decide) dX4_insert_57 (by (repeat rw [Int.toNat_natCast]); exact Or.inr (Or.inl (⟨fun q => c_2 ⟨q.1, q.2.1⟩, rfl, hM, hF⟩)))
  · refine lv_iload_n hx hb dX4_insert_8 rfl (lv_at hl 3 rfl) ?_
    refine j_iconst hx hb dX4_insert_9 ?_
    refine j_bipush hx hb dX4_insert_10 (by decide) ?_
    refine m_run (va_runS (As := [.int (iI vl), .int (iI 0), .int (iI 99)]) (rest := []) ⟨hx, hb, hml, hown, hts⟩ (k_X4_isIn (l := l) ⟨by omega, by omega⟩ ⟨by decide, by decide⟩ ⟨by decide, by decide⟩) (va_cwS 3 hts gX4_insert_X4_isIn rfl rfl rfl (by decide +kernel) ⟨by decide, by decide⟩) ⟨Kp.blind _ _ _ _ _, fun U hU hW => hK.pass hB U hU hW⟩ rfl rfl hl.1 rfl (lv_room (Nat.le_of_ble_eq_true rfl)) dX4_insert_12 ⟨Nat.le_of_ble_eq_true rfl, Nat.le_of_ble_eq_true rfl⟩) hB (fun v u H locs hp_6 hB => ?_)
    obtain ⟨rfl, rfl⟩ := hp_6
    show W _ _ _ _ _ _ _ _ _ _ _ _ _ _ _ (F0 m 15 ls [.int (iI (b2 (0 ≤ vl ∧ vl ≤ 99)))])
    refine j_ifeqP (tgt := 22) hx hb dX4_insert_15 (by decide) (fun c_7 => ?_) (fun c_7 => ?_)
    · refine j_iconst hx hb dX4_insert_22 ?_
      refine lv_istore (lv' := [(4, .int (iI 0)), (0, .ref xm), (1, .int (iI ky)), (2, .int (iI sr)), (3, .int (iI vl))]) hx hb dX4_insert_23 hl (by decide) rfl (fun ls hl => ?_)
      refine lv_aload_n hx hb dX4_insert_25 rfl (lv_at hl 1 rfl) ?_
      refine lv_iload hx hb dX4_insert_26 (lv_at hl 0 rfl) ?_
      refine j_if_ne (tgt := 35) hx hb dX4_insert_28 (by decide) ⟨by decide, by decide⟩ (fun c_8 => absurd c_8 (by decide)) (fun c_8 => ?_)
      refine j_iconst hx hb dX4_insert_31 ?_
      refine lv_goto (tgt := 50) hx hb dX4_insert_32 (by decide) ?_
      refine m_run (va_runV (As := [.int (iI 1)]) (rest := []) ⟨hx, hb, hml, hown, hts⟩ (k_X4_isFine (l := l) (tc := 1) hM hI ⟨by decide, by decide⟩) (cwV 1 hts gX4_insert_X4_isFine rfl rfl rfl (by decide +kernel) ⟨by decide, by decide⟩) ⟨Kp.blind _ _ _ _ _, m_recv hK hB (ci := 4) rfl hM.1, fun U hU hW => hK.pass hB U hU hW⟩ rfl rfl hl.1 rfl (lv_room (Nat.le_of_ble_eq_true rfl)) dX4_insert_50 ⟨Nat.le_of_ble_eq_true rfl, Nat.le_of_ble_eq_true rfl⟩) hB (fun v u H locs hp_9 hB => ?_)
      obtain ⟨ev, hM, hFm⟩ := hp_9
      rw [b2_f (by decide)] at ev
      subst ev
      show W _ _ _ _ _ _ _ _ _ _ _ _ _ _ _ (F0 m 53 ls [.int (iI 0)])
      have hF := hF.tr hFm
      refine j_if_ne (tgt := 58) hx hb dX4_insert_53 (by decide) ⟨by decide, by decide⟩ (fun c_10 => absurd c_10 (by decide)) (fun c_10 => ?_)
      refine j_iconst hx hb dX4_insert_56 ?_
      exact m_zret hx hb hr rfl hlocks hB (by decide) (by decide) dX4_insert_57 (by (repeat rw [Int.toNat_natCast]); exact Or.inr (Or.inl (⟨fun q => c_7 q.2.2, rfl, hM, hF⟩)))
    · refine j_iconst hx hb dX4_insert_18 ?_
      refine lv_goto (tgt := 23) hx hb dX4_insert_19 (by decide) ?_
      refine lv_istore (lv' := [(4, .int (iI 1)), (0, .ref xm), (1, .int (iI ky)), (2, .int (iI sr)), (3, .int (iI vl))]) hx hb dX4_insert_23 hl (by decide) rfl (fun ls hl => ?_)
      refine lv_aload_n hx hb dX4_insert_25 rfl (lv_at hl 1 rfl) ?_
      refine lv_iload hx hb dX4_insert_26 (lv_at hl 0 rfl) ?_
      refine j_if_ne (tgt := 35) hx hb dX4_insert_28 (by decide) ⟨by decide, by decide⟩ (fun c_11 => ?_) (fun c_11 => absurd c_11 (by decide))
      refine lv_aload_n hx hb dX4_insert_35 rfl (lv_at hl 1 rfl) ?_
      refine m_get hx hb hts (fun _ q => List.mem_cons_of_mem _ (List.mem_append_right _ q)) hown hK hB hM.1 (ci := 4) rfl 11 (by decide) (List.mem_of_getElem? (i := 1) rfl) rfl rfl dX4_insert_36 ?_
      refine j_sipush hx hb dX4_insert_39 (by decide) ?_
      have bd_12 := hI.bd 10 0
      refine j_icmp_ne (tgt := 49) hx hb dX4_insert_42 (by decide) ⟨by omega, by omega⟩ ⟨by decide, by decide⟩ (fun c_13 => ?_) (fun c_13 => ?_)
      · refine j_iconst hx hb dX4_insert_49 ?_
        refine m_run (va_runV (As := [.int (iI 0)]) (rest := []) ⟨hx, hb, hml, hown, hts⟩ (k_X4_isFine (l := l) (tc := 0) hM hI ⟨by decide, by decide⟩) (cwV 1 hts gX4_insert_X4_isFine rfl rfl rfl (by decide +kernel) ⟨by decide, by decide⟩) ⟨Kp.blind _ _ _ _ _, m_recv hK hB (ci := 4) rfl hM.1, fun U hU hW => hK.pass hB U hU hW⟩ rfl rfl hl.1 rfl (lv_room (Nat.le_of_ble_eq_true rfl)) dX4_insert_50 ⟨Nat.le_of_ble_eq_true rfl, Nat.le_of_ble_eq_true rfl⟩) hB (fun v u H locs hp_14 hB => ?_)
        obtain ⟨ev, hM, hFm⟩ := hp_14
        rw [b2_t (by decide)] at ev
        subst ev
        show W _ _ _ _ _ _ _ _ _ _ _ _ _ _ _ (F0 m 53 ls [.int (iI 1)])
        have hF := hF.tr hFm
        refine j_if_ne (tgt := 58) hx hb dX4_insert_53 (by decide) ⟨by decide, by decide⟩ (fun c_15 => ?_) (fun c_15 => absurd c_15 (by decide))
        obtain ⟨jn, ejn⟩ : ∃ jn : Nat, jn = nrN σ := ⟨_, rfl⟩
        have e10 : σ 10 0 = (jn : Int) := by omega
        have e10o := e10
        have hinc : ((0 ≤ ky ∧ ky ≤ 999) ∧ (0 ≤ sr ∧ sr ≤ 9) ∧ (0 ≤ vl ∧ vl ≤ 99)) := ⟨by omega, by omega, by omega⟩
        have hlt : σ 10 0 < 200 := by omega
        have hx9 := hM.1
        rw [e10] at hx9
        refine lv_aload_n hx hb dX4_insert_58 rfl (lv_at hl 1 rfl) ?_
        refine m_get hx hb hts (fun _ q => List.mem_cons_of_mem _ (List.mem_append_right _ q)) hown hK hB hx9 (ci := 4) rfl 8 (by decide) (List.mem_of_getElem? (i := 2) rfl) rfl rfl dX4_insert_59 ?_
        refine lv_aload_n hx hb dX4_insert_62 rfl (lv_at hl 1 rfl) ?_
        refine m_get hx hb hts (fun _ q => List.mem_cons_of_mem _ (List.mem_append_right _ q)) hown hK hB hx9 (ci := 4) rfl 11 (by decide) (List.mem_of_getElem? (i := 1) rfl) rfl rfl dX4_insert_63 ?_
        refine lv_iload_n hx hb dX4_insert_66 rfl (lv_at hl 2 rfl) ?_
        refine m_mst hx hb hK hB hM 6 (by decide) (i := jn) (v := ky) (show jn < 200 by omega) dX4_insert_67 (fun h1 H locs hM2 hF2 hB => ?_)
        obtain ⟨h2, σ, eσ_16, hM, hF, hB, hI, e10⟩ : ∃ (h2 : Hp) (σ2 : Sg), σ2 = upS σ 6 jn ky ∧ MR cI xm xa σ2 0 h2 ∧ FrM h0 h2 ∧ Bk D z s.heap h2 H locs ∧ Ib σ2 ∧ σ2 10 0 = (jn : Int) := ⟨_, _, rfl, hM2, hF.tr hF2, hB, hI.k6 (by omega), (upS_g (by decide)).trans e10⟩
        have hnp := hI.hnp
        have hnr := hI.hnr
        have hnrI := hI.nrI
        have hx9 := hM.1
        rw [e10] at hx9
        refine lv_aload_n hx hb dX4_insert_68 rfl (lv_at hl 1 rfl) ?_
        refine m_get hx hb hts (fun _ q => List.mem_cons_of_mem _ (List.mem_append_right _ q)) hown hK hB hx9 (ci := 4) rfl 9 (by decide) (List.mem_of_getElem? (i := 3) rfl) rfl rfl dX4_insert_69 ?_
        refine lv_aload_n hx hb dX4_insert_72 rfl (lv_at hl 1 rfl) ?_
        refine m_get hx hb hts (fun _ q => List.mem_cons_of_mem _ (List.mem_append_right _ q)) hown hK hB hx9 (ci := 4) rfl 11 (by decide) (List.mem_of_getElem? (i := 1) rfl) rfl rfl dX4_insert_73 ?_
        refine lv_iload_n hx hb dX4_insert_76 rfl (lv_at hl 3 rfl) ?_
        refine m_mst hx hb hK hB hM 7 (by decide) (i := jn) (v := sr) (show jn < 200 by omega) dX4_insert_77 (fun h1 H locs hM2 hF2 hB => ?_)
        obtain ⟨h2, σ, eσ_17, hM, hF, hB, hI, e10⟩ : ∃ (h2 : Hp) (σ2 : Sg), σ2 = upS σ 7 jn sr ∧ MR cI xm xa σ2 0 h2 ∧ FrM h0 h2 ∧ Bk D z s.heap h2 H locs ∧ Ib σ2 ∧ σ2 10 0 = (jn : Int) := ⟨_, _, rfl, hM2, hF.tr hF2, hB, hI.s7 (by omega), (upS_g (by decide)).trans e10⟩
        have hnp := hI.hnp
        have hnr := hI.hnr
        have hnrI := hI.nrI
        have hx9 := hM.1
        rw [e10] at hx9
        refine lv_aload_n hx hb dX4_insert_78 rfl (lv_at hl 1 rfl) ?_
        refine m_get hx hb hts (fun _ q => List.mem_cons_of_mem _ (List.mem_append_right _ q)) hown hK hB hx9 (ci := 4) rfl 10 (by decide) (List.mem_of_getElem? (i := 4) rfl) rfl rfl dX4_insert_79 ?_
        refine lv_aload_n hx hb dX4_insert_82 rfl (lv_at hl 1 rfl) ?_
        refine m_get hx hb hts (fun _ q => List.mem_cons_of_mem _ (List.mem_append_right _ q)) hown hK hB hx9 (ci := 4) rfl 11 (by decide) (List.mem_of_getElem? (i := 1) rfl) rfl rfl dX4_insert_83 ?_
        refine lv_iload_n hx hb dX4_insert_86 rfl (lv_at hl 4 rfl) ?_
        refine m_mst hx hb hK hB hM 8 (by decide) (i := jn) (v := vl) (show jn < 200 by omega) dX4_insert_87 (fun h1 H locs hM2 hF2 hB => ?_)
        obtain ⟨h2, σ, eσ_18, hM, hF, hB, hI, e10⟩ : ∃ (h2 : Hp) (σ2 : Sg), σ2 = upS σ 8 jn vl ∧ MR cI xm xa σ2 0 h2 ∧ FrM h0 h2 ∧ Bk D z s.heap h2 H locs ∧ Ib σ2 ∧ σ2 10 0 = (jn : Int) := ⟨_, _, rfl, hM2, hF.tr hF2, hB, hI.v8 (by omega), (upS_g (by decide)).trans e10⟩
        have hnp := hI.hnp
        have hnr := hI.hnr
        have hnrI := hI.nrI
        have hx9 := hM.1
        rw [e10] at hx9
        refine lv_aload_n hx hb dX4_insert_88 rfl (lv_at hl 1 rfl) ?_
        refine m_get hx hb hts (fun _ q => List.mem_cons_of_mem _ (List.mem_append_right _ q)) hown hK hB hx9 (ci := 4) rfl 7 (by decide) (List.mem_of_getElem? (i := 5) rfl) rfl rfl dX4_insert_89 ?_
        refine lv_aload_n hx hb dX4_insert_92 rfl (lv_at hl 1 rfl) ?_
        refine m_get hx hb hts (fun _ q => List.mem_cons_of_mem _ (List.mem_append_right _ q)) hown hK hB hx9 (ci := 4) rfl 11 (by decide) (List.mem_of_getElem? (i := 1) rfl) rfl rfl dX4_insert_93 ?_
        refine lv_aload_n hx hb dX4_insert_96 rfl (lv_at hl 1 rfl) ?_
        refine lv_iload_n hx hb dX4_insert_97 rfl (lv_at hl 2 rfl) ?_
        refine m_run (va_runV (As := [.int (iI ky)]) (rest := [.int (iI (jn : Int)), .ref (xa 5)]) ⟨hx, hb, hml, hown, hts⟩ (k_X4_partWith (l := l) hM hI ⟨by omega, by omega⟩) (cwV 1 hts gX4_insert_X4_partWith rfl rfl rfl (by decide +kernel) ⟨by decide, by decide⟩) ⟨Kp.blind _ _ _ _ _, m_recv hK hB (ci := 4) rfl hM.1, fun U hU hW => hK.pass hB U hU hW⟩ rfl rfl hl.1 rfl (lv_room (Nat.le_of_ble_eq_true rfl)) dX4_insert_98 ⟨Nat.le_of_ble_eq_true rfl, Nat.le_of_ble_eq_true rfl⟩) hB (fun v u H locs hp_20 hB => ?_)
        obtain ⟨rfl, rfl⟩ := hp_20
        show W _ _ _ _ _ _ _ _ _ _ _ _ _ _ _ (F0 m 101 ls [.int (iI ((pw σ ky : Nat) : Int)), .int (iI (jn : Int)), .ref (xa 5)])
        have pwl_19 := pw_le hI ky
        refine m_mst hx hb hK hB hM 5 (by decide) (i := jn) (v := ((pw σ ky : Nat) : Int)) (show jn < 200 by omega) dX4_insert_101 (fun h1 H locs hM2 hF2 hB => ?_)
        obtain ⟨h2, σ, eσ_21, hM, hF, hB, e10⟩ : ∃ (h2 : Hp) (σ2 : Sg), σ2 = upS σ 5 jn ((pw σ ky : Nat) : Int) ∧ MR cI xm xa σ2 0 h2 ∧ FrM h0 h2 ∧ Bk D z s.heap h2 H locs ∧ σ2 10 0 = (jn : Int) := ⟨_, _, rfl, hM2, hF.tr hF2, hB, (upS_g (by decide)).trans e10⟩
        have hx9 := hM.1
        rw [e10] at hx9
        refine lv_aload_n hx hb dX4_insert_102 rfl (lv_at hl 1 rfl) ?_
        refine lv_dup hx hb dX4_insert_103 rfl ?_
        refine m_get hx hb hts (fun _ q => List.mem_cons_of_mem _ (List.mem_append_right _ q)) hown hK hB hx9 (ci := 4) rfl 11 (by decide) (List.mem_of_getElem? (i := 1) rfl) rfl rfl dX4_insert_104 ?_
        refine j_iconst hx hb dX4_insert_107 ?_
        refine j_iadd hx hb dX4_insert_108 ?_
        refine m_put hx hb hts (fun _ q => List.mem_cons_of_mem _ (List.mem_append_right _ q)) tyX4 tyX4_ok nmX4 hown hK hB hx9 (ci := 4) rfl 11 (by decide) (List.mem_of_getElem? (i := 1) rfl) rfl rfl rfl rfl (Nat.le_of_ble_eq_true rfl) dX4_insert_109 (fun H locs hB => ?_)
        obtain ⟨h2, σ, eσ_22, hM, hF, hB, e10⟩ : ∃ (h2 : Hp) (σ2 : Sg), σ2 = upS σ 10 0 ((jn : Int) + 1) ∧ MR cI xm xa σ2 0 h2 ∧ FrM h0 h2 ∧ Bk D z s.heap h2 H locs ∧ σ2 10 0 = (jn : Int) + 1 := ⟨_, _, rfl, hM.w10, hF.tr (FrM.up hM.1 (Or.inl rfl)), hB, upS_s _ _ _ _⟩
        have hx9 := hM.1
        rw [e10] at hx9
        refine lv_aload_n hx hb dX4_insert_112 rfl (lv_at hl 1 rfl) ?_
        refine m_get hx hb hts (fun _ q => List.mem_cons_of_mem _ (List.mem_append_right _ q)) hown hK hB hx9 (ci := 4) rfl 11 (by decide) (List.mem_of_getElem? (i := 1) rfl) rfl rfl dX4_insert_113 ?_
        refine j_iconst hx hb dX4_insert_116 ?_
        refine j_isub hx hb dX4_insert_117 ?_
        exact m_zret hx hb hr rfl hlocks hB (by decide) (by decide) dX4_insert_118 (by unfold inS; rw [← ejn, e10o]; (repeat rw [Int.toNat_natCast]); subst eσ_22; subst eσ_21; subst eσ_18; subst eσ_17; subst eσ_16; rw [pw_up (by decide) (by decide), pw_up (by decide) (by decide), pw_up (by decide) (by decide)] at hM; exact Or.inl (⟨⟨hinc, by omega⟩, ret_e (by omega), hM, hF⟩))
      · refine j_iconst hx hb dX4_insert_45 ?_
        refine lv_goto (tgt := 50) hx hb dX4_insert_46 (by decide) ?_
        refine m_run (va_runV (As := [.int (iI 2)]) (rest := []) ⟨hx, hb, hml, hown, hts⟩ (k_X4_isFine (l := l) (tc := 2) hM hI ⟨by decide, by decide⟩) (cwV 1 hts gX4_insert_X4_isFine rfl rfl rfl (by decide +kernel) ⟨by decide, by decide⟩) ⟨Kp.blind _ _ _ _ _, m_recv hK hB (ci := 4) rfl hM.1, fun U hU hW => hK.pass hB U hU hW⟩ rfl rfl hl.1 rfl (lv_room (Nat.le_of_ble_eq_true rfl)) dX4_insert_50 ⟨Nat.le_of_ble_eq_true rfl, Nat.le_of_ble_eq_true rfl⟩) hB (fun v u H locs hp_23 hB => ?_)
        obtain ⟨ev, hM, hFm⟩ := hp_23
        rw [b2_f (by decide)] at ev
        subst ev
        show W _ _ _ _ _ _ _ _ _ _ _ _ _ _ _ (F0 m 53 ls [.int (iI 0)])
        have hF := hF.tr hFm
        refine j_if_ne (tgt := 58) hx hb dX4_insert_53 (by decide) ⟨by decide, by decide⟩ (fun c_24 => absurd c_24 (by decide)) (fun c_24 => ?_)
        refine j_iconst hx hb dX4_insert_56 ?_
        exact m_zret hx hb hr rfl hlocks hB (by decide) (by decide) dX4_insert_57 (by (repeat rw [Int.toNat_natCast]); exact Or.inr (Or.inr (⟨⟨⟨by omega, by omega, by omega⟩, by omega⟩, rfl, hM, hF⟩)))

abbrev rmX4_change : Room := { frames := 3, cells := 0, slots := 0, locals := 66 }
set_option maxHeartbeats 4000000 in
set_option maxRecDepth 100000 in
theorem k_X4_change {l : Launch} {D : va_G} {z : Nat} {cI cP cR cJ : ClassId} {h0 : Hp} {xm : Nat} {xa : Nat → Nat} {σ : Sg} {th : Int} (hM : MR cI xm xa σ th h0) (hI : Ib σ) {n ky sr : Int} (rn : rg n) (rk : rg ky) (rs : rg sr) : Ct l D z (tyL cI cP cR cJ) yX4_change wsX4_change rmX4_change [.ref xm, .int (iI n), .int (iI ky), .int (iI sr)] h0 (fun v u => ((isR σ n ∧ ((0 ≤ ky ∧ ky ≤ 999) ∧ 0 ≤ sr ∧ sr ≤ 9) ∧ σ 4 (pn σ n.toNat) = 0) ∧ v = some (.int (iI (b2 (10 * ((pn (upS (upS (upS σ 6 n.toNat ky) 7 n.toNat sr) 5 n.toNat ((pw (upS (upS σ 6 n.toNat ky) 7 n.toNat sr) ky : Nat) : Int)) n.toNat : Nat) : Int) + lfr (upS (upS (upS σ 6 n.toNat ky) 7 n.toNat sr) 5 n.toNat ((pw (upS (upS σ 6 n.toNat ky) 7 n.toNat sr) ky : Nat) : Int)) n.toNat ≠ 10 * ((pn σ n.toNat : Nat) : Int) + lfr σ n.toNat)))) ∧ MR cI xm xa (upS (upS (upS σ 6 n.toNat ky) 7 n.toNat sr) 5 n.toNat ((pw (upS (upS σ 6 n.toNat ky) 7 n.toNat sr) ky : Nat) : Int)) 0 u ∧ FrM h0 u) ∨ ((¬ isR σ n) ∧ v = some (.int (iI 0)) ∧ MR cI xm xa σ 1 u ∧ FrM h0 u) ∨ ((isR σ n ∧ ¬ ((0 ≤ ky ∧ ky ≤ 999) ∧ 0 ≤ sr ∧ sr ≤ 9)) ∧ v = some (.int (iI 0)) ∧ MR cI xm xa σ 2 u ∧ FrM h0 u) ∨ ((isR σ n ∧ ((0 ≤ ky ∧ ky ≤ 999) ∧ 0 ≤ sr ∧ sr ≤ 9) ∧ σ 4 (pn σ n.toNat) ≠ 0) ∧ v = some (.int (iI 0)) ∧ MR cI xm xa σ 3 u ∧ FrM h0 u)) := by
  refine Ct.of (cc := cX4_change) (maxL := 6) (ret := (some .boolean)) (by decide) rfl (Nat.le_of_ble_eq_true rfl) ?_
  intro p e s m args below meth c hx hb hr hts hown hlocks hml hnm hK hB ls hl
  have hl : lv_has ls 6 [(0, .ref xm), (1, .int (iI n)), (2, .int (iI ky)), (3, .int (iI sr))] := hl
  have hF := FrM.rf h0
  have hnp := hI.hnp
  have hnr := hI.hnr
  have hnrI := hI.nrI
  have hnpI := hI.npI
  have hre := hI.rest
  refine lv_aload_n hx hb dX4_change_0 rfl (lv_at hl 0 rfl) ?_
  refine lv_iload_n hx hb dX4_change_1 rfl (lv_at hl 1 rfl) ?_
  refine m_run (va_runV (As := [.int (iI n)]) (rest := []) ⟨hx, hb, hml, hown, hts⟩ (k_X4_isRow (l := l) hM hI ⟨by omega, by omega⟩) (cwV 1 hts gX4_change_X4_isRow rfl rfl rfl (by decide +kernel) ⟨by decide, by decide⟩) ⟨Kp.blind _ _ _ _ _, m_recv hK hB (ci := 4) rfl hM.1, fun U hU hW => hK.pass hB U hU hW⟩ rfl rfl hl.1 rfl (lv_room (Nat.le_of_ble_eq_true rfl)) dX4_change_2 ⟨Nat.le_of_ble_eq_true rfl, Nat.le_of_ble_eq_true rfl⟩) hB (fun v u H locs hp_1 hB => ?_)
  obtain ⟨rfl, rfl⟩ := hp_1
  show W _ _ _ _ _ _ _ _ _ _ _ _ _ _ _ (F0 m 5 ls [.int (iI (b2 (isR σ n)))])
  refine lv_istore (lv' := [(4, .int (iI (b2 (isR σ n)))), (0, .ref xm), (1, .int (iI n)), (2, .int (iI ky)), (3, .int (iI sr))]) hx hb dX4_change_5 hl (by decide) rfl (fun ls hl => ?_)
  refine lv_aload_n hx hb dX4_change_7 rfl (lv_at hl 1 rfl) ?_
  refine lv_iload hx hb dX4_change_8 (lv_at hl 0 rfl) ?_
  refine j_ifneP (tgt := 17) hx hb dX4_change_10 (by decide) (fun c_2 => ?_) (fun c_2 => ?_)
  · have hnn : 0 ≤ n := by have w := c_2; unfold isR at w; omega
    obtain ⟨ja, rfl⟩ : ∃ ja : Nat, n = (ja : Int) := ⟨n.toNat, by omega⟩
    have hl0 := isR_j.mp c_2
    have hlo := hl0
    have rfj := hI.row ja hl0
    have pnj := hI.pnI ja hl0
    refine lv_iload_n hx hb dX4_change_17 rfl (lv_at hl 3 rfl) ?_
    refine lv_iload_n hx hb dX4_change_18 rfl (lv_at hl 4 rfl) ?_
    refine m_run (va_runS (As := [.int (iI ky), .int (iI sr)]) (rest := [.ref xm]) ⟨hx, hb, hml, hown, hts⟩ (k_X4_isShaped (l := l) ⟨by omega, by omega⟩ ⟨by omega, by omega⟩) (va_cwS 2 hts gX4_change_X4_isShaped rfl rfl rfl (by decide +kernel) ⟨by decide, by decide⟩) ⟨Kp.blind _ _ _ _ _, fun U hU hW => hK.pass hB U hU hW⟩ rfl rfl hl.1 rfl (lv_room (Nat.le_of_ble_eq_true rfl)) dX4_change_19 ⟨Nat.le_of_ble_eq_true rfl, Nat.le_of_ble_eq_true rfl⟩) hB (fun v u H locs hp_3 hB => ?_)
    obtain ⟨rfl, rfl⟩ := hp_3
    show W _ _ _ _ _ _ _ _ _ _ _ _ _ _ _ (F0 m 22 ls [.int (iI (b2 ((0 ≤ ky ∧ ky ≤ 999) ∧ 0 ≤ sr ∧ sr ≤ 9))), .ref xm])
    refine j_ifneP (tgt := 29) hx hb dX4_change_22 (by decide) (fun c_4 => ?_) (fun c_4 => ?_)
    · refine lv_aload_n hx hb dX4_change_29 rfl (lv_at hl 1 rfl) ?_
      refine lv_iload_n hx hb dX4_change_30 rfl (lv_at hl 2 rfl) ?_
      refine m_run (va_runV (As := [.int (iI (ja : Int))]) (rest := [.ref xm]) ⟨hx, hb, hml, hown, hts⟩ (k_X4_isTabled (l := l) hM hI (j := ja) (by omega)) (cwV 1 hts gX4_change_X4_isTabled rfl rfl rfl (by decide +kernel) ⟨by decide, by decide⟩) ⟨Kp.blind _ _ _ _ _, m_recv hK hB (ci := 4) rfl hM.1, fun U hU hW => hK.pass hB U hU hW⟩ rfl rfl hl.1 rfl (lv_room (Nat.le_of_ble_eq_true rfl)) dX4_change_31 ⟨Nat.le_of_ble_eq_true rfl, Nat.le_of_ble_eq_true rfl⟩) hB (fun v u H locs hp_5 hB => ?_)
      obtain ⟨rfl, rfl⟩ := hp_5
      show W _ _ _ _ _ _ _ _ _ _ _ _ _ _ _ (F0 m 34 ls [.int (iI (b2 (live σ ja ∧ σ 4 (pn σ ja) = 0))), .ref xm])
      refine j_ifneP (tgt := 41) hx hb dX4_change_34 (by decide) (fun c_6 => ?_) (fun c_6 => ?_)
      · refine j_iconst hx hb dX4_change_41 ?_
        refine m_run (va_runV (As := [.int (iI 0)]) (rest := []) ⟨hx, hb, hml, hown, hts⟩ (k_X4_isFine (l := l) (tc := 0) hM hI ⟨by decide, by decide⟩) (cwV 1 hts gX4_change_X4_isFine rfl rfl rfl (by decide +kernel) ⟨by decide, by decide⟩) ⟨Kp.blind _ _ _ _ _, m_recv hK hB (ci := 4) rfl hM.1, fun U hU hW => hK.pass hB U hU hW⟩ rfl rfl hl.1 rfl (lv_room (Nat.le_of_ble_eq_true rfl)) dX4_change_42 ⟨Nat.le_of_ble_eq_true rfl, Nat.le_of_ble_eq_true rfl⟩) hB (fun v u H locs hp_7 hB => ?_)
        obtain ⟨ev, hM, hFm⟩ := hp_7
        rw [b2_t (by decide)] at ev
        subst ev
        show W _ _ _ _ _ _ _ _ _ _ _ _ _ _ _ (F0 m 45 ls [.int (iI 1)])
        have hF := hF.tr hFm
        refine j_if_ne (tgt := 50) hx hb dX4_change_45 (by decide) ⟨by decide, by decide⟩ (fun c_8 => ?_) (fun c_8 => absurd c_8 (by decide))
        have hl : lv_has ls 6 [(0, .ref xm), (1, .int (iI (ja : Int))), (2, .int (iI ky)), (3, .int (iI sr))] := lv_sub hl [1, 2, 3, 4] rfl
        have rfj := hI.row ja hl0
        have pnj := hI.pnI ja hl0
        have hkd := hI.kd (pn σ ja) (by omega)
        have lfb : 0 ≤ lfr σ ja ∧ lfr σ ja ≤ 4 := lf_rg hkd
        refine lv_aload_n hx hb dX4_change_50 rfl (lv_at hl 0 rfl) ?_
        refine lv_iload_n hx hb dX4_change_51 rfl (lv_at hl 1 rfl) ?_
        refine m_run (va_runV (As := [.int (iI (ja : Int))]) (rest := []) ⟨hx, hb, hml, hown, hts⟩ (k_X4_place (l := l) hM hI (j := ja) hl0) (cwV 1 hts gX4_change_X4_place rfl rfl rfl (by decide +kernel) ⟨by decide, by decide⟩) ⟨Kp.blind _ _ _ _ _, m_recv hK hB (ci := 4) rfl hM.1, fun U hU hW => hK.pass hB U hU hW⟩ rfl rfl hl.1 rfl (lv_room (Nat.le_of_ble_eq_true rfl)) dX4_change_52 ⟨Nat.le_of_ble_eq_true rfl, Nat.le_of_ble_eq_true rfl⟩) hB (fun v u H locs hp_9 hB => ?_)
        obtain ⟨rfl, rfl⟩ := hp_9
        show W _ _ _ _ _ _ _ _ _ _ _ _ _ _ _ (F0 m 55 ls [.int (iI (10 * ((pn σ ja : Nat) : Int) + lfr σ ja))])
        refine j_top (fun pl0 epl0 => ?_)
        refine lv_istore (lv' := [(5, .int (iI pl0)), (0, .ref xm), (1, .int (iI (ja : Int))), (2, .int (iI ky)), (3, .int (iI sr))]) hx hb dX4_change_55 hl (by decide) rfl (fun ls hl => ?_)
        refine lv_aload_n hx hb dX4_change_57 rfl (lv_at hl 1 rfl) ?_
        refine m_get hx hb hts (fun _ q => List.mem_cons_of_mem _ (List.mem_append_right _ q)) hown hK hB hM.1 (ci := 4) rfl 8 (by decide) (List.mem_of_getElem? (i := 1) rfl) rfl rfl dX4_change_58 ?_
        refine lv_iload_n hx hb dX4_change_61 rfl (lv_at hl 2 rfl) ?_
        refine lv_iload_n hx hb dX4_change_62 rfl (lv_at hl 3 rfl) ?_
        refine m_mst hx hb hK hB hM 6 (by decide) (i := ja) (v := ky) (show ja < 200 by omega) dX4_change_63 (fun h1 H locs hM2 hF2 hB => ?_)
        obtain ⟨h2, σ, eσ_10, hM, hF, hB, hI, e9, hl0⟩ : ∃ (h2 : Hp) (σ2 : Sg), σ2 = upS σ 6 ja ky ∧ MR cI xm xa σ2 0 h2 ∧ FrM h0 h2 ∧ Bk D z s.heap h2 H locs ∧ Ib σ2 ∧ σ2 9 0 = σ 9 0 ∧ live σ2 ja := ⟨_, _, rfl, hM2, hF.tr hF2, hB, hI.k6 (by omega), upS_g (by decide), (upS_live (by decide) (by decide)).mpr hl0⟩
        have hnp := hI.hnp
        have hnr := hI.hnr
        have hnrI := hI.nrI
        refine lv_aload_n hx hb dX4_change_64 rfl (lv_at hl 1 rfl) ?_
        refine m_get hx hb hts (fun _ q => List.mem_cons_of_mem _ (List.mem_append_right _ q)) hown hK hB hM.1 (ci := 4) rfl 9 (by decide) (List.mem_of_getElem? (i := 2) rfl) rfl rfl dX4_change_65 ?_
        refine lv_iload_n hx hb dX4_change_68 rfl (lv_at hl 2 rfl) ?_
        refine lv_iload_n hx hb dX4_change_69 rfl (lv_at hl 4 rfl) ?_
        refine m_mst hx hb hK hB hM 7 (by decide) (i := ja) (v := sr) (show ja < 200 by omega) dX4_change_70 (fun h1 H locs hM2 hF2 hB => ?_)
        obtain ⟨h2, σ, eσ_11, hM, hF, hB, hI, e9, hl0⟩ : ∃ (h2 : Hp) (σ2 : Sg), σ2 = upS σ 7 ja sr ∧ MR cI xm xa σ2 0 h2 ∧ FrM h0 h2 ∧ Bk D z s.heap h2 H locs ∧ Ib σ2 ∧ σ2 9 0 = σ 9 0 ∧ live σ2 ja := ⟨_, _, rfl, hM2, hF.tr hF2, hB, hI.s7 (by omega), upS_g (by decide), (upS_live (by decide) (by decide)).mpr hl0⟩
        have hnp := hI.hnp
        have hnr := hI.hnr
        have hnrI := hI.nrI
        refine lv_aload_n hx hb dX4_change_71 rfl (lv_at hl 1 rfl) ?_
        refine m_get hx hb hts (fun _ q => List.mem_cons_of_mem _ (List.mem_append_right _ q)) hown hK hB hM.1 (ci := 4) rfl 7 (by decide) (List.mem_of_getElem? (i := 3) rfl) rfl rfl dX4_change_72 ?_
        refine lv_iload_n hx hb dX4_change_75 rfl (lv_at hl 2 rfl) ?_
        refine lv_aload_n hx hb dX4_change_76 rfl (lv_at hl 1 rfl) ?_
        refine lv_iload_n hx hb dX4_change_77 rfl (lv_at hl 3 rfl) ?_
        refine m_run (va_runV (As := [.int (iI ky)]) (rest := [.int (iI (ja : Int)), .ref (xa 5)]) ⟨hx, hb, hml, hown, hts⟩ (k_X4_partWith (l := l) hM hI ⟨by omega, by omega⟩) (cwV 1 hts gX4_change_X4_partWith rfl rfl rfl (by decide +kernel) ⟨by decide, by decide⟩) ⟨Kp.blind _ _ _ _ _, m_recv hK hB (ci := 4) rfl hM.1, fun U hU hW => hK.pass hB U hU hW⟩ rfl rfl hl.1 rfl (lv_room (Nat.le_of_ble_eq_true rfl)) dX4_change_78 ⟨Nat.le_of_ble_eq_true rfl, Nat.le_of_ble_eq_true rfl⟩) hB (fun v u H locs hp_13 hB => ?_)
        obtain ⟨rfl, rfl⟩ := hp_13
        show W _ _ _ _ _ _ _ _ _ _ _ _ _ _ _ (F0 m 81 ls [.int (iI ((pw σ ky : Nat) : Int)), .int (iI (ja : Int)), .ref (xa 5)])
        have pwl_12 := pw_le hI ky
        refine m_mst hx hb hK hB hM 5 (by decide) (i := ja) (v := ((pw σ ky : Nat) : Int)) (show ja < 200 by omega) dX4_change_81 (fun h1 H locs hM2 hF2 hB => ?_)
        obtain ⟨h2, σ, eσ_14, hM, hF, hB, hI, e9, hl0⟩ : ∃ (h2 : Hp) (σ2 : Sg), σ2 = upS σ 5 ja ((pw σ ky : Nat) : Int) ∧ MR cI xm xa σ2 0 h2 ∧ FrM h0 h2 ∧ Bk D z s.heap h2 H locs ∧ Ib σ2 ∧ σ2 9 0 = σ 9 0 ∧ live σ2 ja := ⟨_, _, rfl, hM2, hF.tr hF2, hB, hI.p5 hl0 (by omega), upS_g (by decide), (upS_live5 hl0 (by omega)).mpr hl0⟩
        have hnp := hI.hnp
        have hnr := hI.hnr
        have hnrI := hI.nrI
        have rfj := hI.row ja hl0
        have pnj := hI.pnI ja hl0
        have hkd := hI.kd (pn σ ja) (by omega)
        have lfb : 0 ≤ lfr σ ja ∧ lfr σ ja ≤ 4 := lf_rg hkd
        refine lv_aload_n hx hb dX4_change_82 rfl (lv_at hl 1 rfl) ?_
        refine lv_iload_n hx hb dX4_change_83 rfl (lv_at hl 2 rfl) ?_
        refine m_run (va_runV (As := [.int (iI (ja : Int))]) (rest := []) ⟨hx, hb, hml, hown, hts⟩ (k_X4_place (l := l) hM hI (j := ja) hl0) (cwV 1 hts gX4_change_X4_place rfl rfl rfl (by decide +kernel) ⟨by decide, by decide⟩) ⟨Kp.blind _ _ _ _ _, m_recv hK hB (ci := 4) rfl hM.1, fun U hU hW => hK.pass hB U hU hW⟩ rfl rfl hl.1 rfl (lv_room (Nat.le_of_ble_eq_true rfl)) dX4_change_84 ⟨Nat.le_of_ble_eq_true rfl, Nat.le_of_ble_eq_true rfl⟩) hB (fun v u H locs hp_15 hB => ?_)
        obtain ⟨rfl, rfl⟩ := hp_15
        show W _ _ _ _ _ _ _ _ _ _ _ _ _ _ _ (F0 m 87 ls [.int (iI (10 * ((pn σ ja : Nat) : Int) + lfr σ ja))])
        refine lv_iload hx hb dX4_change_87 (lv_at hl 0 rfl) ?_
        refine j_icmp_eq (tgt := 96) hx hb dX4_change_89 (by decide) ⟨by omega, by omega⟩ ⟨by omega, by omega⟩ (fun c_16 => ?_) (fun c_16 => ?_)
        · refine j_iconst hx hb dX4_change_96 ?_
          exact m_zret hx hb hr (by decide) hlocks hB (by decide) (by decide) dX4_change_97 (by (repeat rw [Int.toNat_natCast]); subst eσ_14; subst eσ_11; subst eσ_10; exact Or.inl (⟨⟨c_2, c_4, c_6.2⟩, ret_f (fun q => q (c_16.trans epl0)), hM, hF⟩))
        · refine j_iconst hx hb dX4_change_92 ?_
          refine lv_goto (tgt := 97) hx hb dX4_change_93 (by decide) ?_
          exact m_zret hx hb hr (by decide) hlocks hB (by decide) (by decide) dX4_change_97 (by (repeat rw [Int.toNat_natCast]); subst eσ_14; subst eσ_11; subst eσ_10; exact Or.inl (⟨⟨c_2, c_4, c_6.2⟩, ret_t (fun q => c_16 (q.trans epl0.symm)), hM, hF⟩))
      · refine j_iconst hx hb dX4_change_37 ?_
        refine lv_goto (tgt := 42) hx hb dX4_change_38 (by decide) ?_
        refine m_run (va_runV (As := [.int (iI 3)]) (rest := []) ⟨hx, hb, hml, hown, hts⟩ (k_X4_isFine (l := l) (tc := 3) hM hI ⟨by decide, by decide⟩) (cwV 1 hts gX4_change_X4_isFine rfl rfl rfl (by decide +kernel) ⟨by decide, by decide⟩) ⟨Kp.blind _ _ _ _ _, m_recv hK hB (ci := 4) rfl hM.1, fun U hU hW => hK.pass hB U hU hW⟩ rfl rfl hl.1 rfl (lv_room (Nat.le_of_ble_eq_true rfl)) dX4_change_42 ⟨Nat.le_of_ble_eq_true rfl, Nat.le_of_ble_eq_true rfl⟩) hB (fun v u H locs hp_17 hB => ?_)
        obtain ⟨ev, hM, hFm⟩ := hp_17
        rw [b2_f (by decide)] at ev
        subst ev
        show W _ _ _ _ _ _ _ _ _ _ _ _ _ _ _ (F0 m 45 ls [.int (iI 0)])
        have hF := hF.tr hFm
        refine j_if_ne (tgt := 50) hx hb dX4_change_45 (by decide) ⟨by decide, by decide⟩ (fun c_18 => absurd c_18 (by decide)) (fun c_18 => ?_)
        refine j_iconst hx hb dX4_change_48 ?_
        exact m_zret hx hb hr (by decide) hlocks hB (by decide) (by decide) dX4_change_49 (by (repeat rw [Int.toNat_natCast]); exact Or.inr (Or.inr (Or.inr (⟨⟨c_2, c_4, fun q => c_6 ⟨hlo, q⟩⟩, rfl, hM, hF⟩))))
    · refine j_iconst hx hb dX4_change_25 ?_
      refine lv_goto (tgt := 42) hx hb dX4_change_26 (by decide) ?_
      refine m_run (va_runV (As := [.int (iI 2)]) (rest := []) ⟨hx, hb, hml, hown, hts⟩ (k_X4_isFine (l := l) (tc := 2) hM hI ⟨by decide, by decide⟩) (cwV 1 hts gX4_change_X4_isFine rfl rfl rfl (by decide +kernel) ⟨by decide, by decide⟩) ⟨Kp.blind _ _ _ _ _, m_recv hK hB (ci := 4) rfl hM.1, fun U hU hW => hK.pass hB U hU hW⟩ rfl rfl hl.1 rfl (lv_room (Nat.le_of_ble_eq_true rfl)) dX4_change_42 ⟨Nat.le_of_ble_eq_true rfl, Nat.le_of_ble_eq_true rfl⟩) hB (fun v u H locs hp_19 hB => ?_)
      obtain ⟨ev, hM, hFm⟩ := hp_19
      rw [b2_f (by decide)] at ev
      subst ev
      show W _ _ _ _ _ _ _ _ _ _ _ _ _ _ _ (F0 m 45 ls [.int (iI 0)])
      have hF := hF.tr hFm
      refine j_if_ne (tgt := 50) hx hb dX4_change_45 (by decide) ⟨by decide, by decide⟩ (fun c_20 => absurd c_20 (by decide)) (fun c_20 => ?_)
      refine j_iconst hx hb dX4_change_48 ?_
      exact m_zret hx hb hr (by decide) hlocks hB (by decide) (by decide) dX4_change_49 (by (repeat rw [Int.toNat_natCast]); exact Or.inr (Or.inr (Or.inl (⟨⟨c_2, c_4⟩, rfl, hM, hF⟩))))
  · refine j_iconst hx hb dX4_change_13 ?_
    refine lv_goto (tgt := 42) hx hb dX4_change_14 (by decide) ?_
    refine m_run (va_runV (As := [.int (iI 1)]) (rest := []) ⟨hx, hb, hml, hown, hts⟩ (k_X4_isFine (l := l) (tc := 1) hM hI ⟨by decide, by decide⟩) (cwV 1 hts gX4_change_X4_isFine rfl rfl rfl (by decide +kernel) ⟨by decide, by decide⟩) ⟨Kp.blind _ _ _ _ _, m_recv hK hB (ci := 4) rfl hM.1, fun U hU hW => hK.pass hB U hU hW⟩ rfl rfl hl.1 rfl (lv_room (Nat.le_of_ble_eq_true rfl)) dX4_change_42 ⟨Nat.le_of_ble_eq_true rfl, Nat.le_of_ble_eq_true rfl⟩) hB (fun v u H locs hp_21 hB => ?_)
    obtain ⟨ev, hM, hFm⟩ := hp_21
    rw [b2_f (by decide)] at ev
    subst ev
    show W _ _ _ _ _ _ _ _ _ _ _ _ _ _ _ (F0 m 45 ls [.int (iI 0)])
    have hF := hF.tr hFm
    refine j_if_ne (tgt := 50) hx hb dX4_change_45 (by decide) ⟨by decide, by decide⟩ (fun c_22 => absurd c_22 (by decide)) (fun c_22 => ?_)
    refine j_iconst hx hb dX4_change_48 ?_
    exact m_zret hx hb hr (by decide) hlocks hB (by decide) (by decide) dX4_change_49 (by (repeat rw [Int.toNat_natCast]); exact Or.inr (Or.inl (⟨c_2, rfl, hM, hF⟩)))

abbrev rmX4_remove : Room := { frames := 2, cells := 0, slots := 0, locals := 43 }
set_option maxHeartbeats 4000000 in
set_option maxRecDepth 100000 in
theorem k_X4_remove {l : Launch} {D : va_G} {z : Nat} {cI cP cR cJ : ClassId} {h0 : Hp} {xm : Nat} {xa : Nat → Nat} {σ : Sg} {th : Int} (hM : MR cI xm xa σ th h0) (hI : Ib σ) {n : Int} (rn : rg n) : Ct l D z (tyL cI cP cR cJ) yX4_remove wsX4_remove rmX4_remove [.ref xm, .int (iI n)] h0 (fun v u => ((isR σ n) ∧ v = some (.int (iI (σ 8 n.toNat))) ∧ MR cI xm xa (upS σ 5 n.toNat (-1)) 0 u ∧ FrM h0 u) ∨ ((¬ isR σ n) ∧ v = some (.int (iI 0)) ∧ MR cI xm xa σ 1 u ∧ FrM h0 u)) := by
  refine Ct.of (cc := cX4_remove) (maxL := 2) (ret := (some .int)) (by decide) rfl (Nat.le_of_ble_eq_true rfl) ?_
  intro p e s m args below meth c hx hb hr hts hown hlocks hml hnm hK hB ls hl
  have hl : lv_has ls 2 [(0, .ref xm), (1, .int (iI n))] := hl
  have hF := FrM.rf h0
  have hnp := hI.hnp
  have hnr := hI.hnr
  have hnrI := hI.nrI
  have hnpI := hI.npI
  have hre := hI.rest
  refine lv_aload_n hx hb dX4_remove_0 rfl (lv_at hl 0 rfl) ?_
  refine lv_aload_n hx hb dX4_remove_1 rfl (lv_at hl 0 rfl) ?_
  refine lv_iload_n hx hb dX4_remove_2 rfl (lv_at hl 1 rfl) ?_
  refine m_run (va_runV (As := [.int (iI n)]) (rest := [.ref xm]) ⟨hx, hb, hml, hown, hts⟩ (k_X4_isRow (l := l) hM hI ⟨by omega, by omega⟩) (cwV 1 hts gX4_remove_X4_isRow rfl rfl rfl (by decide +kernel) ⟨by decide, by decide⟩) ⟨Kp.blind _ _ _ _ _, m_recv hK hB (ci := 4) rfl hM.1, fun U hU hW => hK.pass hB U hU hW⟩ rfl rfl hl.1 rfl (lv_room (Nat.le_of_ble_eq_true rfl)) dX4_remove_3 ⟨Nat.le_of_ble_eq_true rfl, Nat.le_of_ble_eq_true rfl⟩) hB (fun v u H locs hp_1 hB => ?_)
  obtain ⟨rfl, rfl⟩ := hp_1
  show W _ _ _ _ _ _ _ _ _ _ _ _ _ _ _ (F0 m 6 ls [.int (iI (b2 (isR σ n))), .ref xm])
  refine j_ifeqP (tgt := 13) hx hb dX4_remove_6 (by decide) (fun c_2 => ?_) (fun c_2 => ?_)
  · refine j_iconst hx hb dX4_remove_13 ?_
    refine m_run (va_runV (As := [.int (iI 1)]) (rest := []) ⟨hx, hb, hml, hown, hts⟩ (k_X4_isFine (l := l) (tc := 1) hM hI ⟨by decide, by decide⟩) (cwV 1 hts gX4_remove_X4_isFine rfl rfl rfl (by decide +kernel) ⟨by decide, by decide⟩) ⟨Kp.blind _ _ _ _ _, m_recv hK hB (ci := 4) rfl hM.1, fun U hU hW => hK.pass hB U hU hW⟩ rfl rfl hl.1 rfl (lv_room (Nat.le_of_ble_eq_true rfl)) dX4_remove_14 ⟨Nat.le_of_ble_eq_true rfl, Nat.le_of_ble_eq_true rfl⟩) hB (fun v u H locs hp_3 hB => ?_)
    obtain ⟨ev, hM, hFm⟩ := hp_3
    rw [b2_f (by decide)] at ev
    subst ev
    show W _ _ _ _ _ _ _ _ _ _ _ _ _ _ _ (F0 m 17 ls [.int (iI 0)])
    have hF := hF.tr hFm
    refine j_if_ne (tgt := 22) hx hb dX4_remove_17 (by decide) ⟨by decide, by decide⟩ (fun c_4 => absurd c_4 (by decide)) (fun c_4 => ?_)
    refine j_iconst hx hb dX4_remove_20 ?_
    exact m_zret hx hb hr rfl hlocks hB (by decide) (by decide) dX4_remove_21 (by (repeat rw [Int.toNat_natCast]); exact Or.inr (⟨c_2, rfl, hM, hF⟩))
  · refine j_iconst hx hb dX4_remove_9 ?_
    refine lv_goto (tgt := 14) hx hb dX4_remove_10 (by decide) ?_
    refine m_run (va_runV (As := [.int (iI 0)]) (rest := []) ⟨hx, hb, hml, hown, hts⟩ (k_X4_isFine (l := l) (tc := 0) hM hI ⟨by decide, by decide⟩) (cwV 1 hts gX4_remove_X4_isFine rfl rfl rfl (by decide +kernel) ⟨by decide, by decide⟩) ⟨Kp.blind _ _ _ _ _, m_recv hK hB (ci := 4) rfl hM.1, fun U hU hW => hK.pass hB U hU hW⟩ rfl rfl hl.1 rfl (lv_room (Nat.le_of_ble_eq_true rfl)) dX4_remove_14 ⟨Nat.le_of_ble_eq_true rfl, Nat.le_of_ble_eq_true rfl⟩) hB (fun v u H locs hp_5 hB => ?_)
    obtain ⟨ev, hM, hFm⟩ := hp_5
    rw [b2_t (by decide)] at ev
    subst ev
    show W _ _ _ _ _ _ _ _ _ _ _ _ _ _ _ (F0 m 17 ls [.int (iI 1)])
    have hF := hF.tr hFm
    refine j_if_ne (tgt := 22) hx hb dX4_remove_17 (by decide) ⟨by decide, by decide⟩ (fun c_6 => ?_) (fun c_6 => absurd c_6 (by decide))
    have hnn : 0 ≤ n := by have w := c_2; unfold isR at w; omega
    obtain ⟨ja, rfl⟩ : ∃ ja : Nat, n = (ja : Int) := ⟨n.toNat, by omega⟩
    have hl0 := isR_j.mp c_2
    have hlo := hl0
    have rfj := hI.row ja hl0
    have pnj := hI.pnI ja hl0
    refine lv_aload_n hx hb dX4_remove_22 rfl (lv_at hl 0 rfl) ?_
    refine m_get hx hb hts (fun _ q => List.mem_cons_of_mem _ (List.mem_append_right _ q)) hown hK hB hM.1 (ci := 4) rfl 7 (by decide) (List.mem_of_getElem? (i := 1) rfl) rfl rfl dX4_remove_23 ?_
    refine lv_iload_n hx hb dX4_remove_26 rfl (lv_at hl 1 rfl) ?_
    refine j_iconst hx hb dX4_remove_27 ?_
    refine m_mst hx hb hK hB hM 5 (by decide) (i := ja) (v := (-1)) (show ja < 200 by omega) dX4_remove_28 (fun h1 H locs hM2 hF2 hB => ?_)
    obtain ⟨h2, σ, eσ_7, hM, hF, hB, hI, e9⟩ : ∃ (h2 : Hp) (σ2 : Sg), σ2 = upS σ 5 ja (-1) ∧ MR cI xm xa σ2 0 h2 ∧ FrM h0 h2 ∧ Bk D z s.heap h2 H locs ∧ Ib σ2 ∧ σ2 9 0 = σ 9 0 := ⟨_, _, rfl, hM2, hF.tr hF2, hB, hI.p5 hl0 (by omega), upS_g (by decide)⟩
    have hnp := hI.hnp
    have hnr := hI.hnr
    have hnrI := hI.nrI
    refine lv_aload_n hx hb dX4_remove_29 rfl (lv_at hl 0 rfl) ?_
    refine m_get hx hb hts (fun _ q => List.mem_cons_of_mem _ (List.mem_append_right _ q)) hown hK hB hM.1 (ci := 4) rfl 10 (by decide) (List.mem_of_getElem? (i := 2) rfl) rfl rfl dX4_remove_30 ?_
    refine lv_iload_n hx hb dX4_remove_33 rfl (lv_at hl 1 rfl) ?_
    refine m_mld hx hb hK hB hM 8 (by decide) (i := ja) (show ja < 200 by omega) dX4_remove_34 ?_
    exact m_zret hx hb hr rfl hlocks hB (by decide) (by decide) dX4_remove_35 (by (repeat rw [Int.toNat_natCast]); subst eσ_7; exact Or.inl (⟨c_2, ret_e (upS_g (by decide)), hM, hF⟩))

