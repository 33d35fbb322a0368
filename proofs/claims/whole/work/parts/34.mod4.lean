abbrev rmX4_thrown : Room := { frames := 0, cells := 0, slots := 0, locals := 0 }
set_option maxHeartbeats 4000000 in
set_option maxRecDepth 100000 in
theorem k_X4_thrown {l : Launch} {D : va_G} {z : Nat} {cI cP cR cJ : ClassId} {h0 : Hp} {xm : Nat} {xa : Nat → Nat} {σ : Sg} {th : Int} (hM : MR cI xm xa σ th h0) (hI : Ib σ)  : Ct l D z (tyL cI cP cR cJ) yX4_thrown wsX4_thrown rmX4_thrown [.ref xm] h0 (fun v u => v = some (.int (iI th)) ∧ h0 = u) := by
  refine Ct.of (cc := cX4_thrown) (maxL := 1) (ret := (some .int)) (by decide) rfl (Nat.le_of_ble_eq_true rfl) ?_
  intro p e s m args below meth c hx hb hr hts hown hlocks hml hnm hK hB ls hl
  have hl : lv_has ls 1 [(0, .ref xm)] := hl
  have hF := FrM.rf h0
  have hnp := hI.hnp
  have hnr := hI.hnr
  have hnrI := hI.nrI
  have hnpI := hI.npI
  have hre := hI.rest
  refine lv_aload_n hx hb dX4_thrown_0 rfl (lv_at hl 0 rfl) ?_
  refine m_get hx hb hts (fun _ q => List.mem_cons_of_mem _ (List.mem_append_right _ q)) hown hK hB hM.1 (ci := 4) rfl 0 (by decide) (List.mem_of_getElem? (i := 1) rfl) rfl rfl dX4_thrown_1 ?_
  exact m_zret hx hb hr rfl hlocks hB (by decide) (by decide) dX4_thrown_4 ⟨rfl, rfl⟩

abbrev rmX4_isFine : Room := { frames := 0, cells := 0, slots := 0, locals := 0 }
set_option maxHeartbeats 4000000 in
set_option maxRecDepth 100000 in
theorem k_X4_isFine {l : Launch} {D : va_G} {z : Nat} {cI cP cR cJ : ClassId} {h0 : Hp} {xm : Nat} {xa : Nat → Nat} {σ : Sg} {th : Int} (hM : MR cI xm xa σ th h0) (hI : Ib σ) {tc : Int} (rc : rg tc) : Ct l D z (tyL cI cP cR cJ) yX4_isFine wsX4_isFine rmX4_isFine [.ref xm, .int (iI tc)] h0 (fun v u => v = some (.int (iI (b2 (tc = 0)))) ∧ MR cI xm xa σ tc u ∧ FrM h0 u) := by
  refine Ct.of (cc := cX4_isFine) (maxL := 2) (ret := (some .boolean)) (by decide) rfl (Nat.le_of_ble_eq_true rfl) ?_
  intro p e s m args below meth c hx hb hr hts hown hlocks hml hnm hK hB ls hl
  have hl : lv_has ls 2 [(0, .ref xm), (1, .int (iI tc))] := hl
  have hF := FrM.rf h0
  have hnp := hI.hnp
  have hnr := hI.hnr
  have hnrI := hI.nrI
  have hnpI := hI.npI
  have hre := hI.rest
  refine lv_aload_n hx hb dX4_isFine_0 rfl (lv_at hl 0 rfl) ?_
  refine lv_iload_n hx hb dX4_isFine_1 rfl (lv_at hl 1 rfl) ?_
  refine m_put hx hb hts (fun _ q => List.mem_cons_of_mem _ (List.mem_append_right _ q)) tyX4 tyX4_ok nmX4 hown hK hB hM.1 (ci := 4) rfl 0 (by decide) (List.mem_of_getElem? (i := 1) rfl) rfl rfl rfl rfl (Nat.le_of_ble_eq_true rfl) dX4_isFine_2 (fun H locs hB => ?_)
  obtain ⟨h2, hM, hF, hB⟩ : ∃ h2 : Hp, MR cI xm xa σ tc h2 ∧ FrM h0 h2 ∧ Bk D z s.heap h2 H locs := ⟨_, hM.wth, hF.tr (FrM.up hM.1 (Or.inl rfl)), hB⟩
  refine lv_iload_n hx hb dX4_isFine_5 rfl (lv_at hl 1 rfl) ?_
  refine j_if_ne (tgt := 13) hx hb dX4_isFine_6 (by decide) ⟨by omega, by omega⟩ (fun c_1 => ?_) (fun c_1 => ?_)
  · refine j_iconst hx hb dX4_isFine_13 ?_
    exact m_zret hx hb hr (by decide) hlocks hB (by decide) (by decide) dX4_isFine_14 ⟨ret_f (by omega), hM, hF⟩
  · refine j_iconst hx hb dX4_isFine_9 ?_
    refine lv_goto (tgt := 14) hx hb dX4_isFine_10 (by decide) ?_
    exact m_zret hx hb hr (by decide) hlocks hB (by decide) (by decide) dX4_isFine_14 ⟨ret_t (by omega), hM, hF⟩

abbrev rmX4_makes : Room := { frames := 0, cells := 0, slots := 0, locals := 0 }
set_option maxHeartbeats 4000000 in
set_option maxRecDepth 100000 in
theorem k_X4_makes {l : Launch} {D : va_G} {z : Nat} {cI cP cR cJ : ClassId} {h0 : Hp} {xm : Nat} {xa : Nat → Nat} {σ : Sg} {th : Int} (hM : MR cI xm xa σ th h0) (hI : Ib σ) {f t k d : Int} (rf : rg f) (rt : rg t) (rk : rg k) (rd : rg d) (hlt : σ 9 0 < 15) : Ct l D z (tyL cI cP cR cJ) yX4_makes wsX4_makes rmX4_makes [.ref xm, .int (iI f), .int (iI t), .int (iI k), .int (iI d)] h0 (fun v u => v = some (.int (iI ((npN σ + 1 : Nat) : Int))) ∧ MR cI xm xa (mkP σ f t k d) th u ∧ FrM h0 u) := by
  refine Ct.of (cc := cX4_makes) (maxL := 5) (ret := (some .int)) (by decide) rfl (Nat.le_of_ble_eq_true rfl) ?_
  intro p e s m args below meth c hx hb hr hts hown hlocks hml hnm hK hB ls hl
  have hl : lv_has ls 5 [(0, .ref xm), (1, .int (iI f)), (2, .int (iI t)), (3, .int (iI k)), (4, .int (iI d))] := hl
  have hF := FrM.rf h0
  have hnp := hI.hnp
  have hnr := hI.hnr
  have hnrI := hI.nrI
  have hnpI := hI.npI
  have hre := hI.rest
  obtain ⟨K, eK⟩ : ∃ K : Nat, K = npN σ + 1 := ⟨_, rfl⟩
  have eKi : (K : Int) = σ 9 0 + 1 := by omega
  refine lv_aload_n hx hb dX4_makes_0 rfl (lv_at hl 0 rfl) ?_
  refine lv_dup hx hb dX4_makes_1 rfl ?_
  refine m_get hx hb hts (fun _ q => List.mem_cons_of_mem _ (List.mem_append_right _ q)) hown hK hB hM.1 (ci := 4) rfl 6 (by decide) (List.mem_of_getElem? (i := 1) rfl) rfl rfl dX4_makes_2 ?_
  refine j_iconst hx hb dX4_makes_5 ?_
  refine j_iadd hx hb dX4_makes_6 ?_
  refine m_put hx hb hts (fun _ q => List.mem_cons_of_mem _ (List.mem_append_right _ q)) tyX4 tyX4_ok nmX4 hown hK hB hM.1 (ci := 4) rfl 6 (by decide) (List.mem_of_getElem? (i := 1) rfl) rfl rfl rfl rfl (Nat.le_of_ble_eq_true rfl) dX4_makes_7 (fun H locs hB => ?_)
  obtain ⟨h2, σ, eσ_1, hM, hF, hB, e9⟩ : ∃ (h2 : Hp) (σ2 : Sg), σ2 = upS σ 9 0 ((σ 9 0) + 1) ∧ MR cI xm xa σ2 th h2 ∧ FrM h0 h2 ∧ Bk D z s.heap h2 H locs ∧ σ2 9 0 = (K : Int) := ⟨_, _, rfl, hM.w9, hF.tr (FrM.up hM.1 (Or.inl rfl)), hB, (upS_s _ _ _ _).trans (by omega)⟩
  have hx9 := hM.1
  rw [e9] at hx9
  refine lv_aload_n hx hb dX4_makes_10 rfl (lv_at hl 0 rfl) ?_
  refine m_get hx hb hts (fun _ q => List.mem_cons_of_mem _ (List.mem_append_right _ q)) hown hK hB hx9 (ci := 4) rfl 1 (by decide) (List.mem_of_getElem? (i := 2) rfl) rfl rfl dX4_makes_11 ?_
  refine lv_aload_n hx hb dX4_makes_14 rfl (lv_at hl 0 rfl) ?_
  refine m_get hx hb hts (fun _ q => List.mem_cons_of_mem _ (List.mem_append_right _ q)) hown hK hB hx9 (ci := 4) rfl 6 (by decide) (List.mem_of_getElem? (i := 1) rfl) rfl rfl dX4_makes_15 ?_
  refine lv_iload_n hx hb dX4_makes_18 rfl (lv_at hl 1 rfl) ?_
  refine m_mst hx hb hK hB hM 0 (by decide) (i := K) (v := f) (show K < 16 by omega) dX4_makes_19 (fun h1 H locs hM2 hF2 hB => ?_)
  obtain ⟨h2, σ, eσ_2, hM, hF, hB, e9⟩ : ∃ (h2 : Hp) (σ2 : Sg), σ2 = upS σ 0 K f ∧ MR cI xm xa σ2 th h2 ∧ FrM h0 h2 ∧ Bk D z s.heap h2 H locs ∧ σ2 9 0 = (K : Int) := ⟨_, _, rfl, hM2, hF.tr hF2, hB, (upS_g (by decide)).trans e9⟩
  have hx9 := hM.1
  rw [e9] at hx9
  refine lv_aload_n hx hb dX4_makes_20 rfl (lv_at hl 0 rfl) ?_
  refine m_get hx hb hts (fun _ q => List.mem_cons_of_mem _ (List.mem_append_right _ q)) hown hK hB hx9 (ci := 4) rfl 2 (by decide) (List.mem_of_getElem? (i := 3) rfl) rfl rfl dX4_makes_21 ?_
  refine lv_aload_n hx hb dX4_makes_24 rfl (lv_at hl 0 rfl) ?_
  refine m_get hx hb hts (fun _ q => List.mem_cons_of_mem _ (List.mem_append_right _ q)) hown hK hB hx9 (ci := 4) rfl 6 (by decide) (List.mem_of_getElem? (i := 1) rfl) rfl rfl dX4_makes_25 ?_
  refine lv_iload_n hx hb dX4_makes_28 rfl (lv_at hl 2 rfl) ?_
  refine m_mst hx hb hK hB hM 1 (by decide) (i := K) (v := t) (show K < 16 by omega) dX4_makes_29 (fun h1 H locs hM2 hF2 hB => ?_)
  obtain ⟨h2, σ, eσ_3, hM, hF, hB, e9⟩ : ∃ (h2 : Hp) (σ2 : Sg), σ2 = upS σ 1 K t ∧ MR cI xm xa σ2 th h2 ∧ FrM h0 h2 ∧ Bk D z s.heap h2 H locs ∧ σ2 9 0 = (K : Int) := ⟨_, _, rfl, hM2, hF.tr hF2, hB, (upS_g (by decide)).trans e9⟩
  have hx9 := hM.1
  rw [e9] at hx9
  refine lv_aload_n hx hb dX4_makes_30 rfl (lv_at hl 0 rfl) ?_
  refine m_get hx hb hts (fun _ q => List.mem_cons_of_mem _ (List.mem_append_right _ q)) hown hK hB hx9 (ci := 4) rfl 3 (by decide) (List.mem_of_getElem? (i := 4) rfl) rfl rfl dX4_makes_31 ?_
  refine lv_aload_n hx hb dX4_makes_34 rfl (lv_at hl 0 rfl) ?_
  refine m_get hx hb hts (fun _ q => List.mem_cons_of_mem _ (List.mem_append_right _ q)) hown hK hB hx9 (ci := 4) rfl 6 (by decide) (List.mem_of_getElem? (i := 1) rfl) rfl rfl dX4_makes_35 ?_
  refine lv_iload_n hx hb dX4_makes_38 rfl (lv_at hl 3 rfl) ?_
  refine m_mst hx hb hK hB hM 2 (by decide) (i := K) (v := k) (show K < 16 by omega) dX4_makes_39 (fun h1 H locs hM2 hF2 hB => ?_)
  obtain ⟨h2, σ, eσ_4, hM, hF, hB, e9⟩ : ∃ (h2 : Hp) (σ2 : Sg), σ2 = upS σ 2 K k ∧ MR cI xm xa σ2 th h2 ∧ FrM h0 h2 ∧ Bk D z s.heap h2 H locs ∧ σ2 9 0 = (K : Int) := ⟨_, _, rfl, hM2, hF.tr hF2, hB, (upS_g (by decide)).trans e9⟩
  have hx9 := hM.1
  rw [e9] at hx9
  refine lv_aload_n hx hb dX4_makes_40 rfl (lv_at hl 0 rfl) ?_
  refine m_get hx hb hts (fun _ q => List.mem_cons_of_mem _ (List.mem_append_right _ q)) hown hK hB hx9 (ci := 4) rfl 4 (by decide) (List.mem_of_getElem? (i := 5) rfl) rfl rfl dX4_makes_41 ?_
  refine lv_aload_n hx hb dX4_makes_44 rfl (lv_at hl 0 rfl) ?_
  refine m_get hx hb hts (fun _ q => List.mem_cons_of_mem _ (List.mem_append_right _ q)) hown hK hB hx9 (ci := 4) rfl 6 (by decide) (List.mem_of_getElem? (i := 1) rfl) rfl rfl dX4_makes_45 ?_
  refine lv_iload hx hb dX4_makes_48 (lv_at hl 4 rfl) ?_
  refine m_mst hx hb hK hB hM 3 (by decide) (i := K) (v := d) (show K < 16 by omega) dX4_makes_50 (fun h1 H locs hM2 hF2 hB => ?_)
  obtain ⟨h2, σ, eσ_5, hM, hF, hB, e9⟩ : ∃ (h2 : Hp) (σ2 : Sg), σ2 = upS σ 3 K d ∧ MR cI xm xa σ2 th h2 ∧ FrM h0 h2 ∧ Bk D z s.heap h2 H locs ∧ σ2 9 0 = (K : Int) := ⟨_, _, rfl, hM2, hF.tr hF2, hB, (upS_g (by decide)).trans e9⟩
  have hx9 := hM.1
  rw [e9] at hx9
  refine lv_aload_n hx hb dX4_makes_51 rfl (lv_at hl 0 rfl) ?_
  refine m_get hx hb hts (fun _ q => List.mem_cons_of_mem _ (List.mem_append_right _ q)) hown hK hB hx9 (ci := 4) rfl 5 (by decide) (List.mem_of_getElem? (i := 6) rfl) rfl rfl dX4_makes_52 ?_
  refine lv_aload_n hx hb dX4_makes_55 rfl (lv_at hl 0 rfl) ?_
  refine m_get hx hb hts (fun _ q => List.mem_cons_of_mem _ (List.mem_append_right _ q)) hown hK hB hx9 (ci := 4) rfl 6 (by decide) (List.mem_of_getElem? (i := 1) rfl) rfl rfl dX4_makes_56 ?_
  refine j_iconst hx hb dX4_makes_59 ?_
  refine m_mst hx hb hK hB hM 4 (by decide) (i := K) (v := 0) (show K < 16 by omega) dX4_makes_60 (fun h1 H locs hM2 hF2 hB => ?_)
  obtain ⟨h2, σ, eσ_6, hM, hF, hB, e9⟩ : ∃ (h2 : Hp) (σ2 : Sg), σ2 = upS σ 4 K 0 ∧ MR cI xm xa σ2 th h2 ∧ FrM h0 h2 ∧ Bk D z s.heap h2 H locs ∧ σ2 9 0 = (K : Int) := ⟨_, _, rfl, hM2, hF.tr hF2, hB, (upS_g (by decide)).trans e9⟩
  have hx9 := hM.1
  rw [e9] at hx9
  refine lv_aload_n hx hb dX4_makes_61 rfl (lv_at hl 0 rfl) ?_
  refine m_get hx hb hts (fun _ q => List.mem_cons_of_mem _ (List.mem_append_right _ q)) hown hK hB hx9 (ci := 4) rfl 6 (by decide) (List.mem_of_getElem? (i := 1) rfl) rfl rfl dX4_makes_62 ?_
  exact m_zret hx hb hr rfl hlocks hB (by decide) (by decide) dX4_makes_65 (by subst eσ_6; subst eσ_5; subst eσ_4; subst eσ_3; subst eσ_2; subst eσ_1; subst eK; exact ⟨rfl, hM, hF⟩)

abbrev rmX4_moves : Room := { frames := 2, cells := 0, slots := 0, locals := 44 }
set_option maxHeartbeats 4000000 in
set_option maxRecDepth 100000 in
theorem k_X4_moves {l : Launch} {D : va_G} {z : Nat} {cI cP cR cJ : ClassId} {h0 : Hp} {xm : Nat} {xa : Nat → Nat} {σ : Sg} {th : Int} (hM : MR cI xm xa σ th h0) (hI : Ib σ) {i k : Nat} (hi : (i : Int) ≤ σ 9 0) (hk : (k : Int) ≤ σ 9 0) : Ct l D z (tyL cI cP cR cJ) yX4_moves wsX4_moves rmX4_moves [.ref xm, .int (iI (i : Int)), .int (iI (k : Int))] h0 (fun v u => v = none ∧ MR cI xm xa (mvS σ i k 200) th u ∧ FrM h0 u) := by
  refine Ct.of (cc := cX4_moves) (maxL := 4) (ret := none) (by decide) rfl (Nat.le_of_ble_eq_true rfl) ?_
  intro p e s m args below meth c hx hb hr hts hown hlocks hml hnm hK hB ls hl
  have hl : lv_has ls 4 [(0, .ref xm), (1, .int (iI (i : Int))), (2, .int (iI (k : Int)))] := hl
  have hF := FrM.rf h0
  have hnp := hI.hnp
  have hnr := hI.hnr
  have hnrI := hI.nrI
  have hnpI := hI.npI
  have hre := hI.rest
  refine j_iconst hx hb dX4_moves_0 ?_
  refine lv_istore_n (lv' := [(3, .int (iI 0)), (0, .ref xm), (1, .int (iI (i : Int))), (2, .int (iI (k : Int)))]) hx hb dX4_moves_1 rfl hl (by decide) rfl (fun ls hl => ?_)
  have lp_2 : ∀ (fuel j : Nat), j ≤ (nrN σ) → (nrN σ) + 1 ≤ j + fuel → ∀ (h : Hp) (hM : MR cI xm xa (mvS σ i k j) th h) (hF : FrM h0 h) (H : Heap) (locs : List Loc), Bk D z s.heap h H locs → ∀ ls : Array Slot, lv_has ls 4 [(3, .int (iI (j : Int))), (0, .ref xm), (1, .int (iI (i : Int))), (2, .int (iI (k : Int)))] → W p l e rmX4_moves s m args below meth c H locs 0 0 (MQ below (Qx D z (fun v u => v = none ∧ MR cI xm xa (mvS σ i k 200) th u ∧ FrM h0 u)) args s (rmX4_moves).cells (rmX4_moves).slots (zA z)) (F0 m 2 ls []) := by
    intro fuel
    induction fuel with
    | zero => intro j w1 w2; exact absurd w2 (by omega)
    | succ fuel ih2 =>
      intro j w1 w2 h hM hF  H locs hB ls hl
      have hx0 : h xm = some (mdl xa th (σ 9 0) (σ 10 0) (σ 11 0)) := by have w := hM.1; rw [mvS_g (by decide), mvS_g (by decide), mvS_g (by decide)] at w; exact w
      have hIm := hI.mv (i := i) hk j
      refine lv_iload_n hx hb dX4_moves_2 rfl (lv_at hl 0 rfl) ?_
      refine lv_aload_n hx hb dX4_moves_3 rfl (lv_at hl 1 rfl) ?_
      refine m_get hx hb hts (fun _ q => List.mem_cons_of_mem _ (List.mem_append_right _ q)) hown hK hB hx0 (ci := 4) rfl 11 (by decide) (List.mem_of_getElem? (i := 1) rfl) rfl rfl dX4_moves_4 ?_
      have bd_1 := hI.bd 10 0
      refine j_icmp_ge (tgt := 56) hx hb dX4_moves_7 (by decide) ⟨by omega, by omega⟩ ⟨by omega, by omega⟩ (fun c_2 => ?_) (fun c_2 => ?_)
      · exact m_vret hx hb hr hlocks hB (by decide) (by decide) dX4_moves_56 ⟨rfl, (by rw [← mvS_nr hI, ← (show j = nrN σ by omega)]; exact hM), hF⟩
      · refine lv_aload_n hx hb dX4_moves_10 rfl (lv_at hl 1 rfl) ?_
        refine m_get hx hb hts (fun _ q => List.mem_cons_of_mem _ (List.mem_append_right _ q)) hown hK hB hx0 (ci := 4) rfl 7 (by decide) (List.mem_of_getElem? (i := 2) rfl) rfl rfl dX4_moves_11 ?_
        refine lv_iload_n hx hb dX4_moves_14 rfl (lv_at hl 0 rfl) ?_
        refine lv_aload_n hx hb dX4_moves_15 rfl (lv_at hl 1 rfl) ?_
        refine m_get hx hb hts (fun _ q => List.mem_cons_of_mem _ (List.mem_append_right _ q)) hown hK hB hx0 (ci := 4) rfl 7 (by decide) (List.mem_of_getElem? (i := 2) rfl) rfl rfl dX4_moves_16 ?_
        refine lv_iload_n hx hb dX4_moves_19 rfl (lv_at hl 0 rfl) ?_
        refine m_mld hx hb hK hB hM 5 (by decide) (i := j) (show j < 200 by omega) dX4_moves_20 ?_
        refine j_topE (mvS_n (Nat.le_refl _)) ?_
        refine lv_iload_n hx hb dX4_moves_21 rfl (lv_at hl 2 rfl) ?_
        have bd_3 := hI.bd 5 j
        refine j_icmp_ne (tgt := 43) hx hb dX4_moves_22 (by decide) ⟨by omega, by omega⟩ ⟨by omega, by omega⟩ (fun c_4 => ?_) (fun c_4 => ?_)
        · refine lv_aload_n hx hb dX4_moves_43 rfl (lv_at hl 1 rfl) ?_
          refine m_get hx hb hts (fun _ q => List.mem_cons_of_mem _ (List.mem_append_right _ q)) hown hK hB hx0 (ci := 4) rfl 7 (by decide) (List.mem_of_getElem? (i := 2) rfl) rfl rfl dX4_moves_44 ?_
          refine lv_iload_n hx hb dX4_moves_47 rfl (lv_at hl 0 rfl) ?_
          refine m_mld hx hb hK hB hM 5 (by decide) (i := j) (show j < 200 by omega) dX4_moves_48 ?_
          refine j_topE (mvS_n (Nat.le_refl _)) ?_
          refine m_mst hx hb hK hB hM 5 (by decide) (i := j) (v := (σ 5 j)) (show j < 200 by omega) dX4_moves_49 (fun h1 H locs hM2 hF2 hB => ?_)
          have hM := hM2
          have hF := hF.tr hF2
          refine j_iinc (lv' := [(3, .int (iI ((j + 1 : Nat) : Int))), (0, .ref xm), (1, .int (iI (i : Int))), (2, .int (iI (k : Int)))]) hx hb dX4_moves_50 hl (k := 0) rfl (by decide) rfl (fun ls hl => ?_)
          refine lv_goto (tgt := 2) hx hb dX4_moves_53 (by decide) ?_
          exact ih2 (j + 1) (by omega) (by omega) _ (by rw [mvS_f (fun q => c_4 (hI.pn5 q.1 q.2.1))]; have w := upS_same (mvS σ i k j) 5 j; rw [mvS_n (Nat.le_refl _)] at w; rw [w] at hM; exact hM) hF  _ _ hB ls (lv_sub hl [0, 1, 2, 3] rfl)
        · refine lv_aload_n hx hb dX4_moves_25 rfl (lv_at hl 1 rfl) ?_
          refine lv_iload_n hx hb dX4_moves_26 rfl (lv_at hl 3 rfl) ?_
          refine lv_aload_n hx hb dX4_moves_27 rfl (lv_at hl 1 rfl) ?_
          refine m_get hx hb hts (fun _ q => List.mem_cons_of_mem _ (List.mem_append_right _ q)) hown hK hB hx0 (ci := 4) rfl 8 (by decide) (List.mem_of_getElem? (i := 3) rfl) rfl rfl dX4_moves_28 ?_
          refine lv_iload_n hx hb dX4_moves_31 rfl (lv_at hl 0 rfl) ?_
          refine m_mld hx hb hK hB hM 6 (by decide) (i := j) (show j < 200 by omega) dX4_moves_32 ?_
          refine j_topE (mvS_g (by decide)) ?_
          have bd_5 := hI.bd 6 j
          refine m_run (va_runV (As := [.int (iI (k : Int)), .int (iI (σ 6 j))]) (rest := [.int (iI (j : Int)), .ref (xa 5)]) ⟨hx, hb, hml, hown, hts⟩ (k_X4_hasKey (l := l) hM hIm (i := k) (by omega) ⟨by omega, by omega⟩) (cwV 2 hts gX4_moves_X4_hasKey rfl rfl rfl (by decide +kernel) ⟨by decide, by decide⟩) ⟨Kp.blind _ _ _ _ _, m_recv hK hB (ci := 4) rfl hM.1, fun U hU hW => hK.pass hB U hU hW⟩ rfl rfl hl.1 rfl (lv_room (Nat.le_of_ble_eq_true rfl)) dX4_moves_33 ⟨Nat.le_of_ble_eq_true rfl, Nat.le_of_ble_eq_true rfl⟩) hB (fun v u H locs hp_6 hB => ?_)
          obtain ⟨ev, rfl⟩ := hp_6
          rw [mvS_g (by decide), mvS_g (by decide)] at ev
          subst ev
          show W _ _ _ _ _ _ _ _ _ _ _ _ _ _ _ (F0 m 36 ls [.int (iI (b2 (σ 0 k ≤ (σ 6 j) ∧ (σ 6 j) < σ 1 k))), .int (iI (j : Int)), .ref (xa 5)])
          refine j_ifeqP (tgt := 43) hx hb dX4_moves_36 (by decide) (fun c_7 => ?_) (fun c_7 => ?_)
          · refine lv_aload_n hx hb dX4_moves_43 rfl (lv_at hl 1 rfl) ?_
            refine m_get hx hb hts (fun _ q => List.mem_cons_of_mem _ (List.mem_append_right _ q)) hown hK hB hx0 (ci := 4) rfl 7 (by decide) (List.mem_of_getElem? (i := 2) rfl) rfl rfl dX4_moves_44 ?_
            refine lv_iload_n hx hb dX4_moves_47 rfl (lv_at hl 0 rfl) ?_
            refine m_mld hx hb hK hB hM 5 (by decide) (i := j) (show j < 200 by omega) dX4_moves_48 ?_
            refine j_topE (mvS_n (Nat.le_refl _)) ?_
            refine m_mst hx hb hK hB hM 5 (by decide) (i := j) (v := (σ 5 j)) (show j < 200 by omega) dX4_moves_49 (fun h1 H locs hM2 hF2 hB => ?_)
            have hM := hM2
            have hF := hF.tr hF2
            refine j_iinc (lv' := [(3, .int (iI ((j + 1 : Nat) : Int))), (0, .ref xm), (1, .int (iI (i : Int))), (2, .int (iI (k : Int)))]) hx hb dX4_moves_50 hl (k := 0) rfl (by decide) rfl (fun ls hl => ?_)
            refine lv_goto (tgt := 2) hx hb dX4_moves_53 (by decide) ?_
            exact ih2 (j + 1) (by omega) (by omega) _ (by rw [mvS_f (fun q => c_7 q.2.2)]; have w := upS_same (mvS σ i k j) 5 j; rw [mvS_n (Nat.le_refl _)] at w; rw [w] at hM; exact hM) hF  _ _ hB ls (lv_sub hl [0, 1, 2, 3] rfl)
          · refine lv_iload_n hx hb dX4_moves_39 rfl (lv_at hl 3 rfl) ?_
            refine lv_goto (tgt := 49) hx hb dX4_moves_40 (by decide) ?_
            refine m_mst hx hb hK hB hM 5 (by decide) (i := j) (v := (k : Int)) (show j < 200 by omega) dX4_moves_49 (fun h1 H locs hM2 hF2 hB => ?_)
            have hM := hM2
            have hF := hF.tr hF2
            refine j_iinc (lv' := [(3, .int (iI ((j + 1 : Nat) : Int))), (0, .ref xm), (1, .int (iI (i : Int))), (2, .int (iI (k : Int)))]) hx hb dX4_moves_50 hl (k := 0) rfl (by decide) rfl (fun ls hl => ?_)
            refine lv_goto (tgt := 2) hx hb dX4_moves_53 (by decide) ?_
            exact ih2 (j + 1) (by omega) (by omega) _ (by rw [mvS_t ⟨⟨by omega, by omega⟩, pn_is c_4, c_7⟩]; exact hM) hF  _ _ hB ls (lv_sub hl [0, 1, 2, 3] rfl)
  exact lp_2 ((nrN σ) + 1) 0 (by omega) (by omega) _ (by rw [mvS_0]; exact hM) hF  _ _ hB ls (lv_sub hl [0, 1, 2, 3] rfl)

