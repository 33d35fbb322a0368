theorem Cg.to {σ σ2 : Sg} {n ky r r2 : Int} (h : Cg σ σ2 n ky r) (e : r = r2) : Cg σ σ2 n ky r2 := e ▸ h
abbrev rmL_makes : Room := { frames := 10, cells := 13, slots := 78, locals := 180 }
set_option maxHeartbeats 4000000 in
set_option maxRecDepth 100000 in
theorem k_L_makes {l : Launch} {D : va_G} {z : Nat} {cI cP cR cJ : ClassId} {h0 : Hp} (hfl : l.stackTraces = false) {x xp xr : Nat} {pa ra : Nat → Nat} {σ : Sg} (hC : CR cP cR x xp xr pa ra σ h0) (hV : Iv σ) {cv f t k d : Int} (hcv : cv = 0 ∨ cv = 1) (ok1 : okR f t) (ok2 : okK k d) : Ct l D z (tyL cI cP cR cJ) yL_makes wsL_makes rmL_makes [.ref x, .int (iI cv), .int (iI f), .int (iI t), .int (iI k), .int (iI d)] h0 (fun v u => (v = some (.int (iI (-3))) ∧ CR cP cR x xp xr pa ra σ u ∧ FrC h0 u) ∨ (∃ (r : Int) (σ2 : Sg), v = some (.int (iI r)) ∧ (0 ≤ r ∧ r ≤ 200) ∧ (cv = 0 → r = σ 9 0 + 1) ∧ Mk σ σ2 f ∧ CRx cP cR x σ2 u ∧ FrC h0 u)) := by
  refine Ct.ofH (cc := cL_makes) (maxL := 7) (ret := (some .int)) (hh := [(0, 27, 28, 16)]) (by decide) rfl (Nat.le_of_ble_eq_true rfl) ?_
  intro p e s m args below meth c hx hb hr hts hown hlocks hml hnm hT hK hB ls hl
  have hl : lv_has ls 7 [(0, .ref x), (1, .int (iI cv)), (2, .int (iI f)), (3, .int (iI t)), (4, .int (iI k)), (5, .int (iI d))] := hl
  have hI := hV.ib
  have hnp := hI.hnp
  have rf : rg f := by unfold okR at ok1; exact ⟨by omega, by omega⟩
  have rt : rg t := by unfold okR at ok1; exact ⟨by omega, by omega⟩
  have rk : rg k := by unfold okK at ok2; exact ⟨by omega, by omega⟩
  have rd : rg d := by unfold okK at ok2; exact ⟨by omega, by omega⟩
  refine lv_iload_n hx hb dL_makes_0 rfl (lv_at hl 1 rfl) ?_
  refine j_if_eq (tgt := 17) hx hb dL_makes_1 (by decide) ⟨by omega, by omega⟩ (fun c_1 => ?_) (fun c_1 => ?_)
  · refine lv_aload_n hx hb dL_makes_17 rfl (lv_at hl 0 rfl) ?_
    refine lv_iload_n hx hb dL_makes_18 rfl (lv_at hl 2 rfl) ?_
    refine lv_iload_n hx hb dL_makes_19 rfl (lv_at hl 3 rfl) ?_
    refine lv_iload hx hb dL_makes_20 (lv_at hl 4 rfl) ?_
    refine lv_iload hx hb dL_makes_22 (lv_at hl 5 rfl) ?_
    refine m_runX (vx_runV (As := [.int (iI f), .int (iI t), .int (iI k), .int (iI d)]) (rest := []) ⟨hx, hb, hml, hown, hts⟩ (k_X3_makePart (l := l) hfl hC hI rf rt rk rd) (cwV 4 hts gL_makes_X3_makePart rfl rfl rfl (by decide +kernel) ⟨by decide, by decide⟩) ⟨Kp.blind _ _ _ _ _, m_recv hK hB (ci := 3) rfl hC.tb, fun U hU hW => hK.pass hB U hU hW⟩ rfl rfl hl.1 rfl (lv_room (Nat.le_of_ble_eq_true rfl)) dL_makes_24 ⟨Nat.le_of_ble_eq_true rfl, Nat.le_of_ble_eq_true rfl⟩) hB (fun E u H locs q9 ce hp_2 hB hc9 hv9 hk9 => ?_) (fun v u H locs hp_2 hB => ?_)
    · rcases hp_2 with ⟨⟨rfl, cx⟩ | ⟨rfl, cx⟩, hC, hFm⟩
      · exact absurd ⟨ok1, ok2⟩ cx
      · refine vx_catch hown [] ⟨0, 27, 28, 16⟩ [] hT (fun z hz => by cases hz) (by decide) (by decide) (hts _ (List.mem_of_getElem? (i := 1) rfl)) (va_Nw.use rfl (hK.2.1.2.2.1 _ (List.mem_of_getElem? (i := 1) rfl))) hc9 hv9 hk9 ?_
        refine lv_astore (lv' := [(6, .ref q9), (0, .ref x), (1, .int (iI cv)), (2, .int (iI f)), (3, .int (iI t)), (4, .int (iI k)), (5, .int (iI d))]) hx hb dL_makes_28 hl (by decide) rfl (fun ls hl => ?_)
        refine j_bipush hx hb dL_makes_30 (by decide) ?_
        exact m_zret hx hb hr rfl hlocks hB (by decide) (by decide) dL_makes_32 (Or.inl ⟨rfl, hC, hFm⟩)
    · obtain ⟨cA, rfl, pa2, hC, hFm⟩ := hp_2
      show W _ _ _ _ _ _ _ _ _ _ _ _ _ _ _ (F0 m 27 ls [.int (iI (σ 9 0 + 1))])
      exact m_zret hx hb hr rfl hlocks hB (by decide) (by decide) dL_makes_27 (Or.inr ⟨_, _, rfl, by omega, fun _ => rfl, mk_ok hV ok1 ok2 cA.2, hC.x, hFm⟩)
  · refine lv_aload_n hx hb dL_makes_4 rfl (lv_at hl 0 rfl) ?_
    refine lv_iload_n hx hb dL_makes_5 rfl (lv_at hl 2 rfl) ?_
    refine lv_iload_n hx hb dL_makes_6 rfl (lv_at hl 3 rfl) ?_
    refine lv_iload hx hb dL_makes_7 (lv_at hl 4 rfl) ?_
    refine lv_iload hx hb dL_makes_9 (lv_at hl 5 rfl) ?_
    refine m_runX (vx_runV (As := [.int (iI f), .int (iI t), .int (iI k), .int (iI d)]) (rest := []) ⟨hx, hb, hml, hown, hts⟩ (k_X3_carveOut (l := l) hfl hC hI rf rt rk rd) (cwV 4 hts gL_makes_X3_carveOut rfl rfl rfl (by decide +kernel) ⟨by decide, by decide⟩) ⟨Kp.blind _ _ _ _ _, m_recv hK hB (ci := 3) rfl hC.tb, fun U hU hW => hK.pass hB U hU hW⟩ rfl rfl hl.1 rfl (lv_room (Nat.le_of_ble_eq_true rfl)) dL_makes_11 ⟨Nat.le_of_ble_eq_true rfl, Nat.le_of_ble_eq_true rfl⟩) hB (fun E u H locs q9 ce hp_3 hB hc9 hv9 hk9 => ?_) (fun v u H locs hp_3 hB => ?_)
    · rcases hp_3 with ⟨⟨rfl, cx⟩ | ⟨rfl, cx⟩, hC, hFm⟩
      · exact absurd ⟨ok1, ok2⟩ cx
      · refine vx_catch hown [] ⟨0, 27, 28, 16⟩ [] hT (fun z hz => by cases hz) (by decide) (by decide) (hts _ (List.mem_of_getElem? (i := 1) rfl)) (va_Nw.use rfl (hK.2.1.2.2.1 _ (List.mem_of_getElem? (i := 1) rfl))) hc9 hv9 hk9 ?_
        refine lv_astore (lv' := [(6, .ref q9), (0, .ref x), (1, .int (iI cv)), (2, .int (iI f)), (3, .int (iI t)), (4, .int (iI k)), (5, .int (iI d))]) hx hb dL_makes_28 hl (by decide) rfl (fun ls hl => ?_)
        refine j_bipush hx hb dL_makes_30 (by decide) ?_
        exact m_zret hx hb hr rfl hlocks hB (by decide) (by decide) dL_makes_32 (Or.inl ⟨rfl, hC, hFm⟩)
    · obtain ⟨cA, rfl, pa2, hC, hFm⟩ := hp_3
      show W _ _ _ _ _ _ _ _ _ _ _ _ _ _ _ (F0 m 14 ls [.int (iI (nPt (mvS (mkP σ f t k d) 0 (npN σ + 1) 200) (npN σ + 1)))])
      refine lv_goto (tgt := 27) hx hb dL_makes_14 (by decide) ?_
      exact m_zret hx hb hr rfl hlocks hB (by decide) (by decide) dL_makes_27 (Or.inr ⟨_, _, rfl, nPt_rg (cv_ok hV ok1 ok2 cA.2).1.ib _, fun w => absurd w (by assumption), cv_ok hV ok1 ok2 cA.2, hC.x, hFm⟩)

abbrev rmL_splits : Room := { frames := 10, cells := 10, slots := 60, locals := 180 }
set_option maxHeartbeats 4000000 in
set_option maxRecDepth 100000 in
theorem k_L_splits {l : Launch} {D : va_G} {z : Nat} {cI cP cR cJ : ClassId} {h0 : Hp} (hfl : l.stackTraces = false) {x xp xr : Nat} {pa ra : Nat → Nat} {σ : Sg} (hC : CR cP cR x xp xr pa ra σ h0) (hV : Iv σ) {n ky : Int} (rn : rg n) (rk : rg ky) : Ct l D z (tyL cI cP cR cJ) yL_splits wsL_splits rmL_splits [.ref x, .int (iI n), .int (iI ky)] h0 (fun v u => (∃ r : Int, v = some (.int (iI r)) ∧ (-3 ≤ r ∧ r < 0) ∧ CR cP cR x xp xr pa ra σ u ∧ FrC h0 u) ∨ (∃ σ2 : Sg, v = some (.int (iI (σ 9 0 + 1))) ∧ Sp σ σ2 n ky ∧ CRx cP cR x σ2 u ∧ FrC h0 u)) := by
  refine Ct.ofH (cc := cL_splits) (maxL := 4) (ret := (some .int)) (hh := [(0, 6, 7, 22), (0, 6, 10, 24), (0, 6, 14, 16)]) (by decide) rfl (Nat.le_of_ble_eq_true rfl) ?_
  intro p e s m args below meth c hx hb hr hts hown hlocks hml hnm hT hK hB ls hl
  have hl : lv_has ls 4 [(0, .ref x), (1, .int (iI n)), (2, .int (iI ky))] := hl
  have hI := hV.ib
  have hnp := hI.hnp
  refine lv_aload_n hx hb dL_splits_0 rfl (lv_at hl 0 rfl) ?_
  refine lv_iload_n hx hb dL_splits_1 rfl (lv_at hl 1 rfl) ?_
  refine lv_iload_n hx hb dL_splits_2 rfl (lv_at hl 2 rfl) ?_
  refine m_runX (vx_runV (As := [.int (iI n), .int (iI ky)]) (rest := []) ⟨hx, hb, hml, hown, hts⟩ (k_X3_split (l := l) hfl hC hI rn rk) (cwV 2 hts gL_splits_X3_split rfl rfl rfl (by decide +kernel) ⟨by decide, by decide⟩) ⟨Kp.blind _ _ _ _ _, m_recv hK hB (ci := 3) rfl hC.tb, fun U hU hW => hK.pass hB U hU hW⟩ rfl rfl hl.1 rfl (lv_room (Nat.le_of_ble_eq_true rfl)) dL_splits_3 ⟨Nat.le_of_ble_eq_true rfl, Nat.le_of_ble_eq_true rfl⟩) hB (fun E u H locs q9 ce hp_1 hB hc9 hv9 hk9 => ?_) (fun v u H locs hp_1 hB => ?_)
  · rcases hp_1 with ⟨⟨rfl, cx⟩ | ⟨rfl, cx⟩ | ⟨rfl, cx⟩, hC, hFm⟩
    · refine vx_catch hown [] ⟨0, 6, 7, 22⟩ [⟨0, 6, 10, 24⟩, ⟨0, 6, 14, 16⟩] hT (fun z hz => by cases hz) (by decide) (by decide) (hts _ (List.mem_of_getElem? (i := 1) rfl)) (va_Nw.use rfl (hK.2.1.2.2.1 _ (List.mem_of_getElem? (i := 2) rfl))) hc9 hv9 hk9 ?_
      refine lv_astore_n (lv' := [(3, .ref q9), (0, .ref x), (1, .int (iI n)), (2, .int (iI ky))]) hx hb dL_splits_7 rfl hl (by decide) rfl (fun ls hl => ?_)
      refine j_iconst hx hb dL_splits_8 ?_
      exact m_zret hx hb hr rfl hlocks hB (by decide) (by decide) dL_splits_9 (Or.inl ⟨_, rfl, ⟨by decide, by decide⟩, hC, hFm⟩)
    · refine vx_catch hown [⟨0, 6, 7, 22⟩] ⟨0, 6, 10, 24⟩ [⟨0, 6, 14, 16⟩] hT (fun z hz => by cases List.mem_singleton.mp hz; exact Or.inr ⟨by decide, nE3, hts _ (List.mem_of_getElem? (i := 1) rfl), hK.2.1.2.2.2.2.1 _ (List.mem_of_getElem? (i := 1) rfl)⟩) (by decide) (by decide) (hts _ (List.mem_of_getElem? (i := 2) rfl)) (va_Nw.use rfl (hK.2.1.2.2.1 _ (List.mem_of_getElem? (i := 0) rfl))) hc9 hv9 hk9 ?_
      refine lv_astore_n (lv' := [(3, .ref q9), (0, .ref x), (1, .int (iI n)), (2, .int (iI ky))]) hx hb dL_splits_10 rfl hl (by decide) rfl (fun ls hl => ?_)
      refine j_bipush hx hb dL_splits_11 (by decide) ?_
      exact m_zret hx hb hr rfl hlocks hB (by decide) (by decide) dL_splits_13 (Or.inl ⟨_, rfl, ⟨by decide, by decide⟩, hC, hFm⟩)
    · refine vx_catch hown [⟨0, 6, 7, 22⟩, ⟨0, 6, 10, 24⟩] ⟨0, 6, 14, 16⟩ [] hT (fun z hz => by rcases List.mem_cons.mp hz with rfl | hz; exact Or.inr ⟨by decide, nE3, hts _ (List.mem_of_getElem? (i := 1) rfl), hK.2.1.2.2.2.2.1 _ (List.mem_of_getElem? (i := 3) rfl)⟩; cases List.mem_singleton.mp hz; exact Or.inr ⟨by decide, nE1, hts _ (List.mem_of_getElem? (i := 2) rfl), hK.2.1.2.2.2.2.1 _ (List.mem_of_getElem? (i := 2) rfl)⟩) (by decide) (by decide) (hts _ (List.mem_of_getElem? (i := 3) rfl)) (va_Nw.use rfl (hK.2.1.2.2.1 _ (List.mem_of_getElem? (i := 1) rfl))) hc9 hv9 hk9 ?_
      refine lv_astore_n (lv' := [(3, .ref q9), (0, .ref x), (1, .int (iI n)), (2, .int (iI ky))]) hx hb dL_splits_14 rfl hl (by decide) rfl (fun ls hl => ?_)
      refine j_bipush hx hb dL_splits_15 (by decide) ?_
      exact m_zret hx hb hr rfl hlocks hB (by decide) (by decide) dL_splits_17 (Or.inl ⟨_, rfl, ⟨by decide, by decide⟩, hC, hFm⟩)
  · obtain ⟨cA, rfl, pa2, hC, hFm⟩ := hp_1
    show W _ _ _ _ _ _ _ _ _ _ _ _ _ _ _ (F0 m 6 ls [.int (iI (σ 9 0 + 1))])
    exact m_zret hx hb hr rfl hlocks hB (by decide) (by decide) dL_splits_6 (Or.inr ⟨_, rfl, sp_ok hV cA, hC.x, hFm⟩)

abbrev rmL_merges : Room := { frames := 10, cells := 9, slots := 54, locals := 180 }
set_option maxHeartbeats 4000000 in
set_option maxRecDepth 100000 in
theorem k_L_merges {l : Launch} {D : va_G} {z : Nat} {cI cP cR cJ : ClassId} {h0 : Hp} (hfl : l.stackTraces = false) {x xp xr : Nat} {pa ra : Nat → Nat} {σ : Sg} (hC : CR cP cR x xp xr pa ra σ h0) (hV : Iv σ) {n n2 : Int} (rn : rg n) (rn2 : rg n2) : Ct l D z (tyL cI cP cR cJ) yL_merges wsL_merges rmL_merges [.ref x, .int (iI n), .int (iI n2)] h0 (fun v u => (∃ r : Int, v = some (.int (iI r)) ∧ (-3 ≤ r ∧ r < 0) ∧ CR cP cR x xp xr pa ra σ u ∧ FrC h0 u) ∨ (∃ (r : Int) (σ2 : Sg), v = some (.int (iI r)) ∧ (0 ≤ r ∧ r ≤ 200) ∧ Mg σ σ2 n n2 ∧ CRx cP cR x σ2 u ∧ FrC h0 u)) := by
  refine Ct.ofH (cc := cL_merges) (maxL := 4) (ret := (some .int)) (hh := [(0, 6, 7, 22), (0, 6, 10, 16)]) (by decide) rfl (Nat.le_of_ble_eq_true rfl) ?_
  intro p e s m args below meth c hx hb hr hts hown hlocks hml hnm hT hK hB ls hl
  have hl : lv_has ls 4 [(0, .ref x), (1, .int (iI n)), (2, .int (iI n2))] := hl
  have hI := hV.ib
  have hnp := hI.hnp
  refine lv_aload_n hx hb dL_merges_0 rfl (lv_at hl 0 rfl) ?_
  refine lv_iload_n hx hb dL_merges_1 rfl (lv_at hl 1 rfl) ?_
  refine lv_iload_n hx hb dL_merges_2 rfl (lv_at hl 2 rfl) ?_
  refine m_runX (vx_runV (As := [.int (iI n), .int (iI n2)]) (rest := []) ⟨hx, hb, hml, hown, hts⟩ (k_X3_merge (l := l) hfl hC hI rn rn2) (cwV 2 hts gL_merges_X3_merge rfl rfl rfl (by decide +kernel) ⟨by decide, by decide⟩) ⟨Kp.blind _ _ _ _ _, m_recv hK hB (ci := 3) rfl hC.tb, fun U hU hW => hK.pass hB U hU hW⟩ rfl rfl hl.1 rfl (lv_room (Nat.le_of_ble_eq_true rfl)) dL_merges_3 ⟨Nat.le_of_ble_eq_true rfl, Nat.le_of_ble_eq_true rfl⟩) hB (fun E u H locs q9 ce hp_1 hB hc9 hv9 hk9 => ?_) (fun v u H locs hp_1 hB => ?_)
  · rcases hp_1 with ⟨⟨rfl, cx⟩ | ⟨rfl, cx⟩, hC, hFm⟩
    · refine vx_catch hown [] ⟨0, 6, 7, 22⟩ [⟨0, 6, 10, 16⟩] hT (fun z hz => by cases hz) (by decide) (by decide) (hts _ (List.mem_of_getElem? (i := 1) rfl)) (va_Nw.use rfl (hK.2.1.2.2.1 _ (List.mem_of_getElem? (i := 2) rfl))) hc9 hv9 hk9 ?_
      refine lv_astore_n (lv' := [(3, .ref q9), (0, .ref x), (1, .int (iI n)), (2, .int (iI n2))]) hx hb dL_merges_7 rfl hl (by decide) rfl (fun ls hl => ?_)
      refine j_iconst hx hb dL_merges_8 ?_
      exact m_zret hx hb hr rfl hlocks hB (by decide) (by decide) dL_merges_9 (Or.inl ⟨_, rfl, ⟨by decide, by decide⟩, hC, hFm⟩)
    · refine vx_catch hown [⟨0, 6, 7, 22⟩] ⟨0, 6, 10, 16⟩ [] hT (fun z hz => by cases List.mem_singleton.mp hz; exact Or.inr ⟨by decide, nE3, hts _ (List.mem_of_getElem? (i := 1) rfl), hK.2.1.2.2.2.2.1 _ (List.mem_of_getElem? (i := 3) rfl)⟩) (by decide) (by decide) (hts _ (List.mem_of_getElem? (i := 2) rfl)) (va_Nw.use rfl (hK.2.1.2.2.1 _ (List.mem_of_getElem? (i := 1) rfl))) hc9 hv9 hk9 ?_
      refine lv_astore_n (lv' := [(3, .ref q9), (0, .ref x), (1, .int (iI n)), (2, .int (iI n2))]) hx hb dL_merges_10 rfl hl (by decide) rfl (fun ls hl => ?_)
      refine j_bipush hx hb dL_merges_11 (by decide) ?_
      exact m_zret hx hb hr rfl hlocks hB (by decide) (by decide) dL_merges_13 (Or.inl ⟨_, rfl, ⟨by decide, by decide⟩, hC, hFm⟩)
  · obtain ⟨cA, rfl, hC, hFm⟩ := hp_1
    show W _ _ _ _ _ _ _ _ _ _ _ _ _ _ _ (F0 m 6 ls [.int (iI (nPt (upS (mvS (upS σ 1 n.toNat (σ 1 n2.toNat)) n2.toNat n.toNat 200) 4 n2.toNat 2) n.toNat))])
    exact m_zret hx hb hr rfl hlocks hB (by decide) (by decide) dL_merges_6 (Or.inr ⟨_, _, rfl, nPt_rg (mg_ok hV cA).1.ib _, mg_ok hV cA, hC.x, hFm⟩)

abbrev rmL_exchanges : Room := { frames := 10, cells := 10, slots := 60, locals := 180 }
set_option maxHeartbeats 4000000 in
set_option maxRecDepth 100000 in
theorem k_L_exchanges {l : Launch} {D : va_G} {z : Nat} {cI cP cR cJ : ClassId} {h0 : Hp} (hfl : l.stackTraces = false) {x xp xr : Nat} {pa ra : Nat → Nat} {σ : Sg} (hC : CR cP cR x xp xr pa ra σ h0) (hV : Iv σ) {n n2 : Int} (rn : rg n) (rn2 : rg n2) : Ct l D z (tyL cI cP cR cJ) yL_exchanges wsL_exchanges rmL_exchanges [.ref x, .int (iI n), .int (iI n2)] h0 (fun v u => (∃ r : Int, v = some (.int (iI r)) ∧ (-3 ≤ r ∧ r < 0) ∧ ¬ xcd σ n n2 ∧ CR cP cR x xp xr pa ra σ u ∧ FrC h0 u) ∨ (∃ r : Int, v = some (.int (iI r)) ∧ (0 ≤ r ∧ r ≤ 200) ∧ xcd σ n n2 ∧ CR cP cR x xp xr pa ra (xsS σ n n2) u ∧ FrC h0 u)) := by
  refine Ct.ofH (cc := cL_exchanges) (maxL := 4) (ret := (some .int)) (hh := [(0, 6, 7, 22), (0, 6, 10, 16)]) (by decide) rfl (Nat.le_of_ble_eq_true rfl) ?_
  intro p e s m args below meth c hx hb hr hts hown hlocks hml hnm hT hK hB ls hl
  have hl : lv_has ls 4 [(0, .ref x), (1, .int (iI n)), (2, .int (iI n2))] := hl
  have hI := hV.ib
  have hnp := hI.hnp
  refine lv_aload_n hx hb dL_exchanges_0 rfl (lv_at hl 0 rfl) ?_
  refine lv_iload_n hx hb dL_exchanges_1 rfl (lv_at hl 1 rfl) ?_
  refine lv_iload_n hx hb dL_exchanges_2 rfl (lv_at hl 2 rfl) ?_
  refine m_runX (vx_runV (As := [.int (iI n), .int (iI n2)]) (rest := []) ⟨hx, hb, hml, hown, hts⟩ (k_X3_exchange (l := l) hfl hC hI rn rn2) (cwV 2 hts gL_exchanges_X3_exchange rfl rfl rfl (by decide +kernel) ⟨by decide, by decide⟩) ⟨Kp.blind _ _ _ _ _, m_recv hK hB (ci := 3) rfl hC.tb, fun U hU hW => hK.pass hB U hU hW⟩ rfl rfl hl.1 rfl (lv_room (Nat.le_of_ble_eq_true rfl)) dL_exchanges_3 ⟨Nat.le_of_ble_eq_true rfl, Nat.le_of_ble_eq_true rfl⟩) hB (fun E u H locs q9 ce hp_1 hB hc9 hv9 hk9 => ?_) (fun v u H locs hp_1 hB => ?_)
  · rcases hp_1 with ⟨⟨rfl, cx⟩ | ⟨rfl, cx⟩, hC, hFm⟩
    · refine vx_catch hown [] ⟨0, 6, 7, 22⟩ [⟨0, 6, 10, 16⟩] hT (fun z hz => by cases hz) (by decide) (by decide) (hts _ (List.mem_of_getElem? (i := 1) rfl)) (va_Nw.use rfl (hK.2.1.2.2.1 _ (List.mem_of_getElem? (i := 2) rfl))) hc9 hv9 hk9 ?_
      refine lv_astore_n (lv' := [(3, .ref q9), (0, .ref x), (1, .int (iI n)), (2, .int (iI n2))]) hx hb dL_exchanges_7 rfl hl (by decide) rfl (fun ls hl => ?_)
      refine j_iconst hx hb dL_exchanges_8 ?_
      exact m_zret hx hb hr rfl hlocks hB (by decide) (by decide) dL_exchanges_9 (Or.inl ⟨_, rfl, ⟨by decide, by decide⟩, fun w => cx w.1, hC, hFm⟩)
    · refine vx_catch hown [⟨0, 6, 7, 22⟩] ⟨0, 6, 10, 16⟩ [] hT (fun z hz => by cases List.mem_singleton.mp hz; exact Or.inr ⟨by decide, nE3, hts _ (List.mem_of_getElem? (i := 1) rfl), hK.2.1.2.2.2.2.1 _ (List.mem_of_getElem? (i := 3) rfl)⟩) (by decide) (by decide) (hts _ (List.mem_of_getElem? (i := 2) rfl)) (va_Nw.use rfl (hK.2.1.2.2.1 _ (List.mem_of_getElem? (i := 1) rfl))) hc9 hv9 hk9 ?_
      refine lv_astore_n (lv' := [(3, .ref q9), (0, .ref x), (1, .int (iI n)), (2, .int (iI n2))]) hx hb dL_exchanges_10 rfl hl (by decide) rfl (fun ls hl => ?_)
      refine j_bipush hx hb dL_exchanges_11 (by decide) ?_
      exact m_zret hx hb hr rfl hlocks hB (by decide) (by decide) dL_exchanges_13 (Or.inl ⟨_, rfl, ⟨by decide, by decide⟩, fun w => cx.2 w.2, hC, hFm⟩)
  · obtain ⟨cA, rfl, hC, hFm⟩ := hp_1
    show W _ _ _ _ _ _ _ _ _ _ _ _ _ _ _ (F0 m 6 ls [.int (iI (nPt (xsS σ n n2) n.toNat))])
    exact m_zret hx hb hr rfl hlocks hB (by decide) (by decide) dL_exchanges_6 (Or.inr ⟨_, rfl, nPt_rg (xc_ok hV cA).1.ib _, cA, hC, hFm⟩)

abbrev rmL_turns : Room := { frames := 10, cells := 10, slots := 60, locals := 178 }
set_option maxHeartbeats 4000000 in
set_option maxRecDepth 100000 in
theorem k_L_turns {l : Launch} {D : va_G} {z : Nat} {cI cP cR cJ : ClassId} {h0 : Hp} (hfl : l.stackTraces = false) {x xp xr : Nat} {pa ra : Nat → Nat} {σ : Sg} (hC : CR cP cR x xp xr pa ra σ h0) (hV : Iv σ) {cv n : Int} (hcv : cv = 0 ∨ cv = 1) (rn : rg n) : Ct l D z (tyL cI cP cR cJ) yL_turns wsL_turns rmL_turns [.ref x, .int (iI cv), .int (iI n)] h0 (fun v u => (∃ r : Int, v = some (.int (iI r)) ∧ (-3 ≤ r ∧ r < 0) ∧ CR cP cR x xp xr pa ra σ u ∧ FrC h0 u) ∨ (∃ (r : Int) (σ2 : Sg), v = some (.int (iI r)) ∧ Tn σ σ2 cv n r ∧ CRx cP cR x σ2 u ∧ FrC h0 u)) := by
  refine Ct.ofH (cc := cL_turns) (maxL := 4) (ret := (some .int)) (hh := [(0, 17, 18, 22), (0, 17, 21, 16)]) (by decide) rfl (Nat.le_of_ble_eq_true rfl) ?_
  intro p e s m args below meth c hx hb hr hts hown hlocks hml hnm hT hK hB ls hl
  have hl : lv_has ls 4 [(0, .ref x), (1, .int (iI cv)), (2, .int (iI n))] := hl
  have hI := hV.ib
  have hnp := hI.hnp
  refine lv_iload_n hx hb dL_turns_0 rfl (lv_at hl 1 rfl) ?_
  refine j_if_eq (tgt := 12) hx hb dL_turns_1 (by decide) ⟨by omega, by omega⟩ (fun c_1 => ?_) (fun c_1 => ?_)
  · refine lv_aload_n hx hb dL_turns_12 rfl (lv_at hl 0 rfl) ?_
    refine lv_iload_n hx hb dL_turns_13 rfl (lv_at hl 2 rfl) ?_
    refine m_runX (vx_runV (As := [.int (iI n)]) (rest := []) ⟨hx, hb, hml, hown, hts⟩ (k_X3_detach (l := l) hfl hC hI rn) (cwV 1 hts gL_turns_X3_detach rfl rfl rfl (by decide +kernel) ⟨by decide, by decide⟩) ⟨Kp.blind _ _ _ _ _, m_recv hK hB (ci := 3) rfl hC.tb, fun U hU hW => hK.pass hB U hU hW⟩ rfl rfl hl.1 rfl (lv_room (Nat.le_of_ble_eq_true rfl)) dL_turns_14 ⟨Nat.le_of_ble_eq_true rfl, Nat.le_of_ble_eq_true rfl⟩) hB (fun E u H locs q9 ce hp_2 hB hc9 hv9 hk9 => ?_) (fun v u H locs hp_2 hB => ?_)
    · rcases hp_2 with ⟨⟨rfl, cx⟩ | ⟨rfl, cx⟩, hC, hFm⟩
      · refine vx_catch hown [] ⟨0, 17, 18, 22⟩ [⟨0, 17, 21, 16⟩] hT (fun z hz => by cases hz) (by decide) (by decide) (hts _ (List.mem_of_getElem? (i := 1) rfl)) (va_Nw.use rfl (hK.2.1.2.2.1 _ (List.mem_of_getElem? (i := 2) rfl))) hc9 hv9 hk9 ?_
        refine lv_astore_n (lv' := [(3, .ref q9), (0, .ref x), (1, .int (iI cv)), (2, .int (iI n))]) hx hb dL_turns_18 rfl hl (by decide) rfl (fun ls hl => ?_)
        refine j_iconst hx hb dL_turns_19 ?_
        exact m_zret hx hb hr rfl hlocks hB (by decide) (by decide) dL_turns_20 (Or.inl ⟨_, rfl, ⟨by decide, by decide⟩, hC, hFm⟩)
      · refine vx_catch hown [⟨0, 17, 18, 22⟩] ⟨0, 17, 21, 16⟩ [] hT (fun z hz => by cases List.mem_singleton.mp hz; exact Or.inr ⟨by decide, nE3, hts _ (List.mem_of_getElem? (i := 1) rfl), hK.2.1.2.2.2.2.1 _ (List.mem_of_getElem? (i := 3) rfl)⟩) (by decide) (by decide) (hts _ (List.mem_of_getElem? (i := 2) rfl)) (va_Nw.use rfl (hK.2.1.2.2.1 _ (List.mem_of_getElem? (i := 1) rfl))) hc9 hv9 hk9 ?_
        refine lv_astore_n (lv' := [(3, .ref q9), (0, .ref x), (1, .int (iI cv)), (2, .int (iI n))]) hx hb dL_turns_21 rfl hl (by decide) rfl (fun ls hl => ?_)
        refine j_bipush hx hb dL_turns_22 (by decide) ?_
        exact m_zret hx hb hr rfl hlocks hB (by decide) (by decide) dL_turns_24 (Or.inl ⟨_, rfl, ⟨by decide, by decide⟩, hC, hFm⟩)
    · obtain ⟨cA, rfl, hC, hFm⟩ := hp_2
      show W _ _ _ _ _ _ _ _ _ _ _ _ _ _ _ (F0 m 17 ls [.int (iI (nPt (upS (upS σ 4 n.toNat 1) 11 0 1) n.toNat))])
      exact m_zret hx hb hr rfl hlocks hB (by decide) (by decide) dL_turns_17 (Or.inr ⟨_, _, rfl, dt_ok hV (by assumption) cA, hC.x, hFm⟩)
  · refine lv_aload_n hx hb dL_turns_4 rfl (lv_at hl 0 rfl) ?_
    refine lv_iload_n hx hb dL_turns_5 rfl (lv_at hl 2 rfl) ?_
    refine m_runX (vx_runV (As := [.int (iI n)]) (rest := []) ⟨hx, hb, hml, hown, hts⟩ (k_X3_attach (l := l) hfl hC hI rn) (cwV 1 hts gL_turns_X3_attach rfl rfl rfl (by decide +kernel) ⟨by decide, by decide⟩) ⟨Kp.blind _ _ _ _ _, m_recv hK hB (ci := 3) rfl hC.tb, fun U hU hW => hK.pass hB U hU hW⟩ rfl rfl hl.1 rfl (lv_room (Nat.le_of_ble_eq_true rfl)) dL_turns_6 ⟨Nat.le_of_ble_eq_true rfl, Nat.le_of_ble_eq_true rfl⟩) hB (fun E u H locs q9 ce hp_3 hB hc9 hv9 hk9 => ?_) (fun v u H locs hp_3 hB => ?_)
    · rcases hp_3 with ⟨⟨rfl, cx⟩ | ⟨rfl, cx⟩, hC, hFm⟩
      · refine vx_catch hown [] ⟨0, 17, 18, 22⟩ [⟨0, 17, 21, 16⟩] hT (fun z hz => by cases hz) (by decide) (by decide) (hts _ (List.mem_of_getElem? (i := 1) rfl)) (va_Nw.use rfl (hK.2.1.2.2.1 _ (List.mem_of_getElem? (i := 2) rfl))) hc9 hv9 hk9 ?_
        refine lv_astore_n (lv' := [(3, .ref q9), (0, .ref x), (1, .int (iI cv)), (2, .int (iI n))]) hx hb dL_turns_18 rfl hl (by decide) rfl (fun ls hl => ?_)
        refine j_iconst hx hb dL_turns_19 ?_
        exact m_zret hx hb hr rfl hlocks hB (by decide) (by decide) dL_turns_20 (Or.inl ⟨_, rfl, ⟨by decide, by decide⟩, hC, hFm⟩)
      · refine vx_catch hown [⟨0, 17, 18, 22⟩] ⟨0, 17, 21, 16⟩ [] hT (fun z hz => by cases List.mem_singleton.mp hz; exact Or.inr ⟨by decide, nE3, hts _ (List.mem_of_getElem? (i := 1) rfl), hK.2.1.2.2.2.2.1 _ (List.mem_of_getElem? (i := 3) rfl)⟩) (by decide) (by decide) (hts _ (List.mem_of_getElem? (i := 2) rfl)) (va_Nw.use rfl (hK.2.1.2.2.1 _ (List.mem_of_getElem? (i := 1) rfl))) hc9 hv9 hk9 ?_
        refine lv_astore_n (lv' := [(3, .ref q9), (0, .ref x), (1, .int (iI cv)), (2, .int (iI n))]) hx hb dL_turns_21 rfl hl (by decide) rfl (fun ls hl => ?_)
        refine j_bipush hx hb dL_turns_22 (by decide) ?_
        exact m_zret hx hb hr rfl hlocks hB (by decide) (by decide) dL_turns_24 (Or.inl ⟨_, rfl, ⟨by decide, by decide⟩, hC, hFm⟩)
    · obtain ⟨cA, rfl, hC, hFm⟩ := hp_3
      show W _ _ _ _ _ _ _ _ _ _ _ _ _ _ _ (F0 m 9 ls [.int (iI (nPt (upS (upS σ 4 n.toNat 0) 11 0 1) n.toNat))])
      refine lv_goto (tgt := 17) hx hb dL_turns_9 (by decide) ?_
      exact m_zret hx hb hr rfl hlocks hB (by decide) (by decide) dL_turns_17 (Or.inr ⟨_, _, rfl, at_ok hV (by assumption) cA, hC.x, hFm⟩)

abbrev rmL_inserts : Room := { frames := 8, cells := 5, slots := 28, locals := 134 }
set_option maxHeartbeats 4000000 in
set_option maxRecDepth 100000 in
theorem k_L_inserts {l : Launch} {D : va_G} {z : Nat} {cI cP cR cJ : ClassId} {h0 : Hp} (hfl : l.stackTraces = false) {x xp xr : Nat} {pa ra : Nat → Nat} {σ : Sg} (hC : CR cP cR x xp xr pa ra σ h0) (hV : Iv σ) {ky sr vl : Int} (hok : (0 ≤ ky ∧ ky ≤ 999) ∧ (0 ≤ sr ∧ sr ≤ 9) ∧ (0 ≤ vl ∧ vl ≤ 99)) (hn : σ 10 0 < 200) : Ct l D z (tyL cI cP cR cJ) yL_inserts wsL_inserts rmL_inserts [.ref x, .int (iI ky), .int (iI sr), .int (iI vl)] h0 (fun v u => v = some (.int (iI (σ 10 0))) ∧ ∃ σ2 : Sg, In σ σ2 ky vl ∧ CRx cP cR x σ2 u ∧ FrC h0 u) := by
  refine Ct.ofH (cc := cL_inserts) (maxL := 5) (ret := (some .int)) (hh := [(0, 7, 8, 16)]) (by decide) rfl (Nat.le_of_ble_eq_true rfl) ?_
  intro p e s m args below meth c hx hb hr hts hown hlocks hml hnm hT hK hB ls hl
  have hl : lv_has ls 5 [(0, .ref x), (1, .int (iI ky)), (2, .int (iI sr)), (3, .int (iI vl))] := hl
  have hI := hV.ib
  have hnp := hI.hnp
  have rk : rg ky := ⟨by omega, by omega⟩
  have rs : rg sr := ⟨by omega, by omega⟩
  have rv : rg vl := ⟨by omega, by omega⟩
  refine lv_aload_n hx hb dL_inserts_0 rfl (lv_at hl 0 rfl) ?_
  refine lv_iload_n hx hb dL_inserts_1 rfl (lv_at hl 1 rfl) ?_
  refine lv_iload_n hx hb dL_inserts_2 rfl (lv_at hl 2 rfl) ?_
  refine lv_iload_n hx hb dL_inserts_3 rfl (lv_at hl 3 rfl) ?_
  refine m_runX (vx_runV (As := [.int (iI ky), .int (iI sr), .int (iI vl)]) (rest := []) ⟨hx, hb, hml, hown, hts⟩ (k_X3_insert (l := l) hfl hC hI rk rs rv) (cwV 3 hts gL_inserts_X3_insert rfl rfl rfl (by decide +kernel) ⟨by decide, by decide⟩) ⟨Kp.blind _ _ _ _ _, m_recv hK hB (ci := 3) rfl hC.tb, fun U hU hW => hK.pass hB U hU hW⟩ rfl rfl hl.1 rfl (lv_room (Nat.le_of_ble_eq_true rfl)) dL_inserts_4 ⟨Nat.le_of_ble_eq_true rfl, Nat.le_of_ble_eq_true rfl⟩) hB (fun E u H locs q9 ce hp_1 hB hc9 hv9 hk9 => ?_) (fun v u H locs hp_1 hB => ?_)
  · rcases hp_1 with ⟨⟨rfl, cx⟩ | ⟨rfl, cx⟩, hC, hFm⟩
    · exact absurd hok cx
    · exact absurd hn cx.2
  · obtain ⟨cA, rfl, ra2, hC, hFm⟩ := hp_1
    show W _ _ _ _ _ _ _ _ _ _ _ _ _ _ _ (F0 m 7 ls [.int (iI (σ 10 0))])
    exact m_zret hx hb hr rfl hlocks hB (by decide) (by decide) dL_inserts_7 (⟨rfl, _, in_ok hV cA, hC.x, hFm⟩)

abbrev rmL_changes : Room := { frames := 8, cells := 4, slots := 24, locals := 137 }
set_option maxHeartbeats 4000000 in
set_option maxRecDepth 100000 in
theorem k_L_changes {l : Launch} {D : va_G} {z : Nat} {cI cP cR cJ : ClassId} {h0 : Hp} (hfl : l.stackTraces = false) {x xp xr : Nat} {pa ra : Nat → Nat} {σ : Sg} (hC : CR cP cR x xp xr pa ra σ h0) (hV : Iv σ) {n ky sr : Int} (rn : rg n) (hok : (0 ≤ ky ∧ ky ≤ 999) ∧ 0 ≤ sr ∧ sr ≤ 9) : Ct l D z (tyL cI cP cR cJ) yL_changes wsL_changes rmL_changes [.ref x, .int (iI n), .int (iI ky), .int (iI sr)] h0 (fun v u => (∃ r : Int, v = some (.int (iI r)) ∧ (-3 ≤ r ∧ r < 0) ∧ CR cP cR x xp xr pa ra σ u ∧ FrC h0 u) ∨ (∃ (r : Int) (σ2 : Sg), v = some (.int (iI r)) ∧ Cg σ σ2 n ky r ∧ CRx cP cR x σ2 u ∧ FrC h0 u)) := by
  refine Ct.ofH (cc := cL_changes) (maxL := 5) (ret := (some .int)) (hh := [(0, 15, 16, 22), (0, 15, 20, 16)]) (by decide) rfl (Nat.le_of_ble_eq_true rfl) ?_
  intro p e s m args below meth c hx hb hr hts hown hlocks hml hnm hT hK hB ls hl
  have hl : lv_has ls 5 [(0, .ref x), (1, .int (iI n)), (2, .int (iI ky)), (3, .int (iI sr))] := hl
  have hI := hV.ib
  have hnp := hI.hnp
  have rk : rg ky := ⟨by omega, by omega⟩
  have rs : rg sr := ⟨by omega, by omega⟩
  refine lv_aload_n hx hb dL_changes_0 rfl (lv_at hl 0 rfl) ?_
  refine lv_iload_n hx hb dL_changes_1 rfl (lv_at hl 1 rfl) ?_
  refine lv_iload_n hx hb dL_changes_2 rfl (lv_at hl 2 rfl) ?_
  refine lv_iload_n hx hb dL_changes_3 rfl (lv_at hl 3 rfl) ?_
  refine m_runX (vx_runV (As := [.int (iI n), .int (iI ky), .int (iI sr)]) (rest := []) ⟨hx, hb, hml, hown, hts⟩ (k_X3_change (l := l) hfl hC hI rn rk rs) (cwV 3 hts gL_changes_X3_change rfl rfl rfl (by decide +kernel) ⟨by decide, by decide⟩) ⟨Kp.blind _ _ _ _ _, m_recv hK hB (ci := 3) rfl hC.tb, fun U hU hW => hK.pass hB U hU hW⟩ rfl rfl hl.1 rfl (lv_room (Nat.le_of_ble_eq_true rfl)) dL_changes_4 ⟨Nat.le_of_ble_eq_true rfl, Nat.le_of_ble_eq_true rfl⟩) hB (fun E u H locs q9 ce hp_1 hB hc9 hv9 hk9 => ?_) (fun v u H locs hp_1 hB => ?_)
  · rcases hp_1 with ⟨⟨rfl, cx⟩ | ⟨rfl, cx⟩ | ⟨rfl, cx⟩, hC, hFm⟩
    · refine vx_catch hown [] ⟨0, 15, 16, 22⟩ [⟨0, 15, 20, 16⟩] hT (fun z hz => by cases hz) (by decide) (by decide) (hts _ (List.mem_of_getElem? (i := 1) rfl)) (va_Nw.use rfl (hK.2.1.2.2.1 _ (List.mem_of_getElem? (i := 2) rfl))) hc9 hv9 hk9 ?_
      refine lv_astore (lv' := [(4, .ref q9), (0, .ref x), (1, .int (iI n)), (2, .int (iI ky)), (3, .int (iI sr))]) hx hb dL_changes_16 hl (by decide) rfl (fun ls hl => ?_)
      refine j_iconst hx hb dL_changes_18 ?_
      exact m_zret hx hb hr rfl hlocks hB (by decide) (by decide) dL_changes_19 (Or.inl ⟨_, rfl, ⟨by decide, by decide⟩, hC, hFm⟩)
    · exact absurd hok cx.2
    · refine vx_catch hown [⟨0, 15, 16, 22⟩] ⟨0, 15, 20, 16⟩ [] hT (fun z hz => by cases List.mem_singleton.mp hz; exact Or.inr ⟨by decide, nE3, hts _ (List.mem_of_getElem? (i := 1) rfl), hK.2.1.2.2.2.2.1 _ (List.mem_of_getElem? (i := 3) rfl)⟩) (by decide) (by decide) (hts _ (List.mem_of_getElem? (i := 2) rfl)) (va_Nw.use rfl (hK.2.1.2.2.1 _ (List.mem_of_getElem? (i := 1) rfl))) hc9 hv9 hk9 ?_
      refine lv_astore (lv' := [(4, .ref q9), (0, .ref x), (1, .int (iI n)), (2, .int (iI ky)), (3, .int (iI sr))]) hx hb dL_changes_20 hl (by decide) rfl (fun ls hl => ?_)
      refine j_bipush hx hb dL_changes_22 (by decide) ?_
      exact m_zret hx hb hr rfl hlocks hB (by decide) (by decide) dL_changes_24 (Or.inl ⟨_, rfl, ⟨by decide, by decide⟩, hC, hFm⟩)
  · obtain ⟨cA, rfl, hC, hFm⟩ := hp_1
    show W _ _ _ _ _ _ _ _ _ _ _ _ _ _ _ (F0 m 7 ls [.int (iI (b2 (plc (upS (upS (upS σ 6 n.toNat ky) 7 n.toNat sr) 5 n.toNat ((pw (upS (upS σ 6 n.toNat ky) 7 n.toNat sr) ky : Nat) : Int)) n ≠ plc σ n)))])
    refine j_ifeqP (tgt := 14) hx hb dL_changes_7 (by decide) (fun c_2 => ?_) (fun c_2 => ?_)
    · refine j_iconst hx hb dL_changes_14 ?_
      exact m_zret hx hb hr rfl hlocks hB (by decide) (by decide) dL_changes_15 (Or.inr ⟨0, _, rfl, (cg_ok hV cA).to (b2_f c_2), hC.x, hFm⟩)
    · refine j_iconst hx hb dL_changes_10 ?_
      refine lv_goto (tgt := 15) hx hb dL_changes_11 (by decide) ?_
      exact m_zret hx hb hr rfl hlocks hB (by decide) (by decide) dL_changes_15 (Or.inr ⟨1, _, rfl, (cg_ok hV cA).to (b2_t c_2), hC.x, hFm⟩)

abbrev rmL_removes : Room := { frames := 8, cells := 1, slots := 6, locals := 134 }
set_option maxHeartbeats 4000000 in
set_option maxRecDepth 100000 in
theorem k_L_removes {l : Launch} {D : va_G} {z : Nat} {cI cP cR cJ : ClassId} {h0 : Hp} (hfl : l.stackTraces = false) {x xp xr : Nat} {pa ra : Nat → Nat} {σ : Sg} (hC : CR cP cR x xp xr pa ra σ h0) (hV : Iv σ) {n : Int} (rn : rg n) : Ct l D z (tyL cI cP cR cJ) yL_removes wsL_removes rmL_removes [.ref x, .int (iI n)] h0 (fun v u => (v = some (.int (iI (-1))) ∧ ¬ isR σ n ∧ CR cP cR x xp xr pa ra σ u ∧ FrC h0 u) ∨ (∃ (r : Int) (σ2 : Sg), v = some (.int (iI r)) ∧ Rm σ σ2 n r ∧ CRx cP cR x σ2 u ∧ FrC h0 u)) := by
  refine Ct.ofH (cc := cL_removes) (maxL := 3) (ret := (some .int)) (hh := [(0, 5, 6, 22)]) (by decide) rfl (Nat.le_of_ble_eq_true rfl) ?_
  intro p e s m args below meth c hx hb hr hts hown hlocks hml hnm hT hK hB ls hl
  have hl : lv_has ls 3 [(0, .ref x), (1, .int (iI n))] := hl
  have hI := hV.ib
  have hnp := hI.hnp
  refine lv_aload_n hx hb dL_removes_0 rfl (lv_at hl 0 rfl) ?_
  refine lv_iload_n hx hb dL_removes_1 rfl (lv_at hl 1 rfl) ?_
  refine m_runX (vx_runV (As := [.int (iI n)]) (rest := []) ⟨hx, hb, hml, hown, hts⟩ (k_X3_remove (l := l) hfl hC hI rn) (cwV 1 hts gL_removes_X3_remove rfl rfl rfl (by decide +kernel) ⟨by decide, by decide⟩) ⟨Kp.blind _ _ _ _ _, m_recv hK hB (ci := 3) rfl hC.tb, fun U hU hW => hK.pass hB U hU hW⟩ rfl rfl hl.1 rfl (lv_room (Nat.le_of_ble_eq_true rfl)) dL_removes_2 ⟨Nat.le_of_ble_eq_true rfl, Nat.le_of_ble_eq_true rfl⟩) hB (fun E u H locs q9 ce hp_1 hB hc9 hv9 hk9 => ?_) (fun v u H locs hp_1 hB => ?_)
  · obtain ⟨⟨rfl, cx⟩, hC, hFm⟩ := hp_1
    refine vx_catch hown [] ⟨0, 5, 6, 22⟩ [] hT (fun z hz => by cases hz) (by decide) (by decide) (hts _ (List.mem_of_getElem? (i := 1) rfl)) (va_Nw.use rfl (hK.2.1.2.2.1 _ (List.mem_of_getElem? (i := 2) rfl))) hc9 hv9 hk9 ?_
    refine lv_astore_n (lv' := [(2, .ref q9), (0, .ref x), (1, .int (iI n))]) hx hb dL_removes_6 rfl hl (by decide) rfl (fun ls hl => ?_)
    refine j_iconst hx hb dL_removes_7 ?_
    exact m_zret hx hb hr rfl hlocks hB (by decide) (by decide) dL_removes_8 (Or.inl ⟨rfl, cx, hC, hFm⟩)
  · obtain ⟨cA, rfl, hC, hFm⟩ := hp_1
    show W _ _ _ _ _ _ _ _ _ _ _ _ _ _ _ (F0 m 5 ls [.int (iI (σ 8 n.toNat))])
    exact m_zret hx hb hr rfl hlocks hB (by decide) (by decide) dL_removes_5 (Or.inr ⟨_, _, rfl, rm_ok hV cA, hC.x, hFm⟩)

abbrev rmL_leaf : Room := { frames := 8, cells := 1, slots := 6, locals := 133 }
set_option maxHeartbeats 4000000 in
set_option maxRecDepth 100000 in
theorem k_L_leaf {l : Launch} {D : va_G} {z : Nat} {cI cP cR cJ : ClassId} {h0 : Hp} (hfl : l.stackTraces = false) {x xp xr : Nat} {pa ra : Nat → Nat} {σ : Sg} (hC : CR cP cR x xp xr pa ra σ h0) (hV : Iv σ) {n : Int} (rn : rg n) : Ct l D z (tyL cI cP cR cJ) yL_leaf wsL_leaf rmL_leaf [.ref x, .int (iI n)] h0 (fun v u => (v = some (.int (iI (-1))) ∧ ¬ isR σ n ∧ CR cP cR x xp xr pa ra σ u ∧ FrC h0 u) ∨ (v = some (.int (iI (plc σ n))) ∧ isR σ n ∧ CR cP cR x xp xr pa ra σ u ∧ FrC h0 u)) := by
  refine Ct.ofH (cc := cL_leaf) (maxL := 3) (ret := (some .int)) (hh := [(0, 5, 6, 22)]) (by decide) rfl (Nat.le_of_ble_eq_true rfl) ?_
  intro p e s m args below meth c hx hb hr hts hown hlocks hml hnm hT hK hB ls hl
  have hl : lv_has ls 3 [(0, .ref x), (1, .int (iI n))] := hl
  have hI := hV.ib
  have hnp := hI.hnp
  refine lv_aload_n hx hb dL_leaf_0 rfl (lv_at hl 0 rfl) ?_
  refine lv_iload_n hx hb dL_leaf_1 rfl (lv_at hl 1 rfl) ?_
  refine m_runX (vx_runV (As := [.int (iI n)]) (rest := []) ⟨hx, hb, hml, hown, hts⟩ (k_X3_leafOf (l := l) hfl hC hI rn) (cwV 1 hts gL_leaf_X3_leafOf rfl rfl rfl (by decide +kernel) ⟨by decide, by decide⟩) ⟨Kp.blind _ _ _ _ _, m_recv hK hB (ci := 3) rfl hC.tb, fun U hU hW => hK.pass hB U hU hW⟩ rfl rfl hl.1 rfl (lv_room (Nat.le_of_ble_eq_true rfl)) dL_leaf_2 ⟨Nat.le_of_ble_eq_true rfl, Nat.le_of_ble_eq_true rfl⟩) hB (fun E u H locs q9 ce hp_1 hB hc9 hv9 hk9 => ?_) (fun v u H locs hp_1 hB => ?_)
  · obtain ⟨⟨rfl, cx⟩, hC, hFm⟩ := hp_1
    refine vx_catch hown [] ⟨0, 5, 6, 22⟩ [] hT (fun z hz => by cases hz) (by decide) (by decide) (hts _ (List.mem_of_getElem? (i := 1) rfl)) (va_Nw.use rfl (hK.2.1.2.2.1 _ (List.mem_of_getElem? (i := 2) rfl))) hc9 hv9 hk9 ?_
    refine lv_astore_n (lv' := [(2, .ref q9), (0, .ref x), (1, .int (iI n))]) hx hb dL_leaf_6 rfl hl (by decide) rfl (fun ls hl => ?_)
    refine j_iconst hx hb dL_leaf_7 ?_
    exact m_zret hx hb hr rfl hlocks hB (by decide) (by decide) dL_leaf_8 (Or.inl ⟨rfl, cx, hC, hFm⟩)
  · obtain ⟨⟨cA, rfl⟩, hC, hFm⟩ := hp_1
    show W _ _ _ _ _ _ _ _ _ _ _ _ _ _ _ (F0 m 5 ls [.int (iI (plc σ n))])
    exact m_zret hx hb hr rfl hlocks hB (by decide) (by decide) dL_leaf_5 (Or.inr ⟨rfl, cA, hC, hFm⟩)

abbrev rmL_rowsIn : Room := { frames := 10, cells := 3, slots := 18, locals := 185 }
set_option maxHeartbeats 4000000 in
set_option maxRecDepth 100000 in
theorem k_L_rowsIn {l : Launch} {D : va_G} {z : Nat} {cI cP cR cJ : ClassId} {h0 : Hp} (hfl : l.stackTraces = false) {x xp xr : Nat} {pa ra : Nat → Nat} {σ : Sg} (hC : CR cP cR x xp xr pa ra σ h0) (hV : Iv σ) {n lf : Int} (rn : rg n) (rl : rg lf) : Ct l D z (tyL cI cP cR cJ) yL_rowsIn wsL_rowsIn rmL_rowsIn [.ref x, .int (iI n), .int (iI lf)] h0 (fun v u => (v = some (.int (iI (-1))) ∧ ¬ isL σ n lf ∧ CR cP cR x xp xr pa ra σ u ∧ FrC h0 u) ∨ (v = some (.int (iI (nIn σ n.toNat lf))) ∧ isL σ n lf ∧ CR cP cR x xp xr pa ra σ u ∧ FrC h0 u)) := by
  refine Ct.ofH (cc := cL_rowsIn) (maxL := 4) (ret := (some .int)) (hh := [(0, 6, 7, 22)]) (by decide) rfl (Nat.le_of_ble_eq_true rfl) ?_
  intro p e s m args below meth c hx hb hr hts hown hlocks hml hnm hT hK hB ls hl
  have hl : lv_has ls 4 [(0, .ref x), (1, .int (iI n)), (2, .int (iI lf))] := hl
  have hI := hV.ib
  have hnp := hI.hnp
  refine lv_aload_n hx hb dL_rowsIn_0 rfl (lv_at hl 0 rfl) ?_
  refine lv_iload_n hx hb dL_rowsIn_1 rfl (lv_at hl 1 rfl) ?_
  refine lv_iload_n hx hb dL_rowsIn_2 rfl (lv_at hl 2 rfl) ?_
  refine m_runX (vx_runV (As := [.int (iI n), .int (iI lf)]) (rest := []) ⟨hx, hb, hml, hown, hts⟩ (k_X3_rowsIn (l := l) hfl hC hI rn rl) (cwV 2 hts gL_rowsIn_X3_rowsIn rfl rfl rfl (by decide +kernel) ⟨by decide, by decide⟩) ⟨Kp.blind _ _ _ _ _, m_recv hK hB (ci := 3) rfl hC.tb, fun U hU hW => hK.pass hB U hU hW⟩ rfl rfl hl.1 rfl (lv_room (Nat.le_of_ble_eq_true rfl)) dL_rowsIn_3 ⟨Nat.le_of_ble_eq_true rfl, Nat.le_of_ble_eq_true rfl⟩) hB (fun E u H locs q9 ce hp_1 hB hc9 hv9 hk9 => ?_) (fun v u H locs hp_1 hB => ?_)
  · obtain ⟨⟨rfl, cx⟩, hC, hFm⟩ := hp_1
    refine vx_catch hown [] ⟨0, 6, 7, 22⟩ [] hT (fun z hz => by cases hz) (by decide) (by decide) (hts _ (List.mem_of_getElem? (i := 1) rfl)) (va_Nw.use rfl (hK.2.1.2.2.1 _ (List.mem_of_getElem? (i := 2) rfl))) hc9 hv9 hk9 ?_
    refine lv_astore_n (lv' := [(3, .ref q9), (0, .ref x), (1, .int (iI n)), (2, .int (iI lf))]) hx hb dL_rowsIn_7 rfl hl (by decide) rfl (fun ls hl => ?_)
    refine j_iconst hx hb dL_rowsIn_8 ?_
    exact m_zret hx hb hr rfl hlocks hB (by decide) (by decide) dL_rowsIn_9 (Or.inl ⟨rfl, cx, hC, hFm⟩)
  · obtain ⟨⟨cA, rfl⟩, hC, hFm⟩ := hp_1
    show W _ _ _ _ _ _ _ _ _ _ _ _ _ _ _ (F0 m 6 ls [.int (iI (nIn σ n.toNat lf))])
    exact m_zret hx hb hr rfl hlocks hB (by decide) (by decide) dL_rowsIn_6 (Or.inr ⟨rfl, cA, hC, hFm⟩)

abbrev rmL_finds : Room := { frames := 8, cells := 2, slots := 12, locals := 136 }
set_option maxHeartbeats 4000000 in
set_option maxRecDepth 100000 in
theorem k_L_finds {l : Launch} {D : va_G} {z : Nat} {cI cP cR cJ : ClassId} {h0 : Hp} (hfl : l.stackTraces = false) {x xp xr : Nat} {pa ra : Nat → Nat} {σ : Sg} (hC : CR cP cR x xp xr pa ra σ h0) (hV : Iv σ) {vl : Int} (hok : 0 ≤ vl ∧ vl ≤ 99) : Ct l D z (tyL cI cP cR cJ) yL_finds wsL_finds rmL_finds [.ref x, .int (iI vl)] h0 (fun v u => (v = some (.int (iI (-3))) ∧ σ 11 0 ≠ 0 ∧ CR cP cR x xp xr pa ra σ u ∧ FrC h0 u) ∨ (v = some (.int (iI (nVl σ vl))) ∧ σ 11 0 = 0 ∧ CR cP cR x xp xr pa ra σ u ∧ FrC h0 u)) := by
  refine Ct.ofH (cc := cL_finds) (maxL := 3) (ret := (some .int)) (hh := [(0, 5, 6, 16)]) (by decide) rfl (Nat.le_of_ble_eq_true rfl) ?_
  intro p e s m args below meth c hx hb hr hts hown hlocks hml hnm hT hK hB ls hl
  have hl : lv_has ls 3 [(0, .ref x), (1, .int (iI vl))] := hl
  have hI := hV.ib
  have hnp := hI.hnp
  have rv : rg vl := ⟨by omega, by omega⟩
  refine lv_aload_n hx hb dL_finds_0 rfl (lv_at hl 0 rfl) ?_
  refine lv_iload_n hx hb dL_finds_1 rfl (lv_at hl 1 rfl) ?_
  refine m_runX (vx_runV (As := [.int (iI vl)]) (rest := []) ⟨hx, hb, hml, hown, hts⟩ (k_X3_find (l := l) hfl hC hI rv) (cwV 1 hts gL_finds_X3_find rfl rfl rfl (by decide +kernel) ⟨by decide, by decide⟩) ⟨Kp.blind _ _ _ _ _, m_recv hK hB (ci := 3) rfl hC.tb, fun U hU hW => hK.pass hB U hU hW⟩ rfl rfl hl.1 rfl (lv_room (Nat.le_of_ble_eq_true rfl)) dL_finds_2 ⟨Nat.le_of_ble_eq_true rfl, Nat.le_of_ble_eq_true rfl⟩) hB (fun E u H locs q9 ce hp_1 hB hc9 hv9 hk9 => ?_) (fun v u H locs hp_1 hB => ?_)
  · rcases hp_1 with ⟨⟨rfl, cx⟩ | ⟨rfl, cx⟩, hC, hFm⟩
    · exact absurd hok cx
    · refine vx_catch hown [] ⟨0, 5, 6, 16⟩ [] hT (fun z hz => by cases hz) (by decide) (by decide) (hts _ (List.mem_of_getElem? (i := 1) rfl)) (va_Nw.use rfl (hK.2.1.2.2.1 _ (List.mem_of_getElem? (i := 1) rfl))) hc9 hv9 hk9 ?_
      refine lv_astore_n (lv' := [(2, .ref q9), (0, .ref x), (1, .int (iI vl))]) hx hb dL_finds_6 rfl hl (by decide) rfl (fun ls hl => ?_)
      refine j_bipush hx hb dL_finds_7 (by decide) ?_
      exact m_zret hx hb hr rfl hlocks hB (by decide) (by decide) dL_finds_9 (Or.inl ⟨rfl, cx.2, hC, hFm⟩)
  · obtain ⟨⟨cA1, cA, rfl⟩, hC, hFm⟩ := hp_1
    show W _ _ _ _ _ _ _ _ _ _ _ _ _ _ _ (F0 m 5 ls [.int (iI (nVl σ vl))])
    exact m_zret hx hb hr rfl hlocks hB (by decide) (by decide) dL_finds_5 (Or.inr ⟨rfl, cA, hC, hFm⟩)

