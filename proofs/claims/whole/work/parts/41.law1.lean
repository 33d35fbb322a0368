abbrev rmL_makePart : Room := { frames := 10, cells := 7, slots := 42, locals := 180 }
set_option maxHeartbeats 4000000 in
set_option maxRecDepth 100000 in
theorem k_L_makePart {l : Launch} {D : va_G} {z : Nat} {cI cP cR cJ : ClassId} {h0 : Hp} (hfl : l.stackTraces = false) {x xp xr : Nat} {pa ra : Nat → Nat} {σ : Sg} (hC : CR cP cR x xp xr pa ra σ h0) (hI : Ib σ) {oa : Nat} {fo : Nat → Int64} (ho : h0 oa = some (arJ cJ 1 fo)) {f t k d : Int} (rf : rg f) (rt : rg t) (rk : rg k) (rd : rg d) : Ct l D z (tyL cI cP cR cJ) yL_makePart wsL_makePart rmL_makePart [.ref x, .int (iI f), .int (iI t), .int (iI k), .int (iI d), .ref oa] h0 (fun v u => (v = some (.int (iI 0)) ∧ (((okR f t ∧ okK k d) ∧ ¬ ovl σ f t ∧ ¬ inR σ f t ∧ σ 9 0 < 15)) ∧ ∃ pa2 : Nat → Nat, CR cP cR x xp xr pa2 ra (mkP σ f t k d) u ∧ (∃ f2 : Nat → Int64, u oa = some (arJ cJ 1 f2) ∧ f2 0 = lI (σ 9 0 + 1)) ∧ FrL h0 u) ∨ (v = some (.int (iI 1)) ∧ (¬ (okR f t ∧ okK k d)) ∧ CR cP cR x xp xr pa ra σ u ∧ FrC h0 u) ∨ (v = some (.int (iI 2)) ∧ (okR f t ∧ okK k d ∧ (ovl σ f t ∨ inR σ f t ∨ ¬ σ 9 0 < 15)) ∧ CR cP cR x xp xr pa ra σ u ∧ FrC h0 u)) := by
  refine Ct.ofH (cc := cL_makePart) (maxL := 7) (ret := (some .int)) (hh := [(0, 14, 17, 13), (0, 14, 21, 15)]) (by decide) rfl (Nat.le_of_ble_eq_true rfl) ?_
  intro p e s m args below meth c hx hb hr hts hown hlocks hml hnm hT hK hB ls hl
  have hl : lv_has ls 7 [(0, .ref x), (1, .int (iI f)), (2, .int (iI t)), (3, .int (iI k)), (4, .int (iI d)), (5, .ref oa)] := hl
  refine lv_aload hx hb dL_makePart_0 (lv_at hl 5 rfl) ?_
  refine j_iconst hx hb dL_makePart_2 ?_
  refine lv_aload_n hx hb dL_makePart_3 rfl (lv_at hl 0 rfl) ?_
  refine lv_iload_n hx hb dL_makePart_4 rfl (lv_at hl 1 rfl) ?_
  refine lv_iload_n hx hb dL_makePart_5 rfl (lv_at hl 2 rfl) ?_
  refine lv_iload_n hx hb dL_makePart_6 rfl (lv_at hl 3 rfl) ?_
  refine lv_iload hx hb dL_makePart_7 (lv_at hl 4 rfl) ?_
  refine m_runX (vx_runV (As := [.int (iI f), .int (iI t), .int (iI k), .int (iI d)]) (rest := [.int (iI 0), .ref oa]) ⟨hx, hb, hml, hown, hts⟩ (k_X3_makePart (l := l) hfl hC hI rf rt rk rd) (cwV 4 hts gL_makePart_X3_makePart rfl rfl rfl (by decide +kernel) ⟨by decide, by decide⟩) ⟨Kp.blind _ _ _ _ _, m_recv hK hB (ci := 3) rfl hC.tb, fun U hU hW => hK.pass hB U hU hW⟩ rfl rfl hl.1 rfl (lv_room (Nat.le_of_ble_eq_true rfl)) dL_makePart_9 ⟨Nat.le_of_ble_eq_true rfl, Nat.le_of_ble_eq_true rfl⟩) hB (fun E u H locs q9 ce hp_1 hB hc9 hv9 hk9 => ?_) (fun v u H locs hp_1 hB => ?_)
  · rcases hp_1 with ⟨⟨rfl, cx⟩ | ⟨rfl, cx⟩, hC, hFm⟩
    · refine vx_catch hown [] ⟨0, 14, 17, 13⟩ [⟨0, 14, 21, 15⟩] hT (fun z hz => by cases hz) (by decide) (by decide) (hts _ (List.mem_of_getElem? (i := 1) rfl)) (va_Nw.use rfl (hK.2.1.2.2.1 _ (List.mem_of_getElem? (i := 0) rfl))) hc9 hv9 hk9 ?_
      refine lv_astore (lv' := [(6, .ref q9), (0, .ref x), (1, .int (iI f)), (2, .int (iI t)), (3, .int (iI k)), (4, .int (iI d)), (5, .ref oa)]) hx hb dL_makePart_17 hl (by decide) rfl (fun ls hl => ?_)
      refine j_iconst hx hb dL_makePart_19 ?_
      exact m_zret hx hb hr rfl hlocks hB (by decide) (by decide) dL_makePart_20 (Or.inr (Or.inl (⟨rfl, cx, hC, hFm⟩)))
    · refine vx_catch hown [⟨0, 14, 17, 13⟩] ⟨0, 14, 21, 15⟩ [] hT (fun z hz => by cases List.mem_singleton.mp hz; exact Or.inr ⟨by decide, nE1, hts _ (List.mem_of_getElem? (i := 1) rfl), hK.2.1.2.2.2.2.1 _ (List.mem_of_getElem? (i := 2) rfl)⟩) (by decide) (by decide) (hts _ (List.mem_of_getElem? (i := 2) rfl)) (va_Nw.use rfl (hK.2.1.2.2.1 _ (List.mem_of_getElem? (i := 1) rfl))) hc9 hv9 hk9 ?_
      refine lv_astore (lv' := [(6, .ref q9), (0, .ref x), (1, .int (iI f)), (2, .int (iI t)), (3, .int (iI k)), (4, .int (iI d)), (5, .ref oa)]) hx hb dL_makePart_21 hl (by decide) rfl (fun ls hl => ?_)
      refine j_iconst hx hb dL_makePart_23 ?_
      exact m_zret hx hb hr rfl hlocks hB (by decide) (by decide) dL_makePart_24 (Or.inr (Or.inr (⟨rfl, cx, hC, hFm⟩)))
  · obtain ⟨cc0, rfl, pa2, hC, hFm⟩ := hp_1
    have ho2 := hFm.J ho
    show W _ _ _ _ _ _ _ _ _ _ _ _ _ _ _ (F0 m 12 ls [.int (iI (σ 9 0 + 1)), .int (iI 0), .ref oa])
    refine lv_i2l hx hb dL_makePart_12 (rfl : _ = lI (σ 9 0 + 1)) ?_
    refine m_last hx hb hK hB 3 ho2 rfl in01 dL_makePart_13 (fun H locs hB => ?_)
    refine lv_goto (tgt := 25) hx hb dL_makePart_14 (by decide) ?_
    refine j_iconst hx hb dL_makePart_25 ?_
    exact m_zret hx hb hr rfl hlocks hB (by decide) (by decide) dL_makePart_26 (Or.inl (⟨rfl, cc0, pa2, hC.outJ ho2, ⟨_, hup_s _ _ _, rfl⟩, hFm.L.outJ ho2⟩))

abbrev rmL_carveOut : Room := { frames := 10, cells := 6, slots := 36, locals := 180 }
set_option maxHeartbeats 4000000 in
set_option maxRecDepth 100000 in
theorem k_L_carveOut {l : Launch} {D : va_G} {z : Nat} {cI cP cR cJ : ClassId} {h0 : Hp} (hfl : l.stackTraces = false) {x xp xr : Nat} {pa ra : Nat → Nat} {σ : Sg} (hC : CR cP cR x xp xr pa ra σ h0) (hI : Ib σ) {oa : Nat} {fo : Nat → Int64} (ho : h0 oa = some (arJ cJ 1 fo)) {f t k d : Int} (rf : rg f) (rt : rg t) (rk : rg k) (rd : rg d) : Ct l D z (tyL cI cP cR cJ) yL_carveOut wsL_carveOut rmL_carveOut [.ref x, .int (iI f), .int (iI t), .int (iI k), .int (iI d), .ref oa] h0 (fun v u => (v = some (.int (iI 0)) ∧ (((okR f t ∧ okK k d) ∧ ¬ ovl σ f t ∧ σ 9 0 < 15)) ∧ ∃ pa2 : Nat → Nat, CR cP cR x xp xr pa2 ra (mvS (mkP σ f t k d) 0 (npN σ + 1) 200) u ∧ (∃ f2 : Nat → Int64, u oa = some (arJ cJ 1 f2) ∧ f2 0 = lI (cnt (fun j => live (mvS (mkP σ f t k d) 0 (npN σ + 1) 200) j ∧ pn (mvS (mkP σ f t k d) 0 (npN σ + 1) 200) j = (npN σ + 1)) (nrN (mvS (mkP σ f t k d) 0 (npN σ + 1) 200)))) ∧ FrL h0 u) ∨ (v = some (.int (iI 1)) ∧ (¬ (okR f t ∧ okK k d)) ∧ CR cP cR x xp xr pa ra σ u ∧ FrC h0 u) ∨ (v = some (.int (iI 2)) ∧ (okR f t ∧ okK k d ∧ (ovl σ f t ∨ ¬ σ 9 0 < 15)) ∧ CR cP cR x xp xr pa ra σ u ∧ FrC h0 u)) := by
  refine Ct.ofH (cc := cL_carveOut) (maxL := 7) (ret := (some .int)) (hh := [(0, 14, 17, 13), (0, 14, 21, 15)]) (by decide) rfl (Nat.le_of_ble_eq_true rfl) ?_
  intro p e s m args below meth c hx hb hr hts hown hlocks hml hnm hT hK hB ls hl
  have hl : lv_has ls 7 [(0, .ref x), (1, .int (iI f)), (2, .int (iI t)), (3, .int (iI k)), (4, .int (iI d)), (5, .ref oa)] := hl
  refine lv_aload hx hb dL_carveOut_0 (lv_at hl 5 rfl) ?_
  refine j_iconst hx hb dL_carveOut_2 ?_
  refine lv_aload_n hx hb dL_carveOut_3 rfl (lv_at hl 0 rfl) ?_
  refine lv_iload_n hx hb dL_carveOut_4 rfl (lv_at hl 1 rfl) ?_
  refine lv_iload_n hx hb dL_carveOut_5 rfl (lv_at hl 2 rfl) ?_
  refine lv_iload_n hx hb dL_carveOut_6 rfl (lv_at hl 3 rfl) ?_
  refine lv_iload hx hb dL_carveOut_7 (lv_at hl 4 rfl) ?_
  refine m_runX (vx_runV (As := [.int (iI f), .int (iI t), .int (iI k), .int (iI d)]) (rest := [.int (iI 0), .ref oa]) ⟨hx, hb, hml, hown, hts⟩ (k_X3_carveOut (l := l) hfl hC hI rf rt rk rd) (cwV 4 hts gL_carveOut_X3_carveOut rfl rfl rfl (by decide +kernel) ⟨by decide, by decide⟩) ⟨Kp.blind _ _ _ _ _, m_recv hK hB (ci := 3) rfl hC.tb, fun U hU hW => hK.pass hB U hU hW⟩ rfl rfl hl.1 rfl (lv_room (Nat.le_of_ble_eq_true rfl)) dL_carveOut_9 ⟨Nat.le_of_ble_eq_true rfl, Nat.le_of_ble_eq_true rfl⟩) hB (fun E u H locs q9 ce hp_1 hB hc9 hv9 hk9 => ?_) (fun v u H locs hp_1 hB => ?_)
  · rcases hp_1 with ⟨⟨rfl, cx⟩ | ⟨rfl, cx⟩, hC, hFm⟩
    · refine vx_catch hown [] ⟨0, 14, 17, 13⟩ [⟨0, 14, 21, 15⟩] hT (fun z hz => by cases hz) (by decide) (by decide) (hts _ (List.mem_of_getElem? (i := 1) rfl)) (va_Nw.use rfl (hK.2.1.2.2.1 _ (List.mem_of_getElem? (i := 0) rfl))) hc9 hv9 hk9 ?_
      refine lv_astore (lv' := [(6, .ref q9), (0, .ref x), (1, .int (iI f)), (2, .int (iI t)), (3, .int (iI k)), (4, .int (iI d)), (5, .ref oa)]) hx hb dL_carveOut_17 hl (by decide) rfl (fun ls hl => ?_)
      refine j_iconst hx hb dL_carveOut_19 ?_
      exact m_zret hx hb hr rfl hlocks hB (by decide) (by decide) dL_carveOut_20 (Or.inr (Or.inl (⟨rfl, cx, hC, hFm⟩)))
    · refine vx_catch hown [⟨0, 14, 17, 13⟩] ⟨0, 14, 21, 15⟩ [] hT (fun z hz => by cases List.mem_singleton.mp hz; exact Or.inr ⟨by decide, nE1, hts _ (List.mem_of_getElem? (i := 1) rfl), hK.2.1.2.2.2.2.1 _ (List.mem_of_getElem? (i := 2) rfl)⟩) (by decide) (by decide) (hts _ (List.mem_of_getElem? (i := 2) rfl)) (va_Nw.use rfl (hK.2.1.2.2.1 _ (List.mem_of_getElem? (i := 1) rfl))) hc9 hv9 hk9 ?_
      refine lv_astore (lv' := [(6, .ref q9), (0, .ref x), (1, .int (iI f)), (2, .int (iI t)), (3, .int (iI k)), (4, .int (iI d)), (5, .ref oa)]) hx hb dL_carveOut_21 hl (by decide) rfl (fun ls hl => ?_)
      refine j_iconst hx hb dL_carveOut_23 ?_
      exact m_zret hx hb hr rfl hlocks hB (by decide) (by decide) dL_carveOut_24 (Or.inr (Or.inr (⟨rfl, cx, hC, hFm⟩)))
  · obtain ⟨cc0, rfl, pa2, hC, hFm⟩ := hp_1
    have ho2 := hFm.J ho
    show W _ _ _ _ _ _ _ _ _ _ _ _ _ _ _ (F0 m 12 ls [.int (iI (cnt (fun j => live (mvS (mkP σ f t k d) 0 (npN σ + 1) 200) j ∧ pn (mvS (mkP σ f t k d) 0 (npN σ + 1) 200) j = (npN σ + 1)) (nrN (mvS (mkP σ f t k d) 0 (npN σ + 1) 200)))), .int (iI 0), .ref oa])
    refine lv_i2l hx hb dL_carveOut_12 (rfl : _ = lI (cnt (fun j => live (mvS (mkP σ f t k d) 0 (npN σ + 1) 200) j ∧ pn (mvS (mkP σ f t k d) 0 (npN σ + 1) 200) j = (npN σ + 1)) (nrN (mvS (mkP σ f t k d) 0 (npN σ + 1) 200)))) ?_
    refine m_last hx hb hK hB 3 ho2 rfl in01 dL_carveOut_13 (fun H locs hB => ?_)
    refine lv_goto (tgt := 25) hx hb dL_carveOut_14 (by decide) ?_
    refine j_iconst hx hb dL_carveOut_25 ?_
    exact m_zret hx hb hr rfl hlocks hB (by decide) (by decide) dL_carveOut_26 (Or.inl (⟨rfl, cc0, pa2, hC.outJ ho2, ⟨_, hup_s _ _ _, rfl⟩, hFm.L.outJ ho2⟩))

abbrev rmL_split : Room := { frames := 10, cells := 10, slots := 60, locals := 180 }
set_option maxHeartbeats 4000000 in
set_option maxRecDepth 100000 in
theorem k_L_split {l : Launch} {D : va_G} {z : Nat} {cI cP cR cJ : ClassId} {h0 : Hp} (hfl : l.stackTraces = false) {x xp xr : Nat} {pa ra : Nat → Nat} {σ : Sg} (hC : CR cP cR x xp xr pa ra σ h0) (hI : Ib σ) {oa : Nat} {fo : Nat → Int64} (ho : h0 oa = some (arJ cJ 1 fo)) {n ky : Int} (rn : rg n) (rk : rg ky) : Ct l D z (tyL cI cP cR cJ) yL_split wsL_split rmL_split [.ref x, .int (iI n), .int (iI ky), .ref oa] h0 (fun v u => (v = some (.int (iI 0)) ∧ ((isP σ n ∧ (σ 0 n.toNat < ky ∧ ky < σ 1 n.toNat) ∧ σ 4 n.toNat = 0 ∧ σ 9 0 < 15)) ∧ ∃ pa2 : Nat → Nat, CR cP cR x xp xr pa2 ra (mvS (upS (mkP σ ky (σ 1 n.toNat) (σ 2 n.toNat) (σ 3 n.toNat)) 1 n.toNat ky) n.toNat (npN σ + 1) 200) u ∧ (∃ f2 : Nat → Int64, u oa = some (arJ cJ 1 f2) ∧ f2 0 = lI (σ 9 0 + 1)) ∧ FrL h0 u) ∨ (v = some (.int (iI 1)) ∧ (¬ isP σ n) ∧ CR cP cR x xp xr pa ra σ u ∧ FrC h0 u) ∨ (v = some (.int (iI 2)) ∧ (isP σ n ∧ ¬ (σ 0 n.toNat < ky ∧ ky < σ 1 n.toNat)) ∧ CR cP cR x xp xr pa ra σ u ∧ FrC h0 u) ∨ (v = some (.int (iI 3)) ∧ (isP σ n ∧ (σ 0 n.toNat < ky ∧ ky < σ 1 n.toNat) ∧ (σ 4 n.toNat ≠ 0 ∨ ¬ σ 9 0 < 15)) ∧ CR cP cR x xp xr pa ra σ u ∧ FrC h0 u)) := by
  refine Ct.ofH (cc := cL_split) (maxL := 5) (ret := (some .int)) (hh := [(0, 10, 13, 24), (0, 10, 17, 13), (0, 10, 21, 15)]) (by decide) rfl (Nat.le_of_ble_eq_true rfl) ?_
  intro p e s m args below meth c hx hb hr hts hown hlocks hml hnm hT hK hB ls hl
  have hl : lv_has ls 5 [(0, .ref x), (1, .int (iI n)), (2, .int (iI ky)), (3, .ref oa)] := hl
  refine lv_aload_n hx hb dL_split_0 rfl (lv_at hl 3 rfl) ?_
  refine j_iconst hx hb dL_split_1 ?_
  refine lv_aload_n hx hb dL_split_2 rfl (lv_at hl 0 rfl) ?_
  refine lv_iload_n hx hb dL_split_3 rfl (lv_at hl 1 rfl) ?_
  refine lv_iload_n hx hb dL_split_4 rfl (lv_at hl 2 rfl) ?_
  refine m_runX (vx_runV (As := [.int (iI n), .int (iI ky)]) (rest := [.int (iI 0), .ref oa]) ⟨hx, hb, hml, hown, hts⟩ (k_X3_split (l := l) hfl hC hI rn rk) (cwV 2 hts gL_split_X3_split rfl rfl rfl (by decide +kernel) ⟨by decide, by decide⟩) ⟨Kp.blind _ _ _ _ _, m_recv hK hB (ci := 3) rfl hC.tb, fun U hU hW => hK.pass hB U hU hW⟩ rfl rfl hl.1 rfl (lv_room (Nat.le_of_ble_eq_true rfl)) dL_split_5 ⟨Nat.le_of_ble_eq_true rfl, Nat.le_of_ble_eq_true rfl⟩) hB (fun E u H locs q9 ce hp_1 hB hc9 hv9 hk9 => ?_) (fun v u H locs hp_1 hB => ?_)
  · rcases hp_1 with ⟨⟨rfl, cx⟩ | ⟨rfl, cx⟩ | ⟨rfl, cx⟩, hC, hFm⟩
    · refine vx_catch hown [] ⟨0, 10, 13, 24⟩ [⟨0, 10, 17, 13⟩, ⟨0, 10, 21, 15⟩] hT (fun z hz => by cases hz) (by decide) (by decide) (hts _ (List.mem_of_getElem? (i := 1) rfl)) (va_Nw.use rfl (hK.2.1.2.2.1 _ (List.mem_of_getElem? (i := 2) rfl))) hc9 hv9 hk9 ?_
      refine lv_astore (lv' := [(4, .ref q9), (0, .ref x), (1, .int (iI n)), (2, .int (iI ky)), (3, .ref oa)]) hx hb dL_split_13 hl (by decide) rfl (fun ls hl => ?_)
      refine j_iconst hx hb dL_split_15 ?_
      exact m_zret hx hb hr rfl hlocks hB (by decide) (by decide) dL_split_16 (Or.inr (Or.inl (⟨rfl, cx, hC, hFm⟩)))
    · refine vx_catch hown [⟨0, 10, 13, 24⟩] ⟨0, 10, 17, 13⟩ [⟨0, 10, 21, 15⟩] hT (fun z hz => by cases List.mem_singleton.mp hz; exact Or.inr ⟨by decide, nE3, hts _ (List.mem_of_getElem? (i := 1) rfl), hK.2.1.2.2.2.2.1 _ (List.mem_of_getElem? (i := 1) rfl)⟩) (by decide) (by decide) (hts _ (List.mem_of_getElem? (i := 2) rfl)) (va_Nw.use rfl (hK.2.1.2.2.1 _ (List.mem_of_getElem? (i := 0) rfl))) hc9 hv9 hk9 ?_
      refine lv_astore (lv' := [(4, .ref q9), (0, .ref x), (1, .int (iI n)), (2, .int (iI ky)), (3, .ref oa)]) hx hb dL_split_17 hl (by decide) rfl (fun ls hl => ?_)
      refine j_iconst hx hb dL_split_19 ?_
      exact m_zret hx hb hr rfl hlocks hB (by decide) (by decide) dL_split_20 (Or.inr (Or.inr (Or.inl (⟨rfl, cx, hC, hFm⟩))))
    · refine vx_catch hown [⟨0, 10, 13, 24⟩, ⟨0, 10, 17, 13⟩] ⟨0, 10, 21, 15⟩ [] hT (fun z hz => by rcases List.mem_cons.mp hz with rfl | hz; exact Or.inr ⟨by decide, nE3, hts _ (List.mem_of_getElem? (i := 1) rfl), hK.2.1.2.2.2.2.1 _ (List.mem_of_getElem? (i := 3) rfl)⟩; cases List.mem_singleton.mp hz; exact Or.inr ⟨by decide, nE1, hts _ (List.mem_of_getElem? (i := 2) rfl), hK.2.1.2.2.2.2.1 _ (List.mem_of_getElem? (i := 2) rfl)⟩) (by decide) (by decide) (hts _ (List.mem_of_getElem? (i := 3) rfl)) (va_Nw.use rfl (hK.2.1.2.2.1 _ (List.mem_of_getElem? (i := 1) rfl))) hc9 hv9 hk9 ?_
      refine lv_astore (lv' := [(4, .ref q9), (0, .ref x), (1, .int (iI n)), (2, .int (iI ky)), (3, .ref oa)]) hx hb dL_split_21 hl (by decide) rfl (fun ls hl => ?_)
      refine j_iconst hx hb dL_split_23 ?_
      exact m_zret hx hb hr rfl hlocks hB (by decide) (by decide) dL_split_24 (Or.inr (Or.inr (Or.inr (⟨rfl, cx, hC, hFm⟩))))
  · obtain ⟨cc0, rfl, pa2, hC, hFm⟩ := hp_1
    have ho2 := hFm.J ho
    show W _ _ _ _ _ _ _ _ _ _ _ _ _ _ _ (F0 m 8 ls [.int (iI (σ 9 0 + 1)), .int (iI 0), .ref oa])
    refine lv_i2l hx hb dL_split_8 (rfl : _ = lI (σ 9 0 + 1)) ?_
    refine m_last hx hb hK hB 3 ho2 rfl in01 dL_split_9 (fun H locs hB => ?_)
    refine lv_goto (tgt := 25) hx hb dL_split_10 (by decide) ?_
    refine j_iconst hx hb dL_split_25 ?_
    exact m_zret hx hb hr rfl hlocks hB (by decide) (by decide) dL_split_26 (Or.inl (⟨rfl, cc0, pa2, hC.outJ ho2, ⟨_, hup_s _ _ _, rfl⟩, hFm.L.outJ ho2⟩))

abbrev rmL_merge : Room := { frames := 10, cells := 9, slots := 54, locals := 180 }
set_option maxHeartbeats 4000000 in
set_option maxRecDepth 100000 in
theorem k_L_merge {l : Launch} {D : va_G} {z : Nat} {cI cP cR cJ : ClassId} {h0 : Hp} (hfl : l.stackTraces = false) {x xp xr : Nat} {pa ra : Nat → Nat} {σ : Sg} (hC : CR cP cR x xp xr pa ra σ h0) (hI : Ib σ) {oa : Nat} {fo : Nat → Int64} (ho : h0 oa = some (arJ cJ 1 fo)) {n n2 : Int} (rn : rg n) (rn2 : rg n2) : Ct l D z (tyL cI cP cR cJ) yL_merge wsL_merge rmL_merge [.ref x, .int (iI n), .int (iI n2), .ref oa] h0 (fun v u => (v = some (.int (iI 0)) ∧ (((isP σ n ∧ isP σ n2) ∧ (σ 4 n.toNat = 0 ∧ σ 4 n2.toNat = 0 ∧ σ 0 n2.toNat = σ 1 n.toNat ∧ σ 2 n2.toNat = σ 2 n.toNat ∧ σ 3 n2.toNat = σ 3 n.toNat))) ∧ CR cP cR x xp xr pa ra (upS (mvS (upS σ 1 n.toNat (σ 1 n2.toNat)) n2.toNat n.toNat 200) 4 n2.toNat 2) u ∧ (∃ f2 : Nat → Int64, u oa = some (arJ cJ 1 f2) ∧ f2 0 = lI (cnt (fun j => live (upS (mvS (upS σ 1 n.toNat (σ 1 n2.toNat)) n2.toNat n.toNat 200) 4 n2.toNat 2) j ∧ pn (upS (mvS (upS σ 1 n.toNat (σ 1 n2.toNat)) n2.toNat n.toNat 200) 4 n2.toNat 2) j = n.toNat) (nrN (upS (mvS (upS σ 1 n.toNat (σ 1 n2.toNat)) n2.toNat n.toNat 200) 4 n2.toNat 2)))) ∧ FrL h0 u) ∨ (v = some (.int (iI 1)) ∧ (¬ (isP σ n ∧ isP σ n2)) ∧ CR cP cR x xp xr pa ra σ u ∧ FrC h0 u) ∨ (v = some (.int (iI 2)) ∧ ((isP σ n ∧ isP σ n2) ∧ ¬ (σ 4 n.toNat = 0 ∧ σ 4 n2.toNat = 0 ∧ σ 0 n2.toNat = σ 1 n.toNat ∧ σ 2 n2.toNat = σ 2 n.toNat ∧ σ 3 n2.toNat = σ 3 n.toNat)) ∧ CR cP cR x xp xr pa ra σ u ∧ FrC h0 u)) := by
  refine Ct.ofH (cc := cL_merge) (maxL := 5) (ret := (some .int)) (hh := [(0, 10, 13, 24), (0, 10, 17, 15)]) (by decide) rfl (Nat.le_of_ble_eq_true rfl) ?_
  intro p e s m args below meth c hx hb hr hts hown hlocks hml hnm hT hK hB ls hl
  have hl : lv_has ls 5 [(0, .ref x), (1, .int (iI n)), (2, .int (iI n2)), (3, .ref oa)] := hl
  refine lv_aload_n hx hb dL_merge_0 rfl (lv_at hl 3 rfl) ?_
  refine j_iconst hx hb dL_merge_1 ?_
  refine lv_aload_n hx hb dL_merge_2 rfl (lv_at hl 0 rfl) ?_
  refine lv_iload_n hx hb dL_merge_3 rfl (lv_at hl 1 rfl) ?_
  refine lv_iload_n hx hb dL_merge_4 rfl (lv_at hl 2 rfl) ?_
  refine m_runX (vx_runV (As := [.int (iI n), .int (iI n2)]) (rest := [.int (iI 0), .ref oa]) ⟨hx, hb, hml, hown, hts⟩ (k_X3_merge (l := l) hfl hC hI rn rn2) (cwV 2 hts gL_merge_X3_merge rfl rfl rfl (by decide +kernel) ⟨by decide, by decide⟩) ⟨Kp.blind _ _ _ _ _, m_recv hK hB (ci := 3) rfl hC.tb, fun U hU hW => hK.pass hB U hU hW⟩ rfl rfl hl.1 rfl (lv_room (Nat.le_of_ble_eq_true rfl)) dL_merge_5 ⟨Nat.le_of_ble_eq_true rfl, Nat.le_of_ble_eq_true rfl⟩) hB (fun E u H locs q9 ce hp_1 hB hc9 hv9 hk9 => ?_) (fun v u H locs hp_1 hB => ?_)
  · rcases hp_1 with ⟨⟨rfl, cx⟩ | ⟨rfl, cx⟩, hC, hFm⟩
    · refine vx_catch hown [] ⟨0, 10, 13, 24⟩ [⟨0, 10, 17, 15⟩] hT (fun z hz => by cases hz) (by decide) (by decide) (hts _ (List.mem_of_getElem? (i := 1) rfl)) (va_Nw.use rfl (hK.2.1.2.2.1 _ (List.mem_of_getElem? (i := 2) rfl))) hc9 hv9 hk9 ?_
      refine lv_astore (lv' := [(4, .ref q9), (0, .ref x), (1, .int (iI n)), (2, .int (iI n2)), (3, .ref oa)]) hx hb dL_merge_13 hl (by decide) rfl (fun ls hl => ?_)
      refine j_iconst hx hb dL_merge_15 ?_
      exact m_zret hx hb hr rfl hlocks hB (by decide) (by decide) dL_merge_16 (Or.inr (Or.inl (⟨rfl, cx, hC, hFm⟩)))
    · refine vx_catch hown [⟨0, 10, 13, 24⟩] ⟨0, 10, 17, 15⟩ [] hT (fun z hz => by cases List.mem_singleton.mp hz; exact Or.inr ⟨by decide, nE3, hts _ (List.mem_of_getElem? (i := 1) rfl), hK.2.1.2.2.2.2.1 _ (List.mem_of_getElem? (i := 3) rfl)⟩) (by decide) (by decide) (hts _ (List.mem_of_getElem? (i := 2) rfl)) (va_Nw.use rfl (hK.2.1.2.2.1 _ (List.mem_of_getElem? (i := 1) rfl))) hc9 hv9 hk9 ?_
      refine lv_astore (lv' := [(4, .ref q9), (0, .ref x), (1, .int (iI n)), (2, .int (iI n2)), (3, .ref oa)]) hx hb dL_merge_17 hl (by decide) rfl (fun ls hl => ?_)
      refine j_iconst hx hb dL_merge_19 ?_
      exact m_zret hx hb hr rfl hlocks hB (by decide) (by decide) dL_merge_20 (Or.inr (Or.inr (⟨rfl, cx, hC, hFm⟩)))
  · obtain ⟨cc0, rfl, hC, hFm⟩ := hp_1
    have ho2 := hFm.J ho
    show W _ _ _ _ _ _ _ _ _ _ _ _ _ _ _ (F0 m 8 ls [.int (iI (cnt (fun j => live (upS (mvS (upS σ 1 n.toNat (σ 1 n2.toNat)) n2.toNat n.toNat 200) 4 n2.toNat 2) j ∧ pn (upS (mvS (upS σ 1 n.toNat (σ 1 n2.toNat)) n2.toNat n.toNat 200) 4 n2.toNat 2) j = n.toNat) (nrN (upS (mvS (upS σ 1 n.toNat (σ 1 n2.toNat)) n2.toNat n.toNat 200) 4 n2.toNat 2)))), .int (iI 0), .ref oa])
    refine lv_i2l hx hb dL_merge_8 (rfl : _ = lI (cnt (fun j => live (upS (mvS (upS σ 1 n.toNat (σ 1 n2.toNat)) n2.toNat n.toNat 200) 4 n2.toNat 2) j ∧ pn (upS (mvS (upS σ 1 n.toNat (σ 1 n2.toNat)) n2.toNat n.toNat 200) 4 n2.toNat 2) j = n.toNat) (nrN (upS (mvS (upS σ 1 n.toNat (σ 1 n2.toNat)) n2.toNat n.toNat 200) 4 n2.toNat 2)))) ?_
    refine m_last hx hb hK hB 3 ho2 rfl in01 dL_merge_9 (fun H locs hB => ?_)
    refine lv_goto (tgt := 21) hx hb dL_merge_10 (by decide) ?_
    refine j_iconst hx hb dL_merge_21 ?_
    exact m_zret hx hb hr rfl hlocks hB (by decide) (by decide) dL_merge_22 (Or.inl (⟨rfl, cc0, hC.outJ ho2, ⟨_, hup_s _ _ _, rfl⟩, hFm.L.outJ ho2⟩))

abbrev rmL_detach : Room := { frames := 10, cells := 4, slots := 24, locals := 178 }
set_option maxHeartbeats 4000000 in
set_option maxRecDepth 100000 in
theorem k_L_detach {l : Launch} {D : va_G} {z : Nat} {cI cP cR cJ : ClassId} {h0 : Hp} (hfl : l.stackTraces = false) {x xp xr : Nat} {pa ra : Nat → Nat} {σ : Sg} (hC : CR cP cR x xp xr pa ra σ h0) (hI : Ib σ) {oa : Nat} {fo : Nat → Int64} (ho : h0 oa = some (arJ cJ 1 fo)) {n : Int} (rn : rg n) : Ct l D z (tyL cI cP cR cJ) yL_detach wsL_detach rmL_detach [.ref x, .int (iI n), .ref oa] h0 (fun v u => (v = some (.int (iI 0)) ∧ ((isP σ n ∧ σ 4 n.toNat = 0)) ∧ CR cP cR x xp xr pa ra (upS (upS σ 4 n.toNat 1) 11 0 1) u ∧ (∃ f2 : Nat → Int64, u oa = some (arJ cJ 1 f2) ∧ f2 0 = lI (cnt (fun j => live (upS (upS σ 4 n.toNat 1) 11 0 1) j ∧ pn (upS (upS σ 4 n.toNat 1) 11 0 1) j = n.toNat) (nrN (upS (upS σ 4 n.toNat 1) 11 0 1)))) ∧ FrL h0 u) ∨ (v = some (.int (iI 1)) ∧ (¬ isP σ n) ∧ CR cP cR x xp xr pa ra σ u ∧ FrC h0 u) ∨ (v = some (.int (iI 2)) ∧ (isP σ n ∧ σ 4 n.toNat ≠ 0) ∧ CR cP cR x xp xr pa ra σ u ∧ FrC h0 u)) := by
  refine Ct.ofH (cc := cL_detach) (maxL := 4) (ret := (some .int)) (hh := [(0, 9, 12, 24), (0, 9, 15, 15)]) (by decide) rfl (Nat.le_of_ble_eq_true rfl) ?_
  intro p e s m args below meth c hx hb hr hts hown hlocks hml hnm hT hK hB ls hl
  have hl : lv_has ls 4 [(0, .ref x), (1, .int (iI n)), (2, .ref oa)] := hl
  refine lv_aload_n hx hb dL_detach_0 rfl (lv_at hl 2 rfl) ?_
  refine j_iconst hx hb dL_detach_1 ?_
  refine lv_aload_n hx hb dL_detach_2 rfl (lv_at hl 0 rfl) ?_
  refine lv_iload_n hx hb dL_detach_3 rfl (lv_at hl 1 rfl) ?_
  refine m_runX (vx_runV (As := [.int (iI n)]) (rest := [.int (iI 0), .ref oa]) ⟨hx, hb, hml, hown, hts⟩ (k_X3_detach (l := l) hfl hC hI rn) (cwV 1 hts gL_detach_X3_detach rfl rfl rfl (by decide +kernel) ⟨by decide, by decide⟩) ⟨Kp.blind _ _ _ _ _, m_recv hK hB (ci := 3) rfl hC.tb, fun U hU hW => hK.pass hB U hU hW⟩ rfl rfl hl.1 rfl (lv_room (Nat.le_of_ble_eq_true rfl)) dL_detach_4 ⟨Nat.le_of_ble_eq_true rfl, Nat.le_of_ble_eq_true rfl⟩) hB (fun E u H locs q9 ce hp_1 hB hc9 hv9 hk9 => ?_) (fun v u H locs hp_1 hB => ?_)
  · rcases hp_1 with ⟨⟨rfl, cx⟩ | ⟨rfl, cx⟩, hC, hFm⟩
    · refine vx_catch hown [] ⟨0, 9, 12, 24⟩ [⟨0, 9, 15, 15⟩] hT (fun z hz => by cases hz) (by decide) (by decide) (hts _ (List.mem_of_getElem? (i := 1) rfl)) (va_Nw.use rfl (hK.2.1.2.2.1 _ (List.mem_of_getElem? (i := 2) rfl))) hc9 hv9 hk9 ?_
      refine lv_astore_n (lv' := [(3, .ref q9), (0, .ref x), (1, .int (iI n)), (2, .ref oa)]) hx hb dL_detach_12 rfl hl (by decide) rfl (fun ls hl => ?_)
      refine j_iconst hx hb dL_detach_13 ?_
      exact m_zret hx hb hr rfl hlocks hB (by decide) (by decide) dL_detach_14 (Or.inr (Or.inl (⟨rfl, cx, hC, hFm⟩)))
    · refine vx_catch hown [⟨0, 9, 12, 24⟩] ⟨0, 9, 15, 15⟩ [] hT (fun z hz => by cases List.mem_singleton.mp hz; exact Or.inr ⟨by decide, nE3, hts _ (List.mem_of_getElem? (i := 1) rfl), hK.2.1.2.2.2.2.1 _ (List.mem_of_getElem? (i := 3) rfl)⟩) (by decide) (by decide) (hts _ (List.mem_of_getElem? (i := 2) rfl)) (va_Nw.use rfl (hK.2.1.2.2.1 _ (List.mem_of_getElem? (i := 1) rfl))) hc9 hv9 hk9 ?_
      refine lv_astore_n (lv' := [(3, .ref q9), (0, .ref x), (1, .int (iI n)), (2, .ref oa)]) hx hb dL_detach_15 rfl hl (by decide) rfl (fun ls hl => ?_)
      refine j_iconst hx hb dL_detach_16 ?_
      exact m_zret hx hb hr rfl hlocks hB (by decide) (by decide) dL_detach_17 (Or.inr (Or.inr (⟨rfl, cx, hC, hFm⟩)))
  · obtain ⟨cc0, rfl, hC, hFm⟩ := hp_1
    have ho2 := hFm.J ho
    show W _ _ _ _ _ _ _ _ _ _ _ _ _ _ _ (F0 m 7 ls [.int (iI (cnt (fun j => live (upS (upS σ 4 n.toNat 1) 11 0 1) j ∧ pn (upS (upS σ 4 n.toNat 1) 11 0 1) j = n.toNat) (nrN (upS (upS σ 4 n.toNat 1) 11 0 1)))), .int (iI 0), .ref oa])
    refine lv_i2l hx hb dL_detach_7 (rfl : _ = lI (cnt (fun j => live (upS (upS σ 4 n.toNat 1) 11 0 1) j ∧ pn (upS (upS σ 4 n.toNat 1) 11 0 1) j = n.toNat) (nrN (upS (upS σ 4 n.toNat 1) 11 0 1)))) ?_
    refine m_last hx hb hK hB 3 ho2 rfl in01 dL_detach_8 (fun H locs hB => ?_)
    refine lv_goto (tgt := 18) hx hb dL_detach_9 (by decide) ?_
    refine j_iconst hx hb dL_detach_18 ?_
    exact m_zret hx hb hr rfl hlocks hB (by decide) (by decide) dL_detach_19 (Or.inl (⟨rfl, cc0, hC.outJ ho2, ⟨_, hup_s _ _ _, rfl⟩, hFm.L.outJ ho2⟩))

abbrev rmL_attach : Room := { frames := 10, cells := 6, slots := 36, locals := 178 }
set_option maxHeartbeats 4000000 in
set_option maxRecDepth 100000 in
theorem k_L_attach {l : Launch} {D : va_G} {z : Nat} {cI cP cR cJ : ClassId} {h0 : Hp} (hfl : l.stackTraces = false) {x xp xr : Nat} {pa ra : Nat → Nat} {σ : Sg} (hC : CR cP cR x xp xr pa ra σ h0) (hI : Ib σ) {oa : Nat} {fo : Nat → Int64} (ho : h0 oa = some (arJ cJ 1 fo)) {n : Int} (rn : rg n) : Ct l D z (tyL cI cP cR cJ) yL_attach wsL_attach rmL_attach [.ref x, .int (iI n), .ref oa] h0 (fun v u => (v = some (.int (iI 0)) ∧ ((isP σ n ∧ (σ 4 n.toNat = 1 ∧ ¬ ovl σ (σ 0 n.toNat) (σ 1 n.toNat) ∧ ¬ inR σ (σ 0 n.toNat) (σ 1 n.toNat)))) ∧ CR cP cR x xp xr pa ra (upS (upS σ 4 n.toNat 0) 11 0 1) u ∧ (∃ f2 : Nat → Int64, u oa = some (arJ cJ 1 f2) ∧ f2 0 = lI (cnt (fun j => live (upS (upS σ 4 n.toNat 0) 11 0 1) j ∧ pn (upS (upS σ 4 n.toNat 0) 11 0 1) j = n.toNat) (nrN (upS (upS σ 4 n.toNat 0) 11 0 1)))) ∧ FrL h0 u) ∨ (v = some (.int (iI 1)) ∧ (¬ isP σ n) ∧ CR cP cR x xp xr pa ra σ u ∧ FrC h0 u) ∨ (v = some (.int (iI 2)) ∧ (isP σ n ∧ ¬ (σ 4 n.toNat = 1 ∧ ¬ ovl σ (σ 0 n.toNat) (σ 1 n.toNat) ∧ ¬ inR σ (σ 0 n.toNat) (σ 1 n.toNat))) ∧ CR cP cR x xp xr pa ra σ u ∧ FrC h0 u)) := by
  refine Ct.ofH (cc := cL_attach) (maxL := 4) (ret := (some .int)) (hh := [(0, 9, 12, 24), (0, 9, 15, 15)]) (by decide) rfl (Nat.le_of_ble_eq_true rfl) ?_
  intro p e s m args below meth c hx hb hr hts hown hlocks hml hnm hT hK hB ls hl
  have hl : lv_has ls 4 [(0, .ref x), (1, .int (iI n)), (2, .ref oa)] := hl
  refine lv_aload_n hx hb dL_attach_0 rfl (lv_at hl 2 rfl) ?_
  refine j_iconst hx hb dL_attach_1 ?_
  refine lv_aload_n hx hb dL_attach_2 rfl (lv_at hl 0 rfl) ?_
  refine lv_iload_n hx hb dL_attach_3 rfl (lv_at hl 1 rfl) ?_
  refine m_runX (vx_runV (As := [.int (iI n)]) (rest := [.int (iI 0), .ref oa]) ⟨hx, hb, hml, hown, hts⟩ (k_X3_attach (l := l) hfl hC hI rn) (cwV 1 hts gL_attach_X3_attach rfl rfl rfl (by decide +kernel) ⟨by decide, by decide⟩) ⟨Kp.blind _ _ _ _ _, m_recv hK hB (ci := 3) rfl hC.tb, fun U hU hW => hK.pass hB U hU hW⟩ rfl rfl hl.1 rfl (lv_room (Nat.le_of_ble_eq_true rfl)) dL_attach_4 ⟨Nat.le_of_ble_eq_true rfl, Nat.le_of_ble_eq_true rfl⟩) hB (fun E u H locs q9 ce hp_1 hB hc9 hv9 hk9 => ?_) (fun v u H locs hp_1 hB => ?_)
  · rcases hp_1 with ⟨⟨rfl, cx⟩ | ⟨rfl, cx⟩, hC, hFm⟩
    · refine vx_catch hown [] ⟨0, 9, 12, 24⟩ [⟨0, 9, 15, 15⟩] hT (fun z hz => by cases hz) (by decide) (by decide) (hts _ (List.mem_of_getElem? (i := 1) rfl)) (va_Nw.use rfl (hK.2.1.2.2.1 _ (List.mem_of_getElem? (i := 2) rfl))) hc9 hv9 hk9 ?_
      refine lv_astore_n (lv' := [(3, .ref q9), (0, .ref x), (1, .int (iI n)), (2, .ref oa)]) hx hb dL_attach_12 rfl hl (by decide) rfl (fun ls hl => ?_)
      refine j_iconst hx hb dL_attach_13 ?_
      exact m_zret hx hb hr rfl hlocks hB (by decide) (by decide) dL_attach_14 (Or.inr (Or.inl (⟨rfl, cx, hC, hFm⟩)))
    · refine vx_catch hown [⟨0, 9, 12, 24⟩] ⟨0, 9, 15, 15⟩ [] hT (fun z hz => by cases List.mem_singleton.mp hz; exact Or.inr ⟨by decide, nE3, hts _ (List.mem_of_getElem? (i := 1) rfl), hK.2.1.2.2.2.2.1 _ (List.mem_of_getElem? (i := 3) rfl)⟩) (by decide) (by decide) (hts _ (List.mem_of_getElem? (i := 2) rfl)) (va_Nw.use rfl (hK.2.1.2.2.1 _ (List.mem_of_getElem? (i := 1) rfl))) hc9 hv9 hk9 ?_
      refine lv_astore_n (lv' := [(3, .ref q9), (0, .ref x), (1, .int (iI n)), (2, .ref oa)]) hx hb dL_attach_15 rfl hl (by decide) rfl (fun ls hl => ?_)
      refine j_iconst hx hb dL_attach_16 ?_
      exact m_zret hx hb hr rfl hlocks hB (by decide) (by decide) dL_attach_17 (Or.inr (Or.inr (⟨rfl, cx, hC, hFm⟩)))
  · obtain ⟨cc0, rfl, hC, hFm⟩ := hp_1
    have ho2 := hFm.J ho
    show W _ _ _ _ _ _ _ _ _ _ _ _ _ _ _ (F0 m 7 ls [.int (iI (cnt (fun j => live (upS (upS σ 4 n.toNat 0) 11 0 1) j ∧ pn (upS (upS σ 4 n.toNat 0) 11 0 1) j = n.toNat) (nrN (upS (upS σ 4 n.toNat 0) 11 0 1)))), .int (iI 0), .ref oa])
    refine lv_i2l hx hb dL_attach_7 (rfl : _ = lI (cnt (fun j => live (upS (upS σ 4 n.toNat 0) 11 0 1) j ∧ pn (upS (upS σ 4 n.toNat 0) 11 0 1) j = n.toNat) (nrN (upS (upS σ 4 n.toNat 0) 11 0 1)))) ?_
    refine m_last hx hb hK hB 3 ho2 rfl in01 dL_attach_8 (fun H locs hB => ?_)
    refine lv_goto (tgt := 18) hx hb dL_attach_9 (by decide) ?_
    refine j_iconst hx hb dL_attach_18 ?_
    exact m_zret hx hb hr rfl hlocks hB (by decide) (by decide) dL_attach_19 (Or.inl (⟨rfl, cc0, hC.outJ ho2, ⟨_, hup_s _ _ _, rfl⟩, hFm.L.outJ ho2⟩))

abbrev rmL_exchange : Room := { frames := 10, cells := 10, slots := 60, locals := 180 }
set_option maxHeartbeats 4000000 in
set_option maxRecDepth 100000 in
theorem k_L_exchange {l : Launch} {D : va_G} {z : Nat} {cI cP cR cJ : ClassId} {h0 : Hp} (hfl : l.stackTraces = false) {x xp xr : Nat} {pa ra : Nat → Nat} {σ : Sg} (hC : CR cP cR x xp xr pa ra σ h0) (hI : Ib σ) {oa : Nat} {fo : Nat → Int64} (ho : h0 oa = some (arJ cJ 1 fo)) {n n2 : Int} (rn : rg n) (rn2 : rg n2) : Ct l D z (tyL cI cP cR cJ) yL_exchange wsL_exchange rmL_exchange [.ref x, .int (iI n), .int (iI n2), .ref oa] h0 (fun v u => (v = some (.int (iI 0)) ∧ (((isP σ n ∧ isP σ n2) ∧ (σ 4 n.toNat = 0 ∧ σ 4 n2.toNat = 1 ∧ ¬ forn σ n.toNat n2.toNat ∧ ¬ forn σ n2.toNat n.toNat))) ∧ CR cP cR x xp xr pa ra (upS (swS σ n.toNat n2.toNat 200) 11 0 1) u ∧ (∃ f2 : Nat → Int64, u oa = some (arJ cJ 1 f2) ∧ f2 0 = lI (cnt (fun j => live (upS (swS σ n.toNat n2.toNat 200) 11 0 1) j ∧ pn (upS (swS σ n.toNat n2.toNat 200) 11 0 1) j = n.toNat) (nrN (upS (swS σ n.toNat n2.toNat 200) 11 0 1)))) ∧ FrL h0 u) ∨ (v = some (.int (iI 1)) ∧ (¬ (isP σ n ∧ isP σ n2)) ∧ CR cP cR x xp xr pa ra σ u ∧ FrC h0 u) ∨ (v = some (.int (iI 2)) ∧ ((isP σ n ∧ isP σ n2) ∧ ¬ (σ 4 n.toNat = 0 ∧ σ 4 n2.toNat = 1 ∧ ¬ forn σ n.toNat n2.toNat ∧ ¬ forn σ n2.toNat n.toNat)) ∧ CR cP cR x xp xr pa ra σ u ∧ FrC h0 u)) := by
  refine Ct.ofH (cc := cL_exchange) (maxL := 5) (ret := (some .int)) (hh := [(0, 10, 13, 24), (0, 10, 17, 15)]) (by decide) rfl (Nat.le_of_ble_eq_true rfl) ?_
  intro p e s m args below meth c hx hb hr hts hown hlocks hml hnm hT hK hB ls hl
  have hl : lv_has ls 5 [(0, .ref x), (1, .int (iI n)), (2, .int (iI n2)), (3, .ref oa)] := hl
  refine lv_aload_n hx hb dL_exchange_0 rfl (lv_at hl 3 rfl) ?_
  refine j_iconst hx hb dL_exchange_1 ?_
  refine lv_aload_n hx hb dL_exchange_2 rfl (lv_at hl 0 rfl) ?_
  refine lv_iload_n hx hb dL_exchange_3 rfl (lv_at hl 1 rfl) ?_
  refine lv_iload_n hx hb dL_exchange_4 rfl (lv_at hl 2 rfl) ?_
  refine m_runX (vx_runV (As := [.int (iI n), .int (iI n2)]) (rest := [.int (iI 0), .ref oa]) ⟨hx, hb, hml, hown, hts⟩ (k_X3_exchange (l := l) hfl hC hI rn rn2) (cwV 2 hts gL_exchange_X3_exchange rfl rfl rfl (by decide +kernel) ⟨by decide, by decide⟩) ⟨Kp.blind _ _ _ _ _, m_recv hK hB (ci := 3) rfl hC.tb, fun U hU hW => hK.pass hB U hU hW⟩ rfl rfl hl.1 rfl (lv_room (Nat.le_of_ble_eq_true rfl)) dL_exchange_5 ⟨Nat.le_of_ble_eq_true rfl, Nat.le_of_ble_eq_true rfl⟩) hB (fun E u H locs q9 ce hp_1 hB hc9 hv9 hk9 => ?_) (fun v u H locs hp_1 hB => ?_)
  · rcases hp_1 with ⟨⟨rfl, cx⟩ | ⟨rfl, cx⟩, hC, hFm⟩
    · refine vx_catch hown [] ⟨0, 10, 13, 24⟩ [⟨0, 10, 17, 15⟩] hT (fun z hz => by cases hz) (by decide) (by decide) (hts _ (List.mem_of_getElem? (i := 1) rfl)) (va_Nw.use rfl (hK.2.1.2.2.1 _ (List.mem_of_getElem? (i := 2) rfl))) hc9 hv9 hk9 ?_
      refine lv_astore (lv' := [(4, .ref q9), (0, .ref x), (1, .int (iI n)), (2, .int (iI n2)), (3, .ref oa)]) hx hb dL_exchange_13 hl (by decide) rfl (fun ls hl => ?_)
      refine j_iconst hx hb dL_exchange_15 ?_
      exact m_zret hx hb hr rfl hlocks hB (by decide) (by decide) dL_exchange_16 (Or.inr (Or.inl (⟨rfl, cx, hC, hFm⟩)))
    · refine vx_catch hown [⟨0, 10, 13, 24⟩] ⟨0, 10, 17, 15⟩ [] hT (fun z hz => by cases List.mem_singleton.mp hz; exact Or.inr ⟨by decide, nE3, hts _ (List.mem_of_getElem? (i := 1) rfl), hK.2.1.2.2.2.2.1 _ (List.mem_of_getElem? (i := 3) rfl)⟩) (by decide) (by decide) (hts _ (List.mem_of_getElem? (i := 2) rfl)) (va_Nw.use rfl (hK.2.1.2.2.1 _ (List.mem_of_getElem? (i := 1) rfl))) hc9 hv9 hk9 ?_
      refine lv_astore (lv' := [(4, .ref q9), (0, .ref x), (1, .int (iI n)), (2, .int (iI n2)), (3, .ref oa)]) hx hb dL_exchange_17 hl (by decide) rfl (fun ls hl => ?_)
      refine j_iconst hx hb dL_exchange_19 ?_
      exact m_zret hx hb hr rfl hlocks hB (by decide) (by decide) dL_exchange_20 (Or.inr (Or.inr (⟨rfl, cx, hC, hFm⟩)))
  · obtain ⟨cc0, rfl, hC, hFm⟩ := hp_1
    have ho2 := hFm.J ho
    show W _ _ _ _ _ _ _ _ _ _ _ _ _ _ _ (F0 m 8 ls [.int (iI (cnt (fun j => live (upS (swS σ n.toNat n2.toNat 200) 11 0 1) j ∧ pn (upS (swS σ n.toNat n2.toNat 200) 11 0 1) j = n.toNat) (nrN (upS (swS σ n.toNat n2.toNat 200) 11 0 1)))), .int (iI 0), .ref oa])
    refine lv_i2l hx hb dL_exchange_8 (rfl : _ = lI (cnt (fun j => live (upS (swS σ n.toNat n2.toNat 200) 11 0 1) j ∧ pn (upS (swS σ n.toNat n2.toNat 200) 11 0 1) j = n.toNat) (nrN (upS (swS σ n.toNat n2.toNat 200) 11 0 1)))) ?_
    refine m_last hx hb hK hB 3 ho2 rfl in01 dL_exchange_9 (fun H locs hB => ?_)
    refine lv_goto (tgt := 21) hx hb dL_exchange_10 (by decide) ?_
    refine j_iconst hx hb dL_exchange_21 ?_
    exact m_zret hx hb hr rfl hlocks hB (by decide) (by decide) dL_exchange_22 (Or.inl (⟨rfl, cc0, hC.outJ ho2, ⟨_, hup_s _ _ _, rfl⟩, hFm.L.outJ ho2⟩))

abbrev rmL_insert : Room := { frames := 8, cells := 5, slots := 28, locals := 134 }
set_option maxHeartbeats 4000000 in
set_option maxRecDepth 100000 in
theorem k_L_insert {l : Launch} {D : va_G} {z : Nat} {cI cP cR cJ : ClassId} {h0 : Hp} (hfl : l.stackTraces = false) {x xp xr : Nat} {pa ra : Nat → Nat} {σ : Sg} (hC : CR cP cR x xp xr pa ra σ h0) (hI : Ib σ) {oa : Nat} {fo : Nat → Int64} (ho : h0 oa = some (arJ cJ 1 fo)) {ky sr vl : Int} (rk : rg ky) (rs : rg sr) (rv : rg vl) : Ct l D z (tyL cI cP cR cJ) yL_insert wsL_insert rmL_insert [.ref x, .int (iI ky), .int (iI sr), .int (iI vl), .ref oa] h0 (fun v u => (v = some (.int (iI 0)) ∧ (((0 ≤ ky ∧ ky ≤ 999) ∧ (0 ≤ sr ∧ sr ≤ 9) ∧ (0 ≤ vl ∧ vl ≤ 99) ∧ σ 10 0 < 200)) ∧ ∃ ra2 : Nat → Nat, CR cP cR x xp xr pa ra2 (inS σ ((pw σ ky : Nat) : Int) ky sr vl) u ∧ (∃ f2 : Nat → Int64, u oa = some (arJ cJ 1 f2) ∧ f2 0 = lI (σ 10 0)) ∧ FrL h0 u) ∨ (v = some (.int (iI 1)) ∧ (¬ ((0 ≤ ky ∧ ky ≤ 999) ∧ (0 ≤ sr ∧ sr ≤ 9) ∧ (0 ≤ vl ∧ vl ≤ 99))) ∧ CR cP cR x xp xr pa ra σ u ∧ FrC h0 u) ∨ (v = some (.int (iI 2)) ∧ (((0 ≤ ky ∧ ky ≤ 999) ∧ (0 ≤ sr ∧ sr ≤ 9) ∧ (0 ≤ vl ∧ vl ≤ 99)) ∧ ¬ σ 10 0 < 200) ∧ CR cP cR x xp xr pa ra σ u ∧ FrC h0 u)) := by
  refine Ct.ofH (cc := cL_insert) (maxL := 6) (ret := (some .int)) (hh := [(0, 12, 15, 13), (0, 12, 19, 15)]) (by decide) rfl (Nat.le_of_ble_eq_true rfl) ?_
  intro p e s m args below meth c hx hb hr hts hown hlocks hml hnm hT hK hB ls hl
  have hl : lv_has ls 6 [(0, .ref x), (1, .int (iI ky)), (2, .int (iI sr)), (3, .int (iI vl)), (4, .ref oa)] := hl
  refine lv_aload hx hb dL_insert_0 (lv_at hl 4 rfl) ?_
  refine j_iconst hx hb dL_insert_2 ?_
  refine lv_aload_n hx hb dL_insert_3 rfl (lv_at hl 0 rfl) ?_
  refine lv_iload_n hx hb dL_insert_4 rfl (lv_at hl 1 rfl) ?_
  refine lv_iload_n hx hb dL_insert_5 rfl (lv_at hl 2 rfl) ?_
  refine lv_iload_n hx hb dL_insert_6 rfl (lv_at hl 3 rfl) ?_
  refine m_runX (vx_runV (As := [.int (iI ky), .int (iI sr), .int (iI vl)]) (rest := [.int (iI 0), .ref oa]) ⟨hx, hb, hml, hown, hts⟩ (k_X3_insert (l := l) hfl hC hI rk rs rv) (cwV 3 hts gL_insert_X3_insert rfl rfl rfl (by decide +kernel) ⟨by decide, by decide⟩) ⟨Kp.blind _ _ _ _ _, m_recv hK hB (ci := 3) rfl hC.tb, fun U hU hW => hK.pass hB U hU hW⟩ rfl rfl hl.1 rfl (lv_room (Nat.le_of_ble_eq_true rfl)) dL_insert_7 ⟨Nat.le_of_ble_eq_true rfl, Nat.le_of_ble_eq_true rfl⟩) hB (fun E u H locs q9 ce hp_1 hB hc9 hv9 hk9 => ?_) (fun v u H locs hp_1 hB => ?_)
  · rcases hp_1 with ⟨⟨rfl, cx⟩ | ⟨rfl, cx⟩, hC, hFm⟩
    · refine vx_catch hown [] ⟨0, 12, 15, 13⟩ [⟨0, 12, 19, 15⟩] hT (fun z hz => by cases hz) (by decide) (by decide) (hts _ (List.mem_of_getElem? (i := 1) rfl)) (va_Nw.use rfl (hK.2.1.2.2.1 _ (List.mem_of_getElem? (i := 0) rfl))) hc9 hv9 hk9 ?_
      refine lv_astore (lv' := [(5, .ref q9), (0, .ref x), (1, .int (iI ky)), (2, .int (iI sr)), (3, .int (iI vl)), (4, .ref oa)]) hx hb dL_insert_15 hl (by decide) rfl (fun ls hl => ?_)
      refine j_iconst hx hb dL_insert_17 ?_
      exact m_zret hx hb hr rfl hlocks hB (by decide) (by decide) dL_insert_18 (Or.inr (Or.inl (⟨rfl, cx, hC, hFm⟩)))
    · refine vx_catch hown [⟨0, 12, 15, 13⟩] ⟨0, 12, 19, 15⟩ [] hT (fun z hz => by cases List.mem_singleton.mp hz; exact Or.inr ⟨by decide, nE1, hts _ (List.mem_of_getElem? (i := 1) rfl), hK.2.1.2.2.2.2.1 _ (List.mem_of_getElem? (i := 2) rfl)⟩) (by decide) (by decide) (hts _ (List.mem_of_getElem? (i := 2) rfl)) (va_Nw.use rfl (hK.2.1.2.2.1 _ (List.mem_of_getElem? (i := 1) rfl))) hc9 hv9 hk9 ?_
      refine lv_astore (lv' := [(5, .ref q9), (0, .ref x), (1, .int (iI ky)), (2, .int (iI sr)), (3, .int (iI vl)), (4, .ref oa)]) hx hb dL_insert_19 hl (by decide) rfl (fun ls hl => ?_)
      refine j_iconst hx hb dL_insert_21 ?_
      exact m_zret hx hb hr rfl hlocks hB (by decide) (by decide) dL_insert_22 (Or.inr (Or.inr (⟨rfl, cx, hC, hFm⟩)))
  · obtain ⟨cc0, rfl, ra2, hC, hFm⟩ := hp_1
    have ho2 := hFm.J ho
    show W _ _ _ _ _ _ _ _ _ _ _ _ _ _ _ (F0 m 10 ls [.int (iI (σ 10 0)), .int (iI 0), .ref oa])
    refine lv_i2l hx hb dL_insert_10 (rfl : _ = lI (σ 10 0)) ?_
    refine m_last hx hb hK hB 3 ho2 rfl in01 dL_insert_11 (fun H locs hB => ?_)
    refine lv_goto (tgt := 23) hx hb dL_insert_12 (by decide) ?_
    refine j_iconst hx hb dL_insert_23 ?_
    exact m_zret hx hb hr rfl hlocks hB (by decide) (by decide) dL_insert_24 (Or.inl (⟨rfl, cc0, ra2, hC.outJ ho2, ⟨_, hup_s _ _ _, rfl⟩, hFm.L.outJ ho2⟩))

abbrev rmL_change : Room := { frames := 8, cells := 4, slots := 24, locals := 137 }
set_option maxHeartbeats 4000000 in
set_option maxRecDepth 100000 in
theorem k_L_change {l : Launch} {D : va_G} {z : Nat} {cI cP cR cJ : ClassId} {h0 : Hp} (hfl : l.stackTraces = false) {x xp xr : Nat} {pa ra : Nat → Nat} {σ : Sg} (hC : CR cP cR x xp xr pa ra σ h0) (hI : Ib σ) {oa : Nat} {fo : Nat → Int64} (ho : h0 oa = some (arJ cJ 1 fo)) {n ky sr : Int} (rn : rg n) (rk : rg ky) (rs : rg sr) : Ct l D z (tyL cI cP cR cJ) yL_change wsL_change rmL_change [.ref x, .int (iI n), .int (iI ky), .int (iI sr), .ref oa] h0 (fun v u => (v = some (.int (iI 0)) ∧ ((isR σ n ∧ ((0 ≤ ky ∧ ky ≤ 999) ∧ 0 ≤ sr ∧ sr ≤ 9) ∧ σ 4 (pn σ n.toNat) = 0)) ∧ CR cP cR x xp xr pa ra (upS (upS (upS σ 6 n.toNat ky) 7 n.toNat sr) 5 n.toNat ((pw (upS (upS σ 6 n.toNat ky) 7 n.toNat sr) ky : Nat) : Int)) u ∧ (∃ f2 : Nat → Int64, u oa = some (arJ cJ 1 f2) ∧ f2 0 = lI (b2 (10 * ((pn (upS (upS (upS σ 6 n.toNat ky) 7 n.toNat sr) 5 n.toNat ((pw (upS (upS σ 6 n.toNat ky) 7 n.toNat sr) ky : Nat) : Int)) n.toNat : Nat) : Int) + lfr (upS (upS (upS σ 6 n.toNat ky) 7 n.toNat sr) 5 n.toNat ((pw (upS (upS σ 6 n.toNat ky) 7 n.toNat sr) ky : Nat) : Int)) n.toNat ≠ 10 * ((pn σ n.toNat : Nat) : Int) + lfr σ n.toNat))) ∧ FrL h0 u) ∨ (v = some (.int (iI 1)) ∧ (¬ isR σ n) ∧ CR cP cR x xp xr pa ra σ u ∧ FrC h0 u) ∨ (v = some (.int (iI 2)) ∧ (isR σ n ∧ ¬ ((0 ≤ ky ∧ ky ≤ 999) ∧ 0 ≤ sr ∧ sr ≤ 9)) ∧ CR cP cR x xp xr pa ra σ u ∧ FrC h0 u) ∨ (v = some (.int (iI 3)) ∧ (isR σ n ∧ ((0 ≤ ky ∧ ky ≤ 999) ∧ 0 ≤ sr ∧ sr ≤ 9) ∧ σ 4 (pn σ n.toNat) ≠ 0) ∧ CR cP cR x xp xr pa ra σ u ∧ FrC h0 u)) := by
  refine Ct.ofH (cc := cL_change) (maxL := 6) (ret := (some .int)) (hh := [(0, 19, 22, 24), (0, 19, 26, 13), (0, 19, 30, 15)]) (by decide) rfl (Nat.le_of_ble_eq_true rfl) ?_
  intro p e s m args below meth c hx hb hr hts hown hlocks hml hnm hT hK hB ls hl
  have hl : lv_has ls 6 [(0, .ref x), (1, .int (iI n)), (2, .int (iI ky)), (3, .int (iI sr)), (4, .ref oa)] := hl
  refine lv_aload hx hb dL_change_0 (lv_at hl 4 rfl) ?_
  refine j_iconst hx hb dL_change_2 ?_
  refine lv_aload_n hx hb dL_change_3 rfl (lv_at hl 0 rfl) ?_
  refine lv_iload_n hx hb dL_change_4 rfl (lv_at hl 1 rfl) ?_
  refine lv_iload_n hx hb dL_change_5 rfl (lv_at hl 2 rfl) ?_
  refine lv_iload_n hx hb dL_change_6 rfl (lv_at hl 3 rfl) ?_
  refine m_runX (vx_runV (As := [.int (iI n), .int (iI ky), .int (iI sr)]) (rest := [.int (iI 0), .ref oa]) ⟨hx, hb, hml, hown, hts⟩ (k_X3_change (l := l) hfl hC hI rn rk rs) (cwV 3 hts gL_change_X3_change rfl rfl rfl (by decide +kernel) ⟨by decide, by decide⟩) ⟨Kp.blind _ _ _ _ _, m_recv hK hB (ci := 3) rfl hC.tb, fun U hU hW => hK.pass hB U hU hW⟩ rfl rfl hl.1 rfl (lv_room (Nat.le_of_ble_eq_true rfl)) dL_change_7 ⟨Nat.le_of_ble_eq_true rfl, Nat.le_of_ble_eq_true rfl⟩) hB (fun E u H locs q9 ce hp_1 hB hc9 hv9 hk9 => ?_) (fun v u H locs hp_1 hB => ?_)
  · rcases hp_1 with ⟨⟨rfl, cx⟩ | ⟨rfl, cx⟩ | ⟨rfl, cx⟩, hC, hFm⟩
    · refine vx_catch hown [] ⟨0, 19, 22, 24⟩ [⟨0, 19, 26, 13⟩, ⟨0, 19, 30, 15⟩] hT (fun z hz => by cases hz) (by decide) (by decide) (hts _ (List.mem_of_getElem? (i := 1) rfl)) (va_Nw.use rfl (hK.2.1.2.2.1 _ (List.mem_of_getElem? (i := 2) rfl))) hc9 hv9 hk9 ?_
      refine lv_astore (lv' := [(5, .ref q9), (0, .ref x), (1, .int (iI n)), (2, .int (iI ky)), (3, .int (iI sr)), (4, .ref oa)]) hx hb dL_change_22 hl (by decide) rfl (fun ls hl => ?_)
      refine j_iconst hx hb dL_change_24 ?_
      exact m_zret hx hb hr rfl hlocks hB (by decide) (by decide) dL_change_25 (Or.inr (Or.inl (⟨rfl, cx, hC, hFm⟩)))
    · refine vx_catch hown [⟨0, 19, 22, 24⟩] ⟨0, 19, 26, 13⟩ [⟨0, 19, 30, 15⟩] hT (fun z hz => by cases List.mem_singleton.mp hz; exact Or.inr ⟨by decide, nE3, hts _ (List.mem_of_getElem? (i := 1) rfl), hK.2.1.2.2.2.2.1 _ (List.mem_of_getElem? (i := 1) rfl)⟩) (by decide) (by decide) (hts _ (List.mem_of_getElem? (i := 2) rfl)) (va_Nw.use rfl (hK.2.1.2.2.1 _ (List.mem_of_getElem? (i := 0) rfl))) hc9 hv9 hk9 ?_
      refine lv_astore (lv' := [(5, .ref q9), (0, .ref x), (1, .int (iI n)), (2, .int (iI ky)), (3, .int (iI sr)), (4, .ref oa)]) hx hb dL_change_26 hl (by decide) rfl (fun ls hl => ?_)
      refine j_iconst hx hb dL_change_28 ?_
      exact m_zret hx hb hr rfl hlocks hB (by decide) (by decide) dL_change_29 (Or.inr (Or.inr (Or.inl (⟨rfl, cx, hC, hFm⟩))))
    · refine vx_catch hown [⟨0, 19, 22, 24⟩, ⟨0, 19, 26, 13⟩] ⟨0, 19, 30, 15⟩ [] hT (fun z hz => by rcases List.mem_cons.mp hz with rfl | hz; exact Or.inr ⟨by decide, nE3, hts _ (List.mem_of_getElem? (i := 1) rfl), hK.2.1.2.2.2.2.1 _ (List.mem_of_getElem? (i := 3) rfl)⟩; cases List.mem_singleton.mp hz; exact Or.inr ⟨by decide, nE1, hts _ (List.mem_of_getElem? (i := 2) rfl), hK.2.1.2.2.2.2.1 _ (List.mem_of_getElem? (i := 2) rfl)⟩) (by decide) (by decide) (hts _ (List.mem_of_getElem? (i := 3) rfl)) (va_Nw.use rfl (hK.2.1.2.2.1 _ (List.mem_of_getElem? (i := 1) rfl))) hc9 hv9 hk9 ?_
      refine lv_astore (lv' := [(5, .ref q9), (0, .ref x), (1, .int (iI n)), (2, .int (iI ky)), (3, .int (iI sr)), (4, .ref oa)]) hx hb dL_change_30 hl (by decide) rfl (fun ls hl => ?_)
      refine j_iconst hx hb dL_change_32 ?_
      exact m_zret hx hb hr rfl hlocks hB (by decide) (by decide) dL_change_33 (Or.inr (Or.inr (Or.inr (⟨rfl, cx, hC, hFm⟩))))
  · obtain ⟨cc0, rfl, hC, hFm⟩ := hp_1
    have ho2 := hFm.J ho
    show W _ _ _ _ _ _ _ _ _ _ _ _ _ _ _ (F0 m 10 ls [.int (iI (b2 (10 * ((pn (upS (upS (upS σ 6 n.toNat ky) 7 n.toNat sr) 5 n.toNat ((pw (upS (upS σ 6 n.toNat ky) 7 n.toNat sr) ky : Nat) : Int)) n.toNat : Nat) : Int) + lfr (upS (upS (upS σ 6 n.toNat ky) 7 n.toNat sr) 5 n.toNat ((pw (upS (upS σ 6 n.toNat ky) 7 n.toNat sr) ky : Nat) : Int)) n.toNat ≠ 10 * ((pn σ n.toNat : Nat) : Int) + lfr σ n.toNat))), .int (iI 0), .ref oa])
    refine j_ifeqP (tgt := 17) hx hb dL_change_10 (by decide) (fun c_2 => ?_) (fun c_2 => ?_)
    · refine lv_lconst hx hb dL_change_17 lI_0 ?_
      refine m_last hx hb hK hB 3 ho2 rfl in01 dL_change_18 (fun H locs hB => ?_)
      refine lv_goto (tgt := 34) hx hb dL_change_19 (by decide) ?_
      refine j_iconst hx hb dL_change_34 ?_
      exact m_zret hx hb hr rfl hlocks hB (by decide) (by decide) dL_change_35 (Or.inl (⟨rfl, cc0, hC.outJ ho2, ⟨_, hup_s _ _ _, (congrArg lI (b2_f c_2)).symm⟩, hFm.L.outJ ho2⟩))
    · refine lv_lconst hx hb dL_change_13 lI_1 ?_
      refine lv_goto (tgt := 18) hx hb dL_change_14 (by decide) ?_
      refine m_last hx hb hK hB 3 ho2 rfl in01 dL_change_18 (fun H locs hB => ?_)
      refine lv_goto (tgt := 34) hx hb dL_change_19 (by decide) ?_
      refine j_iconst hx hb dL_change_34 ?_
      exact m_zret hx hb hr rfl hlocks hB (by decide) (by decide) dL_change_35 (Or.inl (⟨rfl, cc0, hC.outJ ho2, ⟨_, hup_s _ _ _, (congrArg lI (b2_t c_2)).symm⟩, hFm.L.outJ ho2⟩))

abbrev rmL_remove : Room := { frames := 8, cells := 1, slots := 6, locals := 134 }
set_option maxHeartbeats 4000000 in
set_option maxRecDepth 100000 in
theorem k_L_remove {l : Launch} {D : va_G} {z : Nat} {cI cP cR cJ : ClassId} {h0 : Hp} (hfl : l.stackTraces = false) {x xp xr : Nat} {pa ra : Nat → Nat} {σ : Sg} (hC : CR cP cR x xp xr pa ra σ h0) (hI : Ib σ) {oa : Nat} {fo : Nat → Int64} (ho : h0 oa = some (arJ cJ 1 fo)) {n : Int} (rn : rg n) : Ct l D z (tyL cI cP cR cJ) yL_remove wsL_remove rmL_remove [.ref x, .int (iI n), .ref oa] h0 (fun v u => (v = some (.int (iI 0)) ∧ (isR σ n) ∧ CR cP cR x xp xr pa ra (upS σ 5 n.toNat (-1)) u ∧ (∃ f2 : Nat → Int64, u oa = some (arJ cJ 1 f2) ∧ f2 0 = lI (σ 8 n.toNat)) ∧ FrL h0 u) ∨ (v = some (.int (iI 1)) ∧ (¬ isR σ n) ∧ CR cP cR x xp xr pa ra σ u ∧ FrC h0 u)) := by
  refine Ct.ofH (cc := cL_remove) (maxL := 4) (ret := (some .int)) (hh := [(0, 9, 12, 24)]) (by decide) rfl (Nat.le_of_ble_eq_true rfl) ?_
  intro p e s m args below meth c hx hb hr hts hown hlocks hml hnm hT hK hB ls hl
  have hl : lv_has ls 4 [(0, .ref x), (1, .int (iI n)), (2, .ref oa)] := hl
  refine lv_aload_n hx hb dL_remove_0 rfl (lv_at hl 2 rfl) ?_
  refine j_iconst hx hb dL_remove_1 ?_
  refine lv_aload_n hx hb dL_remove_2 rfl (lv_at hl 0 rfl) ?_
  refine lv_iload_n hx hb dL_remove_3 rfl (lv_at hl 1 rfl) ?_
  refine m_runX (vx_runV (As := [.int (iI n)]) (rest := [.int (iI 0), .ref oa]) ⟨hx, hb, hml, hown, hts⟩ (k_X3_remove (l := l) hfl hC hI rn) (cwV 1 hts gL_remove_X3_remove rfl rfl rfl (by decide +kernel) ⟨by decide, by decide⟩) ⟨Kp.blind _ _ _ _ _, m_recv hK hB (ci := 3) rfl hC.tb, fun U hU hW => hK.pass hB U hU hW⟩ rfl rfl hl.1 rfl (lv_room (Nat.le_of_ble_eq_true rfl)) dL_remove_4 ⟨Nat.le_of_ble_eq_true rfl, Nat.le_of_ble_eq_true rfl⟩) hB (fun E u H locs q9 ce hp_1 hB hc9 hv9 hk9 => ?_) (fun v u H locs hp_1 hB => ?_)
  · obtain ⟨⟨rfl, cx⟩, hC, hFm⟩ := hp_1
    refine vx_catch hown [] ⟨0, 9, 12, 24⟩ [] hT (fun z hz => by cases hz) (by decide) (by decide) (hts _ (List.mem_of_getElem? (i := 1) rfl)) (va_Nw.use rfl (hK.2.1.2.2.1 _ (List.mem_of_getElem? (i := 2) rfl))) hc9 hv9 hk9 ?_
    refine lv_astore_n (lv' := [(3, .ref q9), (0, .ref x), (1, .int (iI n)), (2, .ref oa)]) hx hb dL_remove_12 rfl hl (by decide) rfl (fun ls hl => ?_)
    refine j_iconst hx hb dL_remove_13 ?_
    exact m_zret hx hb hr rfl hlocks hB (by decide) (by decide) dL_remove_14 (Or.inr (⟨rfl, cx, hC, hFm⟩))
  · obtain ⟨cc0, rfl, hC, hFm⟩ := hp_1
    have ho2 := hFm.J ho
    show W _ _ _ _ _ _ _ _ _ _ _ _ _ _ _ (F0 m 7 ls [.int (iI (σ 8 n.toNat)), .int (iI 0), .ref oa])
    refine lv_i2l hx hb dL_remove_7 (rfl : _ = lI (σ 8 n.toNat)) ?_
    refine m_last hx hb hK hB 3 ho2 rfl in01 dL_remove_8 (fun H locs hB => ?_)
    refine lv_goto (tgt := 15) hx hb dL_remove_9 (by decide) ?_
    refine j_iconst hx hb dL_remove_15 ?_
    exact m_zret hx hb hr rfl hlocks hB (by decide) (by decide) dL_remove_16 (Or.inl (⟨rfl, cc0, hC.outJ ho2, ⟨_, hup_s _ _ _, rfl⟩, hFm.L.outJ ho2⟩))

abbrev rmL_stateOf : Room := { frames := 8, cells := 1, slots := 6, locals := 133 }
set_option maxHeartbeats 4000000 in
set_option maxRecDepth 100000 in
theorem k_L_stateOf {l : Launch} {D : va_G} {z : Nat} {cI cP cR cJ : ClassId} {h0 : Hp} (hfl : l.stackTraces = false) {x xp xr : Nat} {pa ra : Nat → Nat} {σ : Sg} (hC : CR cP cR x xp xr pa ra σ h0) (hI : Ib σ) {oa : Nat} {fo : Nat → Int64} (ho : h0 oa = some (arJ cJ 1 fo)) {n : Int} (rn : rg n) : Ct l D z (tyL cI cP cR cJ) yL_stateOf wsL_stateOf rmL_stateOf [.ref x, .int (iI n), .ref oa] h0 (fun v u => (v = some (.int (iI 0)) ∧ ((0 ≤ n ∧ n ≤ σ 9 0)) ∧ CR cP cR x xp xr pa ra σ u ∧ (∃ f2 : Nat → Int64, u oa = some (arJ cJ 1 f2) ∧ f2 0 = lI (σ 4 n.toNat)) ∧ FrL h0 u) ∨ (v = some (.int (iI 1)) ∧ (¬ (0 ≤ n ∧ n ≤ σ 9 0)) ∧ CR cP cR x xp xr pa ra σ u ∧ FrC h0 u)) := by
  refine Ct.ofH (cc := cL_stateOf) (maxL := 4) (ret := (some .int)) (hh := [(0, 9, 12, 24)]) (by decide) rfl (Nat.le_of_ble_eq_true rfl) ?_
  intro p e s m args below meth c hx hb hr hts hown hlocks hml hnm hT hK hB ls hl
  have hl : lv_has ls 4 [(0, .ref x), (1, .int (iI n)), (2, .ref oa)] := hl
  refine lv_aload_n hx hb dL_stateOf_0 rfl (lv_at hl 2 rfl) ?_
  refine j_iconst hx hb dL_stateOf_1 ?_
  refine lv_aload_n hx hb dL_stateOf_2 rfl (lv_at hl 0 rfl) ?_
  refine lv_iload_n hx hb dL_stateOf_3 rfl (lv_at hl 1 rfl) ?_
  refine m_runX (vx_runV (As := [.int (iI n)]) (rest := [.int (iI 0), .ref oa]) ⟨hx, hb, hml, hown, hts⟩ (k_X3_stateOf (l := l) hfl hC hI rn) (cwV 1 hts gL_stateOf_X3_stateOf rfl rfl rfl (by decide +kernel) ⟨by decide, by decide⟩) ⟨Kp.blind _ _ _ _ _, m_recv hK hB (ci := 3) rfl hC.tb, fun U hU hW => hK.pass hB U hU hW⟩ rfl rfl hl.1 rfl (lv_room (Nat.le_of_ble_eq_true rfl)) dL_stateOf_4 ⟨Nat.le_of_ble_eq_true rfl, Nat.le_of_ble_eq_true rfl⟩) hB (fun E u H locs q9 ce hp_1 hB hc9 hv9 hk9 => ?_) (fun v u H locs hp_1 hB => ?_)
  · obtain ⟨⟨rfl, cx⟩, hC, hFm⟩ := hp_1
    refine vx_catch hown [] ⟨0, 9, 12, 24⟩ [] hT (fun z hz => by cases hz) (by decide) (by decide) (hts _ (List.mem_of_getElem? (i := 1) rfl)) (va_Nw.use rfl (hK.2.1.2.2.1 _ (List.mem_of_getElem? (i := 2) rfl))) hc9 hv9 hk9 ?_
    refine lv_astore_n (lv' := [(3, .ref q9), (0, .ref x), (1, .int (iI n)), (2, .ref oa)]) hx hb dL_stateOf_12 rfl hl (by decide) rfl (fun ls hl => ?_)
    refine j_iconst hx hb dL_stateOf_13 ?_
    exact m_zret hx hb hr rfl hlocks hB (by decide) (by decide) dL_stateOf_14 (Or.inr (⟨rfl, cx, hC, hFm⟩))
  · obtain ⟨⟨cc0, rfl⟩, hC, hFm⟩ := hp_1
    have ho2 := hFm.J ho
    show W _ _ _ _ _ _ _ _ _ _ _ _ _ _ _ (F0 m 7 ls [.int (iI (σ 4 n.toNat)), .int (iI 0), .ref oa])
    refine lv_i2l hx hb dL_stateOf_7 (rfl : _ = lI (σ 4 n.toNat)) ?_
    refine m_last hx hb hK hB 3 ho2 rfl in01 dL_stateOf_8 (fun H locs hB => ?_)
    refine lv_goto (tgt := 15) hx hb dL_stateOf_9 (by decide) ?_
    refine j_iconst hx hb dL_stateOf_15 ?_
    exact m_zret hx hb hr rfl hlocks hB (by decide) (by decide) dL_stateOf_16 (Or.inl (⟨rfl, cc0, hC.outJ ho2, ⟨_, hup_s _ _ _, rfl⟩, hFm.L.outJ ho2⟩))

abbrev rmL_partOf : Room := { frames := 8, cells := 1, slots := 6, locals := 131 }
set_option maxHeartbeats 4000000 in
set_option maxRecDepth 100000 in
theorem k_L_partOf {l : Launch} {D : va_G} {z : Nat} {cI cP cR cJ : ClassId} {h0 : Hp} (hfl : l.stackTraces = false) {x xp xr : Nat} {pa ra : Nat → Nat} {σ : Sg} (hC : CR cP cR x xp xr pa ra σ h0) (hI : Ib σ) {oa : Nat} {fo : Nat → Int64} (ho : h0 oa = some (arJ cJ 1 fo)) {ky : Int} (rk : rg ky) : Ct l D z (tyL cI cP cR cJ) yL_partOf wsL_partOf rmL_partOf [.ref x, .int (iI ky), .ref oa] h0 (fun v u => (v = some (.int (iI 0)) ∧ ((0 ≤ ky ∧ ky ≤ 999)) ∧ CR cP cR x xp xr pa ra σ u ∧ (∃ f2 : Nat → Int64, u oa = some (arJ cJ 1 f2) ∧ f2 0 = lI ((pw σ ky : Nat) : Int)) ∧ FrL h0 u) ∨ (v = some (.int (iI 1)) ∧ (¬ (0 ≤ ky ∧ ky ≤ 999)) ∧ CR cP cR x xp xr pa ra σ u ∧ FrC h0 u)) := by
  refine Ct.ofH (cc := cL_partOf) (maxL := 4) (ret := (some .int)) (hh := [(0, 9, 12, 13)]) (by decide) rfl (Nat.le_of_ble_eq_true rfl) ?_
  intro p e s m args below meth c hx hb hr hts hown hlocks hml hnm hT hK hB ls hl
  have hl : lv_has ls 4 [(0, .ref x), (1, .int (iI ky)), (2, .ref oa)] := hl
  refine lv_aload_n hx hb dL_partOf_0 rfl (lv_at hl 2 rfl) ?_
  refine j_iconst hx hb dL_partOf_1 ?_
  refine lv_aload_n hx hb dL_partOf_2 rfl (lv_at hl 0 rfl) ?_
  refine lv_iload_n hx hb dL_partOf_3 rfl (lv_at hl 1 rfl) ?_
  refine m_runX (vx_runV (As := [.int (iI ky)]) (rest := [.int (iI 0), .ref oa]) ⟨hx, hb, hml, hown, hts⟩ (k_X3_partOf (l := l) hfl hC hI rk) (cwV 1 hts gL_partOf_X3_partOf rfl rfl rfl (by decide +kernel) ⟨by decide, by decide⟩) ⟨Kp.blind _ _ _ _ _, m_recv hK hB (ci := 3) rfl hC.tb, fun U hU hW => hK.pass hB U hU hW⟩ rfl rfl hl.1 rfl (lv_room (Nat.le_of_ble_eq_true rfl)) dL_partOf_4 ⟨Nat.le_of_ble_eq_true rfl, Nat.le_of_ble_eq_true rfl⟩) hB (fun E u H locs q9 ce hp_1 hB hc9 hv9 hk9 => ?_) (fun v u H locs hp_1 hB => ?_)
  · obtain ⟨⟨rfl, cx⟩, hC, hFm⟩ := hp_1
    refine vx_catch hown [] ⟨0, 9, 12, 13⟩ [] hT (fun z hz => by cases hz) (by decide) (by decide) (hts _ (List.mem_of_getElem? (i := 1) rfl)) (va_Nw.use rfl (hK.2.1.2.2.1 _ (List.mem_of_getElem? (i := 0) rfl))) hc9 hv9 hk9 ?_
    refine lv_astore_n (lv' := [(3, .ref q9), (0, .ref x), (1, .int (iI ky)), (2, .ref oa)]) hx hb dL_partOf_12 rfl hl (by decide) rfl (fun ls hl => ?_)
    refine j_iconst hx hb dL_partOf_13 ?_
    exact m_zret hx hb hr rfl hlocks hB (by decide) (by decide) dL_partOf_14 (Or.inr (⟨rfl, cx, hC, hFm⟩))
  · obtain ⟨⟨cc0, rfl⟩, hC, hFm⟩ := hp_1
    have ho2 := hFm.J ho
    show W _ _ _ _ _ _ _ _ _ _ _ _ _ _ _ (F0 m 7 ls [.int (iI ((pw σ ky : Nat) : Int)), .int (iI 0), .ref oa])
    refine lv_i2l hx hb dL_partOf_7 (rfl : _ = lI ((pw σ ky : Nat) : Int)) ?_
    refine m_last hx hb hK hB 3 ho2 rfl in01 dL_partOf_8 (fun H locs hB => ?_)
    refine lv_goto (tgt := 15) hx hb dL_partOf_9 (by decide) ?_
    refine j_iconst hx hb dL_partOf_15 ?_
    exact m_zret hx hb hr rfl hlocks hB (by decide) (by decide) dL_partOf_16 (Or.inl (⟨rfl, cc0, hC.outJ ho2, ⟨_, hup_s _ _ _, rfl⟩, hFm.L.outJ ho2⟩))

abbrev rmL_leafOf : Room := { frames := 8, cells := 1, slots := 6, locals := 133 }
set_option maxHeartbeats 4000000 in
set_option maxRecDepth 100000 in
theorem k_L_leafOf {l : Launch} {D : va_G} {z : Nat} {cI cP cR cJ : ClassId} {h0 : Hp} (hfl : l.stackTraces = false) {x xp xr : Nat} {pa ra : Nat → Nat} {σ : Sg} (hC : CR cP cR x xp xr pa ra σ h0) (hI : Ib σ) {oa : Nat} {fo : Nat → Int64} (ho : h0 oa = some (arJ cJ 1 fo)) {n : Int} (rn : rg n) : Ct l D z (tyL cI cP cR cJ) yL_leafOf wsL_leafOf rmL_leafOf [.ref x, .int (iI n), .ref oa] h0 (fun v u => (v = some (.int (iI 0)) ∧ (isR σ n) ∧ CR cP cR x xp xr pa ra σ u ∧ (∃ f2 : Nat → Int64, u oa = some (arJ cJ 1 f2) ∧ f2 0 = lI (10 * ((pn σ n.toNat : Nat) : Int) + lfr σ n.toNat)) ∧ FrL h0 u) ∨ (v = some (.int (iI 1)) ∧ (¬ isR σ n) ∧ CR cP cR x xp xr pa ra σ u ∧ FrC h0 u)) := by
  refine Ct.ofH (cc := cL_leafOf) (maxL := 4) (ret := (some .int)) (hh := [(0, 9, 12, 24)]) (by decide) rfl (Nat.le_of_ble_eq_true rfl) ?_
  intro p e s m args below meth c hx hb hr hts hown hlocks hml hnm hT hK hB ls hl
  have hl : lv_has ls 4 [(0, .ref x), (1, .int (iI n)), (2, .ref oa)] := hl
  refine lv_aload_n hx hb dL_leafOf_0 rfl (lv_at hl 2 rfl) ?_
  refine j_iconst hx hb dL_leafOf_1 ?_
  refine lv_aload_n hx hb dL_leafOf_2 rfl (lv_at hl 0 rfl) ?_
  refine lv_iload_n hx hb dL_leafOf_3 rfl (lv_at hl 1 rfl) ?_
  refine m_runX (vx_runV (As := [.int (iI n)]) (rest := [.int (iI 0), .ref oa]) ⟨hx, hb, hml, hown, hts⟩ (k_X3_leafOf (l := l) hfl hC hI rn) (cwV 1 hts gL_leafOf_X3_leafOf rfl rfl rfl (by decide +kernel) ⟨by decide, by decide⟩) ⟨Kp.blind _ _ _ _ _, m_recv hK hB (ci := 3) rfl hC.tb, fun U hU hW => hK.pass hB U hU hW⟩ rfl rfl hl.1 rfl (lv_room (Nat.le_of_ble_eq_true rfl)) dL_leafOf_4 ⟨Nat.le_of_ble_eq_true rfl, Nat.le_of_ble_eq_true rfl⟩) hB (fun E u H locs q9 ce hp_1 hB hc9 hv9 hk9 => ?_) (fun v u H locs hp_1 hB => ?_)
  · obtain ⟨⟨rfl, cx⟩, hC, hFm⟩ := hp_1
    refine vx_catch hown [] ⟨0, 9, 12, 24⟩ [] hT (fun z hz => by cases hz) (by decide) (by decide) (hts _ (List.mem_of_getElem? (i := 1) rfl)) (va_Nw.use rfl (hK.2.1.2.2.1 _ (List.mem_of_getElem? (i := 2) rfl))) hc9 hv9 hk9 ?_
    refine lv_astore_n (lv' := [(3, .ref q9), (0, .ref x), (1, .int (iI n)), (2, .ref oa)]) hx hb dL_leafOf_12 rfl hl (by decide) rfl (fun ls hl => ?_)
    refine j_iconst hx hb dL_leafOf_13 ?_
    exact m_zret hx hb hr rfl hlocks hB (by decide) (by decide) dL_leafOf_14 (Or.inr (⟨rfl, cx, hC, hFm⟩))
  · obtain ⟨⟨cc0, rfl⟩, hC, hFm⟩ := hp_1
    have ho2 := hFm.J ho
    show W _ _ _ _ _ _ _ _ _ _ _ _ _ _ _ (F0 m 7 ls [.int (iI (10 * ((pn σ n.toNat : Nat) : Int) + lfr σ n.toNat)), .int (iI 0), .ref oa])
    refine lv_i2l hx hb dL_leafOf_7 (rfl : _ = lI (10 * ((pn σ n.toNat : Nat) : Int) + lfr σ n.toNat)) ?_
    refine m_last hx hb hK hB 3 ho2 rfl in01 dL_leafOf_8 (fun H locs hB => ?_)
    refine lv_goto (tgt := 15) hx hb dL_leafOf_9 (by decide) ?_
    refine j_iconst hx hb dL_leafOf_15 ?_
    exact m_zret hx hb hr rfl hlocks hB (by decide) (by decide) dL_leafOf_16 (Or.inl (⟨rfl, cc0, hC.outJ ho2, ⟨_, hup_s _ _ _, rfl⟩, hFm.L.outJ ho2⟩))

abbrev rmL_rowsIn : Room := { frames := 10, cells := 3, slots := 18, locals := 185 }
set_option maxHeartbeats 4000000 in
set_option maxRecDepth 100000 in
theorem k_L_rowsIn {l : Launch} {D : va_G} {z : Nat} {cI cP cR cJ : ClassId} {h0 : Hp} (hfl : l.stackTraces = false) {x xp xr : Nat} {pa ra : Nat → Nat} {σ : Sg} (hC : CR cP cR x xp xr pa ra σ h0) (hI : Ib σ) {oa : Nat} {fo : Nat → Int64} (ho : h0 oa = some (arJ cJ 1 fo)) {nn le : Int} (rn : rg nn) (rl : rg le) : Ct l D z (tyL cI cP cR cJ) yL_rowsIn wsL_rowsIn rmL_rowsIn [.ref x, .int (iI nn), .int (iI le), .ref oa] h0 (fun v u => (v = some (.int (iI 0)) ∧ (isL σ nn le) ∧ CR cP cR x xp xr pa ra σ u ∧ (∃ f2 : Nat → Int64, u oa = some (arJ cJ 1 f2) ∧ f2 0 = lI (cnt (fun j => live σ j ∧ (pn σ j = nn.toNat ∧ lfr σ j = le)) (nrN σ))) ∧ FrL h0 u) ∨ (v = some (.int (iI 1)) ∧ (¬ isL σ nn le) ∧ CR cP cR x xp xr pa ra σ u ∧ FrC h0 u)) := by
  refine Ct.ofH (cc := cL_rowsIn) (maxL := 5) (ret := (some .int)) (hh := [(0, 10, 13, 24)]) (by decide) rfl (Nat.le_of_ble_eq_true rfl) ?_
  intro p e s m args below meth c hx hb hr hts hown hlocks hml hnm hT hK hB ls hl
  have hl : lv_has ls 5 [(0, .ref x), (1, .int (iI nn)), (2, .int (iI le)), (3, .ref oa)] := hl
  refine lv_aload_n hx hb dL_rowsIn_0 rfl (lv_at hl 3 rfl) ?_
  refine j_iconst hx hb dL_rowsIn_1 ?_
  refine lv_aload_n hx hb dL_rowsIn_2 rfl (lv_at hl 0 rfl) ?_
  refine lv_iload_n hx hb dL_rowsIn_3 rfl (lv_at hl 1 rfl) ?_
  refine lv_iload_n hx hb dL_rowsIn_4 rfl (lv_at hl 2 rfl) ?_
  refine m_runX (vx_runV (As := [.int (iI nn), .int (iI le)]) (rest := [.int (iI 0), .ref oa]) ⟨hx, hb, hml, hown, hts⟩ (k_X3_rowsIn (l := l) hfl hC hI rn rl) (cwV 2 hts gL_rowsIn_X3_rowsIn rfl rfl rfl (by decide +kernel) ⟨by decide, by decide⟩) ⟨Kp.blind _ _ _ _ _, m_recv hK hB (ci := 3) rfl hC.tb, fun U hU hW => hK.pass hB U hU hW⟩ rfl rfl hl.1 rfl (lv_room (Nat.le_of_ble_eq_true rfl)) dL_rowsIn_5 ⟨Nat.le_of_ble_eq_true rfl, Nat.le_of_ble_eq_true rfl⟩) hB (fun E u H locs q9 ce hp_1 hB hc9 hv9 hk9 => ?_) (fun v u H locs hp_1 hB => ?_)
  · obtain ⟨⟨rfl, cx⟩, hC, hFm⟩ := hp_1
    refine vx_catch hown [] ⟨0, 10, 13, 24⟩ [] hT (fun z hz => by cases hz) (by decide) (by decide) (hts _ (List.mem_of_getElem? (i := 1) rfl)) (va_Nw.use rfl (hK.2.1.2.2.1 _ (List.mem_of_getElem? (i := 2) rfl))) hc9 hv9 hk9 ?_
    refine lv_astore (lv' := [(4, .ref q9), (0, .ref x), (1, .int (iI nn)), (2, .int (iI le)), (3, .ref oa)]) hx hb dL_rowsIn_13 hl (by decide) rfl (fun ls hl => ?_)
    refine j_iconst hx hb dL_rowsIn_15 ?_
    exact m_zret hx hb hr rfl hlocks hB (by decide) (by decide) dL_rowsIn_16 (Or.inr (⟨rfl, cx, hC, hFm⟩))
  · obtain ⟨⟨cc0, rfl⟩, hC, hFm⟩ := hp_1
    have ho2 := hFm.J ho
    show W _ _ _ _ _ _ _ _ _ _ _ _ _ _ _ (F0 m 8 ls [.int (iI (cnt (fun j => live σ j ∧ (pn σ j = nn.toNat ∧ lfr σ j = le)) (nrN σ))), .int (iI 0), .ref oa])
    refine lv_i2l hx hb dL_rowsIn_8 (rfl : _ = lI (cnt (fun j => live σ j ∧ (pn σ j = nn.toNat ∧ lfr σ j = le)) (nrN σ))) ?_
    refine m_last hx hb hK hB 3 ho2 rfl in01 dL_rowsIn_9 (fun H locs hB => ?_)
    refine lv_goto (tgt := 17) hx hb dL_rowsIn_10 (by decide) ?_
    refine j_iconst hx hb dL_rowsIn_17 ?_
    exact m_zret hx hb hr rfl hlocks hB (by decide) (by decide) dL_rowsIn_18 (Or.inl (⟨rfl, cc0, hC.outJ ho2, ⟨_, hup_s _ _ _, rfl⟩, hFm.L.outJ ho2⟩))

abbrev rmL_count : Room := { frames := 9, cells := 3, slots := 15, locals := 161 }
set_option maxHeartbeats 4000000 in
set_option maxRecDepth 100000 in
theorem k_L_count {l : Launch} {D : va_G} {z : Nat} {cI cP cR cJ : ClassId} {h0 : Hp} (hfl : l.stackTraces = false) {x xp xr : Nat} {pa ra : Nat → Nat} {σ : Sg} (hC : CR cP cR x xp xr pa ra σ h0) (hI : Ib σ) {oa : Nat} {fo : Nat → Int64} (ho : h0 oa = some (arJ cJ 1 fo)) {lo hi so : Int} (rl : rg lo) (rh : rg hi) (ro : rg so) : Ct l D z (tyL cI cP cR cJ) yL_count wsL_count rmL_count [.ref x, .int (iI lo), .int (iI hi), .int (iI so), .ref oa] h0 (fun v u => (v = some (.int (iI 0)) ∧ (okQ lo hi so) ∧ CR cP cR x xp xr pa ra σ u ∧ (∃ f2 : Nat → Int64, u oa = some (arJ cJ 1 f2) ∧ f2 0 = lI (cntA σ lo hi so)) ∧ FrL h0 u) ∨ (v = some (.int (iI 1)) ∧ (¬ okQ lo hi so) ∧ CR cP cR x xp xr pa ra σ u ∧ FrC h0 u)) := by
  refine Ct.ofH (cc := cL_count) (maxL := 6) (ret := (some .int)) (hh := [(0, 12, 15, 13)]) (by decide) rfl (Nat.le_of_ble_eq_true rfl) ?_
  intro p e s m args below meth c hx hb hr hts hown hlocks hml hnm hT hK hB ls hl
  have hl : lv_has ls 6 [(0, .ref x), (1, .int (iI lo)), (2, .int (iI hi)), (3, .int (iI so)), (4, .ref oa)] := hl
  refine lv_aload hx hb dL_count_0 (lv_at hl 4 rfl) ?_
  refine j_iconst hx hb dL_count_2 ?_
  refine lv_aload_n hx hb dL_count_3 rfl (lv_at hl 0 rfl) ?_
  refine lv_iload_n hx hb dL_count_4 rfl (lv_at hl 1 rfl) ?_
  refine lv_iload_n hx hb dL_count_5 rfl (lv_at hl 2 rfl) ?_
  refine lv_iload_n hx hb dL_count_6 rfl (lv_at hl 3 rfl) ?_
  refine m_runX (vx_runV (As := [.int (iI lo), .int (iI hi), .int (iI so)]) (rest := [.int (iI 0), .ref oa]) ⟨hx, hb, hml, hown, hts⟩ (k_X3_count (l := l) hfl hC hI rl rh ro) (cwV 3 hts gL_count_X3_count rfl rfl rfl (by decide +kernel) ⟨by decide, by decide⟩) ⟨Kp.blind _ _ _ _ _, m_recv hK hB (ci := 3) rfl hC.tb, fun U hU hW => hK.pass hB U hU hW⟩ rfl rfl hl.1 rfl (lv_room (Nat.le_of_ble_eq_true rfl)) dL_count_7 ⟨Nat.le_of_ble_eq_true rfl, Nat.le_of_ble_eq_true rfl⟩) hB (fun E u H locs q9 ce hp_1 hB hc9 hv9 hk9 => ?_) (fun v u H locs hp_1 hB => ?_)
  · obtain ⟨⟨rfl, cx⟩, hC, hFm⟩ := hp_1
    refine vx_catch hown [] ⟨0, 12, 15, 13⟩ [] hT (fun z hz => by cases hz) (by decide) (by decide) (hts _ (List.mem_of_getElem? (i := 1) rfl)) (va_Nw.use rfl (hK.2.1.2.2.1 _ (List.mem_of_getElem? (i := 0) rfl))) hc9 hv9 hk9 ?_
    refine lv_astore (lv' := [(5, .ref q9), (0, .ref x), (1, .int (iI lo)), (2, .int (iI hi)), (3, .int (iI so)), (4, .ref oa)]) hx hb dL_count_15 hl (by decide) rfl (fun ls hl => ?_)
    refine j_iconst hx hb dL_count_17 ?_
    exact m_zret hx hb hr rfl hlocks hB (by decide) (by decide) dL_count_18 (Or.inr (⟨rfl, cx, hC, hFm⟩))
  · obtain ⟨⟨cc0, rfl⟩, hC, hFm⟩ := hp_1
    have ho2 := hFm.J ho
    show W _ _ _ _ _ _ _ _ _ _ _ _ _ _ _ (F0 m 10 ls [.int (iI (cntA σ lo hi so)), .int (iI 0), .ref oa])
    refine lv_i2l hx hb dL_count_10 (rfl : _ = lI (cntA σ lo hi so)) ?_
    refine m_last hx hb hK hB 3 ho2 rfl in01 dL_count_11 (fun H locs hB => ?_)
    refine lv_goto (tgt := 19) hx hb dL_count_12 (by decide) ?_
    refine j_iconst hx hb dL_count_19 ?_
    exact m_zret hx hb hr rfl hlocks hB (by decide) (by decide) dL_count_20 (Or.inl (⟨rfl, cc0, hC.outJ ho2, ⟨_, hup_s _ _ _, rfl⟩, hFm.L.outJ ho2⟩))

abbrev rmL_countPlain : Room := { frames := 9, cells := 3, slots := 15, locals := 161 }
set_option maxHeartbeats 4000000 in
set_option maxRecDepth 100000 in
theorem k_L_countPlain {l : Launch} {D : va_G} {z : Nat} {cI cP cR cJ : ClassId} {h0 : Hp} (hfl : l.stackTraces = false) {x xp xr : Nat} {pa ra : Nat → Nat} {σ : Sg} (hC : CR cP cR x xp xr pa ra σ h0) (hI : Ib σ) {oa : Nat} {fo : Nat → Int64} (ho : h0 oa = some (arJ cJ 1 fo)) {lo hi so : Int} (rl : rg lo) (rh : rg hi) (ro : rg so) : Ct l D z (tyL cI cP cR cJ) yL_countPlain wsL_countPlain rmL_countPlain [.ref x, .int (iI lo), .int (iI hi), .int (iI so), .ref oa] h0 (fun v u => (v = some (.int (iI 0)) ∧ (okQ lo hi so) ∧ CR cP cR x xp xr pa ra σ u ∧ (∃ f2 : Nat → Int64, u oa = some (arJ cJ 1 f2) ∧ f2 0 = lI (cnt (fun j => live σ j ∧ σ 4 (pn σ j) = 0 ∧ (lo ≤ σ 6 j ∧ σ 6 j ≤ hi ∧ hbit so (σ 7 j))) (nrN σ))) ∧ FrL h0 u) ∨ (v = some (.int (iI 1)) ∧ (¬ okQ lo hi so) ∧ CR cP cR x xp xr pa ra σ u ∧ FrC h0 u)) := by
  refine Ct.ofH (cc := cL_countPlain) (maxL := 6) (ret := (some .int)) (hh := [(0, 12, 15, 13)]) (by decide) rfl (Nat.le_of_ble_eq_true rfl) ?_
  intro p e s m args below meth c hx hb hr hts hown hlocks hml hnm hT hK hB ls hl
  have hl : lv_has ls 6 [(0, .ref x), (1, .int (iI lo)), (2, .int (iI hi)), (3, .int (iI so)), (4, .ref oa)] := hl
  refine lv_aload hx hb dL_countPlain_0 (lv_at hl 4 rfl) ?_
  refine j_iconst hx hb dL_countPlain_2 ?_
  refine lv_aload_n hx hb dL_countPlain_3 rfl (lv_at hl 0 rfl) ?_
  refine lv_iload_n hx hb dL_countPlain_4 rfl (lv_at hl 1 rfl) ?_
  refine lv_iload_n hx hb dL_countPlain_5 rfl (lv_at hl 2 rfl) ?_
  refine lv_iload_n hx hb dL_countPlain_6 rfl (lv_at hl 3 rfl) ?_
  refine m_runX (vx_runV (As := [.int (iI lo), .int (iI hi), .int (iI so)]) (rest := [.int (iI 0), .ref oa]) ⟨hx, hb, hml, hown, hts⟩ (k_X3_countPlain (l := l) hfl hC hI rl rh ro) (cwV 3 hts gL_countPlain_X3_countPlain rfl rfl rfl (by decide +kernel) ⟨by decide, by decide⟩) ⟨Kp.blind _ _ _ _ _, m_recv hK hB (ci := 3) rfl hC.tb, fun U hU hW => hK.pass hB U hU hW⟩ rfl rfl hl.1 rfl (lv_room (Nat.le_of_ble_eq_true rfl)) dL_countPlain_7 ⟨Nat.le_of_ble_eq_true rfl, Nat.le_of_ble_eq_true rfl⟩) hB (fun E u H locs q9 ce hp_1 hB hc9 hv9 hk9 => ?_) (fun v u H locs hp_1 hB => ?_)
  · obtain ⟨⟨rfl, cx⟩, hC, hFm⟩ := hp_1
    refine vx_catch hown [] ⟨0, 12, 15, 13⟩ [] hT (fun z hz => by cases hz) (by decide) (by decide) (hts _ (List.mem_of_getElem? (i := 1) rfl)) (va_Nw.use rfl (hK.2.1.2.2.1 _ (List.mem_of_getElem? (i := 0) rfl))) hc9 hv9 hk9 ?_
    refine lv_astore (lv' := [(5, .ref q9), (0, .ref x), (1, .int (iI lo)), (2, .int (iI hi)), (3, .int (iI so)), (4, .ref oa)]) hx hb dL_countPlain_15 hl (by decide) rfl (fun ls hl => ?_)
    refine j_iconst hx hb dL_countPlain_17 ?_
    exact m_zret hx hb hr rfl hlocks hB (by decide) (by decide) dL_countPlain_18 (Or.inr (⟨rfl, cx, hC, hFm⟩))
  · obtain ⟨⟨cc0, rfl⟩, hC, hFm⟩ := hp_1
    have ho2 := hFm.J ho
    show W _ _ _ _ _ _ _ _ _ _ _ _ _ _ _ (F0 m 10 ls [.int (iI (cnt (fun j => live σ j ∧ σ 4 (pn σ j) = 0 ∧ (lo ≤ σ 6 j ∧ σ 6 j ≤ hi ∧ hbit so (σ 7 j))) (nrN σ))), .int (iI 0), .ref oa])
    refine lv_i2l hx hb dL_countPlain_10 (rfl : _ = lI (cnt (fun j => live σ j ∧ σ 4 (pn σ j) = 0 ∧ (lo ≤ σ 6 j ∧ σ 6 j ≤ hi ∧ hbit so (σ 7 j))) (nrN σ))) ?_
    refine m_last hx hb hK hB 3 ho2 rfl in01 dL_countPlain_11 (fun H locs hB => ?_)
    refine lv_goto (tgt := 19) hx hb dL_countPlain_12 (by decide) ?_
    refine j_iconst hx hb dL_countPlain_19 ?_
    exact m_zret hx hb hr rfl hlocks hB (by decide) (by decide) dL_countPlain_20 (Or.inl (⟨rfl, cc0, hC.outJ ho2, ⟨_, hup_s _ _ _, rfl⟩, hFm.L.outJ ho2⟩))

abbrev rmL_read : Room := { frames := 9, cells := 3, slots := 15, locals := 161 }
set_option maxHeartbeats 4000000 in
set_option maxRecDepth 100000 in
theorem k_L_read {l : Launch} {D : va_G} {z : Nat} {cI cP cR cJ : ClassId} {h0 : Hp} (hfl : l.stackTraces = false) {x xp xr : Nat} {pa ra : Nat → Nat} {σ : Sg} (hC : CR cP cR x xp xr pa ra σ h0) (hI : Ib σ) {oa : Nat} {fo : Nat → Int64} (ho : h0 oa = some (arJ cJ 1 fo)) {lo hi so : Int} (rl : rg lo) (rh : rg hi) (ro : rg so) : Ct l D z (tyL cI cP cR cJ) yL_read wsL_read rmL_read [.ref x, .int (iI lo), .int (iI hi), .int (iI so), .ref oa] h0 (fun v u => (v = some (.int (iI 0)) ∧ (okQ lo hi so) ∧ CR cP cR x xp xr pa ra σ u ∧ (∃ f2 : Nat → Int64, u oa = some (arJ cJ 1 f2) ∧ f2 0 = lI (rdA σ lo hi so)) ∧ FrL h0 u) ∨ (v = some (.int (iI 1)) ∧ (¬ okQ lo hi so) ∧ CR cP cR x xp xr pa ra σ u ∧ FrC h0 u)) := by
  refine Ct.ofH (cc := cL_read) (maxL := 6) (ret := (some .int)) (hh := [(0, 12, 15, 13)]) (by decide) rfl (Nat.le_of_ble_eq_true rfl) ?_
  intro p e s m args below meth c hx hb hr hts hown hlocks hml hnm hT hK hB ls hl
  have hl : lv_has ls 6 [(0, .ref x), (1, .int (iI lo)), (2, .int (iI hi)), (3, .int (iI so)), (4, .ref oa)] := hl
  refine lv_aload hx hb dL_read_0 (lv_at hl 4 rfl) ?_
  refine j_iconst hx hb dL_read_2 ?_
  refine lv_aload_n hx hb dL_read_3 rfl (lv_at hl 0 rfl) ?_
  refine lv_iload_n hx hb dL_read_4 rfl (lv_at hl 1 rfl) ?_
  refine lv_iload_n hx hb dL_read_5 rfl (lv_at hl 2 rfl) ?_
  refine lv_iload_n hx hb dL_read_6 rfl (lv_at hl 3 rfl) ?_
  refine m_runX (vx_runV (As := [.int (iI lo), .int (iI hi), .int (iI so)]) (rest := [.int (iI 0), .ref oa]) ⟨hx, hb, hml, hown, hts⟩ (k_X3_read (l := l) hfl hC hI rl rh ro) (cwV 3 hts gL_read_X3_read rfl rfl rfl (by decide +kernel) ⟨by decide, by decide⟩) ⟨Kp.blind _ _ _ _ _, m_recv hK hB (ci := 3) rfl hC.tb, fun U hU hW => hK.pass hB U hU hW⟩ rfl rfl hl.1 rfl (lv_room (Nat.le_of_ble_eq_true rfl)) dL_read_7 ⟨Nat.le_of_ble_eq_true rfl, Nat.le_of_ble_eq_true rfl⟩) hB (fun E u H locs q9 ce hp_1 hB hc9 hv9 hk9 => ?_) (fun v u H locs hp_1 hB => ?_)
  · obtain ⟨⟨rfl, cx⟩, hC, hFm⟩ := hp_1
    refine vx_catch hown [] ⟨0, 12, 15, 13⟩ [] hT (fun z hz => by cases hz) (by decide) (by decide) (hts _ (List.mem_of_getElem? (i := 1) rfl)) (va_Nw.use rfl (hK.2.1.2.2.1 _ (List.mem_of_getElem? (i := 0) rfl))) hc9 hv9 hk9 ?_
    refine lv_astore (lv' := [(5, .ref q9), (0, .ref x), (1, .int (iI lo)), (2, .int (iI hi)), (3, .int (iI so)), (4, .ref oa)]) hx hb dL_read_15 hl (by decide) rfl (fun ls hl => ?_)
    refine j_iconst hx hb dL_read_17 ?_
    exact m_zret hx hb hr rfl hlocks hB (by decide) (by decide) dL_read_18 (Or.inr (⟨rfl, cx, hC, hFm⟩))
  · obtain ⟨⟨cc0, rfl⟩, hC, hFm⟩ := hp_1
    have ho2 := hFm.J ho
    show W _ _ _ _ _ _ _ _ _ _ _ _ _ _ _ (F0 m 10 ls [.int (iI (rdA σ lo hi so)), .int (iI 0), .ref oa])
    refine lv_i2l hx hb dL_read_10 (rfl : _ = lI (rdA σ lo hi so)) ?_
    refine m_last hx hb hK hB 3 ho2 rfl in01 dL_read_11 (fun H locs hB => ?_)
    refine lv_goto (tgt := 19) hx hb dL_read_12 (by decide) ?_
    refine j_iconst hx hb dL_read_19 ?_
    exact m_zret hx hb hr rfl hlocks hB (by decide) (by decide) dL_read_20 (Or.inl (⟨rfl, cc0, hC.outJ ho2, ⟨_, hup_s _ _ _, rfl⟩, hFm.L.outJ ho2⟩))

abbrev rmL_matters : Room := { frames := 10, cells := 6, slots := 33, locals := 183 }
set_option maxHeartbeats 4000000 in
set_option maxRecDepth 100000 in
theorem k_L_matters {l : Launch} {D : va_G} {z : Nat} {cI cP cR cJ : ClassId} {h0 : Hp} (hfl : l.stackTraces = false) {x xp xr : Nat} {pa ra : Nat → Nat} {σ : Sg} (hC : CR cP cR x xp xr pa ra σ h0) (hI : Ib σ) {oa : Nat} {fo : Nat → Int64} (ho : h0 oa = some (arJ cJ 1 fo)) {nn le lo hi so : Int} (rn : rg nn) (rf : rg le) (rl : rg lo) (rh : rg hi) (ro : rg so) : Ct l D z (tyL cI cP cR cJ) yL_matters wsL_matters rmL_matters [.ref x, .int (iI nn), .int (iI le), .int (iI lo), .int (iI hi), .int (iI so), .ref oa] h0 (fun v u => (v = some (.int (iI 0)) ∧ (isL σ nn le ∧ okQ lo hi so) ∧ CR cP cR x xp xr pa ra σ u ∧ (∃ f2 : Nat → Int64, u oa = some (arJ cJ 1 f2) ∧ f2 0 = lI (b2 (mayM σ nn.toNat le lo hi so))) ∧ FrL h0 u) ∨ (v = some (.int (iI 1)) ∧ (¬ isL σ nn le) ∧ CR cP cR x xp xr pa ra σ u ∧ FrC h0 u) ∨ (v = some (.int (iI 2)) ∧ (isL σ nn le ∧ ¬ okQ lo hi so) ∧ CR cP cR x xp xr pa ra σ u ∧ FrC h0 u)) := by
  refine Ct.ofH (cc := cL_matters) (maxL := 8) (ret := (some .int)) (hh := [(0, 23, 26, 24), (0, 23, 30, 13)]) (by decide) rfl (Nat.le_of_ble_eq_true rfl) ?_
  intro p e s m args below meth c hx hb hr hts hown hlocks hml hnm hT hK hB ls hl
  have hl : lv_has ls 8 [(0, .ref x), (1, .int (iI nn)), (2, .int (iI le)), (3, .int (iI lo)), (4, .int (iI hi)), (5, .int (iI so)), (6, .ref oa)] := hl
  refine lv_aload hx hb dL_matters_0 (lv_at hl 6 rfl) ?_
  refine j_iconst hx hb dL_matters_2 ?_
  refine lv_aload_n hx hb dL_matters_3 rfl (lv_at hl 0 rfl) ?_
  refine lv_iload_n hx hb dL_matters_4 rfl (lv_at hl 1 rfl) ?_
  refine lv_iload_n hx hb dL_matters_5 rfl (lv_at hl 2 rfl) ?_
  refine lv_iload_n hx hb dL_matters_6 rfl (lv_at hl 3 rfl) ?_
  refine lv_iload hx hb dL_matters_7 (lv_at hl 4 rfl) ?_
  refine lv_iload hx hb dL_matters_9 (lv_at hl 5 rfl) ?_
  refine m_runX (vx_runV (As := [.int (iI nn), .int (iI le), .int (iI lo), .int (iI hi), .int (iI so)]) (rest := [.int (iI 0), .ref oa]) ⟨hx, hb, hml, hown, hts⟩ (k_X3_matters (l := l) hfl hC hI rn rf rl rh ro) (cwV 5 hts gL_matters_X3_matters rfl rfl rfl (by decide +kernel) ⟨by decide, by decide⟩) ⟨Kp.blind _ _ _ _ _, m_recv hK hB (ci := 3) rfl hC.tb, fun U hU hW => hK.pass hB U hU hW⟩ rfl rfl hl.1 rfl (lv_room (Nat.le_of_ble_eq_true rfl)) dL_matters_11 ⟨Nat.le_of_ble_eq_true rfl, Nat.le_of_ble_eq_true rfl⟩) hB (fun E u H locs q9 ce hp_1 hB hc9 hv9 hk9 => ?_) (fun v u H locs hp_1 hB => ?_)
  · rcases hp_1 with ⟨⟨rfl, cx⟩ | ⟨rfl, cx⟩, hC, hFm⟩
    · refine vx_catch hown [] ⟨0, 23, 26, 24⟩ [⟨0, 23, 30, 13⟩] hT (fun z hz => by cases hz) (by decide) (by decide) (hts _ (List.mem_of_getElem? (i := 1) rfl)) (va_Nw.use rfl (hK.2.1.2.2.1 _ (List.mem_of_getElem? (i := 2) rfl))) hc9 hv9 hk9 ?_
      refine lv_astore (lv' := [(7, .ref q9), (0, .ref x), (1, .int (iI nn)), (2, .int (iI le)), (3, .int (iI lo)), (4, .int (iI hi)), (5, .int (iI so)), (6, .ref oa)]) hx hb dL_matters_26 hl (by decide) rfl (fun ls hl => ?_)
      refine j_iconst hx hb dL_matters_28 ?_
      exact m_zret hx hb hr rfl hlocks hB (by decide) (by decide) dL_matters_29 (Or.inr (Or.inl (⟨rfl, cx, hC, hFm⟩)))
    · refine vx_catch hown [⟨0, 23, 26, 24⟩] ⟨0, 23, 30, 13⟩ [] hT (fun z hz => by cases List.mem_singleton.mp hz; exact Or.inr ⟨by decide, nE3, hts _ (List.mem_of_getElem? (i := 1) rfl), hK.2.1.2.2.2.2.1 _ (List.mem_of_getElem? (i := 1) rfl)⟩) (by decide) (by decide) (hts _ (List.mem_of_getElem? (i := 2) rfl)) (va_Nw.use rfl (hK.2.1.2.2.1 _ (List.mem_of_getElem? (i := 0) rfl))) hc9 hv9 hk9 ?_
      refine lv_astore (lv' := [(7, .ref q9), (0, .ref x), (1, .int (iI nn)), (2, .int (iI le)), (3, .int (iI lo)), (4, .int (iI hi)), (5, .int (iI so)), (6, .ref oa)]) hx hb dL_matters_30 hl (by decide) rfl (fun ls hl => ?_)
      refine j_iconst hx hb dL_matters_32 ?_
      exact m_zret hx hb hr rfl hlocks hB (by decide) (by decide) dL_matters_33 (Or.inr (Or.inr (⟨rfl, cx, hC, hFm⟩)))
  · obtain ⟨⟨cc0, cc1, rfl⟩, hC, hFm⟩ := hp_1
    have ho2 := hFm.J ho
    show W _ _ _ _ _ _ _ _ _ _ _ _ _ _ _ (F0 m 14 ls [.int (iI (b2 (mayM σ nn.toNat le lo hi so))), .int (iI 0), .ref oa])
    refine j_ifeqP (tgt := 21) hx hb dL_matters_14 (by decide) (fun c_2 => ?_) (fun c_2 => ?_)
    · refine lv_lconst hx hb dL_matters_21 lI_0 ?_
      refine m_last hx hb hK hB 3 ho2 rfl in01 dL_matters_22 (fun H locs hB => ?_)
      refine lv_goto (tgt := 34) hx hb dL_matters_23 (by decide) ?_
      refine j_iconst hx hb dL_matters_34 ?_
      exact m_zret hx hb hr rfl hlocks hB (by decide) (by decide) dL_matters_35 (Or.inl (⟨rfl, ⟨cc0, cc1⟩, hC.outJ ho2, ⟨_, hup_s _ _ _, (congrArg lI (b2_f c_2)).symm⟩, hFm.L.outJ ho2⟩))
    · refine lv_lconst hx hb dL_matters_17 lI_1 ?_
      refine lv_goto (tgt := 22) hx hb dL_matters_18 (by decide) ?_
      refine m_last hx hb hK hB 3 ho2 rfl in01 dL_matters_22 (fun H locs hB => ?_)
      refine lv_goto (tgt := 34) hx hb dL_matters_23 (by decide) ?_
      refine j_iconst hx hb dL_matters_34 ?_
      exact m_zret hx hb hr rfl hlocks hB (by decide) (by decide) dL_matters_35 (Or.inl (⟨rfl, ⟨cc0, cc1⟩, hC.outJ ho2, ⟨_, hup_s _ _ _, (congrArg lI (b2_t c_2)).symm⟩, hFm.L.outJ ho2⟩))

abbrev rmL_find : Room := { frames := 8, cells := 2, slots := 12, locals := 136 }
set_option maxHeartbeats 4000000 in
set_option maxRecDepth 100000 in
theorem k_L_find {l : Launch} {D : va_G} {z : Nat} {cI cP cR cJ : ClassId} {h0 : Hp} (hfl : l.stackTraces = false) {x xp xr : Nat} {pa ra : Nat → Nat} {σ : Sg} (hC : CR cP cR x xp xr pa ra σ h0) (hI : Ib σ) {oa : Nat} {fo : Nat → Int64} (ho : h0 oa = some (arJ cJ 1 fo)) {vl : Int} (rv : rg vl) : Ct l D z (tyL cI cP cR cJ) yL_find wsL_find rmL_find [.ref x, .int (iI vl), .ref oa] h0 (fun v u => (v = some (.int (iI 0)) ∧ ((0 ≤ vl ∧ vl ≤ 99) ∧ σ 11 0 = 0) ∧ CR cP cR x xp xr pa ra σ u ∧ (∃ f2 : Nat → Int64, u oa = some (arJ cJ 1 f2) ∧ f2 0 = lI (cnt (fun j => live σ j ∧ σ 4 (pn σ j) = 0 ∧ σ 8 j = vl) (nrN σ))) ∧ FrL h0 u) ∨ (v = some (.int (iI 1)) ∧ (¬ (0 ≤ vl ∧ vl ≤ 99)) ∧ CR cP cR x xp xr pa ra σ u ∧ FrC h0 u) ∨ (v = some (.int (iI 2)) ∧ ((0 ≤ vl ∧ vl ≤ 99) ∧ σ 11 0 ≠ 0) ∧ CR cP cR x xp xr pa ra σ u ∧ FrC h0 u)) := by
  refine Ct.ofH (cc := cL_find) (maxL := 4) (ret := (some .int)) (hh := [(0, 9, 12, 13), (0, 9, 15, 15)]) (by decide) rfl (Nat.le_of_ble_eq_true rfl) ?_
  intro p e s m args below meth c hx hb hr hts hown hlocks hml hnm hT hK hB ls hl
  have hl : lv_has ls 4 [(0, .ref x), (1, .int (iI vl)), (2, .ref oa)] := hl
  refine lv_aload_n hx hb dL_find_0 rfl (lv_at hl 2 rfl) ?_
  refine j_iconst hx hb dL_find_1 ?_
  refine lv_aload_n hx hb dL_find_2 rfl (lv_at hl 0 rfl) ?_
  refine lv_iload_n hx hb dL_find_3 rfl (lv_at hl 1 rfl) ?_
  refine m_runX (vx_runV (As := [.int (iI vl)]) (rest := [.int (iI 0), .ref oa]) ⟨hx, hb, hml, hown, hts⟩ (k_X3_find (l := l) hfl hC hI rv) (cwV 1 hts gL_find_X3_find rfl rfl rfl (by decide +kernel) ⟨by decide, by decide⟩) ⟨Kp.blind _ _ _ _ _, m_recv hK hB (ci := 3) rfl hC.tb, fun U hU hW => hK.pass hB U hU hW⟩ rfl rfl hl.1 rfl (lv_room (Nat.le_of_ble_eq_true rfl)) dL_find_4 ⟨Nat.le_of_ble_eq_true rfl, Nat.le_of_ble_eq_true rfl⟩) hB (fun E u H locs q9 ce hp_1 hB hc9 hv9 hk9 => ?_) (fun v u H locs hp_1 hB => ?_)
  · rcases hp_1 with ⟨⟨rfl, cx⟩ | ⟨rfl, cx⟩, hC, hFm⟩
    · refine vx_catch hown [] ⟨0, 9, 12, 13⟩ [⟨0, 9, 15, 15⟩] hT (fun z hz => by cases hz) (by decide) (by decide) (hts _ (List.mem_of_getElem? (i := 1) rfl)) (va_Nw.use rfl (hK.2.1.2.2.1 _ (List.mem_of_getElem? (i := 0) rfl))) hc9 hv9 hk9 ?_
      refine lv_astore_n (lv' := [(3, .ref q9), (0, .ref x), (1, .int (iI vl)), (2, .ref oa)]) hx hb dL_find_12 rfl hl (by decide) rfl (fun ls hl => ?_)
      refine j_iconst hx hb dL_find_13 ?_
      exact m_zret hx hb hr rfl hlocks hB (by decide) (by decide) dL_find_14 (Or.inr (Or.inl (⟨rfl, cx, hC, hFm⟩)))
    · refine vx_catch hown [⟨0, 9, 12, 13⟩] ⟨0, 9, 15, 15⟩ [] hT (fun z hz => by cases List.mem_singleton.mp hz; exact Or.inr ⟨by decide, nE1, hts _ (List.mem_of_getElem? (i := 1) rfl), hK.2.1.2.2.2.2.1 _ (List.mem_of_getElem? (i := 2) rfl)⟩) (by decide) (by decide) (hts _ (List.mem_of_getElem? (i := 2) rfl)) (va_Nw.use rfl (hK.2.1.2.2.1 _ (List.mem_of_getElem? (i := 1) rfl))) hc9 hv9 hk9 ?_
      refine lv_astore_n (lv' := [(3, .ref q9), (0, .ref x), (1, .int (iI vl)), (2, .ref oa)]) hx hb dL_find_15 rfl hl (by decide) rfl (fun ls hl => ?_)
      refine j_iconst hx hb dL_find_16 ?_
      exact m_zret hx hb hr rfl hlocks hB (by decide) (by decide) dL_find_17 (Or.inr (Or.inr (⟨rfl, cx, hC, hFm⟩)))
  · obtain ⟨⟨cc0, cc1, rfl⟩, hC, hFm⟩ := hp_1
    have ho2 := hFm.J ho
    show W _ _ _ _ _ _ _ _ _ _ _ _ _ _ _ (F0 m 7 ls [.int (iI (cnt (fun j => live σ j ∧ σ 4 (pn σ j) = 0 ∧ σ 8 j = vl) (nrN σ))), .int (iI 0), .ref oa])
    refine lv_i2l hx hb dL_find_7 (rfl : _ = lI (cnt (fun j => live σ j ∧ σ 4 (pn σ j) = 0 ∧ σ 8 j = vl) (nrN σ))) ?_
    refine m_last hx hb hK hB 3 ho2 rfl in01 dL_find_8 (fun H locs hB => ?_)
    refine lv_goto (tgt := 18) hx hb dL_find_9 (by decide) ?_
    refine j_iconst hx hb dL_find_18 ?_
    exact m_zret hx hb hr rfl hlocks hB (by decide) (by decide) dL_find_19 (Or.inl (⟨rfl, ⟨cc0, cc1⟩, hC.outJ ho2, ⟨_, hup_s _ _ _, rfl⟩, hFm.L.outJ ho2⟩))

abbrev rmL_findIn : Room := { frames := 9, cells := 3, slots := 18, locals := 162 }
set_option maxHeartbeats 4000000 in
set_option maxRecDepth 100000 in
theorem k_L_findIn {l : Launch} {D : va_G} {z : Nat} {cI cP cR cJ : ClassId} {h0 : Hp} (hfl : l.stackTraces = false) {x xp xr : Nat} {pa ra : Nat → Nat} {σ : Sg} (hC : CR cP cR x xp xr pa ra σ h0) (hI : Ib σ) {oa : Nat} {fo : Nat → Int64} (ho : h0 oa = some (arJ cJ 1 fo)) {nn vl : Int} (rn : rg nn) (rv : rg vl) : Ct l D z (tyL cI cP cR cJ) yL_findIn wsL_findIn rmL_findIn [.ref x, .int (iI nn), .int (iI vl), .ref oa] h0 (fun v u => (v = some (.int (iI 0)) ∧ (isA σ nn ∧ (0 ≤ vl ∧ vl ≤ 99)) ∧ CR cP cR x xp xr pa ra σ u ∧ (∃ f2 : Nat → Int64, u oa = some (arJ cJ 1 f2) ∧ f2 0 = lI (cnt (fun j => live σ j ∧ pn σ j = nn.toNat ∧ σ 8 j = vl) (nrN σ))) ∧ FrL h0 u) ∨ (v = some (.int (iI 1)) ∧ (¬ isA σ nn) ∧ CR cP cR x xp xr pa ra σ u ∧ FrC h0 u) ∨ (v = some (.int (iI 2)) ∧ (isA σ nn ∧ ¬ (0 ≤ vl ∧ vl ≤ 99)) ∧ CR cP cR x xp xr pa ra σ u ∧ FrC h0 u)) := by
  refine Ct.ofH (cc := cL_findIn) (maxL := 5) (ret := (some .int)) (hh := [(0, 10, 13, 24), (0, 10, 17, 13)]) (by decide) rfl (Nat.le_of_ble_eq_true rfl) ?_
  intro p e s m args below meth c hx hb hr hts hown hlocks hml hnm hT hK hB ls hl
  have hl : lv_has ls 5 [(0, .ref x), (1, .int (iI nn)), (2, .int (iI vl)), (3, .ref oa)] := hl
  refine lv_aload_n hx hb dL_findIn_0 rfl (lv_at hl 3 rfl) ?_
  refine j_iconst hx hb dL_findIn_1 ?_
  refine lv_aload_n hx hb dL_findIn_2 rfl (lv_at hl 0 rfl) ?_
  refine lv_iload_n hx hb dL_findIn_3 rfl (lv_at hl 1 rfl) ?_
  refine lv_iload_n hx hb dL_findIn_4 rfl (lv_at hl 2 rfl) ?_
  refine m_runX (vx_runV (As := [.int (iI nn), .int (iI vl)]) (rest := [.int (iI 0), .ref oa]) ⟨hx, hb, hml, hown, hts⟩ (k_X3_findIn (l := l) hfl hC hI rn rv) (cwV 2 hts gL_findIn_X3_findIn rfl rfl rfl (by decide +kernel) ⟨by decide, by decide⟩) ⟨Kp.blind _ _ _ _ _, m_recv hK hB (ci := 3) rfl hC.tb, fun U hU hW => hK.pass hB U hU hW⟩ rfl rfl hl.1 rfl (lv_room (Nat.le_of_ble_eq_true rfl)) dL_findIn_5 ⟨Nat.le_of_ble_eq_true rfl, Nat.le_of_ble_eq_true rfl⟩) hB (fun E u H locs q9 ce hp_1 hB hc9 hv9 hk9 => ?_) (fun v u H locs hp_1 hB => ?_)
  · rcases hp_1 with ⟨⟨rfl, cx⟩ | ⟨rfl, cx⟩, hC, hFm⟩
    · refine vx_catch hown [] ⟨0, 10, 13, 24⟩ [⟨0, 10, 17, 13⟩] hT (fun z hz => by cases hz) (by decide) (by decide) (hts _ (List.mem_of_getElem? (i := 1) rfl)) (va_Nw.use rfl (hK.2.1.2.2.1 _ (List.mem_of_getElem? (i := 2) rfl))) hc9 hv9 hk9 ?_
      refine lv_astore (lv' := [(4, .ref q9), (0, .ref x), (1, .int (iI nn)), (2, .int (iI vl)), (3, .ref oa)]) hx hb dL_findIn_13 hl (by decide) rfl (fun ls hl => ?_)
      refine j_iconst hx hb dL_findIn_15 ?_
      exact m_zret hx hb hr rfl hlocks hB (by decide) (by decide) dL_findIn_16 (Or.inr (Or.inl (⟨rfl, cx, hC, hFm⟩)))
    · refine vx_catch hown [⟨0, 10, 13, 24⟩] ⟨0, 10, 17, 13⟩ [] hT (fun z hz => by cases List.mem_singleton.mp hz; exact Or.inr ⟨by decide, nE3, hts _ (List.mem_of_getElem? (i := 1) rfl), hK.2.1.2.2.2.2.1 _ (List.mem_of_getElem? (i := 1) rfl)⟩) (by decide) (by decide) (hts _ (List.mem_of_getElem? (i := 2) rfl)) (va_Nw.use rfl (hK.2.1.2.2.1 _ (List.mem_of_getElem? (i := 0) rfl))) hc9 hv9 hk9 ?_
      refine lv_astore (lv' := [(4, .ref q9), (0, .ref x), (1, .int (iI nn)), (2, .int (iI vl)), (3, .ref oa)]) hx hb dL_findIn_17 hl (by decide) rfl (fun ls hl => ?_)
      refine j_iconst hx hb dL_findIn_19 ?_
      exact m_zret hx hb hr rfl hlocks hB (by decide) (by decide) dL_findIn_20 (Or.inr (Or.inr (⟨rfl, cx, hC, hFm⟩)))
  · obtain ⟨⟨cc0, cc1, rfl⟩, hC, hFm⟩ := hp_1
    have ho2 := hFm.J ho
    show W _ _ _ _ _ _ _ _ _ _ _ _ _ _ _ (F0 m 8 ls [.int (iI (cnt (fun j => live σ j ∧ pn σ j = nn.toNat ∧ σ 8 j = vl) (nrN σ))), .int (iI 0), .ref oa])
    refine lv_i2l hx hb dL_findIn_8 (rfl : _ = lI (cnt (fun j => live σ j ∧ pn σ j = nn.toNat ∧ σ 8 j = vl) (nrN σ))) ?_
    refine m_last hx hb hK hB 3 ho2 rfl in01 dL_findIn_9 (fun H locs hB => ?_)
    refine lv_goto (tgt := 21) hx hb dL_findIn_10 (by decide) ?_
    refine j_iconst hx hb dL_findIn_21 ?_
    exact m_zret hx hb hr rfl hlocks hB (by decide) (by decide) dL_findIn_22 (Or.inl (⟨rfl, ⟨cc0, cc1⟩, hC.outJ ho2, ⟨_, hup_s _ _ _, rfl⟩, hFm.L.outJ ho2⟩))

