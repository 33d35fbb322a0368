abbrev rmX3_split : Room := { frames := 9, cells := 10, slots := 60, locals := 156 }
set_option maxHeartbeats 4000000 in
set_option maxRecDepth 100000 in
theorem k_X3_split {l : Launch} {D : va_G} {z : Nat} {cI cP cR cJ : ClassId} {h0 : Hp} (hfl : l.stackTraces = false) {x xp xr : Nat} {pa ra : Nat → Nat} {σ : Sg} (hC : CR cP cR x xp xr pa ra σ h0) (hI : Ib σ) {n ky : Int} (rn : rg n) (rk : rg ky) : Cx l D z (tyL cI cP cR cJ) yX3_split wsX3_split rmX3_split [.ref x, .int (iI n), .int (iI ky)] h0 (fun v u => (isP σ n ∧ (σ 0 n.toNat < ky ∧ ky < σ 1 n.toNat) ∧ σ 4 n.toNat = 0 ∧ σ 9 0 < 15) ∧ v = some (.int (iI (σ 9 0 + 1))) ∧ ∃ pa2 : Nat → Nat, CR cP cR x xp xr pa2 ra (mvS (upS (mkP σ ky (σ 1 n.toNat) (σ 2 n.toNat) (σ 3 n.toNat)) 1 n.toNat ky) n.toNat (npN σ + 1) 200) u ∧ FrC h0 u) (fun E u => ((E = nE3 ∧ ¬ isP σ n) ∨ (E = nE1 ∧ isP σ n ∧ ¬ (σ 0 n.toNat < ky ∧ ky < σ 1 n.toNat)) ∨ (E = nE2 ∧ isP σ n ∧ (σ 0 n.toNat < ky ∧ ky < σ 1 n.toNat) ∧ (σ 4 n.toNat ≠ 0 ∨ ¬ σ 9 0 < 15))) ∧ CR cP cR x xp xr pa ra σ u ∧ FrC h0 u) := by
  refine Cx.of (cc := cX3_split) (maxL := 5) (ret := (some .int)) (by decide) rfl (Nat.le_of_ble_eq_true rfl) ?_
  intro p e s m args below meth c hx hb hr hts hown hlocks hml hnm hout hK hB ls hl
  have hl : lv_has ls 5 [(0, .ref x), (1, .int (iI n)), (2, .int (iI ky))] := hl
  have hF := FrC.rf h0
  have hnp := hI.hnp
  have hnr := hI.hnr
  refine lv_aload_n hx hb dX3_split_0 rfl (lv_at hl 0 rfl) ?_
  refine lv_iload_n hx hb dX3_split_1 rfl (lv_at hl 1 rfl) ?_
  refine m_runX (vx_runV (As := [.int (iI n)]) (rest := []) ⟨hx, hb, hml, hown, hts⟩ (k_X3_livingPartWithRange (l := l) hfl hC hI ⟨by omega, by omega⟩) (cwV 1 hts gX3_split_X3_livingPartWithRange rfl rfl rfl (by decide +kernel) ⟨by decide, by decide⟩) ⟨Kp.blind _ _ _ _ _, m_recv hK hB (ci := 3) rfl hC.tb, fun U hU hW => hK.pass hB U hU hW⟩ rfl rfl hl.1 rfl (lv_room (Nat.le_of_ble_eq_true rfl)) dX3_split_2 ⟨Nat.le_of_ble_eq_true rfl, Nat.le_of_ble_eq_true rfl⟩) hB (fun E u H locs q9 ce hp_1 hB hc9 hv9 hk9 => ?_) (fun v u H locs hp_1 hB => ?_)
  · obtain ⟨rfl, rfl, hn⟩ := hp_1
    exact m_out hout hlocks hB hc9 hv9 hk9 (Nat.le_of_ble_eq_true rfl) (Nat.le_of_ble_eq_true rfl) (by (repeat rw [Int.toNat_natCast]); exact ⟨Or.inl ⟨rfl, hn⟩, hC, hF⟩)
  · obtain ⟨ia, rfl, li_ia, ls_ia, l1_ia, rfl, rfl⟩ := hp_1
    show W _ _ _ _ _ _ _ _ _ _ _ _ _ _ _ (F0 m 5 ls [.ref (pa ia)])
    refine lv_astore_n (lv' := [(3, .ref (pa ia)), (0, .ref x), (1, .int (iI (ia : Int))), (2, .int (iI ky))]) hx hb dX3_split_5 rfl hl (by decide) rfl (fun ls hl => ?_)
    refine lv_iload_n hx hb dX3_split_6 rfl (lv_at hl 3 rfl) ?_
    refine lv_aload_n hx hb dX3_split_7 rfl (lv_at hl 0 rfl) ?_
    have pf_2 := hI.part ia (by omega)
    refine m_get hx hb hts (fun _ q => List.mem_cons_of_mem _ (List.mem_append_left _ (List.mem_append_left _ (List.mem_append_left _ (List.mem_append_left _ (List.mem_append_left _ (List.mem_append_right _ q))))))) hown hK hB (hC.pt ia (by omega)) (ci := 0) rfl 1 (by decide) (List.mem_of_getElem? (i := 3) rfl) rfl rfl dX3_split_8 ?_
    have bd_3 := hI.bd 0 ia
    refine j_icmp_le (tgt := 22) hx hb dX3_split_11 (by decide) ⟨by omega, by omega⟩ ⟨by omega, by omega⟩ (fun c_4 => ?_) (fun c_4 => ?_)
    · exact m_throw (cls := nE1) (Ts := wsX3_split) hx hb hfl hown fitE1 hts (List.mem_of_getElem? (i := 1) rfl) (List.mem_of_getElem? (i := 2) rfl) (fun _ q => List.mem_cons_of_mem _ (List.mem_append_left _ (List.mem_append_left _ (List.mem_append_right _ q)))) ngE1 otE1 (List.mem_of_getElem? (i := 21) rfl) hK hB (hl.1.trans hml.symm) hout hlocks dX3_split_22 dX3_split_25 dX3_split_26 dX3_split_28 dX3_split_31 (Nat.le_of_ble_eq_true rfl) (Nat.le_of_ble_eq_true rfl) (Nat.le_of_ble_eq_true rfl) (Nat.le_of_ble_eq_true rfl) (Nat.le_of_ble_eq_true rfl) (Nat.le_of_ble_eq_true rfl) (by (repeat rw [Int.toNat_natCast]); exact ⟨Or.inr (Or.inl ⟨rfl, (isP_i.mpr ⟨l1_ia, li_ia, ls_ia⟩), fun q => by omega⟩), hC, hF⟩)
    · refine lv_iload_n hx hb dX3_split_14 rfl (lv_at hl 3 rfl) ?_
      refine lv_aload_n hx hb dX3_split_15 rfl (lv_at hl 0 rfl) ?_
      refine m_get hx hb hts (fun _ q => List.mem_cons_of_mem _ (List.mem_append_left _ (List.mem_append_left _ (List.mem_append_left _ (List.mem_append_left _ (List.mem_append_left _ (List.mem_append_right _ q))))))) hown hK hB (hC.pt ia (by omega)) (ci := 0) rfl 2 (by decide) (List.mem_of_getElem? (i := 4) rfl) rfl rfl dX3_split_16 ?_
      have bd_5 := hI.bd 1 ia
      refine j_icmp_lt (tgt := 32) hx hb dX3_split_19 (by decide) ⟨by omega, by omega⟩ ⟨by omega, by omega⟩ (fun c_6 => ?_) (fun c_6 => ?_)
      · have hrg : σ 0 ia < ky ∧ ky < σ 1 ia := ⟨by omega, by omega⟩
        have hp1 := (isP_i.mpr ⟨l1_ia, li_ia, ls_ia⟩)
        refine lv_aload_n hx hb dX3_split_32 rfl (lv_at hl 0 rfl) ?_
        have bd_7 := hI.bd 4 ia
        refine m_runX (vx_runS (As := [.ref (pa ia)]) (rest := []) ⟨hx, hb, hml, hown, hts⟩ (k_X3_refuseUnlessAttached (l := l) hfl (hC.pt ia (by omega)) ⟨by omega, by omega⟩) (va_cwS 1 hts gX3_split_X3_refuseUnlessAttached rfl rfl rfl (by decide +kernel) ⟨by decide, by decide⟩) ⟨Kp.blind _ _ _ _ _, fun U hU hW => hK.pass hB U hU hW⟩ rfl rfl hl.1 rfl (lv_room (Nat.le_of_ble_eq_true rfl)) dX3_split_33 ⟨Nat.le_of_ble_eq_true rfl, Nat.le_of_ble_eq_true rfl⟩) hB (fun E u H locs q9 ce hp_8 hB hc9 hv9 hk9 => ?_) (fun v u H locs hp_8 hB => ?_)
        · obtain ⟨rfl, rfl, hn⟩ := hp_8
          exact m_out hout hlocks hB hc9 hv9 hk9 (Nat.le_of_ble_eq_true rfl) (Nat.le_of_ble_eq_true rfl) (by (repeat rw [Int.toNat_natCast]); exact ⟨Or.inr (Or.inr ⟨rfl, (isP_i.mpr ⟨l1_ia, li_ia, ls_ia⟩), ⟨by omega, by omega⟩, Or.inl hn⟩), hC, hF⟩)
        · obtain ⟨rfl, rfl, hp_8'⟩ := hp_8
          show W _ _ _ _ _ _ _ _ _ _ _ _ _ _ _ (F0 m 36 ls [])
          refine lv_aload_n hx hb dX3_split_36 rfl (lv_at hl 1 rfl) ?_
          refine lv_iload_n hx hb dX3_split_37 rfl (lv_at hl 3 rfl) ?_
          refine lv_aload_n hx hb dX3_split_38 rfl (lv_at hl 0 rfl) ?_
          refine m_get hx hb hts (fun _ q => List.mem_cons_of_mem _ (List.mem_append_left _ (List.mem_append_left _ (List.mem_append_left _ (List.mem_append_left _ (List.mem_append_left _ (List.mem_append_right _ q))))))) hown hK hB (hC.pt ia (by omega)) (ci := 0) rfl 2 (by decide) (List.mem_of_getElem? (i := 4) rfl) rfl rfl dX3_split_39 ?_
          refine lv_aload_n hx hb dX3_split_42 rfl (lv_at hl 0 rfl) ?_
          refine m_get hx hb hts (fun _ q => List.mem_cons_of_mem _ (List.mem_append_left _ (List.mem_append_left _ (List.mem_append_left _ (List.mem_append_left _ (List.mem_append_left _ (List.mem_append_right _ q))))))) hown hK hB (hC.pt ia (by omega)) (ci := 0) rfl 3 (by decide) (List.mem_of_getElem? (i := 5) rfl) rfl rfl dX3_split_43 ?_
          refine lv_aload_n hx hb dX3_split_46 rfl (lv_at hl 0 rfl) ?_
          refine m_get hx hb hts (fun _ q => List.mem_cons_of_mem _ (List.mem_append_left _ (List.mem_append_left _ (List.mem_append_left _ (List.mem_append_left _ (List.mem_append_left _ (List.mem_append_right _ q))))))) hown hK hB (hC.pt ia (by omega)) (ci := 0) rfl 4 (by decide) (List.mem_of_getElem? (i := 6) rfl) rfl rfl dX3_split_47 ?_
          have bd_10 := hI.bd 2 ia
          have bd_11 := hI.bd 3 ia
          refine m_runX (vx_runV (As := [.int (iI ky), .int (iI (σ 1 ia)), .int (iI (σ 2 ia)), .int (iI (σ 3 ia))]) (rest := []) ⟨hx, hb, hml, hown, hts⟩ (k_X3_plannedPart (l := l) hfl hC hI ⟨by omega, by omega⟩ ⟨by omega, by omega⟩ ⟨by omega, by omega⟩ ⟨by omega, by omega⟩) (cwV 4 hts gX3_split_X3_plannedPart rfl rfl rfl (by decide +kernel) ⟨by decide, by decide⟩) ⟨Kp.blind _ _ _ _ _, m_recv hK hB (ci := 3) rfl hC.tb, fun U hU hW => hK.pass hB U hU hW⟩ rfl rfl hl.1 rfl (lv_room (Nat.le_of_ble_eq_true rfl)) dX3_split_50 ⟨Nat.le_of_ble_eq_true rfl, Nat.le_of_ble_eq_true rfl⟩) hB (fun E u H locs q9 ce hp_12 hB hc9 hv9 hk9 => ?_) (fun v u H locs hp_12 hB => ?_)
          · obtain ⟨rfl, rfl, hn⟩ := hp_12
            exact m_out hout hlocks hB hc9 hv9 hk9 (Nat.le_of_ble_eq_true rfl) (Nat.le_of_ble_eq_true rfl) (by (repeat rw [Int.toNat_natCast]); exact ⟨False.elim (hn ⟨by unfold okR; omega, by unfold okK; omega⟩), hC, hF⟩)
          · obtain ⟨ca_9, rfl, hca_9, rfl, ok1, ok2⟩ := hp_12
            show W _ _ _ _ _ _ _ _ _ _ _ _ _ _ _ (F0 m 53 ls [.ref ca_9])
            obtain ⟨h1, hC, hF, hca, hB⟩ : ∃ h1 : Hp, CR cP cR x xp xr pa ra σ h1 ∧ FrC h0 h1 ∧ h1 ca_9 = some (prt (σ 9 0 + 1) ky (σ 1 ia) (σ 2 ia) (σ 3 ia) 0) ∧ Bk D z s.heap h1 H locs := ⟨_, hC.new hca_9, hF.tr (FrC.new hca_9), hup_s _ _ _, hB⟩
            have ok1u := ok1
            have ok2u := ok2
            unfold okR at ok1u
            unfold okK at ok2u
            refine lv_astore (lv' := [(4, .ref ca_9), (3, .ref (pa ia)), (0, .ref x), (1, .int (iI (ia : Int))), (2, .int (iI ky))]) hx hb dX3_split_53 hl (by decide) rfl (fun ls hl => ?_)
            refine lv_aload_n hx hb dX3_split_55 rfl (lv_at hl 2 rfl) ?_
            refine lv_aload hx hb dX3_split_56 (lv_at hl 0 rfl) ?_
            refine m_runX (vx_runV (As := [.ref ca_9]) (rest := []) ⟨hx, hb, hml, hown, hts⟩ (k_X3_keepPart (l := l) hfl hC hI hca ok1 ok2) (cwV 1 hts gX3_split_X3_keepPart rfl rfl rfl (by decide +kernel) ⟨by decide, by decide⟩) ⟨Kp.blind _ _ _ _ _, m_recv hK hB (ci := 3) rfl hC.tb, fun U hU hW => hK.pass hB U hU hW⟩ rfl rfl hl.1 rfl (lv_room (Nat.le_of_ble_eq_true rfl)) dX3_split_58 ⟨Nat.le_of_ble_eq_true rfl, Nat.le_of_ble_eq_true rfl⟩) hB (fun E u H locs q9 ce hp_13 hB hc9 hv9 hk9 => ?_) (fun v u H locs hp_13 hB => ?_)
            · obtain ⟨rfl, rfl, hn⟩ := hp_13
              exact m_out hout hlocks hB hc9 hv9 hk9 (Nat.le_of_ble_eq_true rfl) (Nat.le_of_ble_eq_true rfl) (by (repeat rw [Int.toNat_natCast]); exact ⟨Or.inr (Or.inr ⟨rfl, (isP_i.mpr ⟨l1_ia, li_ia, ls_ia⟩), ⟨by omega, by omega⟩, Or.inr hn⟩), hC, hF⟩)
            · obtain ⟨rfl, hlt, pa, hC, hFk, eca, epa⟩ := hp_13
              show W _ _ _ _ _ _ _ _ _ _ _ _ _ _ _ (F0 m 61 ls [])
              have hF := hF.tr hFk
              have hnpI := hI.npI
              obtain ⟨K, eK⟩ : ∃ K : Nat, K = npN σ + 1 := ⟨_, rfl⟩
              have eKi : (K : Int) = σ 9 0 + 1 := by omega
              rw [← eK] at eca
              rw [← epa ia (by omega)] at hl
              rw [eca] at hl
              obtain ⟨σ, eσ_14, hC, hI, e9⟩ : ∃ σ2 : Sg, σ2 = mkP σ ky (σ 1 ia) (σ 2 ia) (σ 3 ia) ∧ CR cP cR x xp xr pa ra σ2 u ∧ Ib σ2 ∧ σ2 9 0 = (K : Int) := ⟨_, rfl, hC, (hI.mk hlt ok1 ok2), (by rw [mkP_9]; omega)⟩
              have hnp := hI.hnp
              refine lv_aload_n hx hb dX3_split_61 rfl (lv_at hl 1 rfl) ?_
              refine lv_iload_n hx hb dX3_split_62 rfl (lv_at hl 4 rfl) ?_
              have pf_15 := hI.part ia (by omega)
              refine m_put hx hb hts (fun _ q => List.mem_cons_of_mem _ (List.mem_append_left _ (List.mem_append_left _ (List.mem_append_left _ (List.mem_append_left _ (List.mem_append_left _ (List.mem_append_right _ q))))))) tyX0 tyX0_ok nmX0 hown hK hB (hC.pt ia (by omega)) (ci := 0) rfl 2 (by decide) (List.mem_of_getElem? (i := 4) rfl) rfl rfl rfl rfl (Nat.le_of_ble_eq_true rfl) dX3_split_63 (fun H locs hB => ?_)
              obtain ⟨h2, σ, eσ_16, hC, hI, e9, hF, hB⟩ : ∃ (h2 : Hp) (σ2 : Sg), σ2 = upS σ 1 ia ky ∧ CR cP cR x xp xr pa ra σ2 h2 ∧ Ib σ2 ∧ σ2 9 0 = σ 9 0 ∧ FrC h0 h2 ∧ Bk D z s.heap h2 H locs := ⟨_, _, rfl, hC.w1 (i := ia) (by omega), hI.to1 (by omega) (by omega), upS_g (by decide), hF.tr (FrC.up (hC.pt ia (by omega)) (by simp [kd])), hB⟩
              have hnp := hI.hnp
              refine lv_aload_n hx hb dX3_split_66 rfl (lv_at hl 2 rfl) ?_
              refine lv_aload_n hx hb dX3_split_67 rfl (lv_at hl 1 rfl) ?_
              refine lv_aload hx hb dX3_split_68 (lv_at hl 0 rfl) ?_
              refine m_run (va_runV (As := [.ref (pa ia), .ref (pa K)]) (rest := []) ⟨hx, hb, hml, hown, hts⟩ (k_X3_moveRows (l := l) hC hI (i := ia) (k := K) (by omega) (by omega)) (cwV 2 hts gX3_split_X3_moveRows rfl rfl rfl (by decide +kernel) ⟨by decide, by decide⟩) ⟨Kp.blind _ _ _ _ _, m_recv hK hB (ci := 3) rfl hC.tb, fun U hU hW => hK.pass hB U hU hW⟩ rfl rfl hl.1 rfl (lv_room (Nat.le_of_ble_eq_true rfl)) dX3_split_70 ⟨Nat.le_of_ble_eq_true rfl, Nat.le_of_ble_eq_true rfl⟩) hB (fun v u H locs hp_17 hB => ?_)
              obtain ⟨rfl, hC, hFm⟩ := hp_17
              show W _ _ _ _ _ _ _ _ _ _ _ _ _ _ _ (F0 m 73 ls [])
              have hF := hF.tr hFm
              obtain ⟨σ, eσ_18, hC, hI, e9⟩ : ∃ σ2 : Sg, σ2 = mvS σ ia K 200 ∧ CR cP cR x xp xr pa ra σ2 u ∧ Ib σ2 ∧ σ2 9 0 = σ 9 0 := ⟨_, rfl, hC, (hI.mv (by omega) 200), (mvS_g (by decide))⟩
              have hnp := hI.hnp
              refine lv_aload hx hb dX3_split_73 (lv_at hl 0 rfl) ?_
              have pf_19 := hI.part K (by omega)
              refine m_get hx hb hts (fun _ q => List.mem_cons_of_mem _ (List.mem_append_left _ (List.mem_append_left _ (List.mem_append_left _ (List.mem_append_left _ (List.mem_append_left _ (List.mem_append_right _ q))))))) hown hK hB (hC.pt K (by omega)) (ci := 0) rfl 0 (by decide) (List.mem_of_getElem? (i := 7) rfl) rfl rfl dX3_split_75 ?_
              exact vx_ret (m_zret hx hb hr rfl hlocks hB (by decide) (by decide) dX3_split_78 (by have h4 := hp_8'; have hi9 := eKi; (repeat rw [Int.toNat_natCast]); subst eσ_18; subst eσ_16; subst eσ_14; subst eK; exact ⟨⟨hp1, hrg, h4, hlt⟩, ret_e hi9, pa, hC, hF⟩))
      · exact m_throw (cls := nE1) (Ts := wsX3_split) hx hb hfl hown fitE1 hts (List.mem_of_getElem? (i := 1) rfl) (List.mem_of_getElem? (i := 2) rfl) (fun _ q => List.mem_cons_of_mem _ (List.mem_append_left _ (List.mem_append_left _ (List.mem_append_right _ q)))) ngE1 otE1 (List.mem_of_getElem? (i := 21) rfl) hK hB (hl.1.trans hml.symm) hout hlocks dX3_split_22 dX3_split_25 dX3_split_26 dX3_split_28 dX3_split_31 (Nat.le_of_ble_eq_true rfl) (Nat.le_of_ble_eq_true rfl) (Nat.le_of_ble_eq_true rfl) (Nat.le_of_ble_eq_true rfl) (Nat.le_of_ble_eq_true rfl) (Nat.le_of_ble_eq_true rfl) (by (repeat rw [Int.toNat_natCast]); exact ⟨Or.inr (Or.inl ⟨rfl, (isP_i.mpr ⟨l1_ia, li_ia, ls_ia⟩), fun q => by omega⟩), hC, hF⟩)

abbrev rmX3_merge : Room := { frames := 9, cells := 9, slots := 54, locals := 156 }
set_option maxHeartbeats 4000000 in
set_option maxRecDepth 100000 in
theorem k_X3_merge {l : Launch} {D : va_G} {z : Nat} {cI cP cR cJ : ClassId} {h0 : Hp} (hfl : l.stackTraces = false) {x xp xr : Nat} {pa ra : Nat → Nat} {σ : Sg} (hC : CR cP cR x xp xr pa ra σ h0) (hI : Ib σ) {n n2 : Int} (rn : rg n) (rn2 : rg n2) : Cx l D z (tyL cI cP cR cJ) yX3_merge wsX3_merge rmX3_merge [.ref x, .int (iI n), .int (iI n2)] h0 (fun v u => ((isP σ n ∧ isP σ n2) ∧ (σ 4 n.toNat = 0 ∧ σ 4 n2.toNat = 0 ∧ σ 0 n2.toNat = σ 1 n.toNat ∧ σ 2 n2.toNat = σ 2 n.toNat ∧ σ 3 n2.toNat = σ 3 n.toNat)) ∧ v = some (.int (iI (cnt (fun j => live (upS (mvS (upS σ 1 n.toNat (σ 1 n2.toNat)) n2.toNat n.toNat 200) 4 n2.toNat 2) j ∧ pn (upS (mvS (upS σ 1 n.toNat (σ 1 n2.toNat)) n2.toNat n.toNat 200) 4 n2.toNat 2) j = n.toNat) (nrN (upS (mvS (upS σ 1 n.toNat (σ 1 n2.toNat)) n2.toNat n.toNat 200) 4 n2.toNat 2))))) ∧ CR cP cR x xp xr pa ra (upS (mvS (upS σ 1 n.toNat (σ 1 n2.toNat)) n2.toNat n.toNat 200) 4 n2.toNat 2) u ∧ FrC h0 u) (fun E u => ((E = nE3 ∧ ¬ (isP σ n ∧ isP σ n2)) ∨ (E = nE2 ∧ (isP σ n ∧ isP σ n2) ∧ ¬ (σ 4 n.toNat = 0 ∧ σ 4 n2.toNat = 0 ∧ σ 0 n2.toNat = σ 1 n.toNat ∧ σ 2 n2.toNat = σ 2 n.toNat ∧ σ 3 n2.toNat = σ 3 n.toNat))) ∧ CR cP cR x xp xr pa ra σ u ∧ FrC h0 u) := by
  refine Cx.of (cc := cX3_merge) (maxL := 5) (ret := (some .int)) (by decide) rfl (Nat.le_of_ble_eq_true rfl) ?_
  intro p e s m args below meth c hx hb hr hts hown hlocks hml hnm hout hK hB ls hl
  have hl : lv_has ls 5 [(0, .ref x), (1, .int (iI n)), (2, .int (iI n2))] := hl
  have hF := FrC.rf h0
  have hnp := hI.hnp
  have hnr := hI.hnr
  refine lv_aload_n hx hb dX3_merge_0 rfl (lv_at hl 0 rfl) ?_
  refine lv_iload_n hx hb dX3_merge_1 rfl (lv_at hl 1 rfl) ?_
  refine m_runX (vx_runV (As := [.int (iI n)]) (rest := []) ⟨hx, hb, hml, hown, hts⟩ (k_X3_livingPartWithRange (l := l) hfl hC hI ⟨by omega, by omega⟩) (cwV 1 hts gX3_merge_X3_livingPartWithRange rfl rfl rfl (by decide +kernel) ⟨by decide, by decide⟩) ⟨Kp.blind _ _ _ _ _, m_recv hK hB (ci := 3) rfl hC.tb, fun U hU hW => hK.pass hB U hU hW⟩ rfl rfl hl.1 rfl (lv_room (Nat.le_of_ble_eq_true rfl)) dX3_merge_2 ⟨Nat.le_of_ble_eq_true rfl, Nat.le_of_ble_eq_true rfl⟩) hB (fun E u H locs q9 ce hp_1 hB hc9 hv9 hk9 => ?_) (fun v u H locs hp_1 hB => ?_)
  · obtain ⟨rfl, rfl, hn⟩ := hp_1
    exact m_out hout hlocks hB hc9 hv9 hk9 (Nat.le_of_ble_eq_true rfl) (Nat.le_of_ble_eq_true rfl) (by (repeat rw [Int.toNat_natCast]); exact ⟨Or.inl ⟨rfl, fun q => hn q.1⟩, hC, hF⟩)
  · obtain ⟨ia, rfl, li_ia, ls_ia, l1_ia, rfl, rfl⟩ := hp_1
    show W _ _ _ _ _ _ _ _ _ _ _ _ _ _ _ (F0 m 5 ls [.ref (pa ia)])
    refine lv_astore_n (lv' := [(3, .ref (pa ia)), (0, .ref x), (1, .int (iI (ia : Int))), (2, .int (iI n2))]) hx hb dX3_merge_5 rfl hl (by decide) rfl (fun ls hl => ?_)
    refine lv_aload_n hx hb dX3_merge_6 rfl (lv_at hl 1 rfl) ?_
    refine lv_iload_n hx hb dX3_merge_7 rfl (lv_at hl 3 rfl) ?_
    refine m_runX (vx_runV (As := [.int (iI n2)]) (rest := []) ⟨hx, hb, hml, hown, hts⟩ (k_X3_livingPartWithRange (l := l) hfl hC hI ⟨by omega, by omega⟩) (cwV 1 hts gX3_merge_X3_livingPartWithRange rfl rfl rfl (by decide +kernel) ⟨by decide, by decide⟩) ⟨Kp.blind _ _ _ _ _, m_recv hK hB (ci := 3) rfl hC.tb, fun U hU hW => hK.pass hB U hU hW⟩ rfl rfl hl.1 rfl (lv_room (Nat.le_of_ble_eq_true rfl)) dX3_merge_8 ⟨Nat.le_of_ble_eq_true rfl, Nat.le_of_ble_eq_true rfl⟩) hB (fun E u H locs q9 ce hp_2 hB hc9 hv9 hk9 => ?_) (fun v u H locs hp_2 hB => ?_)
    · obtain ⟨rfl, rfl, hn⟩ := hp_2
      exact m_out hout hlocks hB hc9 hv9 hk9 (Nat.le_of_ble_eq_true rfl) (Nat.le_of_ble_eq_true rfl) (by (repeat rw [Int.toNat_natCast]); exact ⟨Or.inl ⟨rfl, fun q => hn q.2⟩, hC, hF⟩)
    · obtain ⟨ib, rfl, li_ib, ls_ib, l1_ib, rfl, rfl⟩ := hp_2
      show W _ _ _ _ _ _ _ _ _ _ _ _ _ _ _ (F0 m 11 ls [.ref (pa ib)])
      refine lv_astore (lv' := [(4, .ref (pa ib)), (3, .ref (pa ia)), (0, .ref x), (1, .int (iI (ia : Int))), (2, .int (iI (ib : Int)))]) hx hb dX3_merge_11 hl (by decide) rfl (fun ls hl => ?_)
      refine lv_aload_n hx hb dX3_merge_13 rfl (lv_at hl 1 rfl) ?_
      have pf_3 := hI.part ia (by omega)
      have bd_4 := hI.bd 4 ia
      refine m_runX (vx_runS (As := [.ref (pa ia)]) (rest := []) ⟨hx, hb, hml, hown, hts⟩ (k_X3_refuseUnlessAttached (l := l) hfl (hC.pt ia (by omega)) ⟨by omega, by omega⟩) (va_cwS 1 hts gX3_merge_X3_refuseUnlessAttached rfl rfl rfl (by decide +kernel) ⟨by decide, by decide⟩) ⟨Kp.blind _ _ _ _ _, fun U hU hW => hK.pass hB U hU hW⟩ rfl rfl hl.1 rfl (lv_room (Nat.le_of_ble_eq_true rfl)) dX3_merge_14 ⟨Nat.le_of_ble_eq_true rfl, Nat.le_of_ble_eq_true rfl⟩) hB (fun E u H locs q9 ce hp_5 hB hc9 hv9 hk9 => ?_) (fun v u H locs hp_5 hB => ?_)
      · obtain ⟨rfl, rfl, hn⟩ := hp_5
        exact m_out hout hlocks hB hc9 hv9 hk9 (Nat.le_of_ble_eq_true rfl) (Nat.le_of_ble_eq_true rfl) (by (repeat rw [Int.toNat_natCast]); exact ⟨Or.inr ⟨rfl, ⟨(isP_i.mpr ⟨l1_ia, li_ia, ls_ia⟩), (isP_i.mpr ⟨l1_ib, li_ib, ls_ib⟩)⟩, fun q => hn q.1⟩, hC, hF⟩)
      · obtain ⟨rfl, rfl, hp_5'⟩ := hp_5
        show W _ _ _ _ _ _ _ _ _ _ _ _ _ _ _ (F0 m 17 ls [])
        refine lv_aload hx hb dX3_merge_17 (lv_at hl 0 rfl) ?_
        have pf_6 := hI.part ib (by omega)
        have bd_7 := hI.bd 4 ib
        refine m_runX (vx_runS (As := [.ref (pa ib)]) (rest := []) ⟨hx, hb, hml, hown, hts⟩ (k_X3_refuseUnlessAttached (l := l) hfl (hC.pt ib (by omega)) ⟨by omega, by omega⟩) (va_cwS 1 hts gX3_merge_X3_refuseUnlessAttached rfl rfl rfl (by decide +kernel) ⟨by decide, by decide⟩) ⟨Kp.blind _ _ _ _ _, fun U hU hW => hK.pass hB U hU hW⟩ rfl rfl hl.1 rfl (lv_room (Nat.le_of_ble_eq_true rfl)) dX3_merge_19 ⟨Nat.le_of_ble_eq_true rfl, Nat.le_of_ble_eq_true rfl⟩) hB (fun E u H locs q9 ce hp_8 hB hc9 hv9 hk9 => ?_) (fun v u H locs hp_8 hB => ?_)
        · obtain ⟨rfl, rfl, hn⟩ := hp_8
          exact m_out hout hlocks hB hc9 hv9 hk9 (Nat.le_of_ble_eq_true rfl) (Nat.le_of_ble_eq_true rfl) (by (repeat rw [Int.toNat_natCast]); exact ⟨Or.inr ⟨rfl, ⟨(isP_i.mpr ⟨l1_ia, li_ia, ls_ia⟩), (isP_i.mpr ⟨l1_ib, li_ib, ls_ib⟩)⟩, fun q => hn q.2.1⟩, hC, hF⟩)
        · obtain ⟨rfl, rfl, hp_8'⟩ := hp_8
          show W _ _ _ _ _ _ _ _ _ _ _ _ _ _ _ (F0 m 22 ls [])
          refine lv_aload hx hb dX3_merge_22 (lv_at hl 0 rfl) ?_
          refine m_get hx hb hts (fun _ q => List.mem_cons_of_mem _ (List.mem_append_left _ (List.mem_append_left _ (List.mem_append_left _ (List.mem_append_left _ (List.mem_append_right _ q)))))) hown hK hB (hC.pt ib (by omega)) (ci := 0) rfl 1 (by decide) (List.mem_of_getElem? (i := 3) rfl) rfl rfl dX3_merge_24 ?_
          refine lv_aload_n hx hb dX3_merge_27 rfl (lv_at hl 1 rfl) ?_
          refine m_get hx hb hts (fun _ q => List.mem_cons_of_mem _ (List.mem_append_left _ (List.mem_append_left _ (List.mem_append_left _ (List.mem_append_left _ (List.mem_append_right _ q)))))) hown hK hB (hC.pt ia (by omega)) (ci := 0) rfl 2 (by decide) (List.mem_of_getElem? (i := 4) rfl) rfl rfl dX3_merge_28 ?_
          have bd_9 := hI.bd 0 ib
          have bd_10 := hI.bd 1 ia
          refine j_icmp_eq (tgt := 44) hx hb dX3_merge_31 (by decide) ⟨by omega, by omega⟩ ⟨by omega, by omega⟩ (fun c_11 => ?_) (fun c_11 => ?_)
          · refine lv_aload hx hb dX3_merge_44 (lv_at hl 0 rfl) ?_
            refine m_get hx hb hts (fun _ q => List.mem_cons_of_mem _ (List.mem_append_left _ (List.mem_append_left _ (List.mem_append_left _ (List.mem_append_left _ (List.mem_append_right _ q)))))) hown hK hB (hC.pt ib (by omega)) (ci := 0) rfl 3 (by decide) (List.mem_of_getElem? (i := 5) rfl) rfl rfl dX3_merge_46 ?_
            refine lv_aload_n hx hb dX3_merge_49 rfl (lv_at hl 1 rfl) ?_
            refine m_get hx hb hts (fun _ q => List.mem_cons_of_mem _ (List.mem_append_left _ (List.mem_append_left _ (List.mem_append_left _ (List.mem_append_left _ (List.mem_append_right _ q)))))) hown hK hB (hC.pt ia (by omega)) (ci := 0) rfl 3 (by decide) (List.mem_of_getElem? (i := 5) rfl) rfl rfl dX3_merge_50 ?_
            have bd_12 := hI.bd 2 ib
            have bd_13 := hI.bd 2 ia
            refine j_icmp_ne (tgt := 68) hx hb dX3_merge_53 (by decide) ⟨by omega, by omega⟩ ⟨by omega, by omega⟩ (fun c_14 => ?_) (fun c_14 => ?_)
            · exact m_throw (cls := nE2) (Ts := wsX3_merge) hx hb hfl hown fitE2 hts (List.mem_of_getElem? (i := 1) rfl) (List.mem_of_getElem? (i := 2) rfl) (fun _ q => List.mem_cons_of_mem _ (List.mem_append_left _ (List.mem_append_right _ q))) ngE2 otE2 (List.mem_of_getElem? (i := 23) rfl) hK hB (hl.1.trans hml.symm) hout hlocks dX3_merge_68 dX3_merge_71 dX3_merge_72 dX3_merge_74 dX3_merge_77 (Nat.le_of_ble_eq_true rfl) (Nat.le_of_ble_eq_true rfl) (Nat.le_of_ble_eq_true rfl) (Nat.le_of_ble_eq_true rfl) (Nat.le_of_ble_eq_true rfl) (Nat.le_of_ble_eq_true rfl) (by (repeat rw [Int.toNat_natCast]); exact ⟨Or.inr ⟨rfl, ⟨(isP_i.mpr ⟨l1_ia, li_ia, ls_ia⟩), (isP_i.mpr ⟨l1_ib, li_ib, ls_ib⟩)⟩, fun q => by omega⟩, hC, hF⟩)
            · refine lv_aload hx hb dX3_merge_56 (lv_at hl 0 rfl) ?_
              refine m_get hx hb hts (fun _ q => List.mem_cons_of_mem _ (List.mem_append_left _ (List.mem_append_left _ (List.mem_append_left _ (List.mem_append_left _ (List.mem_append_right _ q)))))) hown hK hB (hC.pt ib (by omega)) (ci := 0) rfl 4 (by decide) (List.mem_of_getElem? (i := 6) rfl) rfl rfl dX3_merge_58 ?_
              refine lv_aload_n hx hb dX3_merge_61 rfl (lv_at hl 1 rfl) ?_
              refine m_get hx hb hts (fun _ q => List.mem_cons_of_mem _ (List.mem_append_left _ (List.mem_append_left _ (List.mem_append_left _ (List.mem_append_left _ (List.mem_append_right _ q)))))) hown hK hB (hC.pt ia (by omega)) (ci := 0) rfl 4 (by decide) (List.mem_of_getElem? (i := 6) rfl) rfl rfl dX3_merge_62 ?_
              have bd_15 := hI.bd 3 ib
              have bd_16 := hI.bd 3 ia
              refine j_icmp_eq (tgt := 78) hx hb dX3_merge_65 (by decide) ⟨by omega, by omega⟩ ⟨by omega, by omega⟩ (fun c_17 => ?_) (fun c_17 => ?_)
              · have hfv : σ 4 ia = 0 ∧ σ 4 ib = 0 ∧ σ 0 ib = σ 1 ia ∧ σ 2 ib = σ 2 ia ∧ σ 3 ib = σ 3 ia := ⟨by omega, by omega, by omega, by omega, by omega⟩
                have hp1 := (isP_i.mpr ⟨l1_ia, li_ia, ls_ia⟩)
                have hp2 := (isP_i.mpr ⟨l1_ib, li_ib, ls_ib⟩)
                refine lv_aload_n hx hb dX3_merge_78 rfl (lv_at hl 1 rfl) ?_
                refine lv_aload hx hb dX3_merge_79 (lv_at hl 0 rfl) ?_
                refine m_get hx hb hts (fun _ q => List.mem_cons_of_mem _ (List.mem_append_left _ (List.mem_append_left _ (List.mem_append_left _ (List.mem_append_left _ (List.mem_append_right _ q)))))) hown hK hB (hC.pt ib (by omega)) (ci := 0) rfl 2 (by decide) (List.mem_of_getElem? (i := 4) rfl) rfl rfl dX3_merge_81 ?_
                refine m_put hx hb hts (fun _ q => List.mem_cons_of_mem _ (List.mem_append_left _ (List.mem_append_left _ (List.mem_append_left _ (List.mem_append_left _ (List.mem_append_right _ q)))))) tyX0 tyX0_ok nmX0 hown hK hB (hC.pt ia (by omega)) (ci := 0) rfl 2 (by decide) (List.mem_of_getElem? (i := 4) rfl) rfl rfl rfl rfl (Nat.le_of_ble_eq_true rfl) dX3_merge_84 (fun H locs hB => ?_)
                have bd_19 := hI.bd 1 ib
                obtain ⟨h2, σ, eσ_18, hC, hI, e9, hF, hB⟩ : ∃ (h2 : Hp) (σ2 : Sg), σ2 = upS σ 1 ia (σ 1 ib) ∧ CR cP cR x xp xr pa ra σ2 h2 ∧ Ib σ2 ∧ σ2 9 0 = σ 9 0 ∧ FrC h0 h2 ∧ Bk D z s.heap h2 H locs := ⟨_, _, rfl, hC.w1 (i := ia) (by omega), hI.to1 (by omega) (by omega), upS_g (by decide), hF.tr (FrC.up (hC.pt ia (by omega)) (by simp [kd])), hB⟩
                have hnp := hI.hnp
                refine lv_aload_n hx hb dX3_merge_87 rfl (lv_at hl 2 rfl) ?_
                refine lv_aload hx hb dX3_merge_88 (lv_at hl 0 rfl) ?_
                refine lv_aload_n hx hb dX3_merge_90 rfl (lv_at hl 1 rfl) ?_
                refine m_run (va_runV (As := [.ref (pa ib), .ref (pa ia)]) (rest := []) ⟨hx, hb, hml, hown, hts⟩ (k_X3_moveRows (l := l) hC hI (i := ib) (k := ia) (by omega) (by omega)) (cwV 2 hts gX3_merge_X3_moveRows rfl rfl rfl (by decide +kernel) ⟨by decide, by decide⟩) ⟨Kp.blind _ _ _ _ _, m_recv hK hB (ci := 3) rfl hC.tb, fun U hU hW => hK.pass hB U hU hW⟩ rfl rfl hl.1 rfl (lv_room (Nat.le_of_ble_eq_true rfl)) dX3_merge_91 ⟨Nat.le_of_ble_eq_true rfl, Nat.le_of_ble_eq_true rfl⟩) hB (fun v u H locs hp_20 hB => ?_)
                obtain ⟨rfl, hC, hFm⟩ := hp_20
                show W _ _ _ _ _ _ _ _ _ _ _ _ _ _ _ (F0 m 94 ls [])
                have hF := hF.tr hFm
                obtain ⟨σ, eσ_21, hC, hI, e9⟩ : ∃ σ2 : Sg, σ2 = mvS σ ib ia 200 ∧ CR cP cR x xp xr pa ra σ2 u ∧ Ib σ2 ∧ σ2 9 0 = σ 9 0 := ⟨_, rfl, hC, (hI.mv (by omega) 200), (mvS_g (by decide))⟩
                have hnp := hI.hnp
                refine lv_aload hx hb dX3_merge_94 (lv_at hl 0 rfl) ?_
                refine j_iconst hx hb dX3_merge_96 ?_
                have pf_22 := hI.part ib (by omega)
                refine m_put hx hb hts (fun _ q => List.mem_cons_of_mem _ (List.mem_append_left _ (List.mem_append_left _ (List.mem_append_left _ (List.mem_append_left _ (List.mem_append_right _ q)))))) tyX0 tyX0_ok nmX0 hown hK hB (hC.pt ib (by omega)) (ci := 0) rfl 5 (by decide) (List.mem_of_getElem? (i := 7) rfl) rfl rfl rfl rfl (Nat.le_of_ble_eq_true rfl) dX3_merge_97 (fun H locs hB => ?_)
                obtain ⟨h2, σ, eσ_23, hC, hI, e9, hF, hB⟩ : ∃ (h2 : Hp) (σ2 : Sg), σ2 = upS σ 4 ib 2 ∧ CR cP cR x xp xr pa ra σ2 h2 ∧ Ib σ2 ∧ σ2 9 0 = σ 9 0 ∧ FrC h0 h2 ∧ Bk D z s.heap h2 H locs := ⟨_, _, rfl, hC.w4 (i := ib) (by omega), hI.st4 (by omega) (by omega), upS_g (by decide), hF.tr (FrC.up (hC.pt ib (by omega)) (by simp [kd])), hB⟩
                have hnp := hI.hnp
                refine lv_aload_n hx hb dX3_merge_100 rfl (lv_at hl 2 rfl) ?_
                refine lv_aload_n hx hb dX3_merge_101 rfl (lv_at hl 1 rfl) ?_
                refine m_run (va_runV (As := [.ref (pa ia)]) (rest := []) ⟨hx, hb, hml, hown, hts⟩ (k_X3_rowsOf (l := l) hC hI (i := ia) (by omega)) (cwV 1 hts gX3_merge_X3_rowsOf rfl rfl rfl (by decide +kernel) ⟨by decide, by decide⟩) ⟨Kp.blind _ _ _ _ _, m_recv hK hB (ci := 3) rfl hC.tb, fun U hU hW => hK.pass hB U hU hW⟩ rfl rfl hl.1 rfl (lv_room (Nat.le_of_ble_eq_true rfl)) dX3_merge_102 ⟨Nat.le_of_ble_eq_true rfl, Nat.le_of_ble_eq_true rfl⟩) hB (fun v u H locs hp_24 hB => ?_)
                obtain ⟨rfl, rfl⟩ := hp_24
                show W _ _ _ _ _ _ _ _ _ _ _ _ _ _ _ (F0 m 105 ls [.int (iI (cnt (fun j => live σ j ∧ pn σ j = ia) (nrN σ)))])
                exact vx_ret (m_zret hx hb hr rfl hlocks hB (by decide) (by decide) dX3_merge_105 (by (repeat rw [Int.toNat_natCast]); subst eσ_23; subst eσ_21; subst eσ_18; exact ⟨⟨⟨hp1, hp2⟩, hfv⟩, rfl, hC, hF⟩))
              · exact m_throw (cls := nE2) (Ts := wsX3_merge) hx hb hfl hown fitE2 hts (List.mem_of_getElem? (i := 1) rfl) (List.mem_of_getElem? (i := 2) rfl) (fun _ q => List.mem_cons_of_mem _ (List.mem_append_left _ (List.mem_append_right _ q))) ngE2 otE2 (List.mem_of_getElem? (i := 23) rfl) hK hB (hl.1.trans hml.symm) hout hlocks dX3_merge_68 dX3_merge_71 dX3_merge_72 dX3_merge_74 dX3_merge_77 (Nat.le_of_ble_eq_true rfl) (Nat.le_of_ble_eq_true rfl) (Nat.le_of_ble_eq_true rfl) (Nat.le_of_ble_eq_true rfl) (Nat.le_of_ble_eq_true rfl) (Nat.le_of_ble_eq_true rfl) (by (repeat rw [Int.toNat_natCast]); exact ⟨Or.inr ⟨rfl, ⟨(isP_i.mpr ⟨l1_ia, li_ia, ls_ia⟩), (isP_i.mpr ⟨l1_ib, li_ib, ls_ib⟩)⟩, fun q => by omega⟩, hC, hF⟩)
          · exact m_throw (cls := nE2) (Ts := wsX3_merge) hx hb hfl hown fitE2 hts (List.mem_of_getElem? (i := 1) rfl) (List.mem_of_getElem? (i := 2) rfl) (fun _ q => List.mem_cons_of_mem _ (List.mem_append_left _ (List.mem_append_right _ q))) ngE2 otE2 (List.mem_of_getElem? (i := 22) rfl) hK hB (hl.1.trans hml.symm) hout hlocks dX3_merge_34 dX3_merge_37 dX3_merge_38 dX3_merge_40 dX3_merge_43 (Nat.le_of_ble_eq_true rfl) (Nat.le_of_ble_eq_true rfl) (Nat.le_of_ble_eq_true rfl) (Nat.le_of_ble_eq_true rfl) (Nat.le_of_ble_eq_true rfl) (Nat.le_of_ble_eq_true rfl) (by (repeat rw [Int.toNat_natCast]); exact ⟨Or.inr ⟨rfl, ⟨(isP_i.mpr ⟨l1_ia, li_ia, ls_ia⟩), (isP_i.mpr ⟨l1_ib, li_ib, ls_ib⟩)⟩, fun q => by omega⟩, hC, hF⟩)

abbrev rmX3_detach : Room := { frames := 9, cells := 4, slots := 24, locals := 156 }
set_option maxHeartbeats 4000000 in
set_option maxRecDepth 100000 in
theorem k_X3_detach {l : Launch} {D : va_G} {z : Nat} {cI cP cR cJ : ClassId} {h0 : Hp} (hfl : l.stackTraces = false) {x xp xr : Nat} {pa ra : Nat → Nat} {σ : Sg} (hC : CR cP cR x xp xr pa ra σ h0) (hI : Ib σ) {n : Int} (rn : rg n) : Cx l D z (tyL cI cP cR cJ) yX3_detach wsX3_detach rmX3_detach [.ref x, .int (iI n)] h0 (fun v u => (isP σ n ∧ σ 4 n.toNat = 0) ∧ v = some (.int (iI (cnt (fun j => live (upS (upS σ 4 n.toNat 1) 11 0 1) j ∧ pn (upS (upS σ 4 n.toNat 1) 11 0 1) j = n.toNat) (nrN (upS (upS σ 4 n.toNat 1) 11 0 1))))) ∧ CR cP cR x xp xr pa ra (upS (upS σ 4 n.toNat 1) 11 0 1) u ∧ FrC h0 u) (fun E u => ((E = nE3 ∧ ¬ isP σ n) ∨ (E = nE2 ∧ isP σ n ∧ σ 4 n.toNat ≠ 0)) ∧ CR cP cR x xp xr pa ra σ u ∧ FrC h0 u) := by
  refine Cx.of (cc := cX3_detach) (maxL := 3) (ret := (some .int)) (by decide) rfl (Nat.le_of_ble_eq_true rfl) ?_
  intro p e s m args below meth c hx hb hr hts hown hlocks hml hnm hout hK hB ls hl
  have hl : lv_has ls 3 [(0, .ref x), (1, .int (iI n))] := hl
  have hF := FrC.rf h0
  have hnp := hI.hnp
  have hnr := hI.hnr
  refine lv_aload_n hx hb dX3_detach_0 rfl (lv_at hl 0 rfl) ?_
  refine lv_iload_n hx hb dX3_detach_1 rfl (lv_at hl 1 rfl) ?_
  refine m_runX (vx_runV (As := [.int (iI n)]) (rest := []) ⟨hx, hb, hml, hown, hts⟩ (k_X3_livingPartWithRange (l := l) hfl hC hI ⟨by omega, by omega⟩) (cwV 1 hts gX3_detach_X3_livingPartWithRange rfl rfl rfl (by decide +kernel) ⟨by decide, by decide⟩) ⟨Kp.blind _ _ _ _ _, m_recv hK hB (ci := 3) rfl hC.tb, fun U hU hW => hK.pass hB U hU hW⟩ rfl rfl hl.1 rfl (lv_room (Nat.le_of_ble_eq_true rfl)) dX3_detach_2 ⟨Nat.le_of_ble_eq_true rfl, Nat.le_of_ble_eq_true rfl⟩) hB (fun E u H locs q9 ce hp_1 hB hc9 hv9 hk9 => ?_) (fun v u H locs hp_1 hB => ?_)
  · obtain ⟨rfl, rfl, hn⟩ := hp_1
    exact m_out hout hlocks hB hc9 hv9 hk9 (Nat.le_of_ble_eq_true rfl) (Nat.le_of_ble_eq_true rfl) (by (repeat rw [Int.toNat_natCast]); exact ⟨Or.inl ⟨rfl, hn⟩, hC, hF⟩)
  · obtain ⟨ia, rfl, li_ia, ls_ia, l1_ia, rfl, rfl⟩ := hp_1
    show W _ _ _ _ _ _ _ _ _ _ _ _ _ _ _ (F0 m 5 ls [.ref (pa ia)])
    refine lv_astore_n (lv' := [(2, .ref (pa ia)), (0, .ref x), (1, .int (iI (ia : Int)))]) hx hb dX3_detach_5 rfl hl (by decide) rfl (fun ls hl => ?_)
    refine lv_aload_n hx hb dX3_detach_6 rfl (lv_at hl 0 rfl) ?_
    have pf_2 := hI.part ia (by omega)
    have bd_3 := hI.bd 4 ia
    refine m_runX (vx_runS (As := [.ref (pa ia)]) (rest := []) ⟨hx, hb, hml, hown, hts⟩ (k_X3_refuseUnlessAttached (l := l) hfl (hC.pt ia (by omega)) ⟨by omega, by omega⟩) (va_cwS 1 hts gX3_detach_X3_refuseUnlessAttached rfl rfl rfl (by decide +kernel) ⟨by decide, by decide⟩) ⟨Kp.blind _ _ _ _ _, fun U hU hW => hK.pass hB U hU hW⟩ rfl rfl hl.1 rfl (lv_room (Nat.le_of_ble_eq_true rfl)) dX3_detach_7 ⟨Nat.le_of_ble_eq_true rfl, Nat.le_of_ble_eq_true rfl⟩) hB (fun E u H locs q9 ce hp_4 hB hc9 hv9 hk9 => ?_) (fun v u H locs hp_4 hB => ?_)
    · obtain ⟨rfl, rfl, hn⟩ := hp_4
      exact m_out hout hlocks hB hc9 hv9 hk9 (Nat.le_of_ble_eq_true rfl) (Nat.le_of_ble_eq_true rfl) (by (repeat rw [Int.toNat_natCast]); exact ⟨Or.inr ⟨rfl, (isP_i.mpr ⟨l1_ia, li_ia, ls_ia⟩), hn⟩, hC, hF⟩)
    · obtain ⟨rfl, rfl, hp_4'⟩ := hp_4
      show W _ _ _ _ _ _ _ _ _ _ _ _ _ _ _ (F0 m 10 ls [])
      have hp1 := (isP_i.mpr ⟨l1_ia, li_ia, ls_ia⟩)
      refine lv_aload_n hx hb dX3_detach_10 rfl (lv_at hl 0 rfl) ?_
      refine j_iconst hx hb dX3_detach_11 ?_
      refine m_put hx hb hts (fun _ q => List.mem_cons_of_mem _ (List.mem_append_left _ (List.mem_append_left _ (List.mem_append_left _ (List.mem_append_left _ (List.mem_append_right _ q)))))) tyX0 tyX0_ok nmX0 hown hK hB (hC.pt ia (by omega)) (ci := 0) rfl 5 (by decide) (List.mem_of_getElem? (i := 1) rfl) rfl rfl rfl rfl (Nat.le_of_ble_eq_true rfl) dX3_detach_12 (fun H locs hB => ?_)
      obtain ⟨h2, σ, eσ_5, hC, hI, e9, hF, hB⟩ : ∃ (h2 : Hp) (σ2 : Sg), σ2 = upS σ 4 ia 1 ∧ CR cP cR x xp xr pa ra σ2 h2 ∧ Ib σ2 ∧ σ2 9 0 = σ 9 0 ∧ FrC h0 h2 ∧ Bk D z s.heap h2 H locs := ⟨_, _, rfl, hC.w4 (i := ia) (by omega), hI.st4 (by omega) (by omega), upS_g (by decide), hF.tr (FrC.up (hC.pt ia (by omega)) (by simp [kd])), hB⟩
      have hnp := hI.hnp
      refine lv_aload_n hx hb dX3_detach_15 rfl (lv_at hl 1 rfl) ?_
      refine j_iconst hx hb dX3_detach_16 ?_
      refine m_put hx hb hts (fun _ q => List.mem_cons_of_mem _ (List.mem_append_left _ (List.mem_append_left _ (List.mem_append_left _ (List.mem_append_right _ q))))) tyX3 tyX3_ok nmX3 hown hK hB hC.tb (ci := 3) rfl 5 (by decide) (List.mem_of_getElem? (i := 2) rfl) rfl rfl (by decide) (by decide) (Nat.le_of_ble_eq_true rfl) dX3_detach_17 (fun H locs hB => ?_)
      obtain ⟨h2, σ, eσ_6, hC, hI, e9, hF, hB⟩ : ∃ (h2 : Hp) (σ2 : Sg), σ2 = upS σ 11 0 1 ∧ CR cP cR x xp xr pa ra σ2 h2 ∧ Ib σ2 ∧ σ2 9 0 = σ 9 0 ∧ FrC h0 h2 ∧ Bk D z s.heap h2 H locs := ⟨_, _, rfl, hC.wstale, hI.stale (by omega), upS_g (by decide), hF.tr (FrC.up (hC.tb) (by simp [kd])), hB⟩
      have hnp := hI.hnp
      refine lv_aload_n hx hb dX3_detach_20 rfl (lv_at hl 1 rfl) ?_
      refine lv_aload_n hx hb dX3_detach_21 rfl (lv_at hl 0 rfl) ?_
      refine m_run (va_runV (As := [.ref (pa ia)]) (rest := []) ⟨hx, hb, hml, hown, hts⟩ (k_X3_rowsOf (l := l) hC hI (i := ia) (by omega)) (cwV 1 hts gX3_detach_X3_rowsOf rfl rfl rfl (by decide +kernel) ⟨by decide, by decide⟩) ⟨Kp.blind _ _ _ _ _, m_recv hK hB (ci := 3) rfl hC.tb, fun U hU hW => hK.pass hB U hU hW⟩ rfl rfl hl.1 rfl (lv_room (Nat.le_of_ble_eq_true rfl)) dX3_detach_22 ⟨Nat.le_of_ble_eq_true rfl, Nat.le_of_ble_eq_true rfl⟩) hB (fun v u H locs hp_7 hB => ?_)
      obtain ⟨rfl, rfl⟩ := hp_7
      show W _ _ _ _ _ _ _ _ _ _ _ _ _ _ _ (F0 m 25 ls [.int (iI (cnt (fun j => live σ j ∧ pn σ j = ia) (nrN σ)))])
      exact vx_ret (m_zret hx hb hr rfl hlocks hB (by decide) (by decide) dX3_detach_25 (by have h4 := hp_4'; (repeat rw [Int.toNat_natCast]); subst eσ_6; subst eσ_5; exact ⟨⟨hp1, h4⟩, rfl, hC, hF⟩))

abbrev rmX3_attach : Room := { frames := 9, cells := 6, slots := 36, locals := 156 }
set_option maxHeartbeats 4000000 in
set_option maxRecDepth 100000 in
theorem k_X3_attach {l : Launch} {D : va_G} {z : Nat} {cI cP cR cJ : ClassId} {h0 : Hp} (hfl : l.stackTraces = false) {x xp xr : Nat} {pa ra : Nat → Nat} {σ : Sg} (hC : CR cP cR x xp xr pa ra σ h0) (hI : Ib σ) {n : Int} (rn : rg n) : Cx l D z (tyL cI cP cR cJ) yX3_attach wsX3_attach rmX3_attach [.ref x, .int (iI n)] h0 (fun v u => (isP σ n ∧ (σ 4 n.toNat = 1 ∧ ¬ ovl σ (σ 0 n.toNat) (σ 1 n.toNat) ∧ ¬ inR σ (σ 0 n.toNat) (σ 1 n.toNat))) ∧ v = some (.int (iI (cnt (fun j => live (upS (upS σ 4 n.toNat 0) 11 0 1) j ∧ pn (upS (upS σ 4 n.toNat 0) 11 0 1) j = n.toNat) (nrN (upS (upS σ 4 n.toNat 0) 11 0 1))))) ∧ CR cP cR x xp xr pa ra (upS (upS σ 4 n.toNat 0) 11 0 1) u ∧ FrC h0 u) (fun E u => ((E = nE3 ∧ ¬ isP σ n) ∨ (E = nE2 ∧ isP σ n ∧ ¬ (σ 4 n.toNat = 1 ∧ ¬ ovl σ (σ 0 n.toNat) (σ 1 n.toNat) ∧ ¬ inR σ (σ 0 n.toNat) (σ 1 n.toNat)))) ∧ CR cP cR x xp xr pa ra σ u ∧ FrC h0 u) := by
  refine Cx.of (cc := cX3_attach) (maxL := 3) (ret := (some .int)) (by decide) rfl (Nat.le_of_ble_eq_true rfl) ?_
  intro p e s m args below meth c hx hb hr hts hown hlocks hml hnm hout hK hB ls hl
  have hl : lv_has ls 3 [(0, .ref x), (1, .int (iI n))] := hl
  have hF := FrC.rf h0
  have hnp := hI.hnp
  have hnr := hI.hnr
  refine lv_aload_n hx hb dX3_attach_0 rfl (lv_at hl 0 rfl) ?_
  refine lv_iload_n hx hb dX3_attach_1 rfl (lv_at hl 1 rfl) ?_
  refine m_runX (vx_runV (As := [.int (iI n)]) (rest := []) ⟨hx, hb, hml, hown, hts⟩ (k_X3_livingPartWithRange (l := l) hfl hC hI ⟨by omega, by omega⟩) (cwV 1 hts gX3_attach_X3_livingPartWithRange rfl rfl rfl (by decide +kernel) ⟨by decide, by decide⟩) ⟨Kp.blind _ _ _ _ _, m_recv hK hB (ci := 3) rfl hC.tb, fun U hU hW => hK.pass hB U hU hW⟩ rfl rfl hl.1 rfl (lv_room (Nat.le_of_ble_eq_true rfl)) dX3_attach_2 ⟨Nat.le_of_ble_eq_true rfl, Nat.le_of_ble_eq_true rfl⟩) hB (fun E u H locs q9 ce hp_1 hB hc9 hv9 hk9 => ?_) (fun v u H locs hp_1 hB => ?_)
  · obtain ⟨rfl, rfl, hn⟩ := hp_1
    exact m_out hout hlocks hB hc9 hv9 hk9 (Nat.le_of_ble_eq_true rfl) (Nat.le_of_ble_eq_true rfl) (by (repeat rw [Int.toNat_natCast]); exact ⟨Or.inl ⟨rfl, hn⟩, hC, hF⟩)
  · obtain ⟨ia, rfl, li_ia, ls_ia, l1_ia, rfl, rfl⟩ := hp_1
    show W _ _ _ _ _ _ _ _ _ _ _ _ _ _ _ (F0 m 5 ls [.ref (pa ia)])
    refine lv_astore_n (lv' := [(2, .ref (pa ia)), (0, .ref x), (1, .int (iI (ia : Int)))]) hx hb dX3_attach_5 rfl hl (by decide) rfl (fun ls hl => ?_)
    refine lv_aload_n hx hb dX3_attach_6 rfl (lv_at hl 0 rfl) ?_
    have pf_2 := hI.part ia (by omega)
    have bd_3 := hI.bd 4 ia
    refine m_runX (vx_runS (As := [.ref (pa ia)]) (rest := []) ⟨hx, hb, hml, hown, hts⟩ (k_X3_refuseUnlessDetached (l := l) hfl (hC.pt ia (by omega)) ⟨by omega, by omega⟩) (va_cwS 1 hts gX3_attach_X3_refuseUnlessDetached rfl rfl rfl (by decide +kernel) ⟨by decide, by decide⟩) ⟨Kp.blind _ _ _ _ _, fun U hU hW => hK.pass hB U hU hW⟩ rfl rfl hl.1 rfl (lv_room (Nat.le_of_ble_eq_true rfl)) dX3_attach_7 ⟨Nat.le_of_ble_eq_true rfl, Nat.le_of_ble_eq_true rfl⟩) hB (fun E u H locs q9 ce hp_4 hB hc9 hv9 hk9 => ?_) (fun v u H locs hp_4 hB => ?_)
    · obtain ⟨rfl, rfl, hn⟩ := hp_4
      exact m_out hout hlocks hB hc9 hv9 hk9 (Nat.le_of_ble_eq_true rfl) (Nat.le_of_ble_eq_true rfl) (by (repeat rw [Int.toNat_natCast]); exact ⟨Or.inr ⟨rfl, (isP_i.mpr ⟨l1_ia, li_ia, ls_ia⟩), fun q => hn q.1⟩, hC, hF⟩)
    · obtain ⟨rfl, rfl, hp_4'⟩ := hp_4
      show W _ _ _ _ _ _ _ _ _ _ _ _ _ _ _ (F0 m 10 ls [])
      refine lv_aload_n hx hb dX3_attach_10 rfl (lv_at hl 1 rfl) ?_
      refine lv_aload_n hx hb dX3_attach_11 rfl (lv_at hl 0 rfl) ?_
      refine m_runX (vx_runV (As := [.ref (pa ia)]) (rest := []) ⟨hx, hb, hml, hown, hts⟩ (k_X3_refuseOverlap (l := l) hfl hC hI (hC.pt ia (by omega)) (by omega) (by omega) (by omega) (by omega)) (cwV 1 hts gX3_attach_X3_refuseOverlap rfl rfl rfl (by decide +kernel) ⟨by decide, by decide⟩) ⟨Kp.blind _ _ _ _ _, m_recv hK hB (ci := 3) rfl hC.tb, fun U hU hW => hK.pass hB U hU hW⟩ rfl rfl hl.1 rfl (lv_room (Nat.le_of_ble_eq_true rfl)) dX3_attach_12 ⟨Nat.le_of_ble_eq_true rfl, Nat.le_of_ble_eq_true rfl⟩) hB (fun E u H locs q9 ce hp_5 hB hc9 hv9 hk9 => ?_) (fun v u H locs hp_5 hB => ?_)
      · obtain ⟨rfl, rfl, hn⟩ := hp_5
        exact m_out hout hlocks hB hc9 hv9 hk9 (Nat.le_of_ble_eq_true rfl) (Nat.le_of_ble_eq_true rfl) (by (repeat rw [Int.toNat_natCast]); exact ⟨Or.inr ⟨rfl, (isP_i.mpr ⟨l1_ia, li_ia, ls_ia⟩), fun q => q.2.1 hn⟩, hC, hF⟩)
      · obtain ⟨rfl, rfl, hp_5'⟩ := hp_5
        show W _ _ _ _ _ _ _ _ _ _ _ _ _ _ _ (F0 m 15 ls [])
        refine lv_aload_n hx hb dX3_attach_15 rfl (lv_at hl 1 rfl) ?_
        refine lv_aload_n hx hb dX3_attach_16 rfl (lv_at hl 0 rfl) ?_
        refine m_runX (vx_runV (As := [.ref (pa ia)]) (rest := []) ⟨hx, hb, hml, hown, hts⟩ (k_X3_refuseRowsOfRest (l := l) hfl hC hI (hC.pt ia (by omega)) (by omega) (by omega) (by omega) (by omega)) (cwV 1 hts gX3_attach_X3_refuseRowsOfRest rfl rfl rfl (by decide +kernel) ⟨by decide, by decide⟩) ⟨Kp.blind _ _ _ _ _, m_recv hK hB (ci := 3) rfl hC.tb, fun U hU hW => hK.pass hB U hU hW⟩ rfl rfl hl.1 rfl (lv_room (Nat.le_of_ble_eq_true rfl)) dX3_attach_17 ⟨Nat.le_of_ble_eq_true rfl, Nat.le_of_ble_eq_true rfl⟩) hB (fun E u H locs q9 ce hp_6 hB hc9 hv9 hk9 => ?_) (fun v u H locs hp_6 hB => ?_)
        · obtain ⟨rfl, rfl, hn⟩ := hp_6
          exact m_out hout hlocks hB hc9 hv9 hk9 (Nat.le_of_ble_eq_true rfl) (Nat.le_of_ble_eq_true rfl) (by (repeat rw [Int.toNat_natCast]); exact ⟨Or.inr ⟨rfl, (isP_i.mpr ⟨l1_ia, li_ia, ls_ia⟩), fun q => q.2.2 hn⟩, hC, hF⟩)
        · obtain ⟨rfl, rfl, hp_6'⟩ := hp_6
          show W _ _ _ _ _ _ _ _ _ _ _ _ _ _ _ (F0 m 20 ls [])
          have hp1 := (isP_i.mpr ⟨l1_ia, li_ia, ls_ia⟩)
          refine lv_aload_n hx hb dX3_attach_20 rfl (lv_at hl 0 rfl) ?_
          refine j_iconst hx hb dX3_attach_21 ?_
          refine m_put hx hb hts (fun _ q => List.mem_cons_of_mem _ (List.mem_append_left _ (List.mem_append_left _ (List.mem_append_left _ (List.mem_append_left _ (List.mem_append_right _ q)))))) tyX0 tyX0_ok nmX0 hown hK hB (hC.pt ia (by omega)) (ci := 0) rfl 5 (by decide) (List.mem_of_getElem? (i := 1) rfl) rfl rfl rfl rfl (Nat.le_of_ble_eq_true rfl) dX3_attach_22 (fun H locs hB => ?_)
          obtain ⟨h2, σ, eσ_7, hC, hI, e9, hF, hB⟩ : ∃ (h2 : Hp) (σ2 : Sg), σ2 = upS σ 4 ia 0 ∧ CR cP cR x xp xr pa ra σ2 h2 ∧ Ib σ2 ∧ σ2 9 0 = σ 9 0 ∧ FrC h0 h2 ∧ Bk D z s.heap h2 H locs := ⟨_, _, rfl, hC.w4 (i := ia) (by omega), hI.st4 (by omega) (by omega), upS_g (by decide), hF.tr (FrC.up (hC.pt ia (by omega)) (by simp [kd])), hB⟩
          have hnp := hI.hnp
          refine lv_aload_n hx hb dX3_attach_25 rfl (lv_at hl 1 rfl) ?_
          refine j_iconst hx hb dX3_attach_26 ?_
          refine m_put hx hb hts (fun _ q => List.mem_cons_of_mem _ (List.mem_append_left _ (List.mem_append_left _ (List.mem_append_left _ (List.mem_append_right _ q))))) tyX3 tyX3_ok nmX3 hown hK hB hC.tb (ci := 3) rfl 5 (by decide) (List.mem_of_getElem? (i := 2) rfl) rfl rfl (by decide) (by decide) (Nat.le_of_ble_eq_true rfl) dX3_attach_27 (fun H locs hB => ?_)
          obtain ⟨h2, σ, eσ_8, hC, hI, e9, hF, hB⟩ : ∃ (h2 : Hp) (σ2 : Sg), σ2 = upS σ 11 0 1 ∧ CR cP cR x xp xr pa ra σ2 h2 ∧ Ib σ2 ∧ σ2 9 0 = σ 9 0 ∧ FrC h0 h2 ∧ Bk D z s.heap h2 H locs := ⟨_, _, rfl, hC.wstale, hI.stale (by omega), upS_g (by decide), hF.tr (FrC.up (hC.tb) (by simp [kd])), hB⟩
          have hnp := hI.hnp
          refine lv_aload_n hx hb dX3_attach_30 rfl (lv_at hl 1 rfl) ?_
          refine lv_aload_n hx hb dX3_attach_31 rfl (lv_at hl 0 rfl) ?_
          refine m_run (va_runV (As := [.ref (pa ia)]) (rest := []) ⟨hx, hb, hml, hown, hts⟩ (k_X3_rowsOf (l := l) hC hI (i := ia) (by omega)) (cwV 1 hts gX3_attach_X3_rowsOf rfl rfl rfl (by decide +kernel) ⟨by decide, by decide⟩) ⟨Kp.blind _ _ _ _ _, m_recv hK hB (ci := 3) rfl hC.tb, fun U hU hW => hK.pass hB U hU hW⟩ rfl rfl hl.1 rfl (lv_room (Nat.le_of_ble_eq_true rfl)) dX3_attach_32 ⟨Nat.le_of_ble_eq_true rfl, Nat.le_of_ble_eq_true rfl⟩) hB (fun v u H locs hp_9 hB => ?_)
          obtain ⟨rfl, rfl⟩ := hp_9
          show W _ _ _ _ _ _ _ _ _ _ _ _ _ _ _ (F0 m 35 ls [.int (iI (cnt (fun j => live σ j ∧ pn σ j = ia) (nrN σ)))])
          exact vx_ret (m_zret hx hb hr rfl hlocks hB (by decide) (by decide) dX3_attach_35 (by have h4 := hp_4'; have h5 := hp_5'; have h6 := hp_6'; (repeat rw [Int.toNat_natCast]); subst eσ_8; subst eσ_7; exact ⟨⟨hp1, h4, h5, h6⟩, rfl, hC, hF⟩))

abbrev rmX3_exchange : Room := { frames := 9, cells := 10, slots := 60, locals := 156 }
set_option maxHeartbeats 4000000 in
set_option maxRecDepth 100000 in
theorem k_X3_exchange {l : Launch} {D : va_G} {z : Nat} {cI cP cR cJ : ClassId} {h0 : Hp} (hfl : l.stackTraces = false) {x xp xr : Nat} {pa ra : Nat → Nat} {σ : Sg} (hC : CR cP cR x xp xr pa ra σ h0) (hI : Ib σ) {n n2 : Int} (rn : rg n) (rn2 : rg n2) : Cx l D z (tyL cI cP cR cJ) yX3_exchange wsX3_exchange rmX3_exchange [.ref x, .int (iI n), .int (iI n2)] h0 (fun v u => ((isP σ n ∧ isP σ n2) ∧ (σ 4 n.toNat = 0 ∧ σ 4 n2.toNat = 1 ∧ ¬ forn σ n.toNat n2.toNat ∧ ¬ forn σ n2.toNat n.toNat)) ∧ v = some (.int (iI (cnt (fun j => live (upS (swS σ n.toNat n2.toNat 200) 11 0 1) j ∧ pn (upS (swS σ n.toNat n2.toNat 200) 11 0 1) j = n.toNat) (nrN (upS (swS σ n.toNat n2.toNat 200) 11 0 1))))) ∧ CR cP cR x xp xr pa ra (upS (swS σ n.toNat n2.toNat 200) 11 0 1) u ∧ FrC h0 u) (fun E u => ((E = nE3 ∧ ¬ (isP σ n ∧ isP σ n2)) ∨ (E = nE2 ∧ (isP σ n ∧ isP σ n2) ∧ ¬ (σ 4 n.toNat = 0 ∧ σ 4 n2.toNat = 1 ∧ ¬ forn σ n.toNat n2.toNat ∧ ¬ forn σ n2.toNat n.toNat))) ∧ CR cP cR x xp xr pa ra σ u ∧ FrC h0 u) := by
  refine Cx.of (cc := cX3_exchange) (maxL := 5) (ret := (some .int)) (by decide) rfl (Nat.le_of_ble_eq_true rfl) ?_
  intro p e s m args below meth c hx hb hr hts hown hlocks hml hnm hout hK hB ls hl
  have hl : lv_has ls 5 [(0, .ref x), (1, .int (iI n)), (2, .int (iI n2))] := hl
  have hF := FrC.rf h0
  have hnp := hI.hnp
  have hnr := hI.hnr
  refine lv_aload_n hx hb dX3_exchange_0 rfl (lv_at hl 0 rfl) ?_
  refine lv_iload_n hx hb dX3_exchange_1 rfl (lv_at hl 1 rfl) ?_
  refine m_runX (vx_runV (As := [.int (iI n)]) (rest := []) ⟨hx, hb, hml, hown, hts⟩ (k_X3_livingPartWithRange (l := l) hfl hC hI ⟨by omega, by omega⟩) (cwV 1 hts gX3_exchange_X3_livingPartWithRange rfl rfl rfl (by decide +kernel) ⟨by decide, by decide⟩) ⟨Kp.blind _ _ _ _ _, m_recv hK hB (ci := 3) rfl hC.tb, fun U hU hW => hK.pass hB U hU hW⟩ rfl rfl hl.1 rfl (lv_room (Nat.le_of_ble_eq_true rfl)) dX3_exchange_2 ⟨Nat.le_of_ble_eq_true rfl, Nat.le_of_ble_eq_true rfl⟩) hB (fun E u H locs q9 ce hp_1 hB hc9 hv9 hk9 => ?_) (fun v u H locs hp_1 hB => ?_)
  · obtain ⟨rfl, rfl, hn⟩ := hp_1
    exact m_out hout hlocks hB hc9 hv9 hk9 (Nat.le_of_ble_eq_true rfl) (Nat.le_of_ble_eq_true rfl) (by (repeat rw [Int.toNat_natCast]); exact ⟨Or.inl ⟨rfl, fun q => hn q.1⟩, hC, hF⟩)
  · obtain ⟨ia, rfl, li_ia, ls_ia, l1_ia, rfl, rfl⟩ := hp_1
    show W _ _ _ _ _ _ _ _ _ _ _ _ _ _ _ (F0 m 5 ls [.ref (pa ia)])
    refine lv_astore_n (lv' := [(3, .ref (pa ia)), (0, .ref x), (1, .int (iI (ia : Int))), (2, .int (iI n2))]) hx hb dX3_exchange_5 rfl hl (by decide) rfl (fun ls hl => ?_)
    refine lv_aload_n hx hb dX3_exchange_6 rfl (lv_at hl 1 rfl) ?_
    refine lv_iload_n hx hb dX3_exchange_7 rfl (lv_at hl 3 rfl) ?_
    refine m_runX (vx_runV (As := [.int (iI n2)]) (rest := []) ⟨hx, hb, hml, hown, hts⟩ (k_X3_livingPartWithRange (l := l) hfl hC hI ⟨by omega, by omega⟩) (cwV 1 hts gX3_exchange_X3_livingPartWithRange rfl rfl rfl (by decide +kernel) ⟨by decide, by decide⟩) ⟨Kp.blind _ _ _ _ _, m_recv hK hB (ci := 3) rfl hC.tb, fun U hU hW => hK.pass hB U hU hW⟩ rfl rfl hl.1 rfl (lv_room (Nat.le_of_ble_eq_true rfl)) dX3_exchange_8 ⟨Nat.le_of_ble_eq_true rfl, Nat.le_of_ble_eq_true rfl⟩) hB (fun E u H locs q9 ce hp_2 hB hc9 hv9 hk9 => ?_) (fun v u H locs hp_2 hB => ?_)
    · obtain ⟨rfl, rfl, hn⟩ := hp_2
      exact m_out hout hlocks hB hc9 hv9 hk9 (Nat.le_of_ble_eq_true rfl) (Nat.le_of_ble_eq_true rfl) (by (repeat rw [Int.toNat_natCast]); exact ⟨Or.inl ⟨rfl, fun q => hn q.2⟩, hC, hF⟩)
    · obtain ⟨ib, rfl, li_ib, ls_ib, l1_ib, rfl, rfl⟩ := hp_2
      show W _ _ _ _ _ _ _ _ _ _ _ _ _ _ _ (F0 m 11 ls [.ref (pa ib)])
      refine lv_astore (lv' := [(4, .ref (pa ib)), (3, .ref (pa ia)), (0, .ref x), (1, .int (iI (ia : Int))), (2, .int (iI (ib : Int)))]) hx hb dX3_exchange_11 hl (by decide) rfl (fun ls hl => ?_)
      refine lv_aload_n hx hb dX3_exchange_13 rfl (lv_at hl 1 rfl) ?_
      have pf_3 := hI.part ia (by omega)
      have bd_4 := hI.bd 4 ia
      refine m_runX (vx_runS (As := [.ref (pa ia)]) (rest := []) ⟨hx, hb, hml, hown, hts⟩ (k_X3_refuseUnlessAttached (l := l) hfl (hC.pt ia (by omega)) ⟨by omega, by omega⟩) (va_cwS 1 hts gX3_exchange_X3_refuseUnlessAttached rfl rfl rfl (by decide +kernel) ⟨by decide, by decide⟩) ⟨Kp.blind _ _ _ _ _, fun U hU hW => hK.pass hB U hU hW⟩ rfl rfl hl.1 rfl (lv_room (Nat.le_of_ble_eq_true rfl)) dX3_exchange_14 ⟨Nat.le_of_ble_eq_true rfl, Nat.le_of_ble_eq_true rfl⟩) hB (fun E u H locs q9 ce hp_5 hB hc9 hv9 hk9 => ?_) (fun v u H locs hp_5 hB => ?_)
      · obtain ⟨rfl, rfl, hn⟩ := hp_5
        exact m_out hout hlocks hB hc9 hv9 hk9 (Nat.le_of_ble_eq_true rfl) (Nat.le_of_ble_eq_true rfl) (by (repeat rw [Int.toNat_natCast]); exact ⟨Or.inr ⟨rfl, ⟨(isP_i.mpr ⟨l1_ia, li_ia, ls_ia⟩), (isP_i.mpr ⟨l1_ib, li_ib, ls_ib⟩)⟩, fun q => hn q.1⟩, hC, hF⟩)
      · obtain ⟨rfl, rfl, hp_5'⟩ := hp_5
        show W _ _ _ _ _ _ _ _ _ _ _ _ _ _ _ (F0 m 17 ls [])
        refine lv_aload hx hb dX3_exchange_17 (lv_at hl 0 rfl) ?_
        have pf_6 := hI.part ib (by omega)
        have bd_7 := hI.bd 4 ib
        refine m_runX (vx_runS (As := [.ref (pa ib)]) (rest := []) ⟨hx, hb, hml, hown, hts⟩ (k_X3_refuseUnlessDetached (l := l) hfl (hC.pt ib (by omega)) ⟨by omega, by omega⟩) (va_cwS 1 hts gX3_exchange_X3_refuseUnlessDetached rfl rfl rfl (by decide +kernel) ⟨by decide, by decide⟩) ⟨Kp.blind _ _ _ _ _, fun U hU hW => hK.pass hB U hU hW⟩ rfl rfl hl.1 rfl (lv_room (Nat.le_of_ble_eq_true rfl)) dX3_exchange_19 ⟨Nat.le_of_ble_eq_true rfl, Nat.le_of_ble_eq_true rfl⟩) hB (fun E u H locs q9 ce hp_8 hB hc9 hv9 hk9 => ?_) (fun v u H locs hp_8 hB => ?_)
        · obtain ⟨rfl, rfl, hn⟩ := hp_8
          exact m_out hout hlocks hB hc9 hv9 hk9 (Nat.le_of_ble_eq_true rfl) (Nat.le_of_ble_eq_true rfl) (by (repeat rw [Int.toNat_natCast]); exact ⟨Or.inr ⟨rfl, ⟨(isP_i.mpr ⟨l1_ia, li_ia, ls_ia⟩), (isP_i.mpr ⟨l1_ib, li_ib, ls_ib⟩)⟩, fun q => hn q.2.1⟩, hC, hF⟩)
        · obtain ⟨rfl, rfl, hp_8'⟩ := hp_8
          show W _ _ _ _ _ _ _ _ _ _ _ _ _ _ _ (F0 m 22 ls [])
          refine lv_aload_n hx hb dX3_exchange_22 rfl (lv_at hl 2 rfl) ?_
          refine lv_aload_n hx hb dX3_exchange_23 rfl (lv_at hl 1 rfl) ?_
          refine lv_aload hx hb dX3_exchange_24 (lv_at hl 0 rfl) ?_
          refine m_runX (vx_runV (As := [.ref (pa ia), .ref (pa ib)]) (rest := []) ⟨hx, hb, hml, hown, hts⟩ (k_X3_refuseForeignRows (l := l) hfl hC hI (i := ia) (k := ib) (by omega) (by omega)) (cwV 2 hts gX3_exchange_X3_refuseForeignRows rfl rfl rfl (by decide +kernel) ⟨by decide, by decide⟩) ⟨Kp.blind _ _ _ _ _, m_recv hK hB (ci := 3) rfl hC.tb, fun U hU hW => hK.pass hB U hU hW⟩ rfl rfl hl.1 rfl (lv_room (Nat.le_of_ble_eq_true rfl)) dX3_exchange_26 ⟨Nat.le_of_ble_eq_true rfl, Nat.le_of_ble_eq_true rfl⟩) hB (fun E u H locs q9 ce hp_9 hB hc9 hv9 hk9 => ?_) (fun v u H locs hp_9 hB => ?_)
          · obtain ⟨rfl, rfl, hn⟩ := hp_9
            exact m_out hout hlocks hB hc9 hv9 hk9 (Nat.le_of_ble_eq_true rfl) (Nat.le_of_ble_eq_true rfl) (by (repeat rw [Int.toNat_natCast]); exact ⟨Or.inr ⟨rfl, ⟨(isP_i.mpr ⟨l1_ia, li_ia, ls_ia⟩), (isP_i.mpr ⟨l1_ib, li_ib, ls_ib⟩)⟩, fun q => q.2.2.1 hn⟩, hC, hF⟩)
          · obtain ⟨rfl, rfl, hp_9'⟩ := hp_9
            show W _ _ _ _ _ _ _ _ _ _ _ _ _ _ _ (F0 m 29 ls [])
            refine lv_aload_n hx hb dX3_exchange_29 rfl (lv_at hl 2 rfl) ?_
            refine lv_aload hx hb dX3_exchange_30 (lv_at hl 0 rfl) ?_
            refine lv_aload_n hx hb dX3_exchange_32 rfl (lv_at hl 1 rfl) ?_
            refine m_runX (vx_runV (As := [.ref (pa ib), .ref (pa ia)]) (rest := []) ⟨hx, hb, hml, hown, hts⟩ (k_X3_refuseForeignRows (l := l) hfl hC hI (i := ib) (k := ia) (by omega) (by omega)) (cwV 2 hts gX3_exchange_X3_refuseForeignRows rfl rfl rfl (by decide +kernel) ⟨by decide, by decide⟩) ⟨Kp.blind _ _ _ _ _, m_recv hK hB (ci := 3) rfl hC.tb, fun U hU hW => hK.pass hB U hU hW⟩ rfl rfl hl.1 rfl (lv_room (Nat.le_of_ble_eq_true rfl)) dX3_exchange_33 ⟨Nat.le_of_ble_eq_true rfl, Nat.le_of_ble_eq_true rfl⟩) hB (fun E u H locs q9 ce hp_10 hB hc9 hv9 hk9 => ?_) (fun v u H locs hp_10 hB => ?_)
            · obtain ⟨rfl, rfl, hn⟩ := hp_10
              exact m_out hout hlocks hB hc9 hv9 hk9 (Nat.le_of_ble_eq_true rfl) (Nat.le_of_ble_eq_true rfl) (by (repeat rw [Int.toNat_natCast]); exact ⟨Or.inr ⟨rfl, ⟨(isP_i.mpr ⟨l1_ia, li_ia, ls_ia⟩), (isP_i.mpr ⟨l1_ib, li_ib, ls_ib⟩)⟩, fun q => q.2.2.2 hn⟩, hC, hF⟩)
            · obtain ⟨rfl, rfl, hp_10'⟩ := hp_10
              show W _ _ _ _ _ _ _ _ _ _ _ _ _ _ _ (F0 m 36 ls [])
              have hxc : σ 4 ia = 0 ∧ σ 4 ib = 1 ∧ ¬ forn σ ia ib ∧ ¬ forn σ ib ia := ⟨hp_5', hp_8', hp_9', hp_10'⟩
              have hp1 := (isP_i.mpr ⟨l1_ia, li_ia, ls_ia⟩)
              have hp2 := (isP_i.mpr ⟨l1_ib, li_ib, ls_ib⟩)
              refine lv_aload_n hx hb dX3_exchange_36 rfl (lv_at hl 2 rfl) ?_
              refine lv_aload_n hx hb dX3_exchange_37 rfl (lv_at hl 1 rfl) ?_
              refine lv_aload hx hb dX3_exchange_38 (lv_at hl 0 rfl) ?_
              refine m_run (va_runV (As := [.ref (pa ia), .ref (pa ib)]) (rest := []) ⟨hx, hb, hml, hown, hts⟩ (k_X3_swapRows (l := l) hC hI (i := ia) (k := ib) (by omega) (by omega)) (cwV 2 hts gX3_exchange_X3_swapRows rfl rfl rfl (by decide +kernel) ⟨by decide, by decide⟩) ⟨Kp.blind _ _ _ _ _, m_recv hK hB (ci := 3) rfl hC.tb, fun U hU hW => hK.pass hB U hU hW⟩ rfl rfl hl.1 rfl (lv_room (Nat.le_of_ble_eq_true rfl)) dX3_exchange_40 ⟨Nat.le_of_ble_eq_true rfl, Nat.le_of_ble_eq_true rfl⟩) hB (fun v u H locs hp_11 hB => ?_)
              obtain ⟨rfl, hC, hFm⟩ := hp_11
              show W _ _ _ _ _ _ _ _ _ _ _ _ _ _ _ (F0 m 43 ls [])
              have hF := hF.tr hFm
              obtain ⟨σ, eσ_12, hC, hI, e9⟩ : ∃ σ2 : Sg, σ2 = swS σ ia ib 200 ∧ CR cP cR x xp xr pa ra σ2 u ∧ Ib σ2 ∧ σ2 9 0 = σ 9 0 := ⟨_, rfl, hC, (hI.sw (by omega) (by omega) 200), (swS_g (by decide))⟩
              have hnp := hI.hnp
              refine lv_aload_n hx hb dX3_exchange_43 rfl (lv_at hl 2 rfl) ?_
              refine j_iconst hx hb dX3_exchange_44 ?_
              refine m_put hx hb hts (fun _ q => List.mem_cons_of_mem _ (List.mem_append_left _ (List.mem_append_left _ (List.mem_append_left _ (List.mem_append_left _ (List.mem_append_right _ q)))))) tyX3 tyX3_ok nmX3 hown hK hB hC.tb (ci := 3) rfl 5 (by decide) (List.mem_of_getElem? (i := 1) rfl) rfl rfl (by decide) (by decide) (Nat.le_of_ble_eq_true rfl) dX3_exchange_45 (fun H locs hB => ?_)
              obtain ⟨h2, σ, eσ_13, hC, hI, e9, hF, hB⟩ : ∃ (h2 : Hp) (σ2 : Sg), σ2 = upS σ 11 0 1 ∧ CR cP cR x xp xr pa ra σ2 h2 ∧ Ib σ2 ∧ σ2 9 0 = σ 9 0 ∧ FrC h0 h2 ∧ Bk D z s.heap h2 H locs := ⟨_, _, rfl, hC.wstale, hI.stale (by omega), upS_g (by decide), hF.tr (FrC.up (hC.tb) (by simp [kd])), hB⟩
              have hnp := hI.hnp
              refine lv_aload_n hx hb dX3_exchange_48 rfl (lv_at hl 2 rfl) ?_
              refine lv_aload_n hx hb dX3_exchange_49 rfl (lv_at hl 1 rfl) ?_
              refine m_run (va_runV (As := [.ref (pa ia)]) (rest := []) ⟨hx, hb, hml, hown, hts⟩ (k_X3_rowsOf (l := l) hC hI (i := ia) (by omega)) (cwV 1 hts gX3_exchange_X3_rowsOf rfl rfl rfl (by decide +kernel) ⟨by decide, by decide⟩) ⟨Kp.blind _ _ _ _ _, m_recv hK hB (ci := 3) rfl hC.tb, fun U hU hW => hK.pass hB U hU hW⟩ rfl rfl hl.1 rfl (lv_room (Nat.le_of_ble_eq_true rfl)) dX3_exchange_50 ⟨Nat.le_of_ble_eq_true rfl, Nat.le_of_ble_eq_true rfl⟩) hB (fun v u H locs hp_14 hB => ?_)
              obtain ⟨rfl, rfl⟩ := hp_14
              show W _ _ _ _ _ _ _ _ _ _ _ _ _ _ _ (F0 m 53 ls [.int (iI (cnt (fun j => live σ j ∧ pn σ j = ia) (nrN σ)))])
              exact vx_ret (m_zret hx hb hr rfl hlocks hB (by decide) (by decide) dX3_exchange_53 (by (repeat rw [Int.toNat_natCast]); subst eσ_13; subst eσ_12; exact ⟨⟨⟨hp1, hp2⟩, hxc⟩, rfl, hC, hF⟩))

abbrev rmX3_change : Room := { frames := 7, cells := 4, slots := 24, locals := 112 }
set_option maxHeartbeats 4000000 in
set_option maxRecDepth 100000 in
theorem k_X3_change {l : Launch} {D : va_G} {z : Nat} {cI cP cR cJ : ClassId} {h0 : Hp} (hfl : l.stackTraces = false) {x xp xr : Nat} {pa ra : Nat → Nat} {σ : Sg} (hC : CR cP cR x xp xr pa ra σ h0) (hI : Ib σ) {n ky sr : Int} (rn : rg n) (rk : rg ky) (rs : rg sr) : Cx l D z (tyL cI cP cR cJ) yX3_change wsX3_change rmX3_change [.ref x, .int (iI n), .int (iI ky), .int (iI sr)] h0 (fun v u => (isR σ n ∧ ((0 ≤ ky ∧ ky ≤ 999) ∧ 0 ≤ sr ∧ sr ≤ 9) ∧ σ 4 (pn σ n.toNat) = 0) ∧ v = some (.int (iI (b2 (10 * ((pn (upS (upS (upS σ 6 n.toNat ky) 7 n.toNat sr) 5 n.toNat ((pw (upS (upS σ 6 n.toNat ky) 7 n.toNat sr) ky : Nat) : Int)) n.toNat : Nat) : Int) + lfr (upS (upS (upS σ 6 n.toNat ky) 7 n.toNat sr) 5 n.toNat ((pw (upS (upS σ 6 n.toNat ky) 7 n.toNat sr) ky : Nat) : Int)) n.toNat ≠ 10 * ((pn σ n.toNat : Nat) : Int) + lfr σ n.toNat)))) ∧ CR cP cR x xp xr pa ra (upS (upS (upS σ 6 n.toNat ky) 7 n.toNat sr) 5 n.toNat ((pw (upS (upS σ 6 n.toNat ky) 7 n.toNat sr) ky : Nat) : Int)) u ∧ FrC h0 u) (fun E u => ((E = nE3 ∧ ¬ isR σ n) ∨ (E = nE1 ∧ isR σ n ∧ ¬ ((0 ≤ ky ∧ ky ≤ 999) ∧ 0 ≤ sr ∧ sr ≤ 9)) ∨ (E = nE2 ∧ isR σ n ∧ ((0 ≤ ky ∧ ky ≤ 999) ∧ 0 ≤ sr ∧ sr ≤ 9) ∧ σ 4 (pn σ n.toNat) ≠ 0)) ∧ CR cP cR x xp xr pa ra σ u ∧ FrC h0 u) := by
  refine Cx.of (cc := cX3_change) (maxL := 6) (ret := (some .boolean)) (by decide) rfl (Nat.le_of_ble_eq_true rfl) ?_
  intro p e s m args below meth c hx hb hr hts hown hlocks hml hnm hout hK hB ls hl
  have hl : lv_has ls 6 [(0, .ref x), (1, .int (iI n)), (2, .int (iI ky)), (3, .int (iI sr))] := hl
  have hF := FrC.rf h0
  have hnp := hI.hnp
  have hnr := hI.hnr
  refine lv_aload_n hx hb dX3_change_0 rfl (lv_at hl 0 rfl) ?_
  refine lv_iload_n hx hb dX3_change_1 rfl (lv_at hl 1 rfl) ?_
  refine m_runX (vx_runV (As := [.int (iI n)]) (rest := []) ⟨hx, hb, hml, hown, hts⟩ (k_X3_presentRow (l := l) hfl hC hI ⟨by omega, by omega⟩) (cwV 1 hts gX3_change_X3_presentRow rfl rfl rfl (by decide +kernel) ⟨by decide, by decide⟩) ⟨Kp.blind _ _ _ _ _, m_recv hK hB (ci := 3) rfl hC.tb, fun U hU hW => hK.pass hB U hU hW⟩ rfl rfl hl.1 rfl (lv_room (Nat.le_of_ble_eq_true rfl)) dX3_change_2 ⟨Nat.le_of_ble_eq_true rfl, Nat.le_of_ble_eq_true rfl⟩) hB (fun E u H locs q9 ce hp_1 hB hc9 hv9 hk9 => ?_) (fun v u H locs hp_1 hB => ?_)
  · obtain ⟨rfl, rfl, hn⟩ := hp_1
    exact m_out hout hlocks hB hc9 hv9 hk9 (Nat.le_of_ble_eq_true rfl) (Nat.le_of_ble_eq_true rfl) (by (repeat rw [Int.toNat_natCast]); exact ⟨Or.inl ⟨rfl, hn⟩, hC, hF⟩)
  · obtain ⟨ja, rfl, lj_ja, rfl, rfl⟩ := hp_1
    show W _ _ _ _ _ _ _ _ _ _ _ _ _ _ _ (F0 m 5 ls [.ref (ra ja)])
    refine lv_astore (lv' := [(4, .ref (ra ja)), (0, .ref x), (1, .int (iI (ja : Int))), (2, .int (iI ky)), (3, .int (iI sr))]) hx hb dX3_change_5 hl (by decide) rfl (fun ls hl => ?_)
    refine lv_iload_n hx hb dX3_change_7 rfl (lv_at hl 3 rfl) ?_
    refine m_runX (vx_runS (As := [.int (iI ky)]) (rest := []) ⟨hx, hb, hml, hown, hts⟩ (k_X3_checkKey (l := l) hfl ⟨by omega, by omega⟩) (va_cwS 1 hts gX3_change_X3_checkKey rfl rfl rfl (by decide +kernel) ⟨by decide, by decide⟩) ⟨Kp.blind _ _ _ _ _, fun U hU hW => hK.pass hB U hU hW⟩ rfl rfl hl.1 rfl (lv_room (Nat.le_of_ble_eq_true rfl)) dX3_change_8 ⟨Nat.le_of_ble_eq_true rfl, Nat.le_of_ble_eq_true rfl⟩) hB (fun E u H locs q9 ce hp_2 hB hc9 hv9 hk9 => ?_) (fun v u H locs hp_2 hB => ?_)
    · obtain ⟨rfl, rfl, hn⟩ := hp_2
      exact m_out hout hlocks hB hc9 hv9 hk9 (Nat.le_of_ble_eq_true rfl) (Nat.le_of_ble_eq_true rfl) (by (repeat rw [Int.toNat_natCast]); exact ⟨Or.inr (Or.inl ⟨rfl, isR_j.mpr lj_ja, fun q => hn q.1⟩), hC, hF⟩)
    · obtain ⟨rfl, rfl, hp_2'⟩ := hp_2
      show W _ _ _ _ _ _ _ _ _ _ _ _ _ _ _ (F0 m 11 ls [])
      refine lv_iload_n hx hb dX3_change_11 rfl (lv_at hl 4 rfl) ?_
      refine m_runX (vx_runS (As := [.int (iI sr)]) (rest := []) ⟨hx, hb, hml, hown, hts⟩ (k_X3_checkSort (l := l) hfl ⟨by omega, by omega⟩) (va_cwS 1 hts gX3_change_X3_checkSort rfl rfl rfl (by decide +kernel) ⟨by decide, by decide⟩) ⟨Kp.blind _ _ _ _ _, fun U hU hW => hK.pass hB U hU hW⟩ rfl rfl hl.1 rfl (lv_room (Nat.le_of_ble_eq_true rfl)) dX3_change_12 ⟨Nat.le_of_ble_eq_true rfl, Nat.le_of_ble_eq_true rfl⟩) hB (fun E u H locs q9 ce hp_3 hB hc9 hv9 hk9 => ?_) (fun v u H locs hp_3 hB => ?_)
      · obtain ⟨rfl, rfl, hn⟩ := hp_3
        exact m_out hout hlocks hB hc9 hv9 hk9 (Nat.le_of_ble_eq_true rfl) (Nat.le_of_ble_eq_true rfl) (by (repeat rw [Int.toNat_natCast]); exact ⟨Or.inr (Or.inl ⟨rfl, isR_j.mpr lj_ja, fun q => hn q.2⟩), hC, hF⟩)
      · obtain ⟨rfl, rfl, hp_3'⟩ := hp_3
        show W _ _ _ _ _ _ _ _ _ _ _ _ _ _ _ (F0 m 15 ls [])
        have rfj := hI.row ja lj_ja
        have pnj := hI.pnI ja lj_ja
        have hkd := hI.kd (pn σ ja) (by omega)
        have lfb := lf_rg (k := σ 2 (pn σ ja)) (d := σ 3 (pn σ ja)) (key := σ 6 ja) (sr := σ 7 ja) hkd
        refine lv_aload hx hb dX3_change_15 (lv_at hl 0 rfl) ?_
        have rf_4 := hI.row ja lj_ja
        have pn_5 := hI.pnI ja lj_ja
        refine m_get hx hb hts (fun _ q => List.mem_cons_of_mem _ (List.mem_append_left _ (List.mem_append_left _ (List.mem_append_left _ (List.mem_append_left _ (List.mem_append_left _ (List.mem_append_right _ q))))))) hown hK hB (hC.rw ja lj_ja) (ci := 2) rfl 3 (by decide) (List.mem_of_getElem? (i := 1) rfl) rfl rfl dX3_change_17 ?_
        have pf_6 := hI.part (pn σ ja) (by omega)
        have bd_7 := hI.bd 4 (pn σ ja)
        refine m_runX (vx_runS (As := [.ref (pa (pn σ ja))]) (rest := []) ⟨hx, hb, hml, hown, hts⟩ (k_X3_refuseUnlessAttached (l := l) hfl (hC.pt (pn σ ja) (by omega)) ⟨by omega, by omega⟩) (va_cwS 1 hts gX3_change_X3_refuseUnlessAttached rfl rfl rfl (by decide +kernel) ⟨by decide, by decide⟩) ⟨Kp.blind _ _ _ _ _, fun U hU hW => hK.pass hB U hU hW⟩ rfl rfl hl.1 rfl (lv_room (Nat.le_of_ble_eq_true rfl)) dX3_change_20 ⟨Nat.le_of_ble_eq_true rfl, Nat.le_of_ble_eq_true rfl⟩) hB (fun E u H locs q9 ce hp_8 hB hc9 hv9 hk9 => ?_) (fun v u H locs hp_8 hB => ?_)
        · obtain ⟨rfl, rfl, hn⟩ := hp_8
          exact m_out hout hlocks hB hc9 hv9 hk9 (Nat.le_of_ble_eq_true rfl) (Nat.le_of_ble_eq_true rfl) (by (repeat rw [Int.toNat_natCast]); exact ⟨Or.inr (Or.inr ⟨rfl, isR_j.mpr lj_ja, ⟨⟨by omega, by omega⟩, by omega, by omega⟩, hn⟩), hC, hF⟩)
        · obtain ⟨rfl, rfl, hp_8'⟩ := hp_8
          show W _ _ _ _ _ _ _ _ _ _ _ _ _ _ _ (F0 m 23 ls [])
          refine lv_aload hx hb dX3_change_23 (lv_at hl 0 rfl) ?_
          have bd_9 := hI.bd 2 (pn σ ja)
          refine m_run (va_runV (As := []) (rest := []) ⟨hx, hb, hml, hown, hts⟩ (k_X2_place (l := l) (hC.rw ja lj_ja) (hC.pt (pn σ ja) (by omega)) (by omega) (by omega) (by omega) (by omega) ⟨by omega, by omega⟩ (by omega) (by omega) (by omega)) (cwV 0 hts gX3_change_X2_place rfl rfl rfl (by decide +kernel) ⟨by decide, by decide⟩) ⟨Kp.blind _ _ _ _ _, m_recv hK hB (ci := 2) rfl (hC.rw ja lj_ja), fun U hU hW => hK.pass hB U hU hW⟩ rfl rfl hl.1 rfl (lv_room (Nat.le_of_ble_eq_true rfl)) dX3_change_25 ⟨Nat.le_of_ble_eq_true rfl, Nat.le_of_ble_eq_true rfl⟩) hB (fun v u H locs hp_10 hB => ?_)
          obtain ⟨rfl, rfl⟩ := hp_10
          show W _ _ _ _ _ _ _ _ _ _ _ _ _ _ _ (F0 m 28 ls [.int (iI (10 * (((pn σ ja) : Nat) : Int) + lf (σ 2 (pn σ ja)) (σ 3 (pn σ ja)) (σ 6 ja) (σ 7 ja)))])
          refine j_top (fun pl0 epl0 => ?_)
          refine lv_istore (lv' := [(5, .int (iI pl0)), (4, .ref (ra ja)), (0, .ref x), (1, .int (iI (ja : Int))), (2, .int (iI ky)), (3, .int (iI sr))]) hx hb dX3_change_28 hl (by decide) rfl (fun ls hl => ?_)
          have hl0 := lj_ja
          refine lv_aload hx hb dX3_change_30 (lv_at hl 1 rfl) ?_
          refine lv_iload_n hx hb dX3_change_32 rfl (lv_at hl 4 rfl) ?_
          refine m_put hx hb hts (fun _ q => List.mem_cons_of_mem _ (List.mem_append_left _ (List.mem_append_left _ (List.mem_append_left _ (List.mem_append_left _ (List.mem_append_left _ (List.mem_append_right _ q))))))) tyX2 tyX2_ok nmX2 hown hK hB (hC.rw ja lj_ja) (ci := 2) rfl 0 (by decide) (List.mem_of_getElem? (i := 2) rfl) rfl rfl rfl rfl (Nat.le_of_ble_eq_true rfl) dX3_change_33 (fun H locs hB => ?_)
          obtain ⟨h2, σ, eσ_11, hC, hI, e9, hF, hB, lj_ja⟩ : ∃ (h2 : Hp) (σ2 : Sg), σ2 = upS σ 6 ja ky ∧ CR cP cR x xp xr pa ra σ2 h2 ∧ Ib σ2 ∧ σ2 9 0 = σ 9 0 ∧ FrC h0 h2 ∧ Bk D z s.heap h2 H locs ∧ live σ2 ja := ⟨_, _, rfl, hC.w6 lj_ja, hI.k6 (by omega), upS_g (by decide), hF.tr (FrC.up (hC.rw ja lj_ja) (by simp [kd])), hB, (upS_live (by decide) (by decide)).mpr lj_ja⟩
          have hnp := hI.hnp
          refine lv_aload hx hb dX3_change_36 (lv_at hl 1 rfl) ?_
          refine lv_iload_n hx hb dX3_change_38 rfl (lv_at hl 5 rfl) ?_
          have rf_12 := hI.row ja lj_ja
          have pn_13 := hI.pnI ja lj_ja
          refine m_put hx hb hts (fun _ q => List.mem_cons_of_mem _ (List.mem_append_left _ (List.mem_append_left _ (List.mem_append_left _ (List.mem_append_left _ (List.mem_append_left _ (List.mem_append_right _ q))))))) tyX2 tyX2_ok nmX2 hown hK hB (hC.rw ja lj_ja) (ci := 2) rfl 1 (by decide) (List.mem_of_getElem? (i := 3) rfl) rfl rfl rfl rfl (Nat.le_of_ble_eq_true rfl) dX3_change_39 (fun H locs hB => ?_)
          obtain ⟨h2, σ, eσ_14, hC, hI, e9, hF, hB, lj_ja⟩ : ∃ (h2 : Hp) (σ2 : Sg), σ2 = upS σ 7 ja sr ∧ CR cP cR x xp xr pa ra σ2 h2 ∧ Ib σ2 ∧ σ2 9 0 = σ 9 0 ∧ FrC h0 h2 ∧ Bk D z s.heap h2 H locs ∧ live σ2 ja := ⟨_, _, rfl, hC.w7 lj_ja, hI.s7 (by omega), upS_g (by decide), hF.tr (FrC.up (hC.rw ja lj_ja) (by simp [kd])), hB, (upS_live (by decide) (by decide)).mpr lj_ja⟩
          have hnp := hI.hnp
          refine lv_aload hx hb dX3_change_42 (lv_at hl 1 rfl) ?_
          refine lv_aload_n hx hb dX3_change_44 rfl (lv_at hl 2 rfl) ?_
          refine lv_iload_n hx hb dX3_change_45 rfl (lv_at hl 4 rfl) ?_
          refine m_run (va_runV (As := [.int (iI ky)]) (rest := [.ref (ra ja)]) ⟨hx, hb, hml, hown, hts⟩ (k_X3_holderOf (l := l) hC hI (key := ky) (by omega) (by omega)) (cwV 1 hts gX3_change_X3_holderOf rfl rfl rfl (by decide +kernel) ⟨by decide, by decide⟩) ⟨Kp.blind _ _ _ _ _, m_recv hK hB (ci := 3) rfl hC.tb, fun U hU hW => hK.pass hB U hU hW⟩ rfl rfl hl.1 rfl (lv_room (Nat.le_of_ble_eq_true rfl)) dX3_change_46 ⟨Nat.le_of_ble_eq_true rfl, Nat.le_of_ble_eq_true rfl⟩) hB (fun v u H locs hp_16 hB => ?_)
          obtain ⟨rfl, rfl⟩ := hp_16
          show W _ _ _ _ _ _ _ _ _ _ _ _ _ _ _ (F0 m 49 ls [.ref (pa (pw σ ky)), .ref (ra ja)])
          have pwl_15 := pw_le hI ky
          have rf_17 := hI.row ja lj_ja
          have pn_18 := hI.pnI ja lj_ja
          refine m_put hx hb hts (fun _ q => List.mem_cons_of_mem _ (List.mem_append_left _ (List.mem_append_left _ (List.mem_append_left _ (List.mem_append_left _ (List.mem_append_left _ (List.mem_append_right _ q))))))) tyX2 tyX2_ok nmX2 hown hK hB (hC.rw ja lj_ja) (ci := 2) rfl 3 (by decide) (List.mem_of_getElem? (i := 1) rfl) rfl rfl rfl rfl (Nat.le_of_ble_eq_true rfl) dX3_change_49 (fun H locs hB => ?_)
          obtain ⟨h2, σ, eσ_19, hC, hI, e9, hF, hB, lj_ja⟩ : ∃ (h2 : Hp) (σ2 : Sg), σ2 = upS σ 5 ja ((pw σ ky) : Int) ∧ CR cP cR x xp xr pa ra σ2 h2 ∧ Ib σ2 ∧ σ2 9 0 = σ 9 0 ∧ FrC h0 h2 ∧ Bk D z s.heap h2 H locs ∧ live σ2 ja := ⟨_, _, rfl, hC.w5 lj_ja (k := (pw σ ky)), hI.p5 lj_ja (by omega), upS_g (by decide), hF.tr (FrC.up (hC.rw ja lj_ja) (by simp [kd])), hB, (upS_live5 lj_ja (by omega)).mpr lj_ja⟩
          have hnp := hI.hnp
          have rfj := hI.row ja lj_ja
          have pnj := hI.pnI ja lj_ja
          have hkd := hI.kd (pn σ ja) (by omega)
          have lfb := lf_rg (k := σ 2 (pn σ ja)) (d := σ 3 (pn σ ja)) (key := σ 6 ja) (sr := σ 7 ja) hkd
          refine lv_aload hx hb dX3_change_52 (lv_at hl 1 rfl) ?_
          have rf_20 := hI.row ja lj_ja
          have pn_21 := hI.pnI ja lj_ja
          have pf_22 := hI.part (pn σ ja) (by omega)
          have bd_23 := hI.bd 2 (pn σ ja)
          refine m_run (va_runV (As := []) (rest := []) ⟨hx, hb, hml, hown, hts⟩ (k_X2_place (l := l) (hC.rw ja lj_ja) (hC.pt (pn σ ja) (by omega)) (by omega) (by omega) (by omega) (by omega) ⟨by omega, by omega⟩ (by omega) (by omega) (by omega)) (cwV 0 hts gX3_change_X2_place rfl rfl rfl (by decide +kernel) ⟨by decide, by decide⟩) ⟨Kp.blind _ _ _ _ _, m_recv hK hB (ci := 2) rfl (hC.rw ja lj_ja), fun U hU hW => hK.pass hB U hU hW⟩ rfl rfl hl.1 rfl (lv_room (Nat.le_of_ble_eq_true rfl)) dX3_change_54 ⟨Nat.le_of_ble_eq_true rfl, Nat.le_of_ble_eq_true rfl⟩) hB (fun v u H locs hp_24 hB => ?_)
          obtain ⟨rfl, rfl⟩ := hp_24
          show W _ _ _ _ _ _ _ _ _ _ _ _ _ _ _ (F0 m 57 ls [.int (iI (10 * (((pn σ ja) : Nat) : Int) + lf (σ 2 (pn σ ja)) (σ 3 (pn σ ja)) (σ 6 ja) (σ 7 ja)))])
          refine lv_iload hx hb dX3_change_57 (lv_at hl 0 rfl) ?_
          have bd_25 := hI.bd 3 (pn σ ja)
          have bd_26 := hI.bd 6 ja
          have bd_27 := hI.bd 7 ja
          refine j_icmp_eq (tgt := 66) hx hb dX3_change_59 (by decide) ⟨by omega, by omega⟩ ⟨by omega, by omega⟩ (fun c_28 => ?_) (fun c_28 => ?_)
          · refine j_iconst hx hb dX3_change_66 ?_
            exact vx_ret (m_zret hx hb hr (by decide) hlocks hB (by decide) (by decide) dX3_change_67 (by have h4 := hp_8'; (repeat rw [Int.toNat_natCast]); subst eσ_19; subst eσ_14; subst eσ_11; exact ⟨⟨isR_j.mpr hl0, ⟨⟨by omega, by omega⟩, by omega, by omega⟩, h4⟩, ret_f (fun q => q (c_28.trans epl0)), hC, hF⟩))
          · refine j_iconst hx hb dX3_change_62 ?_
            refine lv_goto (tgt := 67) hx hb dX3_change_63 (by decide) ?_
            exact vx_ret (m_zret hx hb hr (by decide) hlocks hB (by decide) (by decide) dX3_change_67 (by have h4 := hp_8'; (repeat rw [Int.toNat_natCast]); subst eσ_19; subst eσ_14; subst eσ_11; exact ⟨⟨isR_j.mpr hl0, ⟨⟨by omega, by omega⟩, by omega, by omega⟩, h4⟩, ret_t (fun q => c_28 (q.trans epl0.symm)), hC, hF⟩))

abbrev rmX3_insert : Room := { frames := 7, cells := 5, slots := 28, locals := 110 }
set_option maxHeartbeats 4000000 in
set_option maxRecDepth 100000 in
theorem k_X3_insert {l : Launch} {D : va_G} {z : Nat} {cI cP cR cJ : ClassId} {h0 : Hp} (hfl : l.stackTraces = false) {x xp xr : Nat} {pa ra : Nat → Nat} {σ : Sg} (hC : CR cP cR x xp xr pa ra σ h0) (hI : Ib σ) {ky sr vl : Int} (rk : rg ky) (rs : rg sr) (rv : rg vl) : Cx l D z (tyL cI cP cR cJ) yX3_insert wsX3_insert rmX3_insert [.ref x, .int (iI ky), .int (iI sr), .int (iI vl)] h0 (fun v u => ((0 ≤ ky ∧ ky ≤ 999) ∧ (0 ≤ sr ∧ sr ≤ 9) ∧ (0 ≤ vl ∧ vl ≤ 99) ∧ σ 10 0 < 200) ∧ v = some (.int (iI (σ 10 0))) ∧ ∃ ra2 : Nat → Nat, CR cP cR x xp xr pa ra2 (inS σ ((pw σ ky : Nat) : Int) ky sr vl) u ∧ FrC h0 u) (fun E u => ((E = nE1 ∧ ¬ ((0 ≤ ky ∧ ky ≤ 999) ∧ (0 ≤ sr ∧ sr ≤ 9) ∧ (0 ≤ vl ∧ vl ≤ 99))) ∨ (E = nE2 ∧ ((0 ≤ ky ∧ ky ≤ 999) ∧ (0 ≤ sr ∧ sr ≤ 9) ∧ (0 ≤ vl ∧ vl ≤ 99)) ∧ ¬ σ 10 0 < 200)) ∧ CR cP cR x xp xr pa ra σ u ∧ FrC h0 u) := by
  refine Cx.of (cc := cX3_insert) (maxL := 5) (ret := (some .int)) (by decide) rfl (Nat.le_of_ble_eq_true rfl) ?_
  intro p e s m args below meth c hx hb hr hts hown hlocks hml hnm hout hK hB ls hl
  have hl : lv_has ls 5 [(0, .ref x), (1, .int (iI ky)), (2, .int (iI sr)), (3, .int (iI vl))] := hl
  have hF := FrC.rf h0
  have hnp := hI.hnp
  have hnr := hI.hnr
  refine lv_iload_n hx hb dX3_insert_0 rfl (lv_at hl 1 rfl) ?_
  refine m_runX (vx_runS (As := [.int (iI ky)]) (rest := []) ⟨hx, hb, hml, hown, hts⟩ (k_X3_checkKey (l := l) hfl ⟨by omega, by omega⟩) (va_cwS 1 hts gX3_insert_X3_checkKey rfl rfl rfl (by decide +kernel) ⟨by decide, by decide⟩) ⟨Kp.blind _ _ _ _ _, fun U hU hW => hK.pass hB U hU hW⟩ rfl rfl hl.1 rfl (lv_room (Nat.le_of_ble_eq_true rfl)) dX3_insert_1 ⟨Nat.le_of_ble_eq_true rfl, Nat.le_of_ble_eq_true rfl⟩) hB (fun E u H locs q9 ce hp_1 hB hc9 hv9 hk9 => ?_) (fun v u H locs hp_1 hB => ?_)
  · obtain ⟨rfl, rfl, hn⟩ := hp_1
    exact m_out hout hlocks hB hc9 hv9 hk9 (Nat.le_of_ble_eq_true rfl) (Nat.le_of_ble_eq_true rfl) ⟨Or.inl ⟨rfl, fun q => hn q.1⟩, hC, hF⟩
  · obtain ⟨rfl, rfl, hp_1'⟩ := hp_1
    show W _ _ _ _ _ _ _ _ _ _ _ _ _ _ _ (F0 m 4 ls [])
    refine lv_iload_n hx hb dX3_insert_4 rfl (lv_at hl 2 rfl) ?_
    refine m_runX (vx_runS (As := [.int (iI sr)]) (rest := []) ⟨hx, hb, hml, hown, hts⟩ (k_X3_checkSort (l := l) hfl ⟨by omega, by omega⟩) (va_cwS 1 hts gX3_insert_X3_checkSort rfl rfl rfl (by decide +kernel) ⟨by decide, by decide⟩) ⟨Kp.blind _ _ _ _ _, fun U hU hW => hK.pass hB U hU hW⟩ rfl rfl hl.1 rfl (lv_room (Nat.le_of_ble_eq_true rfl)) dX3_insert_5 ⟨Nat.le_of_ble_eq_true rfl, Nat.le_of_ble_eq_true rfl⟩) hB (fun E u H locs q9 ce hp_2 hB hc9 hv9 hk9 => ?_) (fun v u H locs hp_2 hB => ?_)
    · obtain ⟨rfl, rfl, hn⟩ := hp_2
      exact m_out hout hlocks hB hc9 hv9 hk9 (Nat.le_of_ble_eq_true rfl) (Nat.le_of_ble_eq_true rfl) ⟨Or.inl ⟨rfl, fun q => hn q.2.1⟩, hC, hF⟩
    · obtain ⟨rfl, rfl, hp_2'⟩ := hp_2
      show W _ _ _ _ _ _ _ _ _ _ _ _ _ _ _ (F0 m 8 ls [])
      refine lv_iload_n hx hb dX3_insert_8 rfl (lv_at hl 3 rfl) ?_
      refine m_runX (vx_runS (As := [.int (iI vl)]) (rest := []) ⟨hx, hb, hml, hown, hts⟩ (k_X3_checkValue (l := l) hfl ⟨by omega, by omega⟩) (va_cwS 1 hts gX3_insert_X3_checkValue rfl rfl rfl (by decide +kernel) ⟨by decide, by decide⟩) ⟨Kp.blind _ _ _ _ _, fun U hU hW => hK.pass hB U hU hW⟩ rfl rfl hl.1 rfl (lv_room (Nat.le_of_ble_eq_true rfl)) dX3_insert_9 ⟨Nat.le_of_ble_eq_true rfl, Nat.le_of_ble_eq_true rfl⟩) hB (fun E u H locs q9 ce hp_3 hB hc9 hv9 hk9 => ?_) (fun v u H locs hp_3 hB => ?_)
      · obtain ⟨rfl, rfl, hn⟩ := hp_3
        exact m_out hout hlocks hB hc9 hv9 hk9 (Nat.le_of_ble_eq_true rfl) (Nat.le_of_ble_eq_true rfl) ⟨Or.inl ⟨rfl, fun q => hn q.2.2⟩, hC, hF⟩
      · obtain ⟨rfl, rfl, hp_3'⟩ := hp_3
        show W _ _ _ _ _ _ _ _ _ _ _ _ _ _ _ (F0 m 12 ls [])
        refine lv_aload_n hx hb dX3_insert_12 rfl (lv_at hl 0 rfl) ?_
        refine m_get hx hb hts (fun _ q => List.mem_cons_of_mem _ (List.mem_append_left _ (List.mem_append_left _ (List.mem_append_left _ (List.mem_append_left _ (List.mem_append_right _ q)))))) hown hK hB hC.tb (ci := 3) rfl 4 (by decide) (List.mem_of_getElem? (i := 3) rfl) rfl rfl dX3_insert_13 ?_
        refine lv_istore (lv' := [(4, .int (iI (σ 10 0))), (0, .ref x), (1, .int (iI ky)), (2, .int (iI sr)), (3, .int (iI vl))]) hx hb dX3_insert_16 hl (by decide) rfl (fun ls hl => ?_)
        refine lv_iload hx hb dX3_insert_18 (lv_at hl 0 rfl) ?_
        refine lv_aload_n hx hb dX3_insert_20 rfl (lv_at hl 1 rfl) ?_
        refine m_get hx hb hts (fun _ q => List.mem_cons_of_mem _ (List.mem_append_left _ (List.mem_append_left _ (List.mem_append_left _ (List.mem_append_left _ (List.mem_append_right _ q)))))) hown hK hB hC.tb (ci := 3) rfl 3 (by decide) (List.mem_of_getElem? (i := 4) rfl) rfl rfl dX3_insert_21 ?_
        refine m_lenR hx hb hK hB hC dX3_insert_24 ?_
        have bd_4 := hI.bd 10 0
        refine j_icmp_lt (tgt := 38) hx hb dX3_insert_25 (by decide) ⟨by omega, by omega⟩ ⟨by decide, by decide⟩ (fun c_5 => ?_) (fun c_5 => ?_)
        · refine lv_aload_n hx hb dX3_insert_38 rfl (lv_at hl 1 rfl) ?_
          refine m_get hx hb hts (fun _ q => List.mem_cons_of_mem _ (List.mem_append_left _ (List.mem_append_left _ (List.mem_append_left _ (List.mem_append_left _ (List.mem_append_right _ q)))))) hown hK hB hC.tb (ci := 3) rfl 3 (by decide) (List.mem_of_getElem? (i := 4) rfl) rfl rfl dX3_insert_39 ?_
          refine lv_iload hx hb dX3_insert_42 (lv_at hl 0 rfl) ?_
          refine m_new hx hb hts (fun _ q => List.mem_cons_of_mem _ (List.mem_append_left _ (List.mem_append_left _ (List.mem_append_left _ (List.mem_append_right _ q))))) tyX2 tyX2_ok hown (List.mem_of_getElem? (i := 5) rfl) (List.mem_of_getElem? (i := 6) rfl) (List.mem_of_getElem? (i := 7) rfl) hK hB (ci := 2) rfl (fs := [.int 0, .int 0, .int 0, .null]) (fun j hj => by rcases (show j = 0 ∨ j = 1 ∨ j = 2 ∨ j = 3 by omega) with rfl | rfl | rfl | rfl <;> rfl) (by decide) (by decide) dX3_insert_44 (fun q_6 H hq_q_6 hB => ?_)
          have hC0 := hC
          have hC := hC0.new (e1 := .inr (2, [.int 0, .int 0, .int 0, .null])) hq_q_6
          refine lv_dup hx hb dX3_insert_47 rfl ?_
          refine lv_iload_n hx hb dX3_insert_48 rfl (lv_at hl 2 rfl) ?_
          refine lv_iload_n hx hb dX3_insert_49 rfl (lv_at hl 3 rfl) ?_
          refine lv_iload_n hx hb dX3_insert_50 rfl (lv_at hl 4 rfl) ?_
          refine lv_aload_n hx hb dX3_insert_51 rfl (lv_at hl 1 rfl) ?_
          refine lv_iload_n hx hb dX3_insert_52 rfl (lv_at hl 2 rfl) ?_
          refine m_run (va_runV (As := [.int (iI ky)]) (rest := [.int (iI vl), .int (iI sr), .int (iI ky), .ref q_6, .ref q_6, .int (iI (σ 10 0)), .ref xr]) ⟨hx, hb, hml, hown, hts⟩ (k_X3_holderOf (l := l) hC hI (key := ky) (by omega) (by omega)) (cwV 1 hts gX3_insert_X3_holderOf rfl rfl rfl (by decide +kernel) ⟨by decide, by decide⟩) ⟨Kp.blind _ _ _ _ _, m_recv hK hB (ci := 3) rfl hC.tb, fun U hU hW => hK.pass hB U hU hW⟩ rfl rfl hl.1 rfl (lv_room (Nat.le_of_ble_eq_true rfl)) dX3_insert_53 ⟨Nat.le_of_ble_eq_true rfl, Nat.le_of_ble_eq_true rfl⟩) hB (fun v u H locs hp_8 hB => ?_)
          obtain ⟨rfl, rfl⟩ := hp_8
          show W _ _ _ _ _ _ _ _ _ _ _ _ _ _ _ (F0 m 56 ls [.ref (pa (pw σ ky)), .int (iI vl), .int (iI sr), .int (iI ky), .ref q_6, .ref q_6, .int (iI (σ 10 0)), .ref xr])
          have pwl_7 := pw_le hI ky
          refine m_run (va_runI (As := [.int (iI ky), .int (iI sr), .int (iI vl), .ref (pa (pw σ ky))]) (rest := [.ref q_6, .int (iI (σ 10 0)), .ref xr]) ⟨hx, hb, hml, hown, hts⟩ (k_X2_init (l := l) (a := q_6) (ky := ky) (sr := sr) (vl := vl) (pt := (pa (pw σ ky))) (hup_s _ _ _)) (cwI 4 hts gX3_insert_X2_init rfl rfl rfl (hts _ (List.mem_of_getElem? (i := 7) rfl)) (hts _ (List.mem_of_getElem? (i := 34) rfl)) (hts _ (List.mem_of_getElem? (i := 35) rfl)) rfl (by decide +kernel) ⟨by decide, by decide⟩) ⟨Kp.blind _ _ _ _ _, fun U hU hW => hK.pass hB U hU hW⟩ rfl rfl hl.1 rfl (lv_room (Nat.le_of_ble_eq_true rfl)) dX3_insert_56 ⟨Nat.le_of_ble_eq_true rfl, Nat.le_of_ble_eq_true rfl⟩) hB (fun v u H locs hp_9 hB => ?_)
          obtain ⟨rfl, eu⟩ := hp_9
          rw [hup_hup] at eu
          subst eu
          show W _ _ _ _ _ _ _ _ _ _ _ _ _ _ _ (F0 m 59 ls [.ref q_6, .int (iI (σ 10 0)), .ref xr])
          obtain ⟨h1, hC, hF, hq1, hqn, hB⟩ : ∃ h1 : Hp, CR cP cR x xp xr pa ra σ h1 ∧ FrC h0 h1 ∧ h1 q_6 = some (rwE ky sr vl (pa (pw σ ky))) ∧ (∀ j, live σ j → ra j ≠ q_6) ∧ Bk D z s.heap h1 H locs := ⟨_, hC0.new hq_q_6, FrC.new hq_q_6, hup_s _ _ _, fun j lj w => (by have w2 := hC0.rw j lj; rw [w, hq_q_6] at w2; cases w2), hB⟩
          obtain ⟨fr, hfr, _⟩ := hC.2.2.1
          refine m_astI hx hb hK hB 2 2 (r := (RX2, TX2, 4)) hfr rfl hq1 rfl (by omega) (by omega) (by decide) dX3_insert_59 (fun H locs hB => ?_)
          have en : (σ 10 0).toNat = nrN σ := rfl
          rw [en] at hB
          have htb := (hup_n (a := xr) (e := arQ cR 200 (va_up fr (nrN σ) (some q_6))) (fun w : x = xr => by have w2 := hC.tb; rw [w, hfr] at w2; cases w2)).trans hC.tb
          refine lv_aload_n hx hb dX3_insert_60 rfl (lv_at hl 1 rfl) ?_
          refine lv_iload hx hb dX3_insert_61 (lv_at hl 0 rfl) ?_
          refine j_iconst hx hb dX3_insert_63 ?_
          refine j_iadd hx hb dX3_insert_64 ?_
          refine m_put hx hb hts (fun _ q => List.mem_cons_of_mem _ (List.mem_append_left _ (List.mem_append_left _ (List.mem_append_left _ (List.mem_append_left _ (List.mem_append_right _ q)))))) tyX3 tyX3_ok nmX3 hown hK hB htb (ci := 3) rfl 4 (by decide) (List.mem_of_getElem? (i := 3) rfl) rfl rfl rfl rfl (Nat.le_of_ble_eq_true rfl) dX3_insert_65 (fun H locs hB => ?_)
          refine lv_iload hx hb dX3_insert_68 (lv_at hl 0 rfl) ?_
          exact vx_ret (m_zret hx hb hr rfl hlocks hB (by decide) (by decide) dX3_insert_70 ⟨⟨by omega, by omega, by omega, by omega⟩, rfl, _, hC.insR hI (i := pw σ ky) (by omega) hq1 hqn hfr, hF.tr ((FrC.up hfr (by simp [kd])).tr (FrC.up htb (by simp [kd])))⟩)
        · exact m_throw (cls := nE2) (Ts := wsX3_insert) hx hb hfl hown fitE2 hts (List.mem_of_getElem? (i := 1) rfl) (List.mem_of_getElem? (i := 2) rfl) (fun _ q => List.mem_cons_of_mem _ (List.mem_append_left _ (List.mem_append_right _ q))) ngE2 otE2 (List.mem_of_getElem? (i := 0) rfl) hK hB (hl.1.trans hml.symm) hout hlocks dX3_insert_28 dX3_insert_31 dX3_insert_32 dX3_insert_34 dX3_insert_37 (Nat.le_of_ble_eq_true rfl) (Nat.le_of_ble_eq_true rfl) (Nat.le_of_ble_eq_true rfl) (Nat.le_of_ble_eq_true rfl) (Nat.le_of_ble_eq_true rfl) (Nat.le_of_ble_eq_true rfl) ⟨Or.inr ⟨rfl, ⟨by omega, by omega, by omega⟩, by omega⟩, hC, hF⟩

abbrev rmX3_remove : Room := { frames := 7, cells := 1, slots := 6, locals := 112 }
set_option maxHeartbeats 4000000 in
set_option maxRecDepth 100000 in
theorem k_X3_remove {l : Launch} {D : va_G} {z : Nat} {cI cP cR cJ : ClassId} {h0 : Hp} (hfl : l.stackTraces = false) {x xp xr : Nat} {pa ra : Nat → Nat} {σ : Sg} (hC : CR cP cR x xp xr pa ra σ h0) (hI : Ib σ) {n : Int} (rn : rg n) : Cx l D z (tyL cI cP cR cJ) yX3_remove wsX3_remove rmX3_remove [.ref x, .int (iI n)] h0 (fun v u => isR σ n ∧ v = some (.int (iI (σ 8 n.toNat))) ∧ CR cP cR x xp xr pa ra (upS σ 5 n.toNat (-1)) u ∧ FrC h0 u) (fun E u => (E = nE3 ∧ ¬ isR σ n) ∧ CR cP cR x xp xr pa ra σ u ∧ FrC h0 u) := by
  refine Cx.of (cc := cX3_remove) (maxL := 3) (ret := (some .int)) (by decide) rfl (Nat.le_of_ble_eq_true rfl) ?_
  intro p e s m args below meth c hx hb hr hts hown hlocks hml hnm hout hK hB ls hl
  have hl : lv_has ls 3 [(0, .ref x), (1, .int (iI n))] := hl
  have hF := FrC.rf h0
  have hnp := hI.hnp
  have hnr := hI.hnr
  refine lv_aload_n hx hb dX3_remove_0 rfl (lv_at hl 0 rfl) ?_
  refine lv_iload_n hx hb dX3_remove_1 rfl (lv_at hl 1 rfl) ?_
  refine m_runX (vx_runV (As := [.int (iI n)]) (rest := []) ⟨hx, hb, hml, hown, hts⟩ (k_X3_presentRow (l := l) hfl hC hI ⟨by omega, by omega⟩) (cwV 1 hts gX3_remove_X3_presentRow rfl rfl rfl (by decide +kernel) ⟨by decide, by decide⟩) ⟨Kp.blind _ _ _ _ _, m_recv hK hB (ci := 3) rfl hC.tb, fun U hU hW => hK.pass hB U hU hW⟩ rfl rfl hl.1 rfl (lv_room (Nat.le_of_ble_eq_true rfl)) dX3_remove_2 ⟨Nat.le_of_ble_eq_true rfl, Nat.le_of_ble_eq_true rfl⟩) hB (fun E u H locs q9 ce hp_1 hB hc9 hv9 hk9 => ?_) (fun v u H locs hp_1 hB => ?_)
  · obtain ⟨rfl, rfl, hn⟩ := hp_1
    exact m_out hout hlocks hB hc9 hv9 hk9 (Nat.le_of_ble_eq_true rfl) (Nat.le_of_ble_eq_true rfl) (by (repeat rw [Int.toNat_natCast]); exact ⟨⟨rfl, hn⟩, hC, hF⟩)
  · obtain ⟨ja, rfl, lj_ja, rfl, rfl⟩ := hp_1
    show W _ _ _ _ _ _ _ _ _ _ _ _ _ _ _ (F0 m 5 ls [.ref (ra ja)])
    refine lv_astore_n (lv' := [(2, .ref (ra ja)), (0, .ref x), (1, .int (iI (ja : Int)))]) hx hb dX3_remove_5 rfl hl (by decide) rfl (fun ls hl => ?_)
    refine lv_aload_n hx hb dX3_remove_6 rfl (lv_at hl 1 rfl) ?_
    refine m_get hx hb hts (fun _ q => List.mem_cons_of_mem _ (List.mem_append_left _ (List.mem_append_left _ (List.mem_append_right _ q)))) hown hK hB hC.tb (ci := 3) rfl 3 (by decide) (List.mem_of_getElem? (i := 1) rfl) rfl rfl dX3_remove_7 ?_
    refine lv_iload_n hx hb dX3_remove_10 rfl (lv_at hl 2 rfl) ?_
    refine lv_null hx hb dX3_remove_11 ?_
    obtain ⟨fr, hfr, _⟩ := hC.2.2.1
    have hwr0 := hC.rw ja lj_ja
    refine m_astN hx hb hK hB 2 (C := RX2) hfr rfl (by omega) (by omega) (by decide) dX3_remove_12 (fun H locs hB => ?_)
    rw [Int.toNat_natCast] at hB
    have hwr := (hup_n (a := xr) (e := arQ cR 200 (va_up fr ja none)) (fun w : ra ja = xr => by rw [w, hfr] at hwr0; cases hwr0)).trans hwr0
    have rfj := hI.row ja lj_ja
    refine lv_aload_n hx hb dX3_remove_13 rfl (lv_at hl 0 rfl) ?_
    refine m_get hx hb hts (fun _ q => List.mem_cons_of_mem _ (List.mem_append_left _ (List.mem_append_right _ q))) hown hK hB hwr (ci := 2) rfl 2 (by decide) (List.mem_of_getElem? (i := 2) rfl) rfl rfl dX3_remove_14 ?_
    exact vx_ret (m_zret hx hb hr rfl hlocks hB (by decide) (by decide) dX3_remove_17 (by (repeat rw [Int.toNat_natCast]); exact ⟨isR_j.mpr lj_ja, rfl, hC.remR lj_ja hfr, hF.tr (FrC.up hfr (by simp [kd]))⟩))

abbrev rmX3_buildIndex : Room := { frames := 2, cells := 0, slots := 0, locals := 45 }
set_option maxHeartbeats 4000000 in
set_option maxRecDepth 100000 in
theorem k_X3_buildIndex {l : Launch} {D : va_G} {z : Nat} {cI cP cR cJ : ClassId} {h0 : Hp} {x xp xr : Nat} {pa ra : Nat → Nat} {σ : Sg} (hC : CR cP cR x xp xr pa ra σ h0) (hI : Ib σ)  : Ct l D z (tyL cI cP cR cJ) yX3_buildIndex wsX3_buildIndex rmX3_buildIndex [.ref x] h0 (fun v u => v = some (.int (iI (cnt (fun j => live (upS σ 11 0 0) j ∧ (upS σ 11 0 0) 4 (pn (upS σ 11 0 0) j) = 0) (nrN (upS σ 11 0 0))))) ∧ CR cP cR x xp xr pa ra (upS σ 11 0 0) u ∧ FrC h0 u) := by
  refine Ct.of (cc := cX3_buildIndex) (maxL := 1) (ret := (some .int)) (by decide) rfl (Nat.le_of_ble_eq_true rfl) ?_
  intro p e s m args below meth c hx hb hr hts hown hlocks hml hnm hK hB ls hl
  have hl : lv_has ls 1 [(0, .ref x)] := hl
  have hF := FrC.rf h0
  have hnp := hI.hnp
  have hnr := hI.hnr
  refine lv_aload_n hx hb dX3_buildIndex_0 rfl (lv_at hl 0 rfl) ?_
  refine j_iconst hx hb dX3_buildIndex_1 ?_
  refine m_put hx hb hts (fun _ q => List.mem_cons_of_mem _ (List.mem_append_left _ (List.mem_append_left _ (List.mem_append_right _ q)))) tyX3 tyX3_ok nmX3 hown hK hB hC.tb (ci := 3) rfl 5 (by decide) (List.mem_of_getElem? (i := 1) rfl) rfl rfl (by decide) (by decide) (Nat.le_of_ble_eq_true rfl) dX3_buildIndex_2 (fun H locs hB => ?_)
  obtain ⟨h2, σ, eσ_1, hC, hI, e9, hF, hB⟩ : ∃ (h2 : Hp) (σ2 : Sg), σ2 = upS σ 11 0 0 ∧ CR cP cR x xp xr pa ra σ2 h2 ∧ Ib σ2 ∧ σ2 9 0 = σ 9 0 ∧ FrC h0 h2 ∧ Bk D z s.heap h2 H locs := ⟨_, _, rfl, hC.wstale, hI.stale (by omega), upS_g (by decide), hF.tr (FrC.up (hC.tb) (by simp [kd])), hB⟩
  have hnp := hI.hnp
  refine lv_aload_n hx hb dX3_buildIndex_5 rfl (lv_at hl 0 rfl) ?_
  refine m_run (va_runV (As := []) (rest := []) ⟨hx, hb, hml, hown, hts⟩ (k_X3_rows (l := l) hC hI) (cwV 0 hts gX3_buildIndex_X3_rows rfl rfl rfl (by decide +kernel) ⟨by decide, by decide⟩) ⟨Kp.blind _ _ _ _ _, m_recv hK hB (ci := 3) rfl hC.tb, fun U hU hW => hK.pass hB U hU hW⟩ rfl rfl hl.1 rfl (lv_room (Nat.le_of_ble_eq_true rfl)) dX3_buildIndex_6 ⟨Nat.le_of_ble_eq_true rfl, Nat.le_of_ble_eq_true rfl⟩) hB (fun v u H locs hp_2 hB => ?_)
  obtain ⟨rfl, hC, hFm⟩ := hp_2
  have hF := hF.tr hFm
  show W _ _ _ _ _ _ _ _ _ _ _ _ _ _ _ (F0 m 9 ls [.int (iI (cnt (fun j => live σ j ∧ σ 4 (pn σ j) = 0) (nrN σ)))])
  exact m_zret hx hb hr rfl hlocks hB (by decide) (by decide) dX3_buildIndex_9 (by subst eσ_1; exact ⟨rfl, hC, hF⟩)

abbrev rmX3_init : Room := { frames := 2, cells := 3, slots := 406, locals := 49 }
set_option maxHeartbeats 4000000 in
set_option maxRecDepth 100000 in
theorem k_X3_init {l : Launch} {D : va_G} {z : Nat} {cI cP cR cJ : ClassId} {h0 : Hp} {x : Nat} (he : h0 x = some (.inr (3, [.null, .null, .int 0, .null, .int 0, .int 0]))) : Ct l D z (tyL cI cP cR cJ) yX3_init wsX3_init rmX3_init [.ref x] h0 (fun v u => v = none ∧ ∃ xp xr q : Nat, CR cP cR x xp xr (fun _ => q) (fun _ => 0) sg0 u ∧ FrC h0 u) := by
  refine Ct.of (cc := cX3_init) (maxL := 1) (ret := none) (by decide) rfl (Nat.le_of_ble_eq_true rfl) ?_
  intro p e s m args below meth c hx hb hr hts hown hlocks hml hnm hK hB ls hl
  have hl : lv_has ls 1 [(0, .ref x)] := hl
  have hF := FrC.rf h0
  refine lv_aload_n hx hb dX3_init_0 rfl (lv_at hl 0 rfl) ?_
  refine W.objInit hx hb hown (hts _ (List.mem_of_getElem? (i := 1) rfl)) (hts _ (List.mem_of_getElem? (i := 2) rfl)) (hts _ (List.mem_of_getElem? (i := 3) rfl)) rfl (by rw [hml]; exact hl.1) rfl dX3_init_1 (Nat.le_of_ble_eq_true rfl) (Nat.le_of_ble_eq_true rfl) ?_
  refine W.eq (g2 := F0 m 4 ls []) rfl ?_
  refine lv_aload_n hx hb dX3_init_4 rfl (lv_at hl 0 rfl) ?_
  refine m_new hx hb hts (fun _ q => List.mem_cons_of_mem _ (List.mem_append_left _ (List.mem_append_right _ q))) tyX0 tyX0_ok hown (List.mem_of_getElem? (i := 4) rfl) (List.mem_of_getElem? (i := 5) rfl) (List.mem_of_getElem? (i := 6) rfl) hK hB (ci := 0) rfl (fs := [.int 0, .int 0, .int 0, .int 0, .int 0, .int 0]) (fun j hj => by rcases (show j = 0 ∨ j = 1 ∨ j = 2 ∨ j = 3 ∨ j = 4 ∨ j = 5 by omega) with rfl | rfl | rfl | rfl | rfl | rfl <;> rfl) (by decide) (by decide) dX3_init_5 (fun q_1 H hq_q_1 hB => ?_)
  refine lv_dup hx hb dX3_init_8 rfl ?_
  refine j_iconst hx hb dX3_init_9 ?_
  refine j_iconst hx hb dX3_init_10 ?_
  refine j_iconst hx hb dX3_init_11 ?_
  refine j_iconst hx hb dX3_init_12 ?_
  refine j_iconst hx hb dX3_init_13 ?_
  refine m_run (va_runI (As := [.int (iI 0), .int (iI 0), .int (iI 0), .int (iI 0), .int (iI 0)]) (rest := [.ref q_1, .ref x]) ⟨hx, hb, hml, hown, hts⟩ (k_X0_init (l := l) (a := q_1) (n := 0) (f := 0) (t := 0) (k := 0) (d := 0) (hup_s _ _ _)) (cwI 5 hts gX3_init_X0_init rfl rfl rfl (hts _ (List.mem_of_getElem? (i := 6) rfl)) (hts _ (List.mem_of_getElem? (i := 11) rfl)) (hts _ (List.mem_of_getElem? (i := 12) rfl)) rfl (by decide +kernel) ⟨by decide, by decide⟩) ⟨Kp.blind _ _ _ _ _, fun U hU hW => hK.pass hB U hU hW⟩ rfl rfl hl.1 rfl (lv_room (Nat.le_of_ble_eq_true rfl)) dX3_init_14 ⟨Nat.le_of_ble_eq_true rfl, Nat.le_of_ble_eq_true rfl⟩) hB (fun v u H locs hp_2 hB => ?_)
  obtain ⟨rfl, eu⟩ := hp_2
  rw [hup_hup] at eu
  subst eu
  show W _ _ _ _ _ _ _ _ _ _ _ _ _ _ _ (F0 m 17 ls [.ref q_1, .ref x])
  obtain ⟨h1, he, hq, hF, hB⟩ : ∃ h1 : Hp, h1 x = some (.inr (3, [.null, .null, .int 0, .null, .int 0, .int 0])) ∧ h1 q_1 = some (prt 0 0 0 0 0 0) ∧ FrC h0 h1 ∧ Bk D z s.heap h1 H locs := ⟨_, hup_new hq_q_1 he, hup_s _ _ _, hF.tr (FrC.new hq_q_1), hB⟩
  refine m_putF hx hb hts (fun _ q => List.mem_cons_of_mem _ (List.mem_append_right _ q)) tyX3 tyX3_ok nmX3 hown hK hB he (ci := 3) rfl 0 (by decide) (List.mem_of_getElem? (i := 7) rfl) rfl rfl hnm rfl rfl rfl (Nat.le_of_ble_eq_true rfl) dX3_init_17 (fun H locs hB => ?_)
  obtain ⟨h1, he, hq, hF, hB⟩ : ∃ h1 : Hp, h1 x = some (.inr (3, [.ref q_1, .null, .int 0, .null, .int 0, .int 0])) ∧ h1 q_1 = some (prt 0 0 0 0 0 0) ∧ FrC h0 h1 ∧ Bk D z s.heap h1 H locs := ⟨_, hup_s _ _ _, (hup_n (fun w => by rw [w, he] at hq; cases hq)).trans hq, hF.tr (FrC.up he (by simp [kd])), hB⟩
  refine lv_aload_n hx hb dX3_init_20 rfl (lv_at hl 0 rfl) ?_
  refine j_bipush hx hb dX3_init_21 (by decide) ?_
  refine m_newq hx hb hts hown (List.mem_of_getElem? (i := 4) rfl) hK.2.1.2.2.2.2.2.2.1 hK hB 1 rfl (N' := 16) (by decide) (by decide) (by decide) (Nat.le_of_ble_eq_true rfl) (Nat.le_of_ble_eq_true rfl) dX3_init_23 (fun xp H hq_xp hB => ?_)
  obtain ⟨h1, he, hq, ha_xp, hF, hB⟩ : ∃ h1 : Hp, h1 x = some (.inr (3, [.ref q_1, .null, .int 0, .null, .int 0, .int 0])) ∧ h1 q_1 = some (prt 0 0 0 0 0 0) ∧ h1 xp = some (arQ cP 16 (fun _ => none)) ∧ FrC h0 h1 ∧ Bk D z s.heap h1 H locs := ⟨_, hup_new hq_xp he, hup_new hq_xp hq, hup_s _ _ _, hF.tr (FrC.new hq_xp), hB⟩
  refine m_putF hx hb hts (fun _ q => List.mem_cons_of_mem _ (List.mem_append_right _ q)) tyX3 tyX3_ok nmX3 hown hK hB he (ci := 3) rfl 1 (by decide) (List.mem_of_getElem? (i := 8) rfl) rfl rfl hnm rfl rfl rfl (Nat.le_of_ble_eq_true rfl) dX3_init_26 (fun H locs hB => ?_)
  obtain ⟨h1, he, hq, ha_xp, hF, hB⟩ : ∃ h1 : Hp, h1 x = some (.inr (3, [.ref q_1, .ref xp, .int 0, .null, .int 0, .int 0])) ∧ h1 q_1 = some (prt 0 0 0 0 0 0) ∧ h1 xp = some (arQ cP 16 (fun _ => none)) ∧ FrC h0 h1 ∧ Bk D z s.heap h1 H locs := ⟨_, hup_s _ _ _, (hup_n (fun w => by rw [w, he] at hq; cases hq)).trans hq, (hup_n (fun w => by rw [w, he] at ha_xp; cases ha_xp)).trans ha_xp, hF.tr (FrC.up he (by simp [kd])), hB⟩
  refine lv_aload_n hx hb dX3_init_29 rfl (lv_at hl 0 rfl) ?_
  refine m_get hx hb hts (fun _ q => List.mem_cons_of_mem _ (List.mem_append_right _ q)) hown hK hB he (ci := 3) rfl 1 (by decide) (List.mem_of_getElem? (i := 8) rfl) rfl rfl dX3_init_30 ?_
  refine j_iconst hx hb dX3_init_33 ?_
  refine lv_aload_n hx hb dX3_init_34 rfl (lv_at hl 0 rfl) ?_
  refine m_get hx hb hts (fun _ q => List.mem_cons_of_mem _ (List.mem_append_right _ q)) hown hK hB he (ci := 3) rfl 0 (by decide) (List.mem_of_getElem? (i := 7) rfl) rfl rfl dX3_init_35 ?_
  refine m_astI hx hb hK hB 1 0 (r := (RX0, TX0, 6)) ha_xp rfl hq rfl (by decide) (by decide) (by decide) dX3_init_38 (fun H locs hB => ?_)
  obtain ⟨h1, he, hq, ha_xp, hF, hB⟩ : ∃ h1 : Hp, h1 x = some (.inr (3, [.ref q_1, .ref xp, .int 0, .null, .int 0, .int 0])) ∧ h1 q_1 = some (prt 0 0 0 0 0 0) ∧ h1 xp = some (arQ cP 16 (va_up (fun _ => none) 0 (some q_1))) ∧ FrC h0 h1 ∧ Bk D z s.heap h1 H locs := ⟨_, (hup_n (fun w => by rw [w, ha_xp] at he; cases he)).trans he, (hup_n (fun w => by rw [w, ha_xp] at hq; cases hq)).trans hq, hup_s _ _ _, hF.tr (FrC.up ha_xp (by simp [kd])), hB⟩
  refine lv_aload_n hx hb dX3_init_39 rfl (lv_at hl 0 rfl) ?_
  refine j_sipush hx hb dX3_init_40 (by decide) ?_
  refine m_newq hx hb hts hown (List.mem_of_getElem? (i := 9) rfl) hK.2.1.2.2.2.2.2.2.2 hK hB 2 rfl (N' := 200) (by decide) (by decide) (by decide) (Nat.le_of_ble_eq_true rfl) (Nat.le_of_ble_eq_true rfl) dX3_init_43 (fun xr H hq_xr hB => ?_)
  obtain ⟨h1, he, hq, ha_xp, ha_xr, hF, hB⟩ : ∃ h1 : Hp, h1 x = some (.inr (3, [.ref q_1, .ref xp, .int 0, .null, .int 0, .int 0])) ∧ h1 q_1 = some (prt 0 0 0 0 0 0) ∧ h1 xp = some (arQ cP 16 (va_up (fun _ => none) 0 (some q_1))) ∧ h1 xr = some (arQ cR 200 (fun _ => none)) ∧ FrC h0 h1 ∧ Bk D z s.heap h1 H locs := ⟨_, hup_new hq_xr he, hup_new hq_xr hq, hup_new hq_xr ha_xp, hup_s _ _ _, hF.tr (FrC.new hq_xr), hB⟩
  refine m_putF hx hb hts (fun _ q => List.mem_cons_of_mem _ (List.mem_append_right _ q)) tyX3 tyX3_ok nmX3 hown hK hB he (ci := 3) rfl 3 (by decide) (List.mem_of_getElem? (i := 10) rfl) rfl rfl hnm rfl rfl rfl (Nat.le_of_ble_eq_true rfl) dX3_init_46 (fun H locs hB => ?_)
  obtain ⟨h1, he, hq, ha_xp, ha_xr, hF, hB⟩ : ∃ h1 : Hp, h1 x = some (.inr (3, [.ref q_1, .ref xp, .int 0, .ref xr, .int 0, .int 0])) ∧ h1 q_1 = some (prt 0 0 0 0 0 0) ∧ h1 xp = some (arQ cP 16 (va_up (fun _ => none) 0 (some q_1))) ∧ h1 xr = some (arQ cR 200 (fun _ => none)) ∧ FrC h0 h1 ∧ Bk D z s.heap h1 H locs := ⟨_, hup_s _ _ _, (hup_n (fun w => by rw [w, he] at hq; cases hq)).trans hq, (hup_n (fun w => by rw [w, he] at ha_xp; cases ha_xp)).trans ha_xp, (hup_n (fun w => by rw [w, he] at ha_xr; cases ha_xr)).trans ha_xr, hF.tr (FrC.up he (by simp [kd])), hB⟩
  exact m_vret hx hb hr hlocks hB (by decide) (by decide) dX3_init_49 ⟨rfl, xp, xr, q_1, CR.ini he ha_xp ha_xr hq, hF⟩

