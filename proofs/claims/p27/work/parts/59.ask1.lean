section Steps
variable {σ : Sg}
theorem al_0 {i : Nat} : allP σ i 0 = 0 := rfl
theorem al_t {i j : Nat} (h : isL σ (i : Int) (j : Int)) : allP σ i (j + 1) = allP σ i j + nIn σ i (j : Int) := csm_t h
theorem al_f {i j : Nat} (h : ¬ isL σ (i : Int) (j : Int)) : allP σ i (j + 1) = allP σ i j := csm_f h
theorem al_s {i : Nat} : allS σ (i + 1) = allS σ i + allP σ i 5 := csm_t trivial
theorem tb_s {i : Nat} (h : σ 4 i = 0) : tabS σ (i + 1) = tabS σ i + allP σ i 5 := csm_t h
theorem tb_n {i : Nat} (h : ¬ σ 4 i = 0) : tabS σ (i + 1) = tabS σ i := csm_f h
variable {lo hh so : Int}
theorem lp_0 {i : Nat} : lvP σ lo hh so i 0 = 0 := rfl
theorem mp_0 {i : Nat} : moP σ lo hh so i 0 = 0 := rfl
theorem lp_t {i j : Nat} (h : isL σ (i : Int) (j : Int)) (m : mayM σ i (j : Int) lo hh so) : lvP σ lo hh so i (j + 1) = lvP σ lo hh so i j + 1 ∧ moP σ lo hh so i (j + 1) = moP σ lo hh so i j + nIn σ i (j : Int) := ⟨cnt_t ⟨h, m⟩, csm_t ⟨h, m⟩⟩
theorem lp_f {i j : Nat} (h : ¬ (isL σ (i : Int) (j : Int) ∧ mayM σ i (j : Int) lo hh so)) : lvP σ lo hh so i (j + 1) = lvP σ lo hh so i j ∧ moP σ lo hh so i (j + 1) = moP σ lo hh so i j := ⟨cnt_f h, csm_f h⟩
theorem lp_s {i : Nat} : lvS σ lo hh so (i + 1) = lvS σ lo hh so i + lvP σ lo hh so i 5 := csm_t trivial
theorem mp_s {i : Nat} : moS σ lo hh so (i + 1) = moS σ lo hh so i + moP σ lo hh so i 5 := csm_t trivial
end Steps

abbrev rmL_areLeaves : Room := { frames := 11, cells := 259, slots := 1551, locals := 208 }
set_option maxHeartbeats 4000000 in
set_option maxRecDepth 100000 in
theorem k_L_areLeaves {l : Launch} {D : va_G} {z : Nat} {cI cP cR cJ : ClassId} {h0 : Hp} (hfl : l.stackTraces = false) {x xp xr : Nat} {pa ra : Nat → Nat} {σ : Sg} (hC : CR cP cR x xp xr pa ra σ h0) (hV : Iv σ) {a b : Int} (hn : nLv σ = a - b) : Ct l D z (tyL cI cP cR cJ) yL_areLeaves wsL_areLeaves rmL_areLeaves [.ref x, .int (iI a), .int (iI b)] h0 (fun v u => v = some (.int (iI 1)) ∧ CR cP cR x xp xr pa ra σ u ∧ FrC h0 u) := by
  refine Ct.of (cc := cL_areLeaves) (maxL := 10) (ret := (some .boolean)) (by decide) rfl (Nat.le_of_ble_eq_true rfl) ?_
  intro p e s m args below meth c hx hb hr hts hown hlocks hml hnm hK hB ls hl
  have hl : lv_has ls 10 [(0, .ref x), (1, .int (iI a)), (2, .int (iI b))] := hl
  have hI := hV.ib
  have hnp := hI.hnp
  have hnpI := hI.npI
  have hF := FrC.rf h0
  have hnl := nLv_rg hI
  refine j_iconst hx hb dL_areLeaves_0 ?_
  refine lv_istore_n (lv' := [(3, .int (iI 0)), (0, .ref x), (1, .int (iI a)), (2, .int (iI b))]) hx hb dL_areLeaves_1 rfl hl (by decide) rfl (fun ls hl => ?_)
  refine j_iconst hx hb dL_areLeaves_2 ?_
  refine lv_istore (lv' := [(4, .int (iI 0)), (3, .int (iI 0)), (0, .ref x), (1, .int (iI a)), (2, .int (iI b))]) hx hb dL_areLeaves_3 hl (by decide) rfl (fun ls hl => ?_)
  refine j_iconst hx hb dL_areLeaves_5 ?_
  refine lv_istore (lv' := [(5, .int (iI 1)), (4, .int (iI 0)), (3, .int (iI 0)), (0, .ref x), (1, .int (iI a)), (2, .int (iI b))]) hx hb dL_areLeaves_6 hl (by decide) rfl (fun ls hl => ?_)
  refine j_iconst hx hb dL_areLeaves_8 ?_
  refine lv_istore (lv' := [(6, .int (iI 0)), (5, .int (iI 1)), (4, .int (iI 0)), (3, .int (iI 0)), (0, .ref x), (1, .int (iI a)), (2, .int (iI b))]) hx hb dL_areLeaves_9 hl (by decide) rfl (fun ls hl => ?_)
  have lp_11 : ∀ (fuel wi : Nat) (a1 : Int) (a2 : Int), wi ≤ (npN σ + 1) → (npN σ + 1) + 1 ≤ wi + fuel → ∀ (h : Hp) (hC : CR cP cR x xp xr pa ra σ h) (hF : FrC h0 h) (ea1 : a1 = allS σ wi) (ea2 : a2 = tabS σ wi) (H : Heap) (locs : List Loc), Bk D z s.heap h H locs → ∀ ls : Array Slot, lv_has ls 10 [(6, .int (iI (wi : Int))), (5, .int (iI 1)), (4, .int (iI a2)), (3, .int (iI a1)), (0, .ref x), (1, .int (iI a)), (2, .int (iI b))] → W p l e rmL_areLeaves s m args below meth c H locs (0 + 0 + 16 * wi) (0 + 0 + 96 * wi) (MQ below (Qx D z (fun v u => v = some (.int (iI 1)) ∧ CR cP cR x xp xr pa ra σ u ∧ FrC h0 u)) args s (rmL_areLeaves).cells (rmL_areLeaves).slots (zA z)) (F0 m 11 ls []) := by
    intro fuel
    induction fuel with
    | zero => intro wi a1 a2 w1 w2; exact absurd w2 (by omega)
    | succ fuel ih11 =>
      intro wi a1 a2 wa1 wa2 h hC hF ea1 ea2 H locs hB ls hl
      have ra1 := allS_rg hI wi
      have ra2 := tabS_rg hI wi
      refine lv_iload hx hb dL_areLeaves_11 (lv_at hl 0 rfl) ?_
      refine lv_aload_n hx hb dL_areLeaves_13 rfl (lv_at hl 4 rfl) ?_
      refine m_run (va_runV (As := []) (rest := [.int (iI (wi : Int))]) ⟨hx, hb, hml, hown, hts⟩ (k_X3_parts (l := l) hC hI) (cwV 0 hts gL_areLeaves_X3_parts rfl rfl rfl (by decide +kernel) ⟨by decide, by decide⟩) ⟨Kp.blind _ _ _ _ _, m_recv hK hB (ci := 3) rfl hC.tb, fun U hU hW => hK.pass hB U hU hW⟩ rfl rfl hl.1 rfl (lv_room (Nat.le_of_ble_eq_true rfl)) dL_areLeaves_14 ⟨(by show 0 + 0 + 16 * wi + 0 + 0 ≤ 259; omega), (by show 0 + 0 + 96 * wi + 0 + 0 ≤ 1551; omega)⟩) hB (fun v u H locs hp hB => ?_)
      obtain ⟨rfl, hC, hFm⟩ := hp
      have hF := hF.tr hFm
      show W _ _ _ _ _ _ _ _ _ _ _ _ _ _ _ (F0 m 17 ls [.int (iI (σ 9 0)), .int (iI (wi : Int))])
      refine j_icmp_gt (tgt := 139) hx hb dL_areLeaves_17 (by decide) ⟨by omega, by omega⟩ ⟨by omega, by omega⟩ (fun c_1 => ?_) (fun c_1 => ?_)
      · refine W.widen (k := 0 + 0 + 16 * 16) (n := 0 + 0 + 96 * 16) (by show 0 + 0 + 16 * wi + 0 ≤ 0 + 0 + 16 * 16; omega) (by show 0 + 0 + 96 * wi + 0 ≤ 0 + 0 + 96 * 16; omega) ?_
        have ew : wi = npN σ + 1 := by omega
        have ea1 : a1 = nLv σ := by rw [ea1, ew]; exact allS_eq hV
        have ea2 : a2 = nTb σ := by rw [ea2, ew]; exact tabS_eq hV
        have htb := nTb_rg hI
        have hca := nCp_all hI
        refine lv_iload hx hb dL_areLeaves_139 (lv_at hl 1 rfl) ?_
        refine j_if_eq (tgt := 180) hx hb dL_areLeaves_141 (by decide) ⟨by decide, by decide⟩ (fun c_2 => False.elim (by omega)) (fun c_2 => ?_)
        refine lv_iload_n hx hb dL_areLeaves_144 rfl (lv_at hl 3 rfl) ?_
        refine lv_iload_n hx hb dL_areLeaves_145 rfl (lv_at hl 5 rfl) ?_
        refine lv_iload_n hx hb dL_areLeaves_146 rfl (lv_at hl 6 rfl) ?_
        refine j_isub hx hb dL_areLeaves_147 ?_
        refine j_icmp_ne (tgt := 180) hx hb dL_areLeaves_148 (by decide) ⟨by omega, by omega⟩ ⟨by omega, by omega⟩ (fun c_3 => False.elim (by omega)) (fun c_3 => ?_)
        refine lv_iload hx hb dL_areLeaves_151 (lv_at hl 2 rfl) ?_
        refine lv_aload_n hx hb dL_areLeaves_153 rfl (lv_at hl 4 rfl) ?_
        refine m_run (va_runV (As := []) (rest := [.int (iI a2)]) ⟨hx, hb, hml, hown, hts⟩ (k_X3_rows (l := l) hC hI) (cwV 0 hts gL_areLeaves_X3_rows rfl rfl rfl (by decide +kernel) ⟨by decide, by decide⟩) ⟨Kp.blind _ _ _ _ _, m_recv hK hB (ci := 3) rfl hC.tb, fun U hU hW => hK.pass hB U hU hW⟩ rfl rfl hl.1 rfl (lv_room (Nat.le_of_ble_eq_true rfl)) dL_areLeaves_154 ⟨(by show 0 + 0 + 16 * 16 + 0 + 0 ≤ 259; omega), (by show 0 + 0 + 96 * 16 + 0 + 0 ≤ 1551; omega)⟩) hB (fun v u H locs hp hB => ?_)
        obtain ⟨rfl, hC, hFm⟩ := hp
        have hF := hF.tr hFm
        show W _ _ _ _ _ _ _ _ _ _ _ _ _ _ _ (F0 m 157 ls [.int (iI (nTb σ)), .int (iI a2)])
        refine j_icmp_ne (tgt := 180) hx hb dL_areLeaves_157 (by decide) ⟨by omega, by omega⟩ ⟨by omega, by omega⟩ (fun c_4 => False.elim (by omega)) (fun c_4 => ?_)
        refine lv_aload_n hx hb dL_areLeaves_160 rfl (lv_at hl 4 rfl) ?_
        refine j_iconst hx hb dL_areLeaves_161 ?_
        refine j_sipush hx hb dL_areLeaves_162 (by decide) ?_
        refine j_sipush hx hb dL_areLeaves_165 (by decide) ?_
        refine m_runX (vx_runV (As := [.int (iI 0), .int (iI 999), .int (iI 1023)]) (rest := []) ⟨hx, hb, hml, hown, hts⟩ (k_X3_countPlain (l := l) hfl hC hI (lo := 0) (hi := 999) (so := 1023) ⟨by omega, by omega⟩ ⟨by omega, by omega⟩ ⟨by omega, by omega⟩) (cwV 3 hts gL_areLeaves_X3_countPlain rfl rfl rfl (by decide +kernel) ⟨by decide, by decide⟩) ⟨Kp.blind _ _ _ _ _, m_recv hK hB (ci := 3) rfl hC.tb, fun U hU hW => hK.pass hB U hU hW⟩ rfl rfl hl.1 rfl (lv_room (Nat.le_of_ble_eq_true rfl)) dL_areLeaves_168 ⟨(by show 0 + 0 + 16 * 16 + 0 + 3 ≤ 259; omega), (by show 0 + 0 + 96 * 16 + 0 + 15 ≤ 1551; omega)⟩) hB (fun E u H locs q9 ce hp hB hc9 hv9 hk9 => absurd (by unfold okQ; omega) hp.1.2) (fun v u H locs hp hB => ?_)
        obtain ⟨⟨-, rfl⟩, hC, hFm⟩ := hp
        have hF := hF.tr hFm
        show W _ _ _ _ _ _ _ _ _ _ _ _ _ _ _ (F0 m 171 ls [.int (iI (nCp σ 0 999 1023))])
        refine lv_iload hx hb dL_areLeaves_171 (lv_at hl 2 rfl) ?_
        refine j_icmp_ne (tgt := 180) hx hb dL_areLeaves_173 (by decide) ⟨by omega, by omega⟩ ⟨by omega, by omega⟩ (fun c_5 => False.elim (by omega)) (fun c_5 => ?_)
        refine j_iconst hx hb dL_areLeaves_176 ?_
        refine lv_goto (tgt := 181) hx hb dL_areLeaves_177 (by decide) ?_
        exact m_zret hx hb hr (by decide) hlocks hB (Nat.le_of_ble_eq_true rfl) (Nat.le_of_ble_eq_true rfl) dL_areLeaves_181 ⟨rfl, hC, hF⟩
      · refine lv_iload hx hb dL_areLeaves_20 (lv_at hl 1 rfl) ?_
        refine j_if_eq (tgt := 139) hx hb dL_areLeaves_22 (by decide) ⟨by decide, by decide⟩ (fun c_6 => False.elim (by omega)) (fun c_6 => ?_)
        refine lv_aload_n hx hb dL_areLeaves_25 rfl (lv_at hl 4 rfl) ?_
        refine lv_iload hx hb dL_areLeaves_26 (lv_at hl 0 rfl) ?_
        refine m_runX (vx_runV (As := [.int (iI (wi : Int))]) (rest := []) ⟨hx, hb, hml, hown, hts⟩ (k_X3_stateOf (l := l) hfl hC hI (n := (wi : Int)) ⟨by omega, by omega⟩) (cwV 1 hts gL_areLeaves_X3_stateOf rfl rfl rfl (by decide +kernel) ⟨by decide, by decide⟩) ⟨Kp.blind _ _ _ _ _, m_recv hK hB (ci := 3) rfl hC.tb, fun U hU hW => hK.pass hB U hU hW⟩ rfl rfl hl.1 rfl (lv_room (Nat.le_of_ble_eq_true rfl)) dL_areLeaves_28 ⟨(by show 0 + 0 + 16 * wi + 0 + 1 ≤ 259; omega), (by show 0 + 0 + 96 * wi + 0 + 6 ≤ 1551; omega)⟩) hB (fun E u H locs q9 ce hp hB hc9 hv9 hk9 => absurd ⟨by omega, by omega⟩ hp.1.2) (fun v u H locs hp hB => ?_)
        obtain ⟨⟨-, rfl⟩, hC, hFm⟩ := hp
        have hF := hF.tr hFm
        show W _ _ _ _ _ _ _ _ _ _ _ _ _ _ _ (F0 m 31 ls [.int (iI (σ 4 wi))])
        refine lv_istore (lv' := [(7, .int (iI (σ 4 wi))), (6, .int (iI (wi : Int))), (5, .int (iI 1)), (4, .int (iI a2)), (3, .int (iI a1)), (0, .ref x), (1, .int (iI a)), (2, .int (iI b))]) hx hb dL_areLeaves_31 hl (by decide) rfl (fun ls hl => ?_)
        have hpt := hI.part wi (by omega)
        have lvr := lvs_rg hI (i := wi) (by omega)
        refine j_iconst hx hb dL_areLeaves_33 ?_
        refine lv_istore (lv' := [(8, .int (iI 0)), (7, .int (iI (σ 4 wi))), (6, .int (iI (wi : Int))), (5, .int (iI 1)), (4, .int (iI a2)), (3, .int (iI a1)), (0, .ref x), (1, .int (iI a)), (2, .int (iI b))]) hx hb dL_areLeaves_34 hl (by decide) rfl (fun ls hl => ?_)
        have lp_36 : ∀ (fuel wj : Nat) (b1 : Int) (b2 : Int), wj ≤ 5 → 5 + 1 ≤ wj + fuel → ∀ (h : Hp) (hC : CR cP cR x xp xr pa ra σ h) (hF : FrC h0 h) (eb1 : b1 = allS σ wi + allP σ wi wj) (eb2 : (σ 4 wi = 0 → b2 = tabS σ wi + allP σ wi wj) ∧ (σ 4 wi ≠ 0 → b2 = tabS σ wi)) (H : Heap) (locs : List Loc), Bk D z s.heap h H locs → ∀ ls : Array Slot, lv_has ls 10 [(8, .int (iI (wj : Int))), (7, .int (iI (σ 4 wi))), (6, .int (iI (wi : Int))), (5, .int (iI 1)), (4, .int (iI b2)), (3, .int (iI b1)), (0, .ref x), (1, .int (iI a)), (2, .int (iI b))] → W p l e rmL_areLeaves s m args below meth c H locs (0 + 0 + 16 * wi + 1 + 3 * wj) (0 + 0 + 96 * wi + 6 + 18 * wj) (MQ below (Qx D z (fun v u => v = some (.int (iI 1)) ∧ CR cP cR x xp xr pa ra σ u ∧ FrC h0 u)) args s (rmL_areLeaves).cells (rmL_areLeaves).slots (zA z)) (F0 m 36 ls []) := by
          intro fuel
          induction fuel with
          | zero => intro wj b1 b2 w1 w2; exact absurd w2 (by omega)
          | succ fuel ih36 =>
            intro wj b1 b2 w1 w2 h hC hF eb1 eb2 H locs hB ls hl
            have rb := allP_rg hI wi wj
            refine lv_iload hx hb dL_areLeaves_36 (lv_at hl 0 rfl) ?_
            refine j_iconst hx hb dL_areLeaves_38 ?_
            refine j_icmp_ge (tgt := 133) hx hb dL_areLeaves_39 (by decide) ⟨by omega, by omega⟩ ⟨by decide, by decide⟩ (fun c_7 => ?_) (fun c_7 => ?_)
            · refine W.widen (k := 0 + 0 + 16 * wi + 1 + 3 * 5) (n := 0 + 0 + 96 * wi + 6 + 18 * 5) (by show 0 + 0 + 16 * wi + 1 + 3 * wj + 0 ≤ 0 + 0 + 16 * wi + 1 + 3 * 5; omega) (by show 0 + 0 + 96 * wi + 6 + 18 * wj + 0 ≤ 0 + 0 + 96 * wi + 6 + 18 * 5; omega) ?_
              have ej : wj = 5 := by omega
              rw [ej] at eb1 eb2
              by_cases q5 : σ 4 wi = 0
              · refine j_iinc (lv' := [(6, .int (iI ((wi + 1 : Nat) : Int))), (8, .int (iI (wj : Int))), (7, .int (iI (σ 4 wi))), (5, .int (iI 1)), (4, .int (iI b2)), (3, .int (iI b1)), (0, .ref x), (1, .int (iI a)), (2, .int (iI b))]) hx hb dL_areLeaves_133 hl (k := 2) rfl (by decide) rfl (fun ls hl => ?_)
                refine lv_goto (tgt := 11) hx hb dL_areLeaves_136 (by decide) ?_
                refine W.widen (k := 0 + 0 + 16 * (wi + 1)) (n := 0 + 0 + 96 * (wi + 1)) (by show 0 + 0 + 16 * wi + 1 + 3 * 5 + 0 ≤ 0 + 0 + 16 * (wi + 1); omega) (by show 0 + 0 + 96 * wi + 6 + 18 * 5 + 0 ≤ 0 + 0 + 96 * (wi + 1); omega) ?_
                exact ih11 (wi + 1) b1 b2 (by omega) (by omega) _ hC hF (by rw [al_s]; omega) (by first | (rw [tb_s q5]; omega) | (rw [tb_n q5]; omega)) _ _ hB ls (lv_sub hl [0, 3, 4, 5, 6, 7, 8] rfl)
              · refine j_iinc (lv' := [(6, .int (iI ((wi + 1 : Nat) : Int))), (8, .int (iI (wj : Int))), (7, .int (iI (σ 4 wi))), (5, .int (iI 1)), (4, .int (iI b2)), (3, .int (iI b1)), (0, .ref x), (1, .int (iI a)), (2, .int (iI b))]) hx hb dL_areLeaves_133 hl (k := 2) rfl (by decide) rfl (fun ls hl => ?_)
                refine lv_goto (tgt := 11) hx hb dL_areLeaves_136 (by decide) ?_
                refine W.widen (k := 0 + 0 + 16 * (wi + 1)) (n := 0 + 0 + 96 * (wi + 1)) (by show 0 + 0 + 16 * wi + 1 + 3 * 5 + 0 ≤ 0 + 0 + 16 * (wi + 1); omega) (by show 0 + 0 + 96 * wi + 6 + 18 * 5 + 0 ≤ 0 + 0 + 96 * (wi + 1); omega) ?_
                exact ih11 (wi + 1) b1 b2 (by omega) (by omega) _ hC hF (by rw [al_s]; omega) (by first | (rw [tb_s q5]; omega) | (rw [tb_n q5]; omega)) _ _ hB ls (lv_sub hl [0, 3, 4, 5, 6, 7, 8] rfl)
            · refine lv_aload_n hx hb dL_areLeaves_42 rfl (lv_at hl 6 rfl) ?_
              refine lv_iload hx hb dL_areLeaves_43 (lv_at hl 2 rfl) ?_
              refine lv_iload hx hb dL_areLeaves_45 (lv_at hl 0 rfl) ?_
              refine m_run (vx_runSW (As := [.ref x, .int (iI (wi : Int)), .int (iI (wj : Int))]) (rest := []) ⟨hx, hb, hml, hown, hts⟩ (k_L_rowsIn (l := l) hfl hC hV (n := (wi : Int)) (lf := (wj : Int)) ⟨by omega, by omega⟩ ⟨by omega, by omega⟩) (vx_cwSW 3 hts gL_areLeaves_L_rowsIn rfl rfl rfl (by decide +kernel) ⟨by decide, by decide⟩) ⟨Kp.blind _ _ _ _ _, fun U hU hW => hK.pass hB U hU hW⟩ rfl rfl hl.1 rfl (lv_room (Nat.le_of_ble_eq_true rfl)) dL_areLeaves_47 ⟨(by show 0 + 0 + 16 * wi + 1 + 3 * wj + 0 + 3 ≤ 259; omega), (by show 0 + 0 + 96 * wi + 6 + 18 * wj + 0 + 18 ≤ 1551; omega)⟩) hB (fun v u H locs hp hB => ?_)
              rcases hp with ⟨rfl, hL, hC, hFm⟩ | ⟨rfl, hL, hC, hFm⟩
              · have hF := hF.tr hFm
                have fL : ¬ (((wi : Int) ≤ σ 9 0 ∧ σ 4 wi ≠ 2) ∧ 0 ≤ (wj : Int) ∧ (wj : Int) < lvs (σ 2 wi) (σ 3 wi)) := fun q => hL ((isL_i hI).mpr q)
                have e1 := al_f hL
                show W _ _ _ _ _ _ _ _ _ _ _ _ _ _ _ (F0 m 50 ls [.int (iI (-1))])
                refine lv_istore (lv' := [(9, .int (iI (-1))), (8, .int (iI (wj : Int))), (7, .int (iI (σ 4 wi))), (6, .int (iI (wi : Int))), (5, .int (iI 1)), (4, .int (iI b2)), (3, .int (iI b1)), (0, .ref x), (1, .int (iI a)), (2, .int (iI b))]) hx hb dL_areLeaves_50 hl (by decide) rfl (fun ls hl => ?_)
                refine lv_iload hx hb dL_areLeaves_52 (lv_at hl 4 rfl) ?_
                refine j_if_eq (tgt := 89) hx hb dL_areLeaves_54 (by decide) ⟨by decide, by decide⟩ (fun c_8 => False.elim (by omega)) (fun c_8 => ?_)
                refine lv_iload hx hb dL_areLeaves_57 (lv_at hl 2 rfl) ?_
                refine j_iconst hx hb dL_areLeaves_59 ?_
                refine j_icmp_lt (tgt := 69) hx hb dL_areLeaves_60 (by decide) ⟨by omega, by omega⟩ ⟨by decide, by decide⟩ (fun c_9 => ?_) (fun c_9 => ?_)
                · refine lv_iload hx hb dL_areLeaves_69 (lv_at hl 1 rfl) ?_
                  refine j_if_gt (tgt := 85) hx hb dL_areLeaves_71 (by decide) ⟨by omega, by omega⟩ (fun c_10 => ?_) (fun c_10 => ?_)
                  · refine j_iconst hx hb dL_areLeaves_85 ?_
                    refine lv_goto (tgt := 90) hx hb dL_areLeaves_86 (by decide) ?_
                    refine lv_istore (lv' := [(5, .int (iI 1)), (9, .int (iI (-1))), (8, .int (iI (wj : Int))), (7, .int (iI (σ 4 wi))), (6, .int (iI (wi : Int))), (4, .int (iI b2)), (3, .int (iI b1)), (0, .ref x), (1, .int (iI a)), (2, .int (iI b))]) hx hb dL_areLeaves_90 hl (by decide) rfl (fun ls hl => ?_)
                    refine lv_iload_n hx hb dL_areLeaves_92 rfl (lv_at hl 6 rfl) ?_
                    refine lv_iload hx hb dL_areLeaves_93 (lv_at hl 1 rfl) ?_
                    refine j_if_le (tgt := 103) hx hb dL_areLeaves_95 (by decide) ⟨by decide, by decide⟩ (fun c_11 => ?_) (fun c_11 => False.elim (by omega))
                    refine j_iconst hx hb dL_areLeaves_103 ?_
                    refine j_iadd hx hb dL_areLeaves_104 ?_
                    refine lv_istore_n (lv' := [(3, .int (iI (b1 + 0))), (5, .int (iI 1)), (9, .int (iI (-1))), (8, .int (iI (wj : Int))), (7, .int (iI (σ 4 wi))), (6, .int (iI (wi : Int))), (4, .int (iI b2)), (0, .ref x), (1, .int (iI a)), (2, .int (iI b))]) hx hb dL_areLeaves_105 rfl hl (by decide) rfl (fun ls hl => ?_)
                    refine lv_iload hx hb dL_areLeaves_106 (lv_at hl 6 rfl) ?_
                    refine lv_iload hx hb dL_areLeaves_108 (lv_at hl 2 rfl) ?_
                    refine j_if_le (tgt := 123) hx hb dL_areLeaves_110 (by decide) ⟨by decide, by decide⟩ (fun c_12 => ?_) (fun c_12 => False.elim (by omega))
                    refine j_iconst hx hb dL_areLeaves_123 ?_
                    refine j_iadd hx hb dL_areLeaves_124 ?_
                    refine lv_istore (lv' := [(4, .int (iI (b2 + 0))), (3, .int (iI (b1 + 0))), (5, .int (iI 1)), (9, .int (iI (-1))), (8, .int (iI (wj : Int))), (7, .int (iI (σ 4 wi))), (6, .int (iI (wi : Int))), (0, .ref x), (1, .int (iI a)), (2, .int (iI b))]) hx hb dL_areLeaves_125 hl (by decide) rfl (fun ls hl => ?_)
                    refine j_iinc (lv' := [(8, .int (iI ((wj + 1 : Nat) : Int))), (4, .int (iI (b2 + 0))), (3, .int (iI (b1 + 0))), (5, .int (iI 1)), (9, .int (iI (-1))), (7, .int (iI (σ 4 wi))), (6, .int (iI (wi : Int))), (0, .ref x), (1, .int (iI a)), (2, .int (iI b))]) hx hb dL_areLeaves_127 hl (k := 4) rfl (by decide) rfl (fun ls hl => ?_)
                    refine lv_goto (tgt := 36) hx hb dL_areLeaves_130 (by decide) ?_
                    refine W.widen (k := 0 + 0 + 16 * wi + 1 + 3 * (wj + 1)) (n := 0 + 0 + 96 * wi + 6 + 18 * (wj + 1)) (by show 0 + 0 + 16 * wi + 1 + 3 * wj + 3 ≤ 0 + 0 + 16 * wi + 1 + 3 * (wj + 1); omega) (by show 0 + 0 + 96 * wi + 6 + 18 * wj + 18 ≤ 0 + 0 + 96 * wi + 6 + 18 * (wj + 1); omega) ?_
                    exact ih36 (wj + 1) (b1 + 0) (b2 + 0) (by omega) (by omega) _ hC hF (by omega) (by omega) _ _ hB ls (lv_sub hl [0, 5, 6, 3, 1, 2, 7, 8, 9] rfl)
                  · refine lv_iload hx hb dL_areLeaves_74 (lv_at hl 2 rfl) ?_
                    refine j_iconst hx hb dL_areLeaves_76 ?_
                    refine j_icmp_eq (tgt := 85) hx hb dL_areLeaves_77 (by decide) ⟨by omega, by omega⟩ ⟨by decide, by decide⟩ (fun c_13 => ?_) (fun c_13 => False.elim (by omega))
                    refine j_iconst hx hb dL_areLeaves_85 ?_
                    refine lv_goto (tgt := 90) hx hb dL_areLeaves_86 (by decide) ?_
                    refine lv_istore (lv' := [(5, .int (iI 1)), (9, .int (iI (-1))), (8, .int (iI (wj : Int))), (7, .int (iI (σ 4 wi))), (6, .int (iI (wi : Int))), (4, .int (iI b2)), (3, .int (iI b1)), (0, .ref x), (1, .int (iI a)), (2, .int (iI b))]) hx hb dL_areLeaves_90 hl (by decide) rfl (fun ls hl => ?_)
                    refine lv_iload_n hx hb dL_areLeaves_92 rfl (lv_at hl 6 rfl) ?_
                    refine lv_iload hx hb dL_areLeaves_93 (lv_at hl 1 rfl) ?_
                    refine j_if_le (tgt := 103) hx hb dL_areLeaves_95 (by decide) ⟨by decide, by decide⟩ (fun c_14 => ?_) (fun c_14 => False.elim (by omega))
                    refine j_iconst hx hb dL_areLeaves_103 ?_
                    refine j_iadd hx hb dL_areLeaves_104 ?_
                    refine lv_istore_n (lv' := [(3, .int (iI (b1 + 0))), (5, .int (iI 1)), (9, .int (iI (-1))), (8, .int (iI (wj : Int))), (7, .int (iI (σ 4 wi))), (6, .int (iI (wi : Int))), (4, .int (iI b2)), (0, .ref x), (1, .int (iI a)), (2, .int (iI b))]) hx hb dL_areLeaves_105 rfl hl (by decide) rfl (fun ls hl => ?_)
                    refine lv_iload hx hb dL_areLeaves_106 (lv_at hl 6 rfl) ?_
                    refine lv_iload hx hb dL_areLeaves_108 (lv_at hl 2 rfl) ?_
                    refine j_if_le (tgt := 123) hx hb dL_areLeaves_110 (by decide) ⟨by decide, by decide⟩ (fun c_15 => ?_) (fun c_15 => False.elim (by omega))
                    refine j_iconst hx hb dL_areLeaves_123 ?_
                    refine j_iadd hx hb dL_areLeaves_124 ?_
                    refine lv_istore (lv' := [(4, .int (iI (b2 + 0))), (3, .int (iI (b1 + 0))), (5, .int (iI 1)), (9, .int (iI (-1))), (8, .int (iI (wj : Int))), (7, .int (iI (σ 4 wi))), (6, .int (iI (wi : Int))), (0, .ref x), (1, .int (iI a)), (2, .int (iI b))]) hx hb dL_areLeaves_125 hl (by decide) rfl (fun ls hl => ?_)
                    refine j_iinc (lv' := [(8, .int (iI ((wj + 1 : Nat) : Int))), (4, .int (iI (b2 + 0))), (3, .int (iI (b1 + 0))), (5, .int (iI 1)), (9, .int (iI (-1))), (7, .int (iI (σ 4 wi))), (6, .int (iI (wi : Int))), (0, .ref x), (1, .int (iI a)), (2, .int (iI b))]) hx hb dL_areLeaves_127 hl (k := 4) rfl (by decide) rfl (fun ls hl => ?_)
                    refine lv_goto (tgt := 36) hx hb dL_areLeaves_130 (by decide) ?_
                    refine W.widen (k := 0 + 0 + 16 * wi + 1 + 3 * (wj + 1)) (n := 0 + 0 + 96 * wi + 6 + 18 * (wj + 1)) (by show 0 + 0 + 16 * wi + 1 + 3 * wj + 3 ≤ 0 + 0 + 16 * wi + 1 + 3 * (wj + 1); omega) (by show 0 + 0 + 96 * wi + 6 + 18 * wj + 18 ≤ 0 + 0 + 96 * wi + 6 + 18 * (wj + 1); omega) ?_
                    exact ih36 (wj + 1) (b1 + 0) (b2 + 0) (by omega) (by omega) _ hC hF (by omega) (by omega) _ _ hB ls (lv_sub hl [0, 5, 6, 3, 1, 2, 7, 8, 9] rfl)
                · refine lv_iload hx hb dL_areLeaves_63 (lv_at hl 0 rfl) ?_
                  refine j_iconst hx hb dL_areLeaves_65 ?_
                  refine j_icmp_ne (tgt := 89) hx hb dL_areLeaves_66 (by decide) ⟨by decide, by decide⟩ ⟨by decide, by decide⟩ (fun c_16 => False.elim (by omega)) (fun c_16 => ?_)
                  refine lv_iload hx hb dL_areLeaves_69 (lv_at hl 1 rfl) ?_
                  refine j_if_gt (tgt := 85) hx hb dL_areLeaves_71 (by decide) ⟨by omega, by omega⟩ (fun c_17 => ?_) (fun c_17 => ?_)
                  · refine j_iconst hx hb dL_areLeaves_85 ?_
                    refine lv_goto (tgt := 90) hx hb dL_areLeaves_86 (by decide) ?_
                    refine lv_istore (lv' := [(5, .int (iI 1)), (9, .int (iI (-1))), (8, .int (iI (wj : Int))), (7, .int (iI (σ 4 wi))), (6, .int (iI (wi : Int))), (4, .int (iI b2)), (3, .int (iI b1)), (0, .ref x), (1, .int (iI a)), (2, .int (iI b))]) hx hb dL_areLeaves_90 hl (by decide) rfl (fun ls hl => ?_)
                    refine lv_iload_n hx hb dL_areLeaves_92 rfl (lv_at hl 6 rfl) ?_
                    refine lv_iload hx hb dL_areLeaves_93 (lv_at hl 1 rfl) ?_
                    refine j_if_le (tgt := 103) hx hb dL_areLeaves_95 (by decide) ⟨by decide, by decide⟩ (fun c_18 => ?_) (fun c_18 => False.elim (by omega))
                    refine j_iconst hx hb dL_areLeaves_103 ?_
                    refine j_iadd hx hb dL_areLeaves_104 ?_
                    refine lv_istore_n (lv' := [(3, .int (iI (b1 + 0))), (5, .int (iI 1)), (9, .int (iI (-1))), (8, .int (iI (wj : Int))), (7, .int (iI (σ 4 wi))), (6, .int (iI (wi : Int))), (4, .int (iI b2)), (0, .ref x), (1, .int (iI a)), (2, .int (iI b))]) hx hb dL_areLeaves_105 rfl hl (by decide) rfl (fun ls hl => ?_)
                    refine lv_iload hx hb dL_areLeaves_106 (lv_at hl 6 rfl) ?_
                    refine lv_iload hx hb dL_areLeaves_108 (lv_at hl 2 rfl) ?_
                    refine j_if_le (tgt := 123) hx hb dL_areLeaves_110 (by decide) ⟨by decide, by decide⟩ (fun c_19 => ?_) (fun c_19 => False.elim (by omega))
                    refine j_iconst hx hb dL_areLeaves_123 ?_
                    refine j_iadd hx hb dL_areLeaves_124 ?_
                    refine lv_istore (lv' := [(4, .int (iI (b2 + 0))), (3, .int (iI (b1 + 0))), (5, .int (iI 1)), (9, .int (iI (-1))), (8, .int (iI (wj : Int))), (7, .int (iI (σ 4 wi))), (6, .int (iI (wi : Int))), (0, .ref x), (1, .int (iI a)), (2, .int (iI b))]) hx hb dL_areLeaves_125 hl (by decide) rfl (fun ls hl => ?_)
                    refine j_iinc (lv' := [(8, .int (iI ((wj + 1 : Nat) : Int))), (4, .int (iI (b2 + 0))), (3, .int (iI (b1 + 0))), (5, .int (iI 1)), (9, .int (iI (-1))), (7, .int (iI (σ 4 wi))), (6, .int (iI (wi : Int))), (0, .ref x), (1, .int (iI a)), (2, .int (iI b))]) hx hb dL_areLeaves_127 hl (k := 4) rfl (by decide) rfl (fun ls hl => ?_)
                    refine lv_goto (tgt := 36) hx hb dL_areLeaves_130 (by decide) ?_
                    refine W.widen (k := 0 + 0 + 16 * wi + 1 + 3 * (wj + 1)) (n := 0 + 0 + 96 * wi + 6 + 18 * (wj + 1)) (by show 0 + 0 + 16 * wi + 1 + 3 * wj + 3 ≤ 0 + 0 + 16 * wi + 1 + 3 * (wj + 1); omega) (by show 0 + 0 + 96 * wi + 6 + 18 * wj + 18 ≤ 0 + 0 + 96 * wi + 6 + 18 * (wj + 1); omega) ?_
                    exact ih36 (wj + 1) (b1 + 0) (b2 + 0) (by omega) (by omega) _ hC hF (by omega) (by omega) _ _ hB ls (lv_sub hl [0, 5, 6, 3, 1, 2, 7, 8, 9] rfl)
                  · refine lv_iload hx hb dL_areLeaves_74 (lv_at hl 2 rfl) ?_
                    refine j_iconst hx hb dL_areLeaves_76 ?_
                    refine j_icmp_eq (tgt := 85) hx hb dL_areLeaves_77 (by decide) ⟨by omega, by omega⟩ ⟨by decide, by decide⟩ (fun c_20 => ?_) (fun c_20 => False.elim (by omega))
                    refine j_iconst hx hb dL_areLeaves_85 ?_
                    refine lv_goto (tgt := 90) hx hb dL_areLeaves_86 (by decide) ?_
                    refine lv_istore (lv' := [(5, .int (iI 1)), (9, .int (iI (-1))), (8, .int (iI (wj : Int))), (7, .int (iI (σ 4 wi))), (6, .int (iI (wi : Int))), (4, .int (iI b2)), (3, .int (iI b1)), (0, .ref x), (1, .int (iI a)), (2, .int (iI b))]) hx hb dL_areLeaves_90 hl (by decide) rfl (fun ls hl => ?_)
                    refine lv_iload_n hx hb dL_areLeaves_92 rfl (lv_at hl 6 rfl) ?_
                    refine lv_iload hx hb dL_areLeaves_93 (lv_at hl 1 rfl) ?_
                    refine j_if_le (tgt := 103) hx hb dL_areLeaves_95 (by decide) ⟨by decide, by decide⟩ (fun c_21 => ?_) (fun c_21 => False.elim (by omega))
                    refine j_iconst hx hb dL_areLeaves_103 ?_
                    refine j_iadd hx hb dL_areLeaves_104 ?_
                    refine lv_istore_n (lv' := [(3, .int (iI (b1 + 0))), (5, .int (iI 1)), (9, .int (iI (-1))), (8, .int (iI (wj : Int))), (7, .int (iI (σ 4 wi))), (6, .int (iI (wi : Int))), (4, .int (iI b2)), (0, .ref x), (1, .int (iI a)), (2, .int (iI b))]) hx hb dL_areLeaves_105 rfl hl (by decide) rfl (fun ls hl => ?_)
                    refine lv_iload hx hb dL_areLeaves_106 (lv_at hl 6 rfl) ?_
                    refine lv_iload hx hb dL_areLeaves_108 (lv_at hl 2 rfl) ?_
                    refine j_if_le (tgt := 123) hx hb dL_areLeaves_110 (by decide) ⟨by decide, by decide⟩ (fun c_22 => ?_) (fun c_22 => False.elim (by omega))
                    refine j_iconst hx hb dL_areLeaves_123 ?_
                    refine j_iadd hx hb dL_areLeaves_124 ?_
                    refine lv_istore (lv' := [(4, .int (iI (b2 + 0))), (3, .int (iI (b1 + 0))), (5, .int (iI 1)), (9, .int (iI (-1))), (8, .int (iI (wj : Int))), (7, .int (iI (σ 4 wi))), (6, .int (iI (wi : Int))), (0, .ref x), (1, .int (iI a)), (2, .int (iI b))]) hx hb dL_areLeaves_125 hl (by decide) rfl (fun ls hl => ?_)
                    refine j_iinc (lv' := [(8, .int (iI ((wj + 1 : Nat) : Int))), (4, .int (iI (b2 + 0))), (3, .int (iI (b1 + 0))), (5, .int (iI 1)), (9, .int (iI (-1))), (7, .int (iI (σ 4 wi))), (6, .int (iI (wi : Int))), (0, .ref x), (1, .int (iI a)), (2, .int (iI b))]) hx hb dL_areLeaves_127 hl (k := 4) rfl (by decide) rfl (fun ls hl => ?_)
                    refine lv_goto (tgt := 36) hx hb dL_areLeaves_130 (by decide) ?_
                    refine W.widen (k := 0 + 0 + 16 * wi + 1 + 3 * (wj + 1)) (n := 0 + 0 + 96 * wi + 6 + 18 * (wj + 1)) (by show 0 + 0 + 16 * wi + 1 + 3 * wj + 3 ≤ 0 + 0 + 16 * wi + 1 + 3 * (wj + 1); omega) (by show 0 + 0 + 96 * wi + 6 + 18 * wj + 18 ≤ 0 + 0 + 96 * wi + 6 + 18 * (wj + 1); omega) ?_
                    exact ih36 (wj + 1) (b1 + 0) (b2 + 0) (by omega) (by omega) _ hC hF (by omega) (by omega) _ _ hB ls (lv_sub hl [0, 5, 6, 3, 1, 2, 7, 8, 9] rfl)
              · have hF := hF.tr hFm
                show W _ _ _ _ _ _ _ _ _ _ _ _ _ _ _ (F0 m 50 ls [.int (iI (nIn σ wi (wj : Int)))])
                have nr := nIn_rg hI wi (wj : Int)
                have fL := (isL_i hI).mp hL
                have e1 := al_t hL
                refine lv_istore (lv' := [(9, .int (iI (nIn σ wi (wj : Int)))), (8, .int (iI (wj : Int))), (7, .int (iI (σ 4 wi))), (6, .int (iI (wi : Int))), (5, .int (iI 1)), (4, .int (iI b2)), (3, .int (iI b1)), (0, .ref x), (1, .int (iI a)), (2, .int (iI b))]) hx hb dL_areLeaves_50 hl (by decide) rfl (fun ls hl => ?_)
                refine lv_iload hx hb dL_areLeaves_52 (lv_at hl 4 rfl) ?_
                refine j_if_eq (tgt := 89) hx hb dL_areLeaves_54 (by decide) ⟨by decide, by decide⟩ (fun c_23 => False.elim (by omega)) (fun c_23 => ?_)
                refine lv_iload hx hb dL_areLeaves_57 (lv_at hl 2 rfl) ?_
                refine j_iconst hx hb dL_areLeaves_59 ?_
                refine j_icmp_lt (tgt := 69) hx hb dL_areLeaves_60 (by decide) ⟨by omega, by omega⟩ ⟨by decide, by decide⟩ (fun c_24 => ?_) (fun c_24 => False.elim (by omega))
                refine lv_iload hx hb dL_areLeaves_69 (lv_at hl 1 rfl) ?_
                refine j_if_gt (tgt := 85) hx hb dL_areLeaves_71 (by decide) ⟨by omega, by omega⟩ (fun c_25 => ?_) (fun c_25 => ?_)
                · refine j_iconst hx hb dL_areLeaves_85 ?_
                  refine lv_goto (tgt := 90) hx hb dL_areLeaves_86 (by decide) ?_
                  refine lv_istore (lv' := [(5, .int (iI 1)), (9, .int (iI (nIn σ wi (wj : Int)))), (8, .int (iI (wj : Int))), (7, .int (iI (σ 4 wi))), (6, .int (iI (wi : Int))), (4, .int (iI b2)), (3, .int (iI b1)), (0, .ref x), (1, .int (iI a)), (2, .int (iI b))]) hx hb dL_areLeaves_90 hl (by decide) rfl (fun ls hl => ?_)
                  refine lv_iload_n hx hb dL_areLeaves_92 rfl (lv_at hl 6 rfl) ?_
                  refine lv_iload hx hb dL_areLeaves_93 (lv_at hl 1 rfl) ?_
                  refine j_if_le (tgt := 103) hx hb dL_areLeaves_95 (by decide) ⟨by omega, by omega⟩ (fun c_26 => ?_) (fun c_26 => ?_)
                  · refine j_iconst hx hb dL_areLeaves_103 ?_
                    refine j_iadd hx hb dL_areLeaves_104 ?_
                    refine lv_istore_n (lv' := [(3, .int (iI (b1 + 0))), (5, .int (iI 1)), (9, .int (iI (nIn σ wi (wj : Int)))), (8, .int (iI (wj : Int))), (7, .int (iI (σ 4 wi))), (6, .int (iI (wi : Int))), (4, .int (iI b2)), (0, .ref x), (1, .int (iI a)), (2, .int (iI b))]) hx hb dL_areLeaves_105 rfl hl (by decide) rfl (fun ls hl => ?_)
                    refine lv_iload hx hb dL_areLeaves_106 (lv_at hl 6 rfl) ?_
                    refine lv_iload hx hb dL_areLeaves_108 (lv_at hl 2 rfl) ?_
                    refine j_if_le (tgt := 123) hx hb dL_areLeaves_110 (by decide) ⟨by omega, by omega⟩ (fun c_27 => ?_) (fun c_27 => False.elim (by omega))
                    refine j_iconst hx hb dL_areLeaves_123 ?_
                    refine j_iadd hx hb dL_areLeaves_124 ?_
                    refine lv_istore (lv' := [(4, .int (iI (b2 + 0))), (3, .int (iI (b1 + 0))), (5, .int (iI 1)), (9, .int (iI (nIn σ wi (wj : Int)))), (8, .int (iI (wj : Int))), (7, .int (iI (σ 4 wi))), (6, .int (iI (wi : Int))), (0, .ref x), (1, .int (iI a)), (2, .int (iI b))]) hx hb dL_areLeaves_125 hl (by decide) rfl (fun ls hl => ?_)
                    refine j_iinc (lv' := [(8, .int (iI ((wj + 1 : Nat) : Int))), (4, .int (iI (b2 + 0))), (3, .int (iI (b1 + 0))), (5, .int (iI 1)), (9, .int (iI (nIn σ wi (wj : Int)))), (7, .int (iI (σ 4 wi))), (6, .int (iI (wi : Int))), (0, .ref x), (1, .int (iI a)), (2, .int (iI b))]) hx hb dL_areLeaves_127 hl (k := 4) rfl (by decide) rfl (fun ls hl => ?_)
                    refine lv_goto (tgt := 36) hx hb dL_areLeaves_130 (by decide) ?_
                    refine W.widen (k := 0 + 0 + 16 * wi + 1 + 3 * (wj + 1)) (n := 0 + 0 + 96 * wi + 6 + 18 * (wj + 1)) (by show 0 + 0 + 16 * wi + 1 + 3 * wj + 3 ≤ 0 + 0 + 16 * wi + 1 + 3 * (wj + 1); omega) (by show 0 + 0 + 96 * wi + 6 + 18 * wj + 18 ≤ 0 + 0 + 96 * wi + 6 + 18 * (wj + 1); omega) ?_
                    exact ih36 (wj + 1) (b1 + 0) (b2 + 0) (by omega) (by omega) _ hC hF (by omega) (by omega) _ _ hB ls (lv_sub hl [0, 5, 6, 3, 1, 2, 7, 8, 9] rfl)
                  · refine lv_iload hx hb dL_areLeaves_98 (lv_at hl 1 rfl) ?_
                    refine lv_goto (tgt := 104) hx hb dL_areLeaves_100 (by decide) ?_
                    refine j_iadd hx hb dL_areLeaves_104 ?_
                    refine lv_istore_n (lv' := [(3, .int (iI (b1 + (nIn σ wi (wj : Int))))), (5, .int (iI 1)), (9, .int (iI (nIn σ wi (wj : Int)))), (8, .int (iI (wj : Int))), (7, .int (iI (σ 4 wi))), (6, .int (iI (wi : Int))), (4, .int (iI b2)), (0, .ref x), (1, .int (iI a)), (2, .int (iI b))]) hx hb dL_areLeaves_105 rfl hl (by decide) rfl (fun ls hl => ?_)
                    refine lv_iload hx hb dL_areLeaves_106 (lv_at hl 6 rfl) ?_
                    refine lv_iload hx hb dL_areLeaves_108 (lv_at hl 2 rfl) ?_
                    refine j_if_le (tgt := 123) hx hb dL_areLeaves_110 (by decide) ⟨by omega, by omega⟩ (fun c_28 => False.elim (by omega)) (fun c_28 => ?_)
                    refine lv_iload hx hb dL_areLeaves_113 (lv_at hl 4 rfl) ?_
                    refine j_if_ne (tgt := 123) hx hb dL_areLeaves_115 (by decide) ⟨by omega, by omega⟩ (fun c_29 => ?_) (fun c_29 => ?_)
                    · refine j_iconst hx hb dL_areLeaves_123 ?_
                      refine j_iadd hx hb dL_areLeaves_124 ?_
                      refine lv_istore (lv' := [(4, .int (iI (b2 + 0))), (3, .int (iI (b1 + (nIn σ wi (wj : Int))))), (5, .int (iI 1)), (9, .int (iI (nIn σ wi (wj : Int)))), (8, .int (iI (wj : Int))), (7, .int (iI (σ 4 wi))), (6, .int (iI (wi : Int))), (0, .ref x), (1, .int (iI a)), (2, .int (iI b))]) hx hb dL_areLeaves_125 hl (by decide) rfl (fun ls hl => ?_)
                      refine j_iinc (lv' := [(8, .int (iI ((wj + 1 : Nat) : Int))), (4, .int (iI (b2 + 0))), (3, .int (iI (b1 + (nIn σ wi (wj : Int))))), (5, .int (iI 1)), (9, .int (iI (nIn σ wi (wj : Int)))), (7, .int (iI (σ 4 wi))), (6, .int (iI (wi : Int))), (0, .ref x), (1, .int (iI a)), (2, .int (iI b))]) hx hb dL_areLeaves_127 hl (k := 4) rfl (by decide) rfl (fun ls hl => ?_)
                      refine lv_goto (tgt := 36) hx hb dL_areLeaves_130 (by decide) ?_
                      refine W.widen (k := 0 + 0 + 16 * wi + 1 + 3 * (wj + 1)) (n := 0 + 0 + 96 * wi + 6 + 18 * (wj + 1)) (by show 0 + 0 + 16 * wi + 1 + 3 * wj + 3 ≤ 0 + 0 + 16 * wi + 1 + 3 * (wj + 1); omega) (by show 0 + 0 + 96 * wi + 6 + 18 * wj + 18 ≤ 0 + 0 + 96 * wi + 6 + 18 * (wj + 1); omega) ?_
                      exact ih36 (wj + 1) (b1 + (nIn σ wi (wj : Int))) (b2 + 0) (by omega) (by omega) _ hC hF (by omega) (by omega) _ _ hB ls (lv_sub hl [0, 5, 6, 3, 1, 2, 7, 8, 9] rfl)
                    · refine lv_iload hx hb dL_areLeaves_118 (lv_at hl 2 rfl) ?_
                      refine lv_goto (tgt := 124) hx hb dL_areLeaves_120 (by decide) ?_
                      refine j_iadd hx hb dL_areLeaves_124 ?_
                      refine lv_istore (lv' := [(4, .int (iI (b2 + (nIn σ wi (wj : Int))))), (3, .int (iI (b1 + (nIn σ wi (wj : Int))))), (5, .int (iI 1)), (9, .int (iI (nIn σ wi (wj : Int)))), (8, .int (iI (wj : Int))), (7, .int (iI (σ 4 wi))), (6, .int (iI (wi : Int))), (0, .ref x), (1, .int (iI a)), (2, .int (iI b))]) hx hb dL_areLeaves_125 hl (by decide) rfl (fun ls hl => ?_)
                      refine j_iinc (lv' := [(8, .int (iI ((wj + 1 : Nat) : Int))), (4, .int (iI (b2 + (nIn σ wi (wj : Int))))), (3, .int (iI (b1 + (nIn σ wi (wj : Int))))), (5, .int (iI 1)), (9, .int (iI (nIn σ wi (wj : Int)))), (7, .int (iI (σ 4 wi))), (6, .int (iI (wi : Int))), (0, .ref x), (1, .int (iI a)), (2, .int (iI b))]) hx hb dL_areLeaves_127 hl (k := 4) rfl (by decide) rfl (fun ls hl => ?_)
                      refine lv_goto (tgt := 36) hx hb dL_areLeaves_130 (by decide) ?_
                      refine W.widen (k := 0 + 0 + 16 * wi + 1 + 3 * (wj + 1)) (n := 0 + 0 + 96 * wi + 6 + 18 * (wj + 1)) (by show 0 + 0 + 16 * wi + 1 + 3 * wj + 3 ≤ 0 + 0 + 16 * wi + 1 + 3 * (wj + 1); omega) (by show 0 + 0 + 96 * wi + 6 + 18 * wj + 18 ≤ 0 + 0 + 96 * wi + 6 + 18 * (wj + 1); omega) ?_
                      exact ih36 (wj + 1) (b1 + (nIn σ wi (wj : Int))) (b2 + (nIn σ wi (wj : Int))) (by omega) (by omega) _ hC hF (by omega) (by omega) _ _ hB ls (lv_sub hl [0, 5, 6, 3, 1, 2, 7, 8, 9] rfl)
                · refine lv_iload hx hb dL_areLeaves_74 (lv_at hl 2 rfl) ?_
                  refine j_iconst hx hb dL_areLeaves_76 ?_
                  refine j_icmp_eq (tgt := 85) hx hb dL_areLeaves_77 (by decide) ⟨by omega, by omega⟩ ⟨by decide, by decide⟩ (fun c_30 => False.elim (by omega)) (fun c_30 => ?_)
                  refine lv_iload hx hb dL_areLeaves_80 (lv_at hl 0 rfl) ?_
                  refine j_if_lt (tgt := 89) hx hb dL_areLeaves_82 (by decide) ⟨by omega, by omega⟩ (fun c_31 => False.elim (by omega)) (fun c_31 => ?_)
                  refine j_iconst hx hb dL_areLeaves_85 ?_
                  refine lv_goto (tgt := 90) hx hb dL_areLeaves_86 (by decide) ?_
                  refine lv_istore (lv' := [(5, .int (iI 1)), (9, .int (iI (nIn σ wi (wj : Int)))), (8, .int (iI (wj : Int))), (7, .int (iI (σ 4 wi))), (6, .int (iI (wi : Int))), (4, .int (iI b2)), (3, .int (iI b1)), (0, .ref x), (1, .int (iI a)), (2, .int (iI b))]) hx hb dL_areLeaves_90 hl (by decide) rfl (fun ls hl => ?_)
                  refine lv_iload_n hx hb dL_areLeaves_92 rfl (lv_at hl 6 rfl) ?_
                  refine lv_iload hx hb dL_areLeaves_93 (lv_at hl 1 rfl) ?_
                  refine j_if_le (tgt := 103) hx hb dL_areLeaves_95 (by decide) ⟨by omega, by omega⟩ (fun c_32 => ?_) (fun c_32 => ?_)
                  · refine j_iconst hx hb dL_areLeaves_103 ?_
                    refine j_iadd hx hb dL_areLeaves_104 ?_
                    refine lv_istore_n (lv' := [(3, .int (iI (b1 + 0))), (5, .int (iI 1)), (9, .int (iI (nIn σ wi (wj : Int)))), (8, .int (iI (wj : Int))), (7, .int (iI (σ 4 wi))), (6, .int (iI (wi : Int))), (4, .int (iI b2)), (0, .ref x), (1, .int (iI a)), (2, .int (iI b))]) hx hb dL_areLeaves_105 rfl hl (by decide) rfl (fun ls hl => ?_)
                    refine lv_iload hx hb dL_areLeaves_106 (lv_at hl 6 rfl) ?_
                    refine lv_iload hx hb dL_areLeaves_108 (lv_at hl 2 rfl) ?_
                    refine j_if_le (tgt := 123) hx hb dL_areLeaves_110 (by decide) ⟨by omega, by omega⟩ (fun c_33 => ?_) (fun c_33 => False.elim (by omega))
                    refine j_iconst hx hb dL_areLeaves_123 ?_
                    refine j_iadd hx hb dL_areLeaves_124 ?_
                    refine lv_istore (lv' := [(4, .int (iI (b2 + 0))), (3, .int (iI (b1 + 0))), (5, .int (iI 1)), (9, .int (iI (nIn σ wi (wj : Int)))), (8, .int (iI (wj : Int))), (7, .int (iI (σ 4 wi))), (6, .int (iI (wi : Int))), (0, .ref x), (1, .int (iI a)), (2, .int (iI b))]) hx hb dL_areLeaves_125 hl (by decide) rfl (fun ls hl => ?_)
                    refine j_iinc (lv' := [(8, .int (iI ((wj + 1 : Nat) : Int))), (4, .int (iI (b2 + 0))), (3, .int (iI (b1 + 0))), (5, .int (iI 1)), (9, .int (iI (nIn σ wi (wj : Int)))), (7, .int (iI (σ 4 wi))), (6, .int (iI (wi : Int))), (0, .ref x), (1, .int (iI a)), (2, .int (iI b))]) hx hb dL_areLeaves_127 hl (k := 4) rfl (by decide) rfl (fun ls hl => ?_)
                    refine lv_goto (tgt := 36) hx hb dL_areLeaves_130 (by decide) ?_
                    refine W.widen (k := 0 + 0 + 16 * wi + 1 + 3 * (wj + 1)) (n := 0 + 0 + 96 * wi + 6 + 18 * (wj + 1)) (by show 0 + 0 + 16 * wi + 1 + 3 * wj + 3 ≤ 0 + 0 + 16 * wi + 1 + 3 * (wj + 1); omega) (by show 0 + 0 + 96 * wi + 6 + 18 * wj + 18 ≤ 0 + 0 + 96 * wi + 6 + 18 * (wj + 1); omega) ?_
                    exact ih36 (wj + 1) (b1 + 0) (b2 + 0) (by omega) (by omega) _ hC hF (by omega) (by omega) _ _ hB ls (lv_sub hl [0, 5, 6, 3, 1, 2, 7, 8, 9] rfl)
                  · refine lv_iload hx hb dL_areLeaves_98 (lv_at hl 1 rfl) ?_
                    refine lv_goto (tgt := 104) hx hb dL_areLeaves_100 (by decide) ?_
                    refine j_iadd hx hb dL_areLeaves_104 ?_
                    refine lv_istore_n (lv' := [(3, .int (iI (b1 + (nIn σ wi (wj : Int))))), (5, .int (iI 1)), (9, .int (iI (nIn σ wi (wj : Int)))), (8, .int (iI (wj : Int))), (7, .int (iI (σ 4 wi))), (6, .int (iI (wi : Int))), (4, .int (iI b2)), (0, .ref x), (1, .int (iI a)), (2, .int (iI b))]) hx hb dL_areLeaves_105 rfl hl (by decide) rfl (fun ls hl => ?_)
                    refine lv_iload hx hb dL_areLeaves_106 (lv_at hl 6 rfl) ?_
                    refine lv_iload hx hb dL_areLeaves_108 (lv_at hl 2 rfl) ?_
                    refine j_if_le (tgt := 123) hx hb dL_areLeaves_110 (by decide) ⟨by omega, by omega⟩ (fun c_34 => False.elim (by omega)) (fun c_34 => ?_)
                    refine lv_iload hx hb dL_areLeaves_113 (lv_at hl 4 rfl) ?_
                    refine j_if_ne (tgt := 123) hx hb dL_areLeaves_115 (by decide) ⟨by omega, by omega⟩ (fun c_35 => ?_) (fun c_35 => ?_)
                    · refine j_iconst hx hb dL_areLeaves_123 ?_
                      refine j_iadd hx hb dL_areLeaves_124 ?_
                      refine lv_istore (lv' := [(4, .int (iI (b2 + 0))), (3, .int (iI (b1 + (nIn σ wi (wj : Int))))), (5, .int (iI 1)), (9, .int (iI (nIn σ wi (wj : Int)))), (8, .int (iI (wj : Int))), (7, .int (iI (σ 4 wi))), (6, .int (iI (wi : Int))), (0, .ref x), (1, .int (iI a)), (2, .int (iI b))]) hx hb dL_areLeaves_125 hl (by decide) rfl (fun ls hl => ?_)
                      refine j_iinc (lv' := [(8, .int (iI ((wj + 1 : Nat) : Int))), (4, .int (iI (b2 + 0))), (3, .int (iI (b1 + (nIn σ wi (wj : Int))))), (5, .int (iI 1)), (9, .int (iI (nIn σ wi (wj : Int)))), (7, .int (iI (σ 4 wi))), (6, .int (iI (wi : Int))), (0, .ref x), (1, .int (iI a)), (2, .int (iI b))]) hx hb dL_areLeaves_127 hl (k := 4) rfl (by decide) rfl (fun ls hl => ?_)
                      refine lv_goto (tgt := 36) hx hb dL_areLeaves_130 (by decide) ?_
                      refine W.widen (k := 0 + 0 + 16 * wi + 1 + 3 * (wj + 1)) (n := 0 + 0 + 96 * wi + 6 + 18 * (wj + 1)) (by show 0 + 0 + 16 * wi + 1 + 3 * wj + 3 ≤ 0 + 0 + 16 * wi + 1 + 3 * (wj + 1); omega) (by show 0 + 0 + 96 * wi + 6 + 18 * wj + 18 ≤ 0 + 0 + 96 * wi + 6 + 18 * (wj + 1); omega) ?_
                      exact ih36 (wj + 1) (b1 + (nIn σ wi (wj : Int))) (b2 + 0) (by omega) (by omega) _ hC hF (by omega) (by omega) _ _ hB ls (lv_sub hl [0, 5, 6, 3, 1, 2, 7, 8, 9] rfl)
                    · refine lv_iload hx hb dL_areLeaves_118 (lv_at hl 2 rfl) ?_
                      refine lv_goto (tgt := 124) hx hb dL_areLeaves_120 (by decide) ?_
                      refine j_iadd hx hb dL_areLeaves_124 ?_
                      refine lv_istore (lv' := [(4, .int (iI (b2 + (nIn σ wi (wj : Int))))), (3, .int (iI (b1 + (nIn σ wi (wj : Int))))), (5, .int (iI 1)), (9, .int (iI (nIn σ wi (wj : Int)))), (8, .int (iI (wj : Int))), (7, .int (iI (σ 4 wi))), (6, .int (iI (wi : Int))), (0, .ref x), (1, .int (iI a)), (2, .int (iI b))]) hx hb dL_areLeaves_125 hl (by decide) rfl (fun ls hl => ?_)
                      refine j_iinc (lv' := [(8, .int (iI ((wj + 1 : Nat) : Int))), (4, .int (iI (b2 + (nIn σ wi (wj : Int))))), (3, .int (iI (b1 + (nIn σ wi (wj : Int))))), (5, .int (iI 1)), (9, .int (iI (nIn σ wi (wj : Int)))), (7, .int (iI (σ 4 wi))), (6, .int (iI (wi : Int))), (0, .ref x), (1, .int (iI a)), (2, .int (iI b))]) hx hb dL_areLeaves_127 hl (k := 4) rfl (by decide) rfl (fun ls hl => ?_)
                      refine lv_goto (tgt := 36) hx hb dL_areLeaves_130 (by decide) ?_
                      refine W.widen (k := 0 + 0 + 16 * wi + 1 + 3 * (wj + 1)) (n := 0 + 0 + 96 * wi + 6 + 18 * (wj + 1)) (by show 0 + 0 + 16 * wi + 1 + 3 * wj + 3 ≤ 0 + 0 + 16 * wi + 1 + 3 * (wj + 1); omega) (by show 0 + 0 + 96 * wi + 6 + 18 * wj + 18 ≤ 0 + 0 + 96 * wi + 6 + 18 * (wj + 1); omega) ?_
                      exact ih36 (wj + 1) (b1 + (nIn σ wi (wj : Int))) (b2 + (nIn σ wi (wj : Int))) (by omega) (by omega) _ hC hF (by omega) (by omega) _ _ hB ls (lv_sub hl [0, 5, 6, 3, 1, 2, 7, 8, 9] rfl)
        refine W.widen (k := 0 + 0 + 16 * wi + 1 + 3 * 0) (n := 0 + 0 + 96 * wi + 6 + 18 * 0) (by show 0 + 0 + 16 * wi + 1 ≤ 0 + 0 + 16 * wi + 1 + 3 * 0; omega) (by show 0 + 0 + 96 * wi + 6 ≤ 0 + 0 + 96 * wi + 6 + 18 * 0; omega) ?_
        exact lp_36 (5 + 1) 0 a1 a2 (by omega) (by omega) _ hC hF (by rw [al_0]; omega) (by rw [al_0]; omega) _ _ hB ls (lv_sub hl [0, 1, 2, 3, 4, 5, 6, 7, 8] rfl)
  refine W.widen (k := 0 + 0 + 16 * 0) (n := 0 + 0 + 96 * 0) (by show 0 + 0 ≤ 0 + 0 + 16 * 0; omega) (by show 0 + 0 ≤ 0 + 0 + 96 * 0; omega) ?_
  exact lp_11 ((npN σ + 1) + 1) 0 0 0 (by omega) (by omega) _ hC hF rfl rfl _ _ hB ls (lv_sub hl [0, 1, 2, 3, 4, 5, 6] rfl)

