abbrev rmL_isRead : Room := { frames := 11, cells := 824, slots := 4680, locals := 208 }
set_option maxHeartbeats 4000000 in
set_option maxRecDepth 100000 in
theorem k_L_isRead {l : Launch} {D : va_G} {z : Nat} {cI cP cR cJ : ClassId} {h0 : Hp} (hfl : l.stackTraces = false) {x xp xr : Nat} {pa ra : Nat → Nat} {σ : Sg} (hC : CR cP cR x xp xr pa ra σ h0) (hV : Iv σ) {lo hi : Int} {sn : Nat} (okq : okQ lo hi (sn : Int)) : Ct l D z (tyL cI cP cR cJ) yL_isRead wsL_isRead rmL_isRead [.ref x, .int (iI lo), .int (iI hi), .int (iI (sn : Int))] h0 (fun v u => v = some (.int (iI 1)) ∧ CR cP cR x xp xr pa ra σ u ∧ FrC h0 u) := by
  refine Ct.of (cc := cL_isRead) (maxL := 13) (ret := (some .boolean)) (by decide) rfl (Nat.le_of_ble_eq_true rfl) ?_
  intro p e s m args below meth c hx hb hr hts hown hlocks hml hnm hK hB ls hl
  have hl : lv_has ls 13 [(0, .ref x), (1, .int (iI lo)), (2, .int (iI hi)), (3, .int (iI (sn : Int)))] := hl
  have hI := hV.ib
  have hnp := hI.hnp
  have hnpI := hI.npI
  have hF := FrC.rf h0
  have okb : (0 ≤ lo ∧ lo ≤ 999) ∧ (lo ≤ hi ∧ hi ≤ 999) ∧ (0 ≤ (sn : Int) ∧ (sn : Int) ≤ 1023) := okq
  have qc : cntA σ lo hi (sn : Int) = nCp σ lo hi (sn : Int) := cntA_eq hV (by omega) (by omega)
  have qcr := nCp_rg hI lo hi (sn : Int)
  have qrd := rdA_rg hI (lo := lo) (hh := hi) (so := (sn : Int))
  refine lv_aload_n hx hb dL_isRead_0 rfl (lv_at hl 0 rfl) ?_
  refine lv_iload_n hx hb dL_isRead_1 rfl (lv_at hl 1 rfl) ?_
  refine lv_iload_n hx hb dL_isRead_2 rfl (lv_at hl 2 rfl) ?_
  refine lv_iload_n hx hb dL_isRead_3 rfl (lv_at hl 3 rfl) ?_
  refine m_runX (vx_runV (As := [.int (iI lo), .int (iI hi), .int (iI (sn : Int))]) (rest := []) ⟨hx, hb, hml, hown, hts⟩ (k_X3_count (l := l) hfl hC hI (lo := lo) (hi := hi) (so := (sn : Int)) ⟨by omega, by omega⟩ ⟨by omega, by omega⟩ ⟨by omega, by omega⟩) (cwV 3 hts gL_isRead_X3_count rfl rfl rfl (by decide +kernel) ⟨by decide, by decide⟩) ⟨Kp.blind _ _ _ _ _, m_recv hK hB (ci := 3) rfl hC.tb, fun U hU hW => hK.pass hB U hU hW⟩ rfl rfl hl.1 rfl (lv_room (Nat.le_of_ble_eq_true rfl)) dL_isRead_4 ⟨(by show 0 + 0 + 3 ≤ 824; omega), (by show 0 + 0 + 15 ≤ 4680; omega)⟩) hB (fun E u H locs q9 ce hp hB hc9 hv9 hk9 => absurd (by unfold okQ; omega) hp.1.2) (fun v u H locs hp hB => ?_)
  obtain ⟨⟨-, rfl⟩, hC, hFm⟩ := hp
  have hF := hF.tr hFm
  show W _ _ _ _ _ _ _ _ _ _ _ _ _ _ _ (F0 m 7 ls [.int (iI (cntA σ lo hi (sn : Int)))])
  refine lv_istore (lv' := [(4, .int (iI (cntA σ lo hi (sn : Int)))), (0, .ref x), (1, .int (iI lo)), (2, .int (iI hi)), (3, .int (iI (sn : Int)))]) hx hb dL_isRead_7 hl (by decide) rfl (fun ls hl => ?_)
  refine lv_aload_n hx hb dL_isRead_9 rfl (lv_at hl 1 rfl) ?_
  refine lv_iload_n hx hb dL_isRead_10 rfl (lv_at hl 2 rfl) ?_
  refine lv_iload_n hx hb dL_isRead_11 rfl (lv_at hl 3 rfl) ?_
  refine lv_iload_n hx hb dL_isRead_12 rfl (lv_at hl 4 rfl) ?_
  refine m_runX (vx_runV (As := [.int (iI lo), .int (iI hi), .int (iI (sn : Int))]) (rest := []) ⟨hx, hb, hml, hown, hts⟩ (k_X3_read (l := l) hfl hC hI (lo := lo) (hi := hi) (so := (sn : Int)) ⟨by omega, by omega⟩ ⟨by omega, by omega⟩ ⟨by omega, by omega⟩) (cwV 3 hts gL_isRead_X3_read rfl rfl rfl (by decide +kernel) ⟨by decide, by decide⟩) ⟨Kp.blind _ _ _ _ _, m_recv hK hB (ci := 3) rfl hC.tb, fun U hU hW => hK.pass hB U hU hW⟩ rfl rfl hl.1 rfl (lv_room (Nat.le_of_ble_eq_true rfl)) dL_isRead_13 ⟨(by show 0 + 3 + 3 ≤ 824; omega), (by show 0 + 15 + 15 ≤ 4680; omega)⟩) hB (fun E u H locs q9 ce hp hB hc9 hv9 hk9 => absurd (by unfold okQ; omega) hp.1.2) (fun v u H locs hp hB => ?_)
  obtain ⟨⟨-, rfl⟩, hC, hFm⟩ := hp
  have hF := hF.tr hFm
  show W _ _ _ _ _ _ _ _ _ _ _ _ _ _ _ (F0 m 16 ls [.int (iI (rdA σ lo hi (sn : Int)))])
  refine lv_istore (lv' := [(5, .int (iI (rdA σ lo hi (sn : Int)))), (4, .int (iI (cntA σ lo hi (sn : Int)))), (0, .ref x), (1, .int (iI lo)), (2, .int (iI hi)), (3, .int (iI (sn : Int)))]) hx hb dL_isRead_16 hl (by decide) rfl (fun ls hl => ?_)
  refine j_iconst hx hb dL_isRead_18 ?_
  refine lv_istore (lv' := [(6, .int (iI 0)), (5, .int (iI (rdA σ lo hi (sn : Int)))), (4, .int (iI (cntA σ lo hi (sn : Int)))), (0, .ref x), (1, .int (iI lo)), (2, .int (iI hi)), (3, .int (iI (sn : Int)))]) hx hb dL_isRead_19 hl (by decide) rfl (fun ls hl => ?_)
  refine j_iconst hx hb dL_isRead_21 ?_
  refine lv_istore (lv' := [(7, .int (iI 0)), (6, .int (iI 0)), (5, .int (iI (rdA σ lo hi (sn : Int)))), (4, .int (iI (cntA σ lo hi (sn : Int)))), (0, .ref x), (1, .int (iI lo)), (2, .int (iI hi)), (3, .int (iI (sn : Int)))]) hx hb dL_isRead_22 hl (by decide) rfl (fun ls hl => ?_)
  refine lv_iload hx hb dL_isRead_24 (lv_at hl 3 rfl) ?_
  refine lv_aload_n hx hb dL_isRead_26 rfl (lv_at hl 4 rfl) ?_
  refine lv_iload_n hx hb dL_isRead_27 rfl (lv_at hl 5 rfl) ?_
  refine lv_iload_n hx hb dL_isRead_28 rfl (lv_at hl 6 rfl) ?_
  refine lv_iload_n hx hb dL_isRead_29 rfl (lv_at hl 7 rfl) ?_
  refine m_runX (vx_runV (As := [.int (iI lo), .int (iI hi), .int (iI (sn : Int))]) (rest := [.int (iI (cntA σ lo hi (sn : Int)))]) ⟨hx, hb, hml, hown, hts⟩ (k_X3_countPlain (l := l) hfl hC hI (lo := lo) (hi := hi) (so := (sn : Int)) ⟨by omega, by omega⟩ ⟨by omega, by omega⟩ ⟨by omega, by omega⟩) (cwV 3 hts gL_isRead_X3_countPlain rfl rfl rfl (by decide +kernel) ⟨by decide, by decide⟩) ⟨Kp.blind _ _ _ _ _, m_recv hK hB (ci := 3) rfl hC.tb, fun U hU hW => hK.pass hB U hU hW⟩ rfl rfl hl.1 rfl (lv_room (Nat.le_of_ble_eq_true rfl)) dL_isRead_30 ⟨(by show 0 + 6 + 3 ≤ 824; omega), (by show 0 + 30 + 15 ≤ 4680; omega)⟩) hB (fun E u H locs q9 ce hp hB hc9 hv9 hk9 => absurd (by unfold okQ; omega) hp.1.2) (fun v u H locs hp hB => ?_)
  obtain ⟨⟨-, rfl⟩, hC, hFm⟩ := hp
  have hF := hF.tr hFm
  show W _ _ _ _ _ _ _ _ _ _ _ _ _ _ _ (F0 m 33 ls [.int (iI (nCp σ lo hi (sn : Int))), .int (iI (cntA σ lo hi (sn : Int)))])
  refine j_icmp_ne (tgt := 40) hx hb dL_isRead_33 (by decide) ⟨by omega, by omega⟩ ⟨by omega, by omega⟩ (fun c_1 => False.elim (by omega)) (fun c_1 => ?_)
  refine j_iconst hx hb dL_isRead_36 ?_
  refine lv_goto (tgt := 41) hx hb dL_isRead_37 (by decide) ?_
  refine lv_istore (lv' := [(8, .int (iI 1)), (7, .int (iI 0)), (6, .int (iI 0)), (5, .int (iI (rdA σ lo hi (sn : Int)))), (4, .int (iI (cntA σ lo hi (sn : Int)))), (0, .ref x), (1, .int (iI lo)), (2, .int (iI hi)), (3, .int (iI (sn : Int)))]) hx hb dL_isRead_41 hl (by decide) rfl (fun ls hl => ?_)
  refine j_iconst hx hb dL_isRead_43 ?_
  refine lv_istore (lv' := [(9, .int (iI 0)), (8, .int (iI 1)), (7, .int (iI 0)), (6, .int (iI 0)), (5, .int (iI (rdA σ lo hi (sn : Int)))), (4, .int (iI (cntA σ lo hi (sn : Int)))), (0, .ref x), (1, .int (iI lo)), (2, .int (iI hi)), (3, .int (iI (sn : Int)))]) hx hb dL_isRead_44 hl (by decide) rfl (fun ls hl => ?_)
  have lp_46 : ∀ (fuel wi : Nat) (a1 : Int) (a2 : Int), wi ≤ (npN σ + 1) → (npN σ + 1) + 1 ≤ wi + fuel → ∀ (h : Hp) (hC : CR cP cR x xp xr pa ra σ h) (hF : FrC h0 h) (ea1 : a1 = moS σ lo hi (sn : Int) wi) (ea2 : a2 = lvS σ lo hi (sn : Int) wi) (H : Heap) (locs : List Loc), Bk D z s.heap h H locs → ∀ ls : Array Slot, lv_has ls 13 [(9, .int (iI (wi : Int))), (8, .int (iI 1)), (7, .int (iI a2)), (6, .int (iI a1)), (5, .int (iI (rdA σ lo hi (sn : Int)))), (4, .int (iI (cntA σ lo hi (sn : Int)))), (0, .ref x), (1, .int (iI lo)), (2, .int (iI hi)), (3, .int (iI (sn : Int)))] → W p l e rmL_isRead s m args below meth c H locs (0 + 9 + 50 * wi) (0 + 45 + 285 * wi) (MQ below (Qx D z (fun v u => v = some (.int (iI 1)) ∧ CR cP cR x xp xr pa ra σ u ∧ FrC h0 u)) args s (rmL_isRead).cells (rmL_isRead).slots (zA z)) (F0 m 46 ls []) := by
    intro fuel
    induction fuel with
    | zero => intro wi a1 a2 w1 w2; exact absurd w2 (by omega)
    | succ fuel ih46 =>
      intro wi a1 a2 wa1 wa2 h hC hF ea1 ea2 H locs hB ls hl
      have ra1 := moS_rg (lo := lo) (hh := hi) (so := (sn : Int)) hI wi
      have ra2 := lvS_rg (σ := σ) (lo := lo) (hh := hi) (so := (sn : Int)) wi
      refine lv_iload hx hb dL_isRead_46 (lv_at hl 0 rfl) ?_
      refine lv_aload_n hx hb dL_isRead_48 rfl (lv_at hl 6 rfl) ?_
      refine m_run (va_runV (As := []) (rest := [.int (iI (wi : Int))]) ⟨hx, hb, hml, hown, hts⟩ (k_X3_parts (l := l) hC hI) (cwV 0 hts gL_isRead_X3_parts rfl rfl rfl (by decide +kernel) ⟨by decide, by decide⟩) ⟨Kp.blind _ _ _ _ _, m_recv hK hB (ci := 3) rfl hC.tb, fun U hU hW => hK.pass hB U hU hW⟩ rfl rfl hl.1 rfl (lv_room (Nat.le_of_ble_eq_true rfl)) dL_isRead_49 ⟨(by show 0 + 9 + 50 * wi + 0 + 0 ≤ 824; omega), (by show 0 + 45 + 285 * wi + 0 + 0 ≤ 4680; omega)⟩) hB (fun v u H locs hp hB => ?_)
      obtain ⟨rfl, hC, hFm⟩ := hp
      have hF := hF.tr hFm
      show W _ _ _ _ _ _ _ _ _ _ _ _ _ _ _ (F0 m 52 ls [.int (iI (σ 9 0)), .int (iI (wi : Int))])
      refine j_icmp_gt (tgt := 174) hx hb dL_isRead_52 (by decide) ⟨by omega, by omega⟩ ⟨by omega, by omega⟩ (fun c_2 => ?_) (fun c_2 => ?_)
      · refine W.widen (k := 0 + 9 + 50 * 16) (n := 0 + 45 + 285 * 16) (by show 0 + 9 + 50 * wi + 0 ≤ 0 + 9 + 50 * 16; omega) (by show 0 + 45 + 285 * wi + 0 ≤ 0 + 45 + 285 * 16; omega) ?_
        have ew : wi = npN σ + 1 := by omega
        have ea1 : cntA σ lo hi (sn : Int) ≤ a1 := by rw [ea1, ew]; exact moS_ge hI
        have ea2 : a2 = rdA σ lo hi (sn : Int) := by rw [ea2, ew]; exact lvS_eq hI
        refine lv_iload_n hx hb dL_isRead_174 rfl (lv_at hl 7 rfl) ?_
        refine lv_iload_n hx hb dL_isRead_175 rfl (lv_at hl 8 rfl) ?_
        refine j_iadd hx hb dL_isRead_176 ?_
        refine j_iconst hx hb dL_isRead_177 ?_
        refine j_idiv hx hb ⟨by omega, by omega⟩ ⟨by decide, by decide⟩ dL_isRead_178 ?_
        refine j_top (fun hf ehf => ?_)
        refine lv_istore (lv' := [(9, .int (iI hf)), (8, .int (iI 1)), (7, .int (iI a2)), (6, .int (iI a1)), (5, .int (iI (rdA σ lo hi (sn : Int)))), (4, .int (iI (cntA σ lo hi (sn : Int)))), (0, .ref x), (1, .int (iI lo)), (2, .int (iI hi)), (3, .int (iI (sn : Int)))]) hx hb dL_isRead_179 hl (by decide) rfl (fun ls hl => ?_)
        refine lv_iload_n hx hb dL_isRead_181 rfl (lv_at hl 9 rfl) ?_
        refine j_sipush hx hb dL_isRead_182 (by decide) ?_
        refine j_iand hx hb (by omega) (by decide) dL_isRead_185 ?_
        show W _ _ _ _ _ _ _ _ _ _ _ _ _ _ _ (F0 m 186 ls [.int (iI ((sn &&& 341 : Nat) : Int))])
        obtain ⟨ev1, ev2⟩ := ev_bit (a := sn) (by omega)
        refine lv_istore (lv' := [(10, .int (iI ((sn &&& 341 : Nat) : Int))), (9, .int (iI hf)), (8, .int (iI 1)), (7, .int (iI a2)), (6, .int (iI a1)), (5, .int (iI (rdA σ lo hi (sn : Int)))), (4, .int (iI (cntA σ lo hi (sn : Int)))), (0, .ref x), (1, .int (iI lo)), (2, .int (iI hi)), (3, .int (iI (sn : Int)))]) hx hb dL_isRead_186 hl (by decide) rfl (fun ls hl => ?_)
        refine lv_iload hx hb dL_isRead_188 (lv_at hl 2 rfl) ?_
        refine j_if_eq (tgt := 250) hx hb dL_isRead_190 (by decide) ⟨by decide, by decide⟩ (fun c_3 => False.elim (by omega)) (fun c_3 => ?_)
        refine lv_iload_n hx hb dL_isRead_193 rfl (lv_at hl 8 rfl) ?_
        refine lv_iload_n hx hb dL_isRead_194 rfl (lv_at hl 9 rfl) ?_
        refine j_icmp_eq (tgt := 222) hx hb dL_isRead_195 (by decide) ⟨by omega, by omega⟩ ⟨by omega, by omega⟩ (fun c_4 => ?_) (fun c_4 => ?_)
        · have q4 : cntA σ lo hi ((sn &&& 341 : Nat) : Int) = nCp σ lo hi ((sn &&& 341 : Nat) : Int) := cntA_eq hV (by omega) (by omega)
          have q4r := nCp_rg hI lo hi ((sn &&& 341 : Nat) : Int)
          have q5 : cntA σ lo hi ((sn : Int) - ((sn &&& 341 : Nat) : Int)) = nCp σ lo hi ((sn : Int) - ((sn &&& 341 : Nat) : Int)) := cntA_eq hV (by omega) (by omega)
          have q5r := nCp_rg hI lo hi ((sn : Int) - ((sn &&& 341 : Nat) : Int))
          have q6 := cut_sorts hI (lo := lo) (hh := hi) (a := sn) (by omega)
          refine lv_aload_n hx hb dL_isRead_222 rfl (lv_at hl 7 rfl) ?_
          refine lv_iload_n hx hb dL_isRead_223 rfl (lv_at hl 8 rfl) ?_
          refine lv_iload_n hx hb dL_isRead_224 rfl (lv_at hl 9 rfl) ?_
          refine lv_iload hx hb dL_isRead_225 (lv_at hl 0 rfl) ?_
          refine m_runX (vx_runV (As := [.int (iI lo), .int (iI hi), .int (iI ((sn &&& 341 : Nat) : Int))]) (rest := []) ⟨hx, hb, hml, hown, hts⟩ (k_X3_count (l := l) hfl hC hI (lo := lo) (hi := hi) (so := ((sn &&& 341 : Nat) : Int)) ⟨by omega, by omega⟩ ⟨by omega, by omega⟩ ⟨by omega, by omega⟩) (cwV 3 hts gL_isRead_X3_count rfl rfl rfl (by decide +kernel) ⟨by decide, by decide⟩) ⟨Kp.blind _ _ _ _ _, m_recv hK hB (ci := 3) rfl hC.tb, fun U hU hW => hK.pass hB U hU hW⟩ rfl rfl hl.1 rfl (lv_room (Nat.le_of_ble_eq_true rfl)) dL_isRead_227 ⟨(by show 0 + 9 + 50 * 16 + 0 + 3 ≤ 824; omega), (by show 0 + 45 + 285 * 16 + 0 + 15 ≤ 4680; omega)⟩) hB (fun E u H locs q9 ce hp hB hc9 hv9 hk9 => absurd (by unfold okQ; omega) hp.1.2) (fun v u H locs hp hB => ?_)
          obtain ⟨⟨-, rfl⟩, hC, hFm⟩ := hp
          have hF := hF.tr hFm
          show W _ _ _ _ _ _ _ _ _ _ _ _ _ _ _ (F0 m 230 ls [.int (iI (cntA σ lo hi ((sn &&& 341 : Nat) : Int)))])
          refine lv_aload_n hx hb dL_isRead_230 rfl (lv_at hl 7 rfl) ?_
          refine lv_iload_n hx hb dL_isRead_231 rfl (lv_at hl 8 rfl) ?_
          refine lv_iload_n hx hb dL_isRead_232 rfl (lv_at hl 9 rfl) ?_
          refine lv_iload_n hx hb dL_isRead_233 rfl (lv_at hl 10 rfl) ?_
          refine lv_iload hx hb dL_isRead_234 (lv_at hl 0 rfl) ?_
          refine j_isub hx hb dL_isRead_236 ?_
          refine m_runX (vx_runV (As := [.int (iI lo), .int (iI hi), .int (iI ((sn : Int) - ((sn &&& 341 : Nat) : Int)))]) (rest := [.int (iI (cntA σ lo hi ((sn &&& 341 : Nat) : Int)))]) ⟨hx, hb, hml, hown, hts⟩ (k_X3_count (l := l) hfl hC hI (lo := lo) (hi := hi) (so := ((sn : Int) - ((sn &&& 341 : Nat) : Int))) ⟨by omega, by omega⟩ ⟨by omega, by omega⟩ ⟨by omega, by omega⟩) (cwV 3 hts gL_isRead_X3_count rfl rfl rfl (by decide +kernel) ⟨by decide, by decide⟩) ⟨Kp.blind _ _ _ _ _, m_recv hK hB (ci := 3) rfl hC.tb, fun U hU hW => hK.pass hB U hU hW⟩ rfl rfl hl.1 rfl (lv_room (Nat.le_of_ble_eq_true rfl)) dL_isRead_237 ⟨(by show 0 + 9 + 50 * 16 + 3 + 3 ≤ 824; omega), (by show 0 + 45 + 285 * 16 + 15 + 15 ≤ 4680; omega)⟩) hB (fun E u H locs q9 ce hp hB hc9 hv9 hk9 => absurd (by unfold okQ; omega) hp.1.2) (fun v u H locs hp hB => ?_)
          obtain ⟨⟨-, rfl⟩, hC, hFm⟩ := hp
          have hF := hF.tr hFm
          show W _ _ _ _ _ _ _ _ _ _ _ _ _ _ _ (F0 m 240 ls [.int (iI (cntA σ lo hi ((sn : Int) - ((sn &&& 341 : Nat) : Int)))), .int (iI (cntA σ lo hi ((sn &&& 341 : Nat) : Int)))])
          refine j_iadd hx hb dL_isRead_240 ?_
          refine lv_iload hx hb dL_isRead_241 (lv_at hl 6 rfl) ?_
          refine j_icmp_ne (tgt := 250) hx hb dL_isRead_243 (by decide) ⟨by omega, by omega⟩ ⟨by omega, by omega⟩ (fun c_5 => False.elim (by omega)) (fun c_5 => ?_)
          refine j_iconst hx hb dL_isRead_246 ?_
          refine lv_goto (tgt := 251) hx hb dL_isRead_247 (by decide) ?_
          refine lv_istore (lv' := [(8, .int (iI 1)), (10, .int (iI ((sn &&& 341 : Nat) : Int))), (9, .int (iI hf)), (7, .int (iI a2)), (6, .int (iI a1)), (5, .int (iI (rdA σ lo hi (sn : Int)))), (4, .int (iI (cntA σ lo hi (sn : Int)))), (0, .ref x), (1, .int (iI lo)), (2, .int (iI hi)), (3, .int (iI (sn : Int)))]) hx hb dL_isRead_251 hl (by decide) rfl (fun ls hl => ?_)
          refine lv_iload hx hb dL_isRead_253 (lv_at hl 0 rfl) ?_
          refine j_if_eq (tgt := 298) hx hb dL_isRead_255 (by decide) ⟨by decide, by decide⟩ (fun c_6 => False.elim (by omega)) (fun c_6 => ?_)
          refine lv_iload hx hb dL_isRead_258 (lv_at hl 3 rfl) ?_
          refine lv_iload hx hb dL_isRead_260 (lv_at hl 5 rfl) ?_
          refine j_icmp_ne (tgt := 298) hx hb dL_isRead_262 (by decide) ⟨by omega, by omega⟩ ⟨by omega, by omega⟩ (fun c_7 => False.elim (by omega)) (fun c_7 => ?_)
          refine lv_iload hx hb dL_isRead_265 (lv_at hl 6 rfl) ?_
          refine lv_iload hx hb dL_isRead_267 (lv_at hl 4 rfl) ?_
          refine j_icmp_gt (tgt := 298) hx hb dL_isRead_269 (by decide) ⟨by omega, by omega⟩ ⟨by omega, by omega⟩ (fun c_8 => False.elim (by omega)) (fun c_8 => ?_)
          refine lv_iload_n hx hb dL_isRead_272 rfl (lv_at hl 10 rfl) ?_
          refine j_if_gt (tgt := 281) hx hb dL_isRead_273 (by decide) ⟨by omega, by omega⟩ (fun c_9 => ?_) (fun c_9 => ?_)
          · have q8 := rdA_mono hI (lo := lo) (hh := hi) (a := sn) (by omega)
            have q9 := rdA_rg hI (lo := lo) (hh := hi) (so := ((sn &&& 341 : Nat) : Int))
            refine lv_aload_n hx hb dL_isRead_281 rfl (lv_at hl 7 rfl) ?_
            refine lv_iload_n hx hb dL_isRead_282 rfl (lv_at hl 8 rfl) ?_
            refine lv_iload_n hx hb dL_isRead_283 rfl (lv_at hl 9 rfl) ?_
            refine lv_iload hx hb dL_isRead_284 (lv_at hl 1 rfl) ?_
            refine m_runX (vx_runV (As := [.int (iI lo), .int (iI hi), .int (iI ((sn &&& 341 : Nat) : Int))]) (rest := []) ⟨hx, hb, hml, hown, hts⟩ (k_X3_read (l := l) hfl hC hI (lo := lo) (hi := hi) (so := ((sn &&& 341 : Nat) : Int)) ⟨by omega, by omega⟩ ⟨by omega, by omega⟩ ⟨by omega, by omega⟩) (cwV 3 hts gL_isRead_X3_read rfl rfl rfl (by decide +kernel) ⟨by decide, by decide⟩) ⟨Kp.blind _ _ _ _ _, m_recv hK hB (ci := 3) rfl hC.tb, fun U hU hW => hK.pass hB U hU hW⟩ rfl rfl hl.1 rfl (lv_room (Nat.le_of_ble_eq_true rfl)) dL_isRead_286 ⟨(by show 0 + 9 + 50 * 16 + 6 + 3 ≤ 824; omega), (by show 0 + 45 + 285 * 16 + 30 + 15 ≤ 4680; omega)⟩) hB (fun E u H locs q9 ce hp hB hc9 hv9 hk9 => absurd (by unfold okQ; omega) hp.1.2) (fun v u H locs hp hB => ?_)
            obtain ⟨⟨-, rfl⟩, hC, hFm⟩ := hp
            have hF := hF.tr hFm
            show W _ _ _ _ _ _ _ _ _ _ _ _ _ _ _ (F0 m 289 ls [.int (iI (rdA σ lo hi ((sn &&& 341 : Nat) : Int)))])
            refine lv_iload hx hb dL_isRead_289 (lv_at hl 5 rfl) ?_
            refine j_icmp_gt (tgt := 298) hx hb dL_isRead_291 (by decide) ⟨by omega, by omega⟩ ⟨by omega, by omega⟩ (fun c_10 => False.elim (by omega)) (fun c_10 => ?_)
            refine j_iconst hx hb dL_isRead_294 ?_
            refine lv_goto (tgt := 299) hx hb dL_isRead_295 (by decide) ?_
            exact m_zret hx hb hr (by decide) hlocks hB (Nat.le_of_ble_eq_true rfl) (Nat.le_of_ble_eq_true rfl) dL_isRead_299 ⟨rfl, hC, hF⟩
          · have q7 : rdA σ lo hi (sn : Int) = 0 := by rw [show (sn : Int) = 0 by omega]; exact rdA_0
            refine lv_iload hx hb dL_isRead_276 (lv_at hl 5 rfl) ?_
            refine j_if_ne (tgt := 298) hx hb dL_isRead_278 (by decide) ⟨by omega, by omega⟩ (fun c_11 => False.elim (by omega)) (fun c_11 => ?_)
            have q8 := rdA_mono hI (lo := lo) (hh := hi) (a := sn) (by omega)
            have q9 := rdA_rg hI (lo := lo) (hh := hi) (so := ((sn &&& 341 : Nat) : Int))
            refine lv_aload_n hx hb dL_isRead_281 rfl (lv_at hl 7 rfl) ?_
            refine lv_iload_n hx hb dL_isRead_282 rfl (lv_at hl 8 rfl) ?_
            refine lv_iload_n hx hb dL_isRead_283 rfl (lv_at hl 9 rfl) ?_
            refine lv_iload hx hb dL_isRead_284 (lv_at hl 1 rfl) ?_
            refine m_runX (vx_runV (As := [.int (iI lo), .int (iI hi), .int (iI ((sn &&& 341 : Nat) : Int))]) (rest := []) ⟨hx, hb, hml, hown, hts⟩ (k_X3_read (l := l) hfl hC hI (lo := lo) (hi := hi) (so := ((sn &&& 341 : Nat) : Int)) ⟨by omega, by omega⟩ ⟨by omega, by omega⟩ ⟨by omega, by omega⟩) (cwV 3 hts gL_isRead_X3_read rfl rfl rfl (by decide +kernel) ⟨by decide, by decide⟩) ⟨Kp.blind _ _ _ _ _, m_recv hK hB (ci := 3) rfl hC.tb, fun U hU hW => hK.pass hB U hU hW⟩ rfl rfl hl.1 rfl (lv_room (Nat.le_of_ble_eq_true rfl)) dL_isRead_286 ⟨(by show 0 + 9 + 50 * 16 + 6 + 3 ≤ 824; omega), (by show 0 + 45 + 285 * 16 + 30 + 15 ≤ 4680; omega)⟩) hB (fun E u H locs q9 ce hp hB hc9 hv9 hk9 => absurd (by unfold okQ; omega) hp.1.2) (fun v u H locs hp hB => ?_)
            obtain ⟨⟨-, rfl⟩, hC, hFm⟩ := hp
            have hF := hF.tr hFm
            show W _ _ _ _ _ _ _ _ _ _ _ _ _ _ _ (F0 m 289 ls [.int (iI (rdA σ lo hi ((sn &&& 341 : Nat) : Int)))])
            refine lv_iload hx hb dL_isRead_289 (lv_at hl 5 rfl) ?_
            refine j_icmp_gt (tgt := 298) hx hb dL_isRead_291 (by decide) ⟨by omega, by omega⟩ ⟨by omega, by omega⟩ (fun c_12 => False.elim (by omega)) (fun c_12 => ?_)
            refine j_iconst hx hb dL_isRead_294 ?_
            refine lv_goto (tgt := 299) hx hb dL_isRead_295 (by decide) ?_
            exact m_zret hx hb hr (by decide) hlocks hB (Nat.le_of_ble_eq_true rfl) (Nat.le_of_ble_eq_true rfl) dL_isRead_299 ⟨rfl, hC, hF⟩
        · have q1 : cntA σ lo hf (sn : Int) = nCp σ lo hf (sn : Int) := cntA_eq hV (by omega) (by omega)
          have q1r := nCp_rg hI lo hf (sn : Int)
          have q2 : cntA σ (hf + 1) hi (sn : Int) = nCp σ (hf + 1) hi (sn : Int) := cntA_eq hV (by omega) (by omega)
          have q2r := nCp_rg hI (hf + 1) hi (sn : Int)
          have q3 := cut_half (so := (sn : Int)) hI (lo := lo) (hh := hi) (mi := hf) (by omega) (by omega)
          refine lv_aload_n hx hb dL_isRead_198 rfl (lv_at hl 7 rfl) ?_
          refine lv_iload_n hx hb dL_isRead_199 rfl (lv_at hl 8 rfl) ?_
          refine lv_iload hx hb dL_isRead_200 (lv_at hl 1 rfl) ?_
          refine lv_iload_n hx hb dL_isRead_202 rfl (lv_at hl 10 rfl) ?_
          refine m_runX (vx_runV (As := [.int (iI lo), .int (iI hf), .int (iI (sn : Int))]) (rest := []) ⟨hx, hb, hml, hown, hts⟩ (k_X3_count (l := l) hfl hC hI (lo := lo) (hi := hf) (so := (sn : Int)) ⟨by omega, by omega⟩ ⟨by omega, by omega⟩ ⟨by omega, by omega⟩) (cwV 3 hts gL_isRead_X3_count rfl rfl rfl (by decide +kernel) ⟨by decide, by decide⟩) ⟨Kp.blind _ _ _ _ _, m_recv hK hB (ci := 3) rfl hC.tb, fun U hU hW => hK.pass hB U hU hW⟩ rfl rfl hl.1 rfl (lv_room (Nat.le_of_ble_eq_true rfl)) dL_isRead_203 ⟨(by show 0 + 9 + 50 * 16 + 0 + 3 ≤ 824; omega), (by show 0 + 45 + 285 * 16 + 0 + 15 ≤ 4680; omega)⟩) hB (fun E u H locs q9 ce hp hB hc9 hv9 hk9 => absurd (by unfold okQ; omega) hp.1.2) (fun v u H locs hp hB => ?_)
          obtain ⟨⟨-, rfl⟩, hC, hFm⟩ := hp
          have hF := hF.tr hFm
          show W _ _ _ _ _ _ _ _ _ _ _ _ _ _ _ (F0 m 206 ls [.int (iI (cntA σ lo hf (sn : Int)))])
          refine lv_aload_n hx hb dL_isRead_206 rfl (lv_at hl 7 rfl) ?_
          refine lv_iload hx hb dL_isRead_207 (lv_at hl 1 rfl) ?_
          refine j_iconst hx hb dL_isRead_209 ?_
          refine j_iadd hx hb dL_isRead_210 ?_
          refine lv_iload_n hx hb dL_isRead_211 rfl (lv_at hl 9 rfl) ?_
          refine lv_iload_n hx hb dL_isRead_212 rfl (lv_at hl 10 rfl) ?_
          refine m_runX (vx_runV (As := [.int (iI (hf + 1)), .int (iI hi), .int (iI (sn : Int))]) (rest := [.int (iI (cntA σ lo hf (sn : Int)))]) ⟨hx, hb, hml, hown, hts⟩ (k_X3_count (l := l) hfl hC hI (lo := (hf + 1)) (hi := hi) (so := (sn : Int)) ⟨by omega, by omega⟩ ⟨by omega, by omega⟩ ⟨by omega, by omega⟩) (cwV 3 hts gL_isRead_X3_count rfl rfl rfl (by decide +kernel) ⟨by decide, by decide⟩) ⟨Kp.blind _ _ _ _ _, m_recv hK hB (ci := 3) rfl hC.tb, fun U hU hW => hK.pass hB U hU hW⟩ rfl rfl hl.1 rfl (lv_room (Nat.le_of_ble_eq_true rfl)) dL_isRead_213 ⟨(by show 0 + 9 + 50 * 16 + 3 + 3 ≤ 824; omega), (by show 0 + 45 + 285 * 16 + 15 + 15 ≤ 4680; omega)⟩) hB (fun E u H locs q9 ce hp hB hc9 hv9 hk9 => absurd (by unfold okQ; omega) hp.1.2) (fun v u H locs hp hB => ?_)
          obtain ⟨⟨-, rfl⟩, hC, hFm⟩ := hp
          have hF := hF.tr hFm
          show W _ _ _ _ _ _ _ _ _ _ _ _ _ _ _ (F0 m 216 ls [.int (iI (cntA σ (hf + 1) hi (sn : Int))), .int (iI (cntA σ lo hf (sn : Int)))])
          refine j_iadd hx hb dL_isRead_216 ?_
          refine lv_iload hx hb dL_isRead_217 (lv_at hl 6 rfl) ?_
          refine j_icmp_ne (tgt := 250) hx hb dL_isRead_219 (by decide) ⟨by omega, by omega⟩ ⟨by omega, by omega⟩ (fun c_13 => False.elim (by omega)) (fun c_13 => ?_)
          have q4 : cntA σ lo hi ((sn &&& 341 : Nat) : Int) = nCp σ lo hi ((sn &&& 341 : Nat) : Int) := cntA_eq hV (by omega) (by omega)
          have q4r := nCp_rg hI lo hi ((sn &&& 341 : Nat) : Int)
          have q5 : cntA σ lo hi ((sn : Int) - ((sn &&& 341 : Nat) : Int)) = nCp σ lo hi ((sn : Int) - ((sn &&& 341 : Nat) : Int)) := cntA_eq hV (by omega) (by omega)
          have q5r := nCp_rg hI lo hi ((sn : Int) - ((sn &&& 341 : Nat) : Int))
          have q6 := cut_sorts hI (lo := lo) (hh := hi) (a := sn) (by omega)
          refine lv_aload_n hx hb dL_isRead_222 rfl (lv_at hl 7 rfl) ?_
          refine lv_iload_n hx hb dL_isRead_223 rfl (lv_at hl 8 rfl) ?_
          refine lv_iload_n hx hb dL_isRead_224 rfl (lv_at hl 9 rfl) ?_
          refine lv_iload hx hb dL_isRead_225 (lv_at hl 0 rfl) ?_
          refine m_runX (vx_runV (As := [.int (iI lo), .int (iI hi), .int (iI ((sn &&& 341 : Nat) : Int))]) (rest := []) ⟨hx, hb, hml, hown, hts⟩ (k_X3_count (l := l) hfl hC hI (lo := lo) (hi := hi) (so := ((sn &&& 341 : Nat) : Int)) ⟨by omega, by omega⟩ ⟨by omega, by omega⟩ ⟨by omega, by omega⟩) (cwV 3 hts gL_isRead_X3_count rfl rfl rfl (by decide +kernel) ⟨by decide, by decide⟩) ⟨Kp.blind _ _ _ _ _, m_recv hK hB (ci := 3) rfl hC.tb, fun U hU hW => hK.pass hB U hU hW⟩ rfl rfl hl.1 rfl (lv_room (Nat.le_of_ble_eq_true rfl)) dL_isRead_227 ⟨(by show 0 + 9 + 50 * 16 + 6 + 3 ≤ 824; omega), (by show 0 + 45 + 285 * 16 + 30 + 15 ≤ 4680; omega)⟩) hB (fun E u H locs q9 ce hp hB hc9 hv9 hk9 => absurd (by unfold okQ; omega) hp.1.2) (fun v u H locs hp hB => ?_)
          obtain ⟨⟨-, rfl⟩, hC, hFm⟩ := hp
          have hF := hF.tr hFm
          show W _ _ _ _ _ _ _ _ _ _ _ _ _ _ _ (F0 m 230 ls [.int (iI (cntA σ lo hi ((sn &&& 341 : Nat) : Int)))])
          refine lv_aload_n hx hb dL_isRead_230 rfl (lv_at hl 7 rfl) ?_
          refine lv_iload_n hx hb dL_isRead_231 rfl (lv_at hl 8 rfl) ?_
          refine lv_iload_n hx hb dL_isRead_232 rfl (lv_at hl 9 rfl) ?_
          refine lv_iload_n hx hb dL_isRead_233 rfl (lv_at hl 10 rfl) ?_
          refine lv_iload hx hb dL_isRead_234 (lv_at hl 0 rfl) ?_
          refine j_isub hx hb dL_isRead_236 ?_
          refine m_runX (vx_runV (As := [.int (iI lo), .int (iI hi), .int (iI ((sn : Int) - ((sn &&& 341 : Nat) : Int)))]) (rest := [.int (iI (cntA σ lo hi ((sn &&& 341 : Nat) : Int)))]) ⟨hx, hb, hml, hown, hts⟩ (k_X3_count (l := l) hfl hC hI (lo := lo) (hi := hi) (so := ((sn : Int) - ((sn &&& 341 : Nat) : Int))) ⟨by omega, by omega⟩ ⟨by omega, by omega⟩ ⟨by omega, by omega⟩) (cwV 3 hts gL_isRead_X3_count rfl rfl rfl (by decide +kernel) ⟨by decide, by decide⟩) ⟨Kp.blind _ _ _ _ _, m_recv hK hB (ci := 3) rfl hC.tb, fun U hU hW => hK.pass hB U hU hW⟩ rfl rfl hl.1 rfl (lv_room (Nat.le_of_ble_eq_true rfl)) dL_isRead_237 ⟨(by show 0 + 9 + 50 * 16 + 9 + 3 ≤ 824; omega), (by show 0 + 45 + 285 * 16 + 45 + 15 ≤ 4680; omega)⟩) hB (fun E u H locs q9 ce hp hB hc9 hv9 hk9 => absurd (by unfold okQ; omega) hp.1.2) (fun v u H locs hp hB => ?_)
          obtain ⟨⟨-, rfl⟩, hC, hFm⟩ := hp
          have hF := hF.tr hFm
          show W _ _ _ _ _ _ _ _ _ _ _ _ _ _ _ (F0 m 240 ls [.int (iI (cntA σ lo hi ((sn : Int) - ((sn &&& 341 : Nat) : Int)))), .int (iI (cntA σ lo hi ((sn &&& 341 : Nat) : Int)))])
          refine j_iadd hx hb dL_isRead_240 ?_
          refine lv_iload hx hb dL_isRead_241 (lv_at hl 6 rfl) ?_
          refine j_icmp_ne (tgt := 250) hx hb dL_isRead_243 (by decide) ⟨by omega, by omega⟩ ⟨by omega, by omega⟩ (fun c_14 => False.elim (by omega)) (fun c_14 => ?_)
          refine j_iconst hx hb dL_isRead_246 ?_
          refine lv_goto (tgt := 251) hx hb dL_isRead_247 (by decide) ?_
          refine lv_istore (lv' := [(8, .int (iI 1)), (10, .int (iI ((sn &&& 341 : Nat) : Int))), (9, .int (iI hf)), (7, .int (iI a2)), (6, .int (iI a1)), (5, .int (iI (rdA σ lo hi (sn : Int)))), (4, .int (iI (cntA σ lo hi (sn : Int)))), (0, .ref x), (1, .int (iI lo)), (2, .int (iI hi)), (3, .int (iI (sn : Int)))]) hx hb dL_isRead_251 hl (by decide) rfl (fun ls hl => ?_)
          refine lv_iload hx hb dL_isRead_253 (lv_at hl 0 rfl) ?_
          refine j_if_eq (tgt := 298) hx hb dL_isRead_255 (by decide) ⟨by decide, by decide⟩ (fun c_15 => False.elim (by omega)) (fun c_15 => ?_)
          refine lv_iload hx hb dL_isRead_258 (lv_at hl 3 rfl) ?_
          refine lv_iload hx hb dL_isRead_260 (lv_at hl 5 rfl) ?_
          refine j_icmp_ne (tgt := 298) hx hb dL_isRead_262 (by decide) ⟨by omega, by omega⟩ ⟨by omega, by omega⟩ (fun c_16 => False.elim (by omega)) (fun c_16 => ?_)
          refine lv_iload hx hb dL_isRead_265 (lv_at hl 6 rfl) ?_
          refine lv_iload hx hb dL_isRead_267 (lv_at hl 4 rfl) ?_
          refine j_icmp_gt (tgt := 298) hx hb dL_isRead_269 (by decide) ⟨by omega, by omega⟩ ⟨by omega, by omega⟩ (fun c_17 => False.elim (by omega)) (fun c_17 => ?_)
          refine lv_iload_n hx hb dL_isRead_272 rfl (lv_at hl 10 rfl) ?_
          refine j_if_gt (tgt := 281) hx hb dL_isRead_273 (by decide) ⟨by omega, by omega⟩ (fun c_18 => ?_) (fun c_18 => ?_)
          · have q8 := rdA_mono hI (lo := lo) (hh := hi) (a := sn) (by omega)
            have q9 := rdA_rg hI (lo := lo) (hh := hi) (so := ((sn &&& 341 : Nat) : Int))
            refine lv_aload_n hx hb dL_isRead_281 rfl (lv_at hl 7 rfl) ?_
            refine lv_iload_n hx hb dL_isRead_282 rfl (lv_at hl 8 rfl) ?_
            refine lv_iload_n hx hb dL_isRead_283 rfl (lv_at hl 9 rfl) ?_
            refine lv_iload hx hb dL_isRead_284 (lv_at hl 1 rfl) ?_
            refine m_runX (vx_runV (As := [.int (iI lo), .int (iI hi), .int (iI ((sn &&& 341 : Nat) : Int))]) (rest := []) ⟨hx, hb, hml, hown, hts⟩ (k_X3_read (l := l) hfl hC hI (lo := lo) (hi := hi) (so := ((sn &&& 341 : Nat) : Int)) ⟨by omega, by omega⟩ ⟨by omega, by omega⟩ ⟨by omega, by omega⟩) (cwV 3 hts gL_isRead_X3_read rfl rfl rfl (by decide +kernel) ⟨by decide, by decide⟩) ⟨Kp.blind _ _ _ _ _, m_recv hK hB (ci := 3) rfl hC.tb, fun U hU hW => hK.pass hB U hU hW⟩ rfl rfl hl.1 rfl (lv_room (Nat.le_of_ble_eq_true rfl)) dL_isRead_286 ⟨(by show 0 + 9 + 50 * 16 + 12 + 3 ≤ 824; omega), (by show 0 + 45 + 285 * 16 + 60 + 15 ≤ 4680; omega)⟩) hB (fun E u H locs q9 ce hp hB hc9 hv9 hk9 => absurd (by unfold okQ; omega) hp.1.2) (fun v u H locs hp hB => ?_)
            obtain ⟨⟨-, rfl⟩, hC, hFm⟩ := hp
            have hF := hF.tr hFm
            show W _ _ _ _ _ _ _ _ _ _ _ _ _ _ _ (F0 m 289 ls [.int (iI (rdA σ lo hi ((sn &&& 341 : Nat) : Int)))])
            refine lv_iload hx hb dL_isRead_289 (lv_at hl 5 rfl) ?_
            refine j_icmp_gt (tgt := 298) hx hb dL_isRead_291 (by decide) ⟨by omega, by omega⟩ ⟨by omega, by omega⟩ (fun c_19 => False.elim (by omega)) (fun c_19 => ?_)
            refine j_iconst hx hb dL_isRead_294 ?_
            refine lv_goto (tgt := 299) hx hb dL_isRead_295 (by decide) ?_
            exact m_zret hx hb hr (by decide) hlocks hB (Nat.le_of_ble_eq_true rfl) (Nat.le_of_ble_eq_true rfl) dL_isRead_299 ⟨rfl, hC, hF⟩
          · have q7 : rdA σ lo hi (sn : Int) = 0 := by rw [show (sn : Int) = 0 by omega]; exact rdA_0
            refine lv_iload hx hb dL_isRead_276 (lv_at hl 5 rfl) ?_
            refine j_if_ne (tgt := 298) hx hb dL_isRead_278 (by decide) ⟨by omega, by omega⟩ (fun c_20 => False.elim (by omega)) (fun c_20 => ?_)
            have q8 := rdA_mono hI (lo := lo) (hh := hi) (a := sn) (by omega)
            have q9 := rdA_rg hI (lo := lo) (hh := hi) (so := ((sn &&& 341 : Nat) : Int))
            refine lv_aload_n hx hb dL_isRead_281 rfl (lv_at hl 7 rfl) ?_
            refine lv_iload_n hx hb dL_isRead_282 rfl (lv_at hl 8 rfl) ?_
            refine lv_iload_n hx hb dL_isRead_283 rfl (lv_at hl 9 rfl) ?_
            refine lv_iload hx hb dL_isRead_284 (lv_at hl 1 rfl) ?_
            refine m_runX (vx_runV (As := [.int (iI lo), .int (iI hi), .int (iI ((sn &&& 341 : Nat) : Int))]) (rest := []) ⟨hx, hb, hml, hown, hts⟩ (k_X3_read (l := l) hfl hC hI (lo := lo) (hi := hi) (so := ((sn &&& 341 : Nat) : Int)) ⟨by omega, by omega⟩ ⟨by omega, by omega⟩ ⟨by omega, by omega⟩) (cwV 3 hts gL_isRead_X3_read rfl rfl rfl (by decide +kernel) ⟨by decide, by decide⟩) ⟨Kp.blind _ _ _ _ _, m_recv hK hB (ci := 3) rfl hC.tb, fun U hU hW => hK.pass hB U hU hW⟩ rfl rfl hl.1 rfl (lv_room (Nat.le_of_ble_eq_true rfl)) dL_isRead_286 ⟨(by show 0 + 9 + 50 * 16 + 12 + 3 ≤ 824; omega), (by show 0 + 45 + 285 * 16 + 60 + 15 ≤ 4680; omega)⟩) hB (fun E u H locs q9 ce hp hB hc9 hv9 hk9 => absurd (by unfold okQ; omega) hp.1.2) (fun v u H locs hp hB => ?_)
            obtain ⟨⟨-, rfl⟩, hC, hFm⟩ := hp
            have hF := hF.tr hFm
            show W _ _ _ _ _ _ _ _ _ _ _ _ _ _ _ (F0 m 289 ls [.int (iI (rdA σ lo hi ((sn &&& 341 : Nat) : Int)))])
            refine lv_iload hx hb dL_isRead_289 (lv_at hl 5 rfl) ?_
            refine j_icmp_gt (tgt := 298) hx hb dL_isRead_291 (by decide) ⟨by omega, by omega⟩ ⟨by omega, by omega⟩ (fun c_21 => False.elim (by omega)) (fun c_21 => ?_)
            refine j_iconst hx hb dL_isRead_294 ?_
            refine lv_goto (tgt := 299) hx hb dL_isRead_295 (by decide) ?_
            exact m_zret hx hb hr (by decide) hlocks hB (Nat.le_of_ble_eq_true rfl) (Nat.le_of_ble_eq_true rfl) dL_isRead_299 ⟨rfl, hC, hF⟩
      · refine lv_iload hx hb dL_isRead_55 (lv_at hl 1 rfl) ?_
        refine j_if_eq (tgt := 174) hx hb dL_isRead_57 (by decide) ⟨by decide, by decide⟩ (fun c_22 => False.elim (by omega)) (fun c_22 => ?_)
        have hpt := hI.part wi (by omega)
        refine j_iconst hx hb dL_isRead_60 ?_
        refine lv_istore (lv' := [(10, .int (iI 0)), (9, .int (iI (wi : Int))), (8, .int (iI 1)), (7, .int (iI a2)), (6, .int (iI a1)), (5, .int (iI (rdA σ lo hi (sn : Int)))), (4, .int (iI (cntA σ lo hi (sn : Int)))), (0, .ref x), (1, .int (iI lo)), (2, .int (iI hi)), (3, .int (iI (sn : Int)))]) hx hb dL_isRead_61 hl (by decide) rfl (fun ls hl => ?_)
        have lp_63 : ∀ (fuel wj : Nat) (y1 : Int) (y2 : Int), wj ≤ 5 → 5 + 1 ≤ wj + fuel → ∀ (h : Hp) (hC : CR cP cR x xp xr pa ra σ h) (hF : FrC h0 h) (eb1 : y1 = moS σ lo hi (sn : Int) wi + moP σ lo hi (sn : Int) wi wj) (eb2 : y2 = lvS σ lo hi (sn : Int) wi + lvP σ lo hi (sn : Int) wi wj) (H : Heap) (locs : List Loc), Bk D z s.heap h H locs → ∀ ls : Array Slot, lv_has ls 13 [(10, .int (iI (wj : Int))), (9, .int (iI (wi : Int))), (8, .int (iI 1)), (7, .int (iI y2)), (6, .int (iI y1)), (5, .int (iI (rdA σ lo hi (sn : Int)))), (4, .int (iI (cntA σ lo hi (sn : Int)))), (0, .ref x), (1, .int (iI lo)), (2, .int (iI hi)), (3, .int (iI (sn : Int)))] → W p l e rmL_isRead s m args below meth c H locs (0 + 9 + 50 * wi + 0 + 10 * wj) (0 + 45 + 285 * wi + 0 + 57 * wj) (MQ below (Qx D z (fun v u => v = some (.int (iI 1)) ∧ CR cP cR x xp xr pa ra σ u ∧ FrC h0 u)) args s (rmL_isRead).cells (rmL_isRead).slots (zA z)) (F0 m 63 ls []) := by
          intro fuel
          induction fuel with
          | zero => intro wj y1 y2 w1 w2; exact absurd w2 (by omega)
          | succ fuel ih63 =>
            intro wj y1 y2 w1 w2 h hC hF eb1 eb2 H locs hB ls hl
            have rb1 := moP_rg (lo := lo) (hh := hi) (so := (sn : Int)) hI wi wj
            have rb2 := lvP_rg (σ := σ) (lo := lo) (hh := hi) (so := (sn : Int)) wi wj
            refine lv_iload hx hb dL_isRead_63 (lv_at hl 0 rfl) ?_
            refine j_iconst hx hb dL_isRead_65 ?_
            refine j_icmp_ge (tgt := 168) hx hb dL_isRead_66 (by decide) ⟨by omega, by omega⟩ ⟨by decide, by decide⟩ (fun c_23 => ?_) (fun c_23 => ?_)
            · refine W.widen (k := 0 + 9 + 50 * wi + 0 + 10 * 5) (n := 0 + 45 + 285 * wi + 0 + 57 * 5) (by show 0 + 9 + 50 * wi + 0 + 10 * wj + 0 ≤ 0 + 9 + 50 * wi + 0 + 10 * 5; omega) (by show 0 + 45 + 285 * wi + 0 + 57 * wj + 0 ≤ 0 + 45 + 285 * wi + 0 + 57 * 5; omega) ?_
              have ej : wj = 5 := by omega
              rw [ej] at eb1 eb2
              refine j_iinc (lv' := [(9, .int (iI ((wi + 1 : Nat) : Int))), (10, .int (iI (wj : Int))), (8, .int (iI 1)), (7, .int (iI y2)), (6, .int (iI y1)), (5, .int (iI (rdA σ lo hi (sn : Int)))), (4, .int (iI (cntA σ lo hi (sn : Int)))), (0, .ref x), (1, .int (iI lo)), (2, .int (iI hi)), (3, .int (iI (sn : Int)))]) hx hb dL_isRead_168 hl (k := 1) rfl (by decide) rfl (fun ls hl => ?_)
              refine lv_goto (tgt := 46) hx hb dL_isRead_171 (by decide) ?_
              refine W.widen (k := 0 + 9 + 50 * (wi + 1)) (n := 0 + 45 + 285 * (wi + 1)) (by show 0 + 9 + 50 * wi + 0 + 10 * 5 + 0 ≤ 0 + 9 + 50 * (wi + 1); omega) (by show 0 + 45 + 285 * wi + 0 + 57 * 5 + 0 ≤ 0 + 45 + 285 * (wi + 1); omega) ?_
              exact ih46 (wi + 1) y1 y2 (by omega) (by omega) _ hC hF (by rw [mp_s]; omega) (by rw [lp_s]; omega) _ _ hB ls (lv_sub hl [0, 2, 3, 4, 5, 6, 7, 8, 9, 10] rfl)
            · refine lv_aload_n hx hb dL_isRead_69 rfl (lv_at hl 7 rfl) ?_
              refine lv_iload hx hb dL_isRead_70 (lv_at hl 1 rfl) ?_
              refine lv_iload hx hb dL_isRead_72 (lv_at hl 0 rfl) ?_
              refine m_run (vx_runSW (As := [.ref x, .int (iI (wi : Int)), .int (iI (wj : Int))]) (rest := []) ⟨hx, hb, hml, hown, hts⟩ (k_L_rowsIn (l := l) hfl hC hV (n := (wi : Int)) (lf := (wj : Int)) ⟨by omega, by omega⟩ ⟨by omega, by omega⟩) (vx_cwSW 3 hts gL_isRead_L_rowsIn rfl rfl rfl (by decide +kernel) ⟨by decide, by decide⟩) ⟨Kp.blind _ _ _ _ _, fun U hU hW => hK.pass hB U hU hW⟩ rfl rfl hl.1 rfl (lv_room (Nat.le_of_ble_eq_true rfl)) dL_isRead_74 ⟨(by show 0 + 9 + 50 * wi + 0 + 10 * wj + 0 + 3 ≤ 824; omega), (by show 0 + 45 + 285 * wi + 0 + 57 * wj + 0 + 18 ≤ 4680; omega)⟩) hB (fun v u H locs hp hB => ?_)
              rcases hp with ⟨rfl, hL, hC, hFm⟩ | ⟨rfl, hL, hC, hFm⟩
              · have hF := hF.tr hFm
                show W _ _ _ _ _ _ _ _ _ _ _ _ _ _ _ (F0 m 77 ls [.int (iI (-1))])
                refine lv_istore (lv' := [(11, .int (iI (-1))), (10, .int (iI (wj : Int))), (9, .int (iI (wi : Int))), (8, .int (iI 1)), (7, .int (iI y2)), (6, .int (iI y1)), (5, .int (iI (rdA σ lo hi (sn : Int)))), (4, .int (iI (cntA σ lo hi (sn : Int)))), (0, .ref x), (1, .int (iI lo)), (2, .int (iI hi)), (3, .int (iI (sn : Int)))]) hx hb dL_isRead_77 hl (by decide) rfl (fun ls hl => ?_)
                refine lv_iload hx hb dL_isRead_79 (lv_at hl 0 rfl) ?_
                refine j_if_lt (tgt := 102) hx hb dL_isRead_81 (by decide) ⟨by decide, by decide⟩ (fun c_24 => ?_) (fun c_24 => False.elim (by omega))
                have e1 := lp_f (lo := lo) (hh := hi) (so := (sn : Int)) (fun q => hL q.1)
                refine j_iconst hx hb dL_isRead_102 ?_
                refine lv_istore (lv' := [(12, .int (iI 0)), (11, .int (iI (-1))), (10, .int (iI (wj : Int))), (9, .int (iI (wi : Int))), (8, .int (iI 1)), (7, .int (iI y2)), (6, .int (iI y1)), (5, .int (iI (rdA σ lo hi (sn : Int)))), (4, .int (iI (cntA σ lo hi (sn : Int)))), (0, .ref x), (1, .int (iI lo)), (2, .int (iI hi)), (3, .int (iI (sn : Int)))]) hx hb dL_isRead_103 hl (by decide) rfl (fun ls hl => ?_)
                refine lv_iload hx hb dL_isRead_105 (lv_at hl 5 rfl) ?_
                refine lv_iload hx hb dL_isRead_107 (lv_at hl 0 rfl) ?_
                refine j_if_eq (tgt := 116) hx hb dL_isRead_109 (by decide) ⟨by decide, by decide⟩ (fun c_25 => ?_) (fun c_25 => False.elim (by omega))
                refine j_iconst hx hb dL_isRead_116 ?_
                refine j_iadd hx hb dL_isRead_117 ?_
                refine lv_istore (lv' := [(7, .int (iI (y2 + 0))), (12, .int (iI 0)), (11, .int (iI (-1))), (10, .int (iI (wj : Int))), (9, .int (iI (wi : Int))), (8, .int (iI 1)), (6, .int (iI y1)), (5, .int (iI (rdA σ lo hi (sn : Int)))), (4, .int (iI (cntA σ lo hi (sn : Int)))), (0, .ref x), (1, .int (iI lo)), (2, .int (iI hi)), (3, .int (iI (sn : Int)))]) hx hb dL_isRead_118 hl (by decide) rfl (fun ls hl => ?_)
                refine lv_iload hx hb dL_isRead_120 (lv_at hl 6 rfl) ?_
                refine lv_iload hx hb dL_isRead_122 (lv_at hl 1 rfl) ?_
                refine j_if_eq (tgt := 132) hx hb dL_isRead_124 (by decide) ⟨by decide, by decide⟩ (fun c_26 => ?_) (fun c_26 => False.elim (by omega))
                refine j_iconst hx hb dL_isRead_132 ?_
                refine j_iadd hx hb dL_isRead_133 ?_
                refine lv_istore (lv' := [(6, .int (iI (y1 + 0))), (7, .int (iI (y2 + 0))), (12, .int (iI 0)), (11, .int (iI (-1))), (10, .int (iI (wj : Int))), (9, .int (iI (wi : Int))), (8, .int (iI 1)), (5, .int (iI (rdA σ lo hi (sn : Int)))), (4, .int (iI (cntA σ lo hi (sn : Int)))), (0, .ref x), (1, .int (iI lo)), (2, .int (iI hi)), (3, .int (iI (sn : Int)))]) hx hb dL_isRead_134 hl (by decide) rfl (fun ls hl => ?_)
                refine lv_iload hx hb dL_isRead_136 (lv_at hl 6 rfl) ?_
                refine j_if_eq (tgt := 159) hx hb dL_isRead_138 (by decide) ⟨by decide, by decide⟩ (fun c_27 => False.elim (by omega)) (fun c_27 => ?_)
                refine lv_iload hx hb dL_isRead_141 (lv_at hl 2 rfl) ?_
                refine j_if_eq (tgt := 155) hx hb dL_isRead_143 (by decide) ⟨by decide, by decide⟩ (fun c_28 => ?_) (fun c_28 => False.elim (by omega))
                refine j_iconst hx hb dL_isRead_155 ?_
                refine lv_goto (tgt := 160) hx hb dL_isRead_156 (by decide) ?_
                refine lv_istore (lv' := [(8, .int (iI 1)), (6, .int (iI (y1 + 0))), (7, .int (iI (y2 + 0))), (12, .int (iI 0)), (11, .int (iI (-1))), (10, .int (iI (wj : Int))), (9, .int (iI (wi : Int))), (5, .int (iI (rdA σ lo hi (sn : Int)))), (4, .int (iI (cntA σ lo hi (sn : Int)))), (0, .ref x), (1, .int (iI lo)), (2, .int (iI hi)), (3, .int (iI (sn : Int)))]) hx hb dL_isRead_160 hl (by decide) rfl (fun ls hl => ?_)
                refine j_iinc (lv' := [(10, .int (iI ((wj + 1 : Nat) : Int))), (8, .int (iI 1)), (6, .int (iI (y1 + 0))), (7, .int (iI (y2 + 0))), (12, .int (iI 0)), (11, .int (iI (-1))), (9, .int (iI (wi : Int))), (5, .int (iI (rdA σ lo hi (sn : Int)))), (4, .int (iI (cntA σ lo hi (sn : Int)))), (0, .ref x), (1, .int (iI lo)), (2, .int (iI hi)), (3, .int (iI (sn : Int)))]) hx hb dL_isRead_162 hl (k := 5) rfl (by decide) rfl (fun ls hl => ?_)
                refine lv_goto (tgt := 63) hx hb dL_isRead_165 (by decide) ?_
                refine W.widen (k := 0 + 9 + 50 * wi + 0 + 10 * (wj + 1)) (n := 0 + 45 + 285 * wi + 0 + 57 * (wj + 1)) (by show 0 + 9 + 50 * wi + 0 + 10 * wj + 3 ≤ 0 + 9 + 50 * wi + 0 + 10 * (wj + 1); omega) (by show 0 + 45 + 285 * wi + 0 + 57 * wj + 18 ≤ 0 + 45 + 285 * wi + 0 + 57 * (wj + 1); omega) ?_
                exact ih63 (wj + 1) (y1 + 0) (y2 + 0) (by omega) (by omega) _ hC hF (by omega) (by omega) _ _ hB ls (lv_sub hl [0, 6, 1, 3, 2, 7, 8, 9, 10, 11, 12] rfl)
              · have hF := hF.tr hFm
                show W _ _ _ _ _ _ _ _ _ _ _ _ _ _ _ (F0 m 77 ls [.int (iI (nIn σ wi (wj : Int)))])
                have nr := nIn_rg hI wi (wj : Int)
                refine lv_istore (lv' := [(11, .int (iI (nIn σ wi (wj : Int)))), (10, .int (iI (wj : Int))), (9, .int (iI (wi : Int))), (8, .int (iI 1)), (7, .int (iI y2)), (6, .int (iI y1)), (5, .int (iI (rdA σ lo hi (sn : Int)))), (4, .int (iI (cntA σ lo hi (sn : Int)))), (0, .ref x), (1, .int (iI lo)), (2, .int (iI hi)), (3, .int (iI (sn : Int)))]) hx hb dL_isRead_77 hl (by decide) rfl (fun ls hl => ?_)
                refine lv_iload hx hb dL_isRead_79 (lv_at hl 0 rfl) ?_
                refine j_if_lt (tgt := 102) hx hb dL_isRead_81 (by decide) ⟨by omega, by omega⟩ (fun c_29 => False.elim (by omega)) (fun c_29 => ?_)
                refine lv_aload_n hx hb dL_isRead_84 rfl (lv_at hl 8 rfl) ?_
                refine lv_iload hx hb dL_isRead_85 (lv_at hl 2 rfl) ?_
                refine lv_iload hx hb dL_isRead_87 (lv_at hl 1 rfl) ?_
                refine lv_iload_n hx hb dL_isRead_89 rfl (lv_at hl 9 rfl) ?_
                refine lv_iload_n hx hb dL_isRead_90 rfl (lv_at hl 10 rfl) ?_
                refine lv_iload_n hx hb dL_isRead_91 rfl (lv_at hl 11 rfl) ?_
                refine m_runX (vx_runV (As := [.int (iI (wi : Int)), .int (iI (wj : Int)), .int (iI lo), .int (iI hi), .int (iI (sn : Int))]) (rest := []) ⟨hx, hb, hml, hown, hts⟩ (k_X3_matters (l := l) hfl hC hI (nn := (wi : Int)) (le := (wj : Int)) (lo := lo) (hi := hi) (so := (sn : Int)) ⟨by omega, by omega⟩ ⟨by omega, by omega⟩ ⟨by omega, by omega⟩ ⟨by omega, by omega⟩ ⟨by omega, by omega⟩) (cwV 5 hts gL_isRead_X3_matters rfl rfl rfl (by decide +kernel) ⟨by decide, by decide⟩) ⟨Kp.blind _ _ _ _ _, m_recv hK hB (ci := 3) rfl hC.tb, fun U hU hW => hK.pass hB U hU hW⟩ rfl rfl hl.1 rfl (lv_room (Nat.le_of_ble_eq_true rfl)) dL_isRead_92 ⟨(by show 0 + 9 + 50 * wi + 0 + 10 * wj + 3 + 6 ≤ 824; omega), (by show 0 + 45 + 285 * wi + 0 + 57 * wj + 18 + 33 ≤ 4680; omega)⟩) hB (fun E u H locs q9 ce hp hB hc9 hv9 hk9 => hp.1.elim (fun w => absurd hL w.2) (fun w => absurd (by unfold okQ; omega) w.2.2)) (fun v u H locs hp hB => ?_)
                obtain ⟨⟨-, -, rfl⟩, hC, hFm⟩ := hp
                have hF := hF.tr hFm
                show W _ _ _ _ _ _ _ _ _ _ _ _ _ _ _ (F0 m 95 ls [.int (iI (b2 (mayM σ wi (wj : Int) lo hi (sn : Int))))])
                refine j_ifeqP (tgt := 102) hx hb dL_isRead_95 (by decide) (fun c_30 => ?_) (fun c_30 => ?_)
                · have e1 := lp_f (fun q => c_30 q.2)
                  refine j_iconst hx hb dL_isRead_102 ?_
                  refine lv_istore (lv' := [(12, .int (iI 0)), (11, .int (iI (nIn σ wi (wj : Int)))), (10, .int (iI (wj : Int))), (9, .int (iI (wi : Int))), (8, .int (iI 1)), (7, .int (iI y2)), (6, .int (iI y1)), (5, .int (iI (rdA σ lo hi (sn : Int)))), (4, .int (iI (cntA σ lo hi (sn : Int)))), (0, .ref x), (1, .int (iI lo)), (2, .int (iI hi)), (3, .int (iI (sn : Int)))]) hx hb dL_isRead_103 hl (by decide) rfl (fun ls hl => ?_)
                  refine lv_iload hx hb dL_isRead_105 (lv_at hl 5 rfl) ?_
                  refine lv_iload hx hb dL_isRead_107 (lv_at hl 0 rfl) ?_
                  refine j_if_eq (tgt := 116) hx hb dL_isRead_109 (by decide) ⟨by decide, by decide⟩ (fun c_31 => ?_) (fun c_31 => False.elim (by omega))
                  refine j_iconst hx hb dL_isRead_116 ?_
                  refine j_iadd hx hb dL_isRead_117 ?_
                  refine lv_istore (lv' := [(7, .int (iI (y2 + 0))), (12, .int (iI 0)), (11, .int (iI (nIn σ wi (wj : Int)))), (10, .int (iI (wj : Int))), (9, .int (iI (wi : Int))), (8, .int (iI 1)), (6, .int (iI y1)), (5, .int (iI (rdA σ lo hi (sn : Int)))), (4, .int (iI (cntA σ lo hi (sn : Int)))), (0, .ref x), (1, .int (iI lo)), (2, .int (iI hi)), (3, .int (iI (sn : Int)))]) hx hb dL_isRead_118 hl (by decide) rfl (fun ls hl => ?_)
                  refine lv_iload hx hb dL_isRead_120 (lv_at hl 6 rfl) ?_
                  refine lv_iload hx hb dL_isRead_122 (lv_at hl 1 rfl) ?_
                  refine j_if_eq (tgt := 132) hx hb dL_isRead_124 (by decide) ⟨by decide, by decide⟩ (fun c_32 => ?_) (fun c_32 => False.elim (by omega))
                  refine j_iconst hx hb dL_isRead_132 ?_
                  refine j_iadd hx hb dL_isRead_133 ?_
                  refine lv_istore (lv' := [(6, .int (iI (y1 + 0))), (7, .int (iI (y2 + 0))), (12, .int (iI 0)), (11, .int (iI (nIn σ wi (wj : Int)))), (10, .int (iI (wj : Int))), (9, .int (iI (wi : Int))), (8, .int (iI 1)), (5, .int (iI (rdA σ lo hi (sn : Int)))), (4, .int (iI (cntA σ lo hi (sn : Int)))), (0, .ref x), (1, .int (iI lo)), (2, .int (iI hi)), (3, .int (iI (sn : Int)))]) hx hb dL_isRead_134 hl (by decide) rfl (fun ls hl => ?_)
                  refine lv_iload hx hb dL_isRead_136 (lv_at hl 6 rfl) ?_
                  refine j_if_eq (tgt := 159) hx hb dL_isRead_138 (by decide) ⟨by decide, by decide⟩ (fun c_33 => False.elim (by omega)) (fun c_33 => ?_)
                  refine lv_iload hx hb dL_isRead_141 (lv_at hl 2 rfl) ?_
                  refine j_if_eq (tgt := 155) hx hb dL_isRead_143 (by decide) ⟨by decide, by decide⟩ (fun c_34 => ?_) (fun c_34 => False.elim (by omega))
                  refine j_iconst hx hb dL_isRead_155 ?_
                  refine lv_goto (tgt := 160) hx hb dL_isRead_156 (by decide) ?_
                  refine lv_istore (lv' := [(8, .int (iI 1)), (6, .int (iI (y1 + 0))), (7, .int (iI (y2 + 0))), (12, .int (iI 0)), (11, .int (iI (nIn σ wi (wj : Int)))), (10, .int (iI (wj : Int))), (9, .int (iI (wi : Int))), (5, .int (iI (rdA σ lo hi (sn : Int)))), (4, .int (iI (cntA σ lo hi (sn : Int)))), (0, .ref x), (1, .int (iI lo)), (2, .int (iI hi)), (3, .int (iI (sn : Int)))]) hx hb dL_isRead_160 hl (by decide) rfl (fun ls hl => ?_)
                  refine j_iinc (lv' := [(10, .int (iI ((wj + 1 : Nat) : Int))), (8, .int (iI 1)), (6, .int (iI (y1 + 0))), (7, .int (iI (y2 + 0))), (12, .int (iI 0)), (11, .int (iI (nIn σ wi (wj : Int)))), (9, .int (iI (wi : Int))), (5, .int (iI (rdA σ lo hi (sn : Int)))), (4, .int (iI (cntA σ lo hi (sn : Int)))), (0, .ref x), (1, .int (iI lo)), (2, .int (iI hi)), (3, .int (iI (sn : Int)))]) hx hb dL_isRead_162 hl (k := 5) rfl (by decide) rfl (fun ls hl => ?_)
                  refine lv_goto (tgt := 63) hx hb dL_isRead_165 (by decide) ?_
                  refine W.widen (k := 0 + 9 + 50 * wi + 0 + 10 * (wj + 1)) (n := 0 + 45 + 285 * wi + 0 + 57 * (wj + 1)) (by show 0 + 9 + 50 * wi + 0 + 10 * wj + 9 ≤ 0 + 9 + 50 * wi + 0 + 10 * (wj + 1); omega) (by show 0 + 45 + 285 * wi + 0 + 57 * wj + 51 ≤ 0 + 45 + 285 * wi + 0 + 57 * (wj + 1); omega) ?_
                  exact ih63 (wj + 1) (y1 + 0) (y2 + 0) (by omega) (by omega) _ hC hF (by omega) (by omega) _ _ hB ls (lv_sub hl [0, 6, 1, 3, 2, 7, 8, 9, 10, 11, 12] rfl)
                · have e1 := lp_t hL c_30
                  have m4 := c_30.1
                  refine j_iconst hx hb dL_isRead_98 ?_
                  refine lv_goto (tgt := 103) hx hb dL_isRead_99 (by decide) ?_
                  refine lv_istore (lv' := [(12, .int (iI 1)), (11, .int (iI (nIn σ wi (wj : Int)))), (10, .int (iI (wj : Int))), (9, .int (iI (wi : Int))), (8, .int (iI 1)), (7, .int (iI y2)), (6, .int (iI y1)), (5, .int (iI (rdA σ lo hi (sn : Int)))), (4, .int (iI (cntA σ lo hi (sn : Int)))), (0, .ref x), (1, .int (iI lo)), (2, .int (iI hi)), (3, .int (iI (sn : Int)))]) hx hb dL_isRead_103 hl (by decide) rfl (fun ls hl => ?_)
                  refine lv_iload hx hb dL_isRead_105 (lv_at hl 5 rfl) ?_
                  refine lv_iload hx hb dL_isRead_107 (lv_at hl 0 rfl) ?_
                  refine j_if_eq (tgt := 116) hx hb dL_isRead_109 (by decide) ⟨by decide, by decide⟩ (fun c_35 => False.elim (by omega)) (fun c_35 => ?_)
                  refine j_iconst hx hb dL_isRead_112 ?_
                  refine lv_goto (tgt := 117) hx hb dL_isRead_113 (by decide) ?_
                  refine j_iadd hx hb dL_isRead_117 ?_
                  refine lv_istore (lv' := [(7, .int (iI (y2 + 1))), (12, .int (iI 1)), (11, .int (iI (nIn σ wi (wj : Int)))), (10, .int (iI (wj : Int))), (9, .int (iI (wi : Int))), (8, .int (iI 1)), (6, .int (iI y1)), (5, .int (iI (rdA σ lo hi (sn : Int)))), (4, .int (iI (cntA σ lo hi (sn : Int)))), (0, .ref x), (1, .int (iI lo)), (2, .int (iI hi)), (3, .int (iI (sn : Int)))]) hx hb dL_isRead_118 hl (by decide) rfl (fun ls hl => ?_)
                  refine lv_iload hx hb dL_isRead_120 (lv_at hl 6 rfl) ?_
                  refine lv_iload hx hb dL_isRead_122 (lv_at hl 1 rfl) ?_
                  refine j_if_eq (tgt := 132) hx hb dL_isRead_124 (by decide) ⟨by decide, by decide⟩ (fun c_36 => False.elim (by omega)) (fun c_36 => ?_)
                  refine lv_iload hx hb dL_isRead_127 (lv_at hl 2 rfl) ?_
                  refine lv_goto (tgt := 133) hx hb dL_isRead_129 (by decide) ?_
                  refine j_iadd hx hb dL_isRead_133 ?_
                  refine lv_istore (lv' := [(6, .int (iI (y1 + (nIn σ wi (wj : Int))))), (7, .int (iI (y2 + 1))), (12, .int (iI 1)), (11, .int (iI (nIn σ wi (wj : Int)))), (10, .int (iI (wj : Int))), (9, .int (iI (wi : Int))), (8, .int (iI 1)), (5, .int (iI (rdA σ lo hi (sn : Int)))), (4, .int (iI (cntA σ lo hi (sn : Int)))), (0, .ref x), (1, .int (iI lo)), (2, .int (iI hi)), (3, .int (iI (sn : Int)))]) hx hb dL_isRead_134 hl (by decide) rfl (fun ls hl => ?_)
                  refine lv_iload hx hb dL_isRead_136 (lv_at hl 6 rfl) ?_
                  refine j_if_eq (tgt := 159) hx hb dL_isRead_138 (by decide) ⟨by decide, by decide⟩ (fun c_37 => False.elim (by omega)) (fun c_37 => ?_)
                  refine lv_iload hx hb dL_isRead_141 (lv_at hl 2 rfl) ?_
                  refine j_if_eq (tgt := 155) hx hb dL_isRead_143 (by decide) ⟨by decide, by decide⟩ (fun c_38 => False.elim (by omega)) (fun c_38 => ?_)
                  refine lv_aload_n hx hb dL_isRead_146 rfl (lv_at hl 9 rfl) ?_
                  refine lv_iload hx hb dL_isRead_147 (lv_at hl 5 rfl) ?_
                  refine m_runX (vx_runV (As := [.int (iI (wi : Int))]) (rest := []) ⟨hx, hb, hml, hown, hts⟩ (k_X3_stateOf (l := l) hfl hC hI (n := (wi : Int)) ⟨by omega, by omega⟩) (cwV 1 hts gL_isRead_X3_stateOf rfl rfl rfl (by decide +kernel) ⟨by decide, by decide⟩) ⟨Kp.blind _ _ _ _ _, m_recv hK hB (ci := 3) rfl hC.tb, fun U hU hW => hK.pass hB U hU hW⟩ rfl rfl hl.1 rfl (lv_room (Nat.le_of_ble_eq_true rfl)) dL_isRead_149 ⟨(by show 0 + 9 + 50 * wi + 0 + 10 * wj + 9 + 1 ≤ 824; omega), (by show 0 + 45 + 285 * wi + 0 + 57 * wj + 51 + 6 ≤ 4680; omega)⟩) hB (fun E u H locs q9 ce hp hB hc9 hv9 hk9 => absurd ⟨by omega, by omega⟩ hp.1.2) (fun v u H locs hp hB => ?_)
                  obtain ⟨⟨-, rfl⟩, hC, hFm⟩ := hp
                  have hF := hF.tr hFm
                  show W _ _ _ _ _ _ _ _ _ _ _ _ _ _ _ (F0 m 152 ls [.int (iI (σ 4 wi))])
                  refine j_if_ne (tgt := 159) hx hb dL_isRead_152 (by decide) ⟨by omega, by omega⟩ (fun c_39 => False.elim (by omega)) (fun c_39 => ?_)
                  refine j_iconst hx hb dL_isRead_155 ?_
                  refine lv_goto (tgt := 160) hx hb dL_isRead_156 (by decide) ?_
                  refine lv_istore (lv' := [(8, .int (iI 1)), (6, .int (iI (y1 + (nIn σ wi (wj : Int))))), (7, .int (iI (y2 + 1))), (12, .int (iI 1)), (11, .int (iI (nIn σ wi (wj : Int)))), (10, .int (iI (wj : Int))), (9, .int (iI (wi : Int))), (5, .int (iI (rdA σ lo hi (sn : Int)))), (4, .int (iI (cntA σ lo hi (sn : Int)))), (0, .ref x), (1, .int (iI lo)), (2, .int (iI hi)), (3, .int (iI (sn : Int)))]) hx hb dL_isRead_160 hl (by decide) rfl (fun ls hl => ?_)
                  refine j_iinc (lv' := [(10, .int (iI ((wj + 1 : Nat) : Int))), (8, .int (iI 1)), (6, .int (iI (y1 + (nIn σ wi (wj : Int))))), (7, .int (iI (y2 + 1))), (12, .int (iI 1)), (11, .int (iI (nIn σ wi (wj : Int)))), (9, .int (iI (wi : Int))), (5, .int (iI (rdA σ lo hi (sn : Int)))), (4, .int (iI (cntA σ lo hi (sn : Int)))), (0, .ref x), (1, .int (iI lo)), (2, .int (iI hi)), (3, .int (iI (sn : Int)))]) hx hb dL_isRead_162 hl (k := 5) rfl (by decide) rfl (fun ls hl => ?_)
                  refine lv_goto (tgt := 63) hx hb dL_isRead_165 (by decide) ?_
                  refine W.widen (k := 0 + 9 + 50 * wi + 0 + 10 * (wj + 1)) (n := 0 + 45 + 285 * wi + 0 + 57 * (wj + 1)) (by show 0 + 9 + 50 * wi + 0 + 10 * wj + 10 ≤ 0 + 9 + 50 * wi + 0 + 10 * (wj + 1); omega) (by show 0 + 45 + 285 * wi + 0 + 57 * wj + 57 ≤ 0 + 45 + 285 * wi + 0 + 57 * (wj + 1); omega) ?_
                  exact ih63 (wj + 1) (y1 + (nIn σ wi (wj : Int))) (y2 + 1) (by omega) (by omega) _ hC hF (by omega) (by omega) _ _ hB ls (lv_sub hl [0, 6, 1, 3, 2, 7, 8, 9, 10, 11, 12] rfl)
        refine W.widen (k := 0 + 9 + 50 * wi + 0 + 10 * 0) (n := 0 + 45 + 285 * wi + 0 + 57 * 0) (by show 0 + 9 + 50 * wi + 0 ≤ 0 + 9 + 50 * wi + 0 + 10 * 0; omega) (by show 0 + 45 + 285 * wi + 0 ≤ 0 + 45 + 285 * wi + 0 + 57 * 0; omega) ?_
        exact lp_63 (5 + 1) 0 a1 a2 (by omega) (by omega) _ hC hF (by rw [mp_0]; omega) (by rw [lp_0]; omega) _ _ hB ls (lv_sub hl [0, 1, 2, 3, 4, 5, 6, 7, 8, 9, 10] rfl)
  refine W.widen (k := 0 + 9 + 50 * 0) (n := 0 + 45 + 285 * 0) (by show 0 + 9 ≤ 0 + 9 + 50 * 0; omega) (by show 0 + 45 ≤ 0 + 45 + 285 * 0; omega) ?_
  exact lp_46 ((npN σ + 1) + 1) 0 0 0 (by omega) (by omega) _ hC hF rfl rfl _ _ hB ls (lv_sub hl [0, 1, 2, 3, 4, 5, 6, 7, 8, 9] rfl)

abbrev rmL_isRow : Room := { frames := 11, cells := 7, slots := 42, locals := 208 }
set_option maxHeartbeats 4000000 in
set_option maxRecDepth 100000 in
theorem k_L_isRow {l : Launch} {D : va_G} {z : Nat} {cI cP cR cJ : ClassId} {h0 : Hp} (hfl : l.stackTraces = false) {x xp xr : Nat} {pa ra : Nat → Nat} {σ : Sg} (hC : CR cP cR x xp xr pa ra σ h0) (hV : Iv σ) {n ky : Int} (rn : rg n) (hk : isR σ n → ky = σ 6 n.toNat) : Ct l D z (tyL cI cP cR cJ) yL_isRow wsL_isRow rmL_isRow [.ref x, .int (iI n), .int (iI ky)] h0 (fun v u => v = some (.int (iI 1)) ∧ CR cP cR x xp xr pa ra σ u ∧ FrC h0 u) := by
  refine Ct.of (cc := cL_isRow) (maxL := 5) (ret := (some .boolean)) (by decide) rfl (Nat.le_of_ble_eq_true rfl) ?_
  intro p e s m args below meth c hx hb hr hts hown hlocks hml hnm hK hB ls hl
  have hl : lv_has ls 5 [(0, .ref x), (1, .int (iI n)), (2, .int (iI ky))] := hl
  have hI := hV.ib
  have hnp := hI.hnp
  have hnpI := hI.npI
  have hF := FrC.rf h0
  refine lv_aload_n hx hb dL_isRow_0 rfl (lv_at hl 0 rfl) ?_
  refine lv_iload_n hx hb dL_isRow_1 rfl (lv_at hl 1 rfl) ?_
  refine m_run (vx_runSW (As := [.ref x, .int (iI n)]) (rest := []) ⟨hx, hb, hml, hown, hts⟩ (k_L_leaf (l := l) hfl hC hV (n := n) ⟨by omega, by omega⟩) (vx_cwSW 2 hts gL_isRow_L_leaf rfl rfl rfl (by decide +kernel) ⟨by decide, by decide⟩) ⟨Kp.blind _ _ _ _ _, fun U hU hW => hK.pass hB U hU hW⟩ rfl rfl hl.1 rfl (lv_room (Nat.le_of_ble_eq_true rfl)) dL_isRow_2 ⟨(by show 0 + 0 + 1 ≤ 7; omega), (by show 0 + 0 + 6 ≤ 42; omega)⟩) hB (fun v u H locs hp hB => ?_)
  rcases hp with ⟨rfl, hR, hC, hFm⟩ | ⟨rfl, hR, hC, hFm⟩
  · have hF := hF.tr hFm
    show W _ _ _ _ _ _ _ _ _ _ _ _ _ _ _ (F0 m 5 ls [.int (iI (-1))])
    refine lv_istore_n (lv' := [(3, .int (iI (-1))), (0, .ref x), (1, .int (iI n)), (2, .int (iI ky))]) hx hb dL_isRow_5 rfl hl (by decide) rfl (fun ls hl => ?_)
    refine lv_iload_n hx hb dL_isRow_6 rfl (lv_at hl 0 rfl) ?_
    refine j_if_ge (tgt := 12) hx hb dL_isRow_7 (by decide) ⟨by decide, by decide⟩ (fun c_1 => False.elim (by omega)) (fun c_1 => ?_)
    refine j_iconst hx hb dL_isRow_10 ?_
    exact m_zret hx hb hr (by decide) hlocks hB (Nat.le_of_ble_eq_true rfl) (Nat.le_of_ble_eq_true rfl) dL_isRow_11 ⟨rfl, hC, hF⟩
  · have hF := hF.tr hFm
    obtain ⟨hp1, hp2, hp3, hp4, hp5, hp6, hpL, hp7⟩ := plc_at hV hR
    have hrt := isR_t hR
    have hrw1 : σ 4 (pn σ n.toNat) ≠ 2 := (hV.rw_ _ hrt.1).1
    have hpt := hI.part (pn σ n.toNat) (by omega)
    have hk2 := hk hR
    have hk9 := hI.row _ hrt.1
    have hlf : 0 ≤ lfr σ n.toNat ∧ lfr σ n.toNat ≤ 9 := by omega
    show W _ _ _ _ _ _ _ _ _ _ _ _ _ _ _ (F0 m 5 ls [.int (iI (plc σ n))])
    refine lv_istore_n (lv' := [(3, .int (iI (plc σ n))), (0, .ref x), (1, .int (iI n)), (2, .int (iI ky))]) hx hb dL_isRow_5 rfl hl (by decide) rfl (fun ls hl => ?_)
    refine lv_iload_n hx hb dL_isRow_6 rfl (lv_at hl 0 rfl) ?_
    refine j_if_ge (tgt := 12) hx hb dL_isRow_7 (by decide) ⟨by omega, by omega⟩ (fun c_2 => ?_) (fun c_2 => False.elim (by omega))
    refine lv_iload_n hx hb dL_isRow_12 rfl (lv_at hl 0 rfl) ?_
    refine j_bipush hx hb dL_isRow_13 (by decide) ?_
    refine j_idiv hx hb ⟨by omega, by omega⟩ ⟨by decide, by decide⟩ dL_isRow_15 ?_
    refine j_topE (show plc σ n / 10 = ((pn σ n.toNat : Nat) : Int) from hp1) ?_
    refine lv_istore (lv' := [(4, .int (iI ((pn σ n.toNat : Nat) : Int))), (3, .int (iI (plc σ n))), (0, .ref x), (1, .int (iI n)), (2, .int (iI ky))]) hx hb dL_isRow_16 hl (by decide) rfl (fun ls hl => ?_)
    refine lv_aload_n hx hb dL_isRow_18 rfl (lv_at hl 2 rfl) ?_
    refine lv_iload hx hb dL_isRow_19 (lv_at hl 0 rfl) ?_
    refine m_runX (vx_runV (As := [.int (iI ((pn σ n.toNat : Nat) : Int))]) (rest := []) ⟨hx, hb, hml, hown, hts⟩ (k_X3_stateOf (l := l) hfl hC hI (n := ((pn σ n.toNat : Nat) : Int)) ⟨by omega, by omega⟩) (cwV 1 hts gL_isRow_X3_stateOf rfl rfl rfl (by decide +kernel) ⟨by decide, by decide⟩) ⟨Kp.blind _ _ _ _ _, m_recv hK hB (ci := 3) rfl hC.tb, fun U hU hW => hK.pass hB U hU hW⟩ rfl rfl hl.1 rfl (lv_room (Nat.le_of_ble_eq_true rfl)) dL_isRow_21 ⟨(by show 0 + 1 + 1 ≤ 7; omega), (by show 0 + 6 + 6 ≤ 42; omega)⟩) hB (fun E u H locs q9 ce hp hB hc9 hv9 hk9 => absurd ⟨by omega, by omega⟩ hp.1.2) (fun v u H locs hp hB => ?_)
    obtain ⟨⟨-, rfl⟩, hC, hFm⟩ := hp
    have hF := hF.tr hFm
    show W _ _ _ _ _ _ _ _ _ _ _ _ _ _ _ (F0 m 24 ls [.int (iI (σ 4 (pn σ n.toNat)))])
    refine j_iconst hx hb dL_isRow_24 ?_
    refine j_icmp_ge (tgt := 65) hx hb dL_isRow_25 (by decide) ⟨by omega, by omega⟩ ⟨by decide, by decide⟩ (fun c_3 => False.elim (by omega)) (fun c_3 => ?_)
    refine lv_aload_n hx hb dL_isRow_28 rfl (lv_at hl 2 rfl) ?_
    refine lv_iload hx hb dL_isRow_29 (lv_at hl 0 rfl) ?_
    refine m_runX (vx_runV (As := [.int (iI ((pn σ n.toNat : Nat) : Int))]) (rest := []) ⟨hx, hb, hml, hown, hts⟩ (k_X3_stateOf (l := l) hfl hC hI (n := ((pn σ n.toNat : Nat) : Int)) ⟨by omega, by omega⟩) (cwV 1 hts gL_isRow_X3_stateOf rfl rfl rfl (by decide +kernel) ⟨by decide, by decide⟩) ⟨Kp.blind _ _ _ _ _, m_recv hK hB (ci := 3) rfl hC.tb, fun U hU hW => hK.pass hB U hU hW⟩ rfl rfl hl.1 rfl (lv_room (Nat.le_of_ble_eq_true rfl)) dL_isRow_31 ⟨(by show 0 + 2 + 1 ≤ 7; omega), (by show 0 + 12 + 6 ≤ 42; omega)⟩) hB (fun E u H locs q9 ce hp hB hc9 hv9 hk9 => absurd ⟨by omega, by omega⟩ hp.1.2) (fun v u H locs hp hB => ?_)
    obtain ⟨⟨-, rfl⟩, hC, hFm⟩ := hp
    have hF := hF.tr hFm
    show W _ _ _ _ _ _ _ _ _ _ _ _ _ _ _ (F0 m 34 ls [.int (iI (σ 4 (pn σ n.toNat)))])
    refine j_iconst hx hb dL_isRow_34 ?_
    refine j_icmp_eq (tgt := 48) hx hb dL_isRow_35 (by decide) ⟨by omega, by omega⟩ ⟨by decide, by decide⟩ (fun c_4 => ?_) (fun c_4 => ?_)
    · refine lv_aload_n hx hb dL_isRow_48 rfl (lv_at hl 2 rfl) ?_
      refine lv_iload hx hb dL_isRow_49 (lv_at hl 0 rfl) ?_
      refine lv_iload_n hx hb dL_isRow_51 rfl (lv_at hl 1 rfl) ?_
      refine j_bipush hx hb dL_isRow_52 (by decide) ?_
      refine j_irem hx hb ⟨by omega, by omega⟩ ⟨by omega, by omega⟩ dL_isRow_54 ?_
      refine j_topE (show plc σ n % 10 = lfr σ n.toNat from hp2) ?_
      refine m_run (vx_runSW (As := [.ref x, .int (iI ((pn σ n.toNat : Nat) : Int)), .int (iI (lfr σ n.toNat))]) (rest := []) ⟨hx, hb, hml, hown, hts⟩ (k_L_rowsIn (l := l) hfl hC hV (n := ((pn σ n.toNat : Nat) : Int)) (lf := (lfr σ n.toNat)) ⟨by omega, by omega⟩ ⟨by omega, by omega⟩) (vx_cwSW 3 hts gL_isRow_L_rowsIn rfl rfl rfl (by decide +kernel) ⟨by decide, by decide⟩) ⟨Kp.blind _ _ _ _ _, fun U hU hW => hK.pass hB U hU hW⟩ rfl rfl hl.1 rfl (lv_room (Nat.le_of_ble_eq_true rfl)) dL_isRow_55 ⟨(by show 0 + 3 + 3 ≤ 7; omega), (by show 0 + 18 + 18 ≤ 42; omega)⟩) hB (fun v u H locs hp hB => ?_)
      rcases hp with ⟨rfl, hL, hC, hFm⟩ | ⟨rfl, hL, hC, hFm⟩
      · exact absurd hpL hL
      · have hF := hF.tr hFm
        show W _ _ _ _ _ _ _ _ _ _ _ _ _ _ _ (F0 m 58 ls [.int (iI (nIn σ (pn σ n.toNat) (lfr σ n.toNat)))])
        have nr := nIn_rg hI (pn σ n.toNat) (lfr σ n.toNat)
        refine j_if_le (tgt := 65) hx hb dL_isRow_58 (by decide) ⟨by omega, by omega⟩ (fun c_5 => False.elim (by omega)) (fun c_5 => ?_)
        refine j_iconst hx hb dL_isRow_61 ?_
        refine lv_goto (tgt := 66) hx hb dL_isRow_62 (by decide) ?_
        exact m_zret hx hb hr (by decide) hlocks hB (Nat.le_of_ble_eq_true rfl) (Nat.le_of_ble_eq_true rfl) dL_isRow_66 ⟨rfl, hC, hF⟩
    · have hpw : pw σ ky = pn σ n.toNat := by rw [hk2]; exact pw_row hV hrt.1 (by omega)
      refine lv_aload_n hx hb dL_isRow_38 rfl (lv_at hl 2 rfl) ?_
      refine lv_iload_n hx hb dL_isRow_39 rfl (lv_at hl 4 rfl) ?_
      refine m_runX (vx_runV (As := [.int (iI ky)]) (rest := []) ⟨hx, hb, hml, hown, hts⟩ (k_X3_partOf (l := l) hfl hC hI (ky := ky) ⟨by omega, by omega⟩) (cwV 1 hts gL_isRow_X3_partOf rfl rfl rfl (by decide +kernel) ⟨by decide, by decide⟩) ⟨Kp.blind _ _ _ _ _, m_recv hK hB (ci := 3) rfl hC.tb, fun U hU hW => hK.pass hB U hU hW⟩ rfl rfl hl.1 rfl (lv_room (Nat.le_of_ble_eq_true rfl)) dL_isRow_40 ⟨(by show 0 + 3 + 1 ≤ 7; omega), (by show 0 + 18 + 6 ≤ 42; omega)⟩) hB (fun E u H locs q9 ce hp hB hc9 hv9 hk9 => absurd ⟨by omega, by omega⟩ hp.1.2) (fun v u H locs hp hB => ?_)
      obtain ⟨⟨-, rfl⟩, hC, hFm⟩ := hp
      have hF := hF.tr hFm
      show W _ _ _ _ _ _ _ _ _ _ _ _ _ _ _ (F0 m 43 ls [.int (iI ((pw σ ky : Nat) : Int))])
      refine lv_iload hx hb dL_isRow_43 (lv_at hl 0 rfl) ?_
      refine j_icmp_ne (tgt := 65) hx hb dL_isRow_45 (by decide) ⟨by omega, by omega⟩ ⟨by omega, by omega⟩ (fun c_6 => False.elim (by omega)) (fun c_6 => ?_)
      refine lv_aload_n hx hb dL_isRow_48 rfl (lv_at hl 2 rfl) ?_
      refine lv_iload hx hb dL_isRow_49 (lv_at hl 0 rfl) ?_
      refine lv_iload_n hx hb dL_isRow_51 rfl (lv_at hl 1 rfl) ?_
      refine j_bipush hx hb dL_isRow_52 (by decide) ?_
      refine j_irem hx hb ⟨by omega, by omega⟩ ⟨by omega, by omega⟩ dL_isRow_54 ?_
      refine j_topE (show plc σ n % 10 = lfr σ n.toNat from hp2) ?_
      refine m_run (vx_runSW (As := [.ref x, .int (iI ((pn σ n.toNat : Nat) : Int)), .int (iI (lfr σ n.toNat))]) (rest := []) ⟨hx, hb, hml, hown, hts⟩ (k_L_rowsIn (l := l) hfl hC hV (n := ((pn σ n.toNat : Nat) : Int)) (lf := (lfr σ n.toNat)) ⟨by omega, by omega⟩ ⟨by omega, by omega⟩) (vx_cwSW 3 hts gL_isRow_L_rowsIn rfl rfl rfl (by decide +kernel) ⟨by decide, by decide⟩) ⟨Kp.blind _ _ _ _ _, fun U hU hW => hK.pass hB U hU hW⟩ rfl rfl hl.1 rfl (lv_room (Nat.le_of_ble_eq_true rfl)) dL_isRow_55 ⟨(by show 0 + 4 + 3 ≤ 7; omega), (by show 0 + 24 + 18 ≤ 42; omega)⟩) hB (fun v u H locs hp hB => ?_)
      rcases hp with ⟨rfl, hL, hC, hFm⟩ | ⟨rfl, hL, hC, hFm⟩
      · exact absurd hpL hL
      · have hF := hF.tr hFm
        show W _ _ _ _ _ _ _ _ _ _ _ _ _ _ _ (F0 m 58 ls [.int (iI (nIn σ (pn σ n.toNat) (lfr σ n.toNat)))])
        have nr := nIn_rg hI (pn σ n.toNat) (lfr σ n.toNat)
        refine j_if_le (tgt := 65) hx hb dL_isRow_58 (by decide) ⟨by omega, by omega⟩ (fun c_7 => False.elim (by omega)) (fun c_7 => ?_)
        refine j_iconst hx hb dL_isRow_61 ?_
        refine lv_goto (tgt := 66) hx hb dL_isRow_62 (by decide) ?_
        exact m_zret hx hb hr (by decide) hlocks hB (Nat.le_of_ble_eq_true rfl) (Nat.le_of_ble_eq_true rfl) dL_isRow_66 ⟨rfl, hC, hF⟩

