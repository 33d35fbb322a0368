set_option maxHeartbeats 4000000 in
set_option maxRecDepth 100000 in
theorem ld_ins {l : Launch} (hfl : l.stackTraces = false) {D : va_G} {cI cP cR cJ : ClassId} {p : Program} {e : Env} {s : State} {m : MethodId} {below : List Frame} {meth : Method} {c : Code} {b L : Nat} {xs : Nat → Int32} (hL : L ≤ 260) (hx : p.tables.exec = Jvm.exec) (hb : c.code = cL_law) (hml : c.maxLocals = 20) (hown : s.vm.findClass RL = some m.cls) (hts : ∀ w ∈ wsL_law, w.before #[Value.ref b] s = true) (hX : va_X b L xs s s.heap) (hbl : b < s.heap.size) (hK : Kb D s.heap.size (tyL cI cP cR cJ) s) {x ka tu ni yn : Nat} {rem st tn : Int} {rn dn : Nat} {x9 pt ot : Int} {σ : Sg} {h0 : Hp} {H : Heap} {locs : List Loc} (hS : LwP cI cP cR x ka σ ni rem st h0) (hB : Bk D s.heap.size s.heap h0 H locs) (fy : yn ≤ 268435455) (ft : tu ≤ 240) (ftn : 0 ≤ tn ∧ tn ≤ 240) (fp : 0 ≤ pt ∧ pt ≤ σ 9 0 + 1) (fo : 0 ≤ ot ∧ ot ≤ σ 9 0 + 1) (fr : rn ≤ ni) (fi : ni < 64) {cells slots : Nat} (hc : cells + 60 ≤ 758523) (hs : slots + 400 ≤ 6826128) {Q : State → Prop} {ls : Array Slot} (hl : lv_has ls 20 [(0, .ref b), (1, .ref x), (2, .ref ka), (3, .int (iI (ni : Int))), (4, .int (iI rem)), (5, .int (iI st)), (6, .int (iI 1)), (7, .int (iI tn)), (8, .int (iI (tu : Int))), (9, .int (iI x9)), (10, .int (iI (yn : Int))), (11, .int (iI (dn : Int))), (12, .int (iI (σ 9 0))), (13, .int (iI pt)), (14, .int (iI ot)), (15, .int (iI (rn : Int))), (16, .int (iI (nTb σ)))]) (kk : ∀ (σ2 : Sg) (n2 : Nat) (r2 s2 : Int) (h2 : Hp) (H2 : Heap) (locs2 : List Loc) (ls2 : Array Slot), LwP cI cP cR x ka σ2 n2 r2 s2 h2 → Bk D s.heap.size s.heap h2 H2 locs2 → lv_has ls2 20 [(0, .ref b), (1, .ref x), (2, .ref ka), (3, .int (iI (n2 : Int))), (4, .int (iI r2)), (5, .int (iI s2)), (6, .int (iI 1)), (7, .int (iI tn)), (8, .int (iI (tu : Int))), (10, .int (iI (yn : Int)))] → W p l e room_1 s m #[Value.ref b] below meth c H2 locs2 (cells + 60) (slots + 400) Q (F0 m 1129 ls2 [])) : W p l e room_1 s m #[Value.ref b] below meth c H locs cells slots Q (F0 m 177 ls []) := by
  obtain ⟨hV, ⟨xp, xr, pa, ra, hC⟩, ⟨f, hk, hkf⟩, hni, hn64, hlv, hst⟩ := hS
  have hI := hV.ib
  have hnp := hI.hnp
  have hnpI := hI.npI
  have hnl := nLv_rg hI
  have htb := nTb_rg hI
  have hst1 := hI.2.2.1
  refine lv_iload hx hb dL_law_177 (lv_at hl 10 rfl) ?_
  refine j_bipush hx hb dL_law_179 (by decide) ?_
  refine j_shrT (n := 13) hx hb ⟨by omega, by omega⟩ (by decide) dL_law_181 (fun w_1 hw_1 kw_1 => ?_)
  refine j_bipush hx hb dL_law_182 (by decide) ?_
  refine j_remT hx hb ⟨by omega, by omega⟩ ⟨by omega, by omega⟩ dL_law_184 (fun w_2 hw_2 kw_2 => ?_)
  refine lv_istore (lv' := [(17, .int (iI w_2)), (0, .ref b), (1, .ref x), (2, .ref ka), (3, .int (iI (ni : Int))), (4, .int (iI rem)), (5, .int (iI st)), (6, .int (iI 1)), (7, .int (iI tn)), (8, .int (iI (tu : Int))), (9, .int (iI x9)), (10, .int (iI (yn : Int))), (11, .int (iI (dn : Int))), (12, .int (iI (σ 9 0))), (13, .int (iI pt)), (14, .int (iI ot)), (15, .int (iI (rn : Int))), (16, .int (iI (nTb σ)))]) hx hb dL_law_185 hl (by decide) rfl (fun ls hl => ?_)
  refine lv_aload_n hx hb dL_law_187 rfl (lv_at hl 3 rfl) ?_
  refine lv_iload_n hx hb dL_law_188 rfl (lv_at hl 4 rfl) ?_
  refine lv_iload hx hb dL_law_189 (lv_at hl 11 rfl) ?_
  refine j_bipush hx hb dL_law_191 (by decide) ?_
  refine j_mask (n := 7) hx hb dL_law_193 (fun w_3 hw_3 => ?_)
  refine j_if_ne (tgt := 208) hx hb dL_law_194 (by decide) ⟨by omega, by omega⟩ (fun c_4 => ?_) (fun c_4 => ?_)
  · refine j_bipush hx hb dL_law_208 (by decide) ?_
    refine lv_iload hx hb dL_law_210 (lv_at hl 11 rfl) ?_
    refine j_iconst hx hb dL_law_212 ?_
    refine j_shrT (n := 3) hx hb ⟨by omega, by omega⟩ (by decide) dL_law_213 (fun w_5 hw_5 kw_5 => ?_)
    refine j_bipush hx hb dL_law_214 (by decide) ?_
    refine j_remT hx hb ⟨by omega, by omega⟩ ⟨by omega, by omega⟩ dL_law_216 (fun w_6 hw_6 kw_6 => ?_)
    refine j_imul hx hb dL_law_217 ?_
    refine m_kst hx hb hK hB hk (n := ni) (v := (10 * w_6)) (by omega) dL_law_218 (fun H locs hB => ?_)
    have hC := hC.outI (f' := upd f ni (iI (10 * w_6))) hk
    obtain ⟨u, eu⟩ : ∃ u2 : Hp, u2 = hup h0 ka (arI cI 64 (upd f ni (iI (10 * w_6)))) := ⟨_, rfl⟩
    rw [← eu] at hB hC
    have hk : u ka = some (arI cI 64 (upd f ni (iI (10 * w_6)))) := by rw [eu]; exact hup_s _ _ _
    obtain ⟨f1, ef1⟩ : ∃ f1, f1 = upd f ni (iI (10 * w_6)) := ⟨_, rfl⟩
    rw [← ef1] at hk
    have hkf : ∀ j, live σ j → f1 j = iI (σ 6 j) := fun j w => by rw [ef1, upd_o (by have := w.1; omega)]; exact hkf j w
    refine lv_aload_n hx hb dL_law_219 rfl (lv_at hl 2 rfl) ?_
    refine lv_iload hx hb dL_law_220 (lv_at hl 0 rfl) ?_
    refine m_run (vx_runSW (As := [.ref x, .int (iI w_2)]) (rest := []) ⟨hx, hb, hml, hown, hts⟩ (k_L_finds (l := l) hfl hC hV (vl := w_2) ⟨by omega, by omega⟩) (vx_cwSW 2 hts gL_law_L_finds rfl rfl rfl (by decide +kernel) ⟨by decide, by decide⟩) ⟨Kp.blind _ _ _ _ _, fun U hU hW => hK.pass hB U hU hW⟩ rfl rfl hl.1 rfl (lv_room (Nat.le_of_ble_eq_true rfl)) dL_law_222 ⟨(by show cells + 0 + 2 ≤ 758523; omega), (by show slots + 0 + 12 ≤ 6826128; omega)⟩) hB (fun v u H locs hp hB => ?_)
    rcases hp with ⟨rfl, hfi, hC, hFm⟩ | ⟨rfl, hfi, hC, hFm⟩
    · have hk := hFm.I hk
      show W _ _ _ _ _ _ _ _ _ _ _ _ _ _ _ (F0 m 225 ls [.int (iI (-3))])
      refine lv_istore (lv' := [(18, .int (iI (-3))), (17, .int (iI w_2)), (0, .ref b), (1, .ref x), (2, .ref ka), (3, .int (iI (ni : Int))), (4, .int (iI rem)), (5, .int (iI st)), (6, .int (iI 1)), (7, .int (iI tn)), (8, .int (iI (tu : Int))), (9, .int (iI x9)), (10, .int (iI (yn : Int))), (11, .int (iI (dn : Int))), (12, .int (iI (σ 9 0))), (13, .int (iI pt)), (14, .int (iI ot)), (15, .int (iI (rn : Int))), (16, .int (iI (nTb σ)))]) hx hb dL_law_225 hl (by decide) rfl (fun ls hl => ?_)
      refine lv_aload_n hx hb dL_law_227 rfl (lv_at hl 3 rfl) ?_
      refine lv_aload_n hx hb dL_law_228 rfl (lv_at hl 4 rfl) ?_
      refine lv_iload_n hx hb dL_law_229 rfl (lv_at hl 5 rfl) ?_
      refine m_kld hx hb hK hB hk (n := ni) (by omega) dL_law_230 ?_
      refine j_topE (show (f1 ni).toInt = (10 * w_6) by rw [ef1, upd_s, iI_t ⟨by omega, by omega⟩]) ?_
      refine lv_iload hx hb dL_law_231 (lv_at hl 12 rfl) ?_
      refine j_bipush hx hb dL_law_233 (by decide) ?_
      refine j_shrT (n := 9) hx hb ⟨by omega, by omega⟩ (by decide) dL_law_235 (fun w_7 hw_7 kw_7 => ?_)
      refine j_bipush hx hb dL_law_236 (by decide) ?_
      refine j_remT hx hb ⟨by omega, by omega⟩ ⟨by omega, by omega⟩ dL_law_238 (fun w_8 hw_8 kw_8 => ?_)
      refine lv_iload hx hb dL_law_239 (lv_at hl 1 rfl) ?_
      refine m_run (vx_runSW (As := [.ref x, .int (iI (10 * w_6)), .int (iI w_8), .int (iI w_2)]) (rest := []) ⟨hx, hb, hml, hown, hts⟩ (k_L_inserts (l := l) hfl hC hV (ky := (10 * w_6)) (sr := w_8) (vl := w_2) ⟨⟨by omega, by omega⟩, ⟨by omega, by omega⟩, ⟨by omega, by omega⟩⟩ (by omega)) (vx_cwSW 4 hts gL_law_L_inserts rfl rfl rfl (by decide +kernel) ⟨by decide, by decide⟩) ⟨Kp.blind _ _ _ _ _, fun U hU hW => hK.pass hB U hU hW⟩ rfl rfl hl.1 rfl (lv_room (Nat.le_of_ble_eq_true rfl)) dL_law_241 ⟨(by show cells + 2 + 5 ≤ 758523; omega), (by show slots + 12 + 28 ≤ 6826128; omega)⟩) hB (fun v u H locs hp hB => ?_)
      obtain ⟨rfl, σ2, ⟨hV, i1, i2, i3, i9, i10, i11, i6⟩, ⟨xp, xr, pa, ra, hC⟩, hFm⟩ := hp
      have hk := hFm.I hk
      have hI := hV.ib
      have hnp := hI.hnp
      have hnpI := hI.npI
      have htb2 := nTb_rg hI
      have hst2 := hI.2.2.1
      show W _ _ _ _ _ _ _ _ _ _ _ _ _ _ _ (F0 m 244 ls [.int (iI (σ 10 0))])
      refine lv_iload_n hx hb dL_law_244 rfl (lv_at hl 5 rfl) ?_
      refine j_icmp_ne (tgt := 286) hx hb dL_law_245 (by decide) ⟨by omega, by omega⟩ ⟨by omega, by omega⟩ (fun c_9 => False.elim (by omega)) (fun c_9 => ?_)
      refine lv_aload_n hx hb dL_law_248 rfl (lv_at hl 3 rfl) ?_
      refine m_run (va_runV (As := []) (rest := []) ⟨hx, hb, hml, hown, hts⟩ (k_X3_rows (l := l) hC hI) (cwV 0 hts gL_law_X3_rows rfl rfl rfl (by decide +kernel) ⟨by decide, by decide⟩) ⟨Kp.blind _ _ _ _ _, m_recv hK hB (ci := 3) rfl hC.tb, fun U hU hW => hK.pass hB U hU hW⟩ rfl rfl hl.1 rfl (lv_room (Nat.le_of_ble_eq_true rfl)) dL_law_249 ⟨(by show cells + 7 + 0 ≤ 758523; omega), (by show slots + 40 + 0 ≤ 6826128; omega)⟩) hB (fun v u H locs hp hB => ?_)
      obtain ⟨rfl, hC, hFm⟩ := hp
      have hk := hFm.I hk
      show W _ _ _ _ _ _ _ _ _ _ _ _ _ _ _ (F0 m 252 ls [.int (iI (nTb σ2))])
      refine lv_iload hx hb dL_law_252 (lv_at hl 18 rfl) ?_
      refine j_iconst hx hb dL_law_254 ?_
      refine j_iadd hx hb dL_law_255 ?_
      refine j_icmp_ne (tgt := 286) hx hb dL_law_256 (by decide) ⟨by omega, by omega⟩ ⟨by omega, by omega⟩ (fun c_10 => False.elim (by omega)) (fun c_10 => ?_)
      refine lv_aload_n hx hb dL_law_259 rfl (lv_at hl 3 rfl) ?_
      refine lv_iload hx hb dL_law_260 (lv_at hl 1 rfl) ?_
      refine m_run (vx_runSW (As := [.ref x, .int (iI w_2)]) (rest := []) ⟨hx, hb, hml, hown, hts⟩ (k_L_finds (l := l) hfl hC hV (vl := w_2) ⟨by omega, by omega⟩) (vx_cwSW 2 hts gL_law_L_finds rfl rfl rfl (by decide +kernel) ⟨by decide, by decide⟩) ⟨Kp.blind _ _ _ _ _, fun U hU hW => hK.pass hB U hU hW⟩ rfl rfl hl.1 rfl (lv_room (Nat.le_of_ble_eq_true rfl)) dL_law_262 ⟨(by show cells + 7 + 2 ≤ 758523; omega), (by show slots + 40 + 12 ≤ 6826128; omega)⟩) hB (fun v u H locs hp hB => ?_)
      rcases hp with ⟨rfl, hfi2, hC, hFm⟩ | ⟨rfl, hfi2, hC, hFm⟩
      · have hk := hFm.I hk
        show W _ _ _ _ _ _ _ _ _ _ _ _ _ _ _ (F0 m 265 ls [.int (iI (-3))])
        refine lv_iload hx hb dL_law_265 (lv_at hl 7 rfl) ?_
        refine j_if_eq (tgt := 275) hx hb dL_law_267 (by decide) ⟨by omega, by omega⟩ (fun c_11 => False.elim (by omega)) (fun c_11 => ?_)
        refine j_bipush hx hb dL_law_270 (by decide) ?_
        refine lv_goto (tgt := 279) hx hb dL_law_272 (by decide) ?_
        refine j_icmp_ne (tgt := 286) hx hb dL_law_279 (by decide) ⟨by decide, by decide⟩ ⟨by decide, by decide⟩ (fun c_12 => False.elim (by omega)) (fun c_12 => ?_)
        refine j_iconst hx hb dL_law_282 ?_
        refine lv_goto (tgt := 287) hx hb dL_law_283 (by decide) ?_
        refine lv_istore (lv' := [(6, .int (iI 1)), (18, .int (iI (-3))), (17, .int (iI w_2)), (0, .ref b), (1, .ref x), (2, .ref ka), (3, .int (iI (ni : Int))), (4, .int (iI rem)), (5, .int (iI st)), (7, .int (iI tn)), (8, .int (iI (tu : Int))), (9, .int (iI x9)), (10, .int (iI (yn : Int))), (11, .int (iI (dn : Int))), (12, .int (iI (σ 9 0))), (13, .int (iI pt)), (14, .int (iI ot)), (15, .int (iI (rn : Int))), (16, .int (iI (nTb σ)))]) hx hb dL_law_287 hl (by decide) rfl (fun ls hl => ?_)
        have hkf : ∀ j, live σ2 j → f1 j = iI (σ2 6 j) := fun j w => by
          rcases i6 j w with ⟨q1, q2⟩ | ⟨q1, q2⟩
          · rw [q2]; exact hkf j q1
          · rw [q2, show j = ni by omega, ef1, upd_s]
        refine j_iinc (lv' := [(3, .int (iI ((ni + 1 : Nat) : Int))), (6, .int (iI 1)), (18, .int (iI (-3))), (17, .int (iI w_2)), (0, .ref b), (1, .ref x), (2, .ref ka), (4, .int (iI rem)), (5, .int (iI st)), (7, .int (iI tn)), (8, .int (iI (tu : Int))), (9, .int (iI x9)), (10, .int (iI (yn : Int))), (11, .int (iI (dn : Int))), (12, .int (iI (σ 9 0))), (13, .int (iI pt)), (14, .int (iI ot)), (15, .int (iI (rn : Int))), (16, .int (iI (nTb σ)))]) hx hb dL_law_289 hl (k := 6) rfl (by decide) rfl (fun ls hl => ?_)
        refine lv_goto (tgt := 1129) hx hb dL_law_292 (by decide) ?_
        refine W.widen (k := cells + 60) (n := slots + 400) (by show cells + 9 ≤ cells + 60; omega) (by show slots + 52 ≤ slots + 400; omega) ?_
        exact kk σ2 (ni + 1) rem st _ _ _ _ ⟨hV, hC.x, ⟨_, hk, hkf⟩, by omega, by omega, by omega, by omega⟩ hB (lv_sub hl [4, 5, 6, 0, 7, 8, 1, 9, 10, 12] rfl)
      · exact False.elim (by omega)
    · have hk := hFm.I hk
      have hvl := nVl_rg hI w_2
      show W _ _ _ _ _ _ _ _ _ _ _ _ _ _ _ (F0 m 225 ls [.int (iI (nVl σ w_2))])
      refine lv_istore (lv' := [(18, .int (iI (nVl σ w_2))), (17, .int (iI w_2)), (0, .ref b), (1, .ref x), (2, .ref ka), (3, .int (iI (ni : Int))), (4, .int (iI rem)), (5, .int (iI st)), (6, .int (iI 1)), (7, .int (iI tn)), (8, .int (iI (tu : Int))), (9, .int (iI x9)), (10, .int (iI (yn : Int))), (11, .int (iI (dn : Int))), (12, .int (iI (σ 9 0))), (13, .int (iI pt)), (14, .int (iI ot)), (15, .int (iI (rn : Int))), (16, .int (iI (nTb σ)))]) hx hb dL_law_225 hl (by decide) rfl (fun ls hl => ?_)
      refine lv_aload_n hx hb dL_law_227 rfl (lv_at hl 3 rfl) ?_
      refine lv_aload_n hx hb dL_law_228 rfl (lv_at hl 4 rfl) ?_
      refine lv_iload_n hx hb dL_law_229 rfl (lv_at hl 5 rfl) ?_
      refine m_kld hx hb hK hB hk (n := ni) (by omega) dL_law_230 ?_
      refine j_topE (show (f1 ni).toInt = (10 * w_6) by rw [ef1, upd_s, iI_t ⟨by omega, by omega⟩]) ?_
      refine lv_iload hx hb dL_law_231 (lv_at hl 12 rfl) ?_
      refine j_bipush hx hb dL_law_233 (by decide) ?_
      refine j_shrT (n := 9) hx hb ⟨by omega, by omega⟩ (by decide) dL_law_235 (fun w_13 hw_13 kw_13 => ?_)
      refine j_bipush hx hb dL_law_236 (by decide) ?_
      refine j_remT hx hb ⟨by omega, by omega⟩ ⟨by omega, by omega⟩ dL_law_238 (fun w_14 hw_14 kw_14 => ?_)
      refine lv_iload hx hb dL_law_239 (lv_at hl 1 rfl) ?_
      refine m_run (vx_runSW (As := [.ref x, .int (iI (10 * w_6)), .int (iI w_14), .int (iI w_2)]) (rest := []) ⟨hx, hb, hml, hown, hts⟩ (k_L_inserts (l := l) hfl hC hV (ky := (10 * w_6)) (sr := w_14) (vl := w_2) ⟨⟨by omega, by omega⟩, ⟨by omega, by omega⟩, ⟨by omega, by omega⟩⟩ (by omega)) (vx_cwSW 4 hts gL_law_L_inserts rfl rfl rfl (by decide +kernel) ⟨by decide, by decide⟩) ⟨Kp.blind _ _ _ _ _, fun U hU hW => hK.pass hB U hU hW⟩ rfl rfl hl.1 rfl (lv_room (Nat.le_of_ble_eq_true rfl)) dL_law_241 ⟨(by show cells + 2 + 5 ≤ 758523; omega), (by show slots + 12 + 28 ≤ 6826128; omega)⟩) hB (fun v u H locs hp hB => ?_)
      obtain ⟨rfl, σ2, ⟨hV, i1, i2, i3, i9, i10, i11, i6⟩, ⟨xp, xr, pa, ra, hC⟩, hFm⟩ := hp
      have hk := hFm.I hk
      have hI := hV.ib
      have hnp := hI.hnp
      have hnpI := hI.npI
      have htb2 := nTb_rg hI
      have hst2 := hI.2.2.1
      show W _ _ _ _ _ _ _ _ _ _ _ _ _ _ _ (F0 m 244 ls [.int (iI (σ 10 0))])
      refine lv_iload_n hx hb dL_law_244 rfl (lv_at hl 5 rfl) ?_
      refine j_icmp_ne (tgt := 286) hx hb dL_law_245 (by decide) ⟨by omega, by omega⟩ ⟨by omega, by omega⟩ (fun c_15 => False.elim (by omega)) (fun c_15 => ?_)
      refine lv_aload_n hx hb dL_law_248 rfl (lv_at hl 3 rfl) ?_
      refine m_run (va_runV (As := []) (rest := []) ⟨hx, hb, hml, hown, hts⟩ (k_X3_rows (l := l) hC hI) (cwV 0 hts gL_law_X3_rows rfl rfl rfl (by decide +kernel) ⟨by decide, by decide⟩) ⟨Kp.blind _ _ _ _ _, m_recv hK hB (ci := 3) rfl hC.tb, fun U hU hW => hK.pass hB U hU hW⟩ rfl rfl hl.1 rfl (lv_room (Nat.le_of_ble_eq_true rfl)) dL_law_249 ⟨(by show cells + 7 + 0 ≤ 758523; omega), (by show slots + 40 + 0 ≤ 6826128; omega)⟩) hB (fun v u H locs hp hB => ?_)
      obtain ⟨rfl, hC, hFm⟩ := hp
      have hk := hFm.I hk
      show W _ _ _ _ _ _ _ _ _ _ _ _ _ _ _ (F0 m 252 ls [.int (iI (nTb σ2))])
      refine lv_iload hx hb dL_law_252 (lv_at hl 18 rfl) ?_
      refine j_iconst hx hb dL_law_254 ?_
      refine j_iadd hx hb dL_law_255 ?_
      refine j_icmp_ne (tgt := 286) hx hb dL_law_256 (by decide) ⟨by omega, by omega⟩ ⟨by omega, by omega⟩ (fun c_16 => False.elim (by omega)) (fun c_16 => ?_)
      refine lv_aload_n hx hb dL_law_259 rfl (lv_at hl 3 rfl) ?_
      refine lv_iload hx hb dL_law_260 (lv_at hl 1 rfl) ?_
      refine m_run (vx_runSW (As := [.ref x, .int (iI w_2)]) (rest := []) ⟨hx, hb, hml, hown, hts⟩ (k_L_finds (l := l) hfl hC hV (vl := w_2) ⟨by omega, by omega⟩) (vx_cwSW 2 hts gL_law_L_finds rfl rfl rfl (by decide +kernel) ⟨by decide, by decide⟩) ⟨Kp.blind _ _ _ _ _, fun U hU hW => hK.pass hB U hU hW⟩ rfl rfl hl.1 rfl (lv_room (Nat.le_of_ble_eq_true rfl)) dL_law_262 ⟨(by show cells + 7 + 2 ≤ 758523; omega), (by show slots + 40 + 12 ≤ 6826128; omega)⟩) hB (fun v u H locs hp hB => ?_)
      rcases hp with ⟨rfl, hfi2, hC, hFm⟩ | ⟨rfl, hfi2, hC, hFm⟩
      · exact False.elim (by omega)
      · have hk := hFm.I hk
        have hvl2 := nVl_rg hI w_2
        show W _ _ _ _ _ _ _ _ _ _ _ _ _ _ _ (F0 m 265 ls [.int (iI (nVl σ2 w_2))])
        refine lv_iload hx hb dL_law_265 (lv_at hl 7 rfl) ?_
        refine j_if_eq (tgt := 275) hx hb dL_law_267 (by decide) ⟨by omega, by omega⟩ (fun c_17 => ?_) (fun c_17 => False.elim (by omega))
        refine lv_iload hx hb dL_law_275 (lv_at hl 0 rfl) ?_
        refine j_iconst hx hb dL_law_277 ?_
        refine j_iadd hx hb dL_law_278 ?_
        refine j_icmp_ne (tgt := 286) hx hb dL_law_279 (by decide) ⟨by omega, by omega⟩ ⟨by omega, by omega⟩ (fun c_18 => False.elim (by omega)) (fun c_18 => ?_)
        refine j_iconst hx hb dL_law_282 ?_
        refine lv_goto (tgt := 287) hx hb dL_law_283 (by decide) ?_
        refine lv_istore (lv' := [(6, .int (iI 1)), (18, .int (iI (nVl σ w_2))), (17, .int (iI w_2)), (0, .ref b), (1, .ref x), (2, .ref ka), (3, .int (iI (ni : Int))), (4, .int (iI rem)), (5, .int (iI st)), (7, .int (iI tn)), (8, .int (iI (tu : Int))), (9, .int (iI x9)), (10, .int (iI (yn : Int))), (11, .int (iI (dn : Int))), (12, .int (iI (σ 9 0))), (13, .int (iI pt)), (14, .int (iI ot)), (15, .int (iI (rn : Int))), (16, .int (iI (nTb σ)))]) hx hb dL_law_287 hl (by decide) rfl (fun ls hl => ?_)
        have hkf : ∀ j, live σ2 j → f1 j = iI (σ2 6 j) := fun j w => by
          rcases i6 j w with ⟨q1, q2⟩ | ⟨q1, q2⟩
          · rw [q2]; exact hkf j q1
          · rw [q2, show j = ni by omega, ef1, upd_s]
        refine j_iinc (lv' := [(3, .int (iI ((ni + 1 : Nat) : Int))), (6, .int (iI 1)), (18, .int (iI (nVl σ w_2))), (17, .int (iI w_2)), (0, .ref b), (1, .ref x), (2, .ref ka), (4, .int (iI rem)), (5, .int (iI st)), (7, .int (iI tn)), (8, .int (iI (tu : Int))), (9, .int (iI x9)), (10, .int (iI (yn : Int))), (11, .int (iI (dn : Int))), (12, .int (iI (σ 9 0))), (13, .int (iI pt)), (14, .int (iI ot)), (15, .int (iI (rn : Int))), (16, .int (iI (nTb σ)))]) hx hb dL_law_289 hl (k := 6) rfl (by decide) rfl (fun ls hl => ?_)
        refine lv_goto (tgt := 1129) hx hb dL_law_292 (by decide) ?_
        refine W.widen (k := cells + 60) (n := slots + 400) (by show cells + 9 ≤ cells + 60; omega) (by show slots + 52 ≤ slots + 400; omega) ?_
        exact kk σ2 (ni + 1) rem st _ _ _ _ ⟨hV, hC.x, ⟨_, hk, hkf⟩, by omega, by omega, by omega, by omega⟩ hB (lv_sub hl [4, 5, 6, 0, 7, 8, 1, 9, 10, 12] rfl)
  · refine lv_iload hx hb dL_law_197 (lv_at hl 11 rfl) ?_
    refine j_iconst hx hb dL_law_199 ?_
    refine j_shrT (n := 3) hx hb ⟨by omega, by omega⟩ (by decide) dL_law_200 (fun w_19 hw_19 kw_19 => ?_)
    refine j_sipush hx hb dL_law_201 (by decide) ?_
    refine j_remT hx hb ⟨by omega, by omega⟩ ⟨by omega, by omega⟩ dL_law_204 (fun w_20 hw_20 kw_20 => ?_)
    refine lv_goto (tgt := 218) hx hb dL_law_205 (by decide) ?_
    refine m_kst hx hb hK hB hk (n := ni) (v := w_20) (by omega) dL_law_218 (fun H locs hB => ?_)
    have hC := hC.outI (f' := upd f ni (iI w_20)) hk
    obtain ⟨u, eu⟩ : ∃ u2 : Hp, u2 = hup h0 ka (arI cI 64 (upd f ni (iI w_20))) := ⟨_, rfl⟩
    rw [← eu] at hB hC
    have hk : u ka = some (arI cI 64 (upd f ni (iI w_20))) := by rw [eu]; exact hup_s _ _ _
    obtain ⟨f1, ef1⟩ : ∃ f1, f1 = upd f ni (iI w_20) := ⟨_, rfl⟩
    rw [← ef1] at hk
    have hkf : ∀ j, live σ j → f1 j = iI (σ 6 j) := fun j w => by rw [ef1, upd_o (by have := w.1; omega)]; exact hkf j w
    refine lv_aload_n hx hb dL_law_219 rfl (lv_at hl 2 rfl) ?_
    refine lv_iload hx hb dL_law_220 (lv_at hl 0 rfl) ?_
    refine m_run (vx_runSW (As := [.ref x, .int (iI w_2)]) (rest := []) ⟨hx, hb, hml, hown, hts⟩ (k_L_finds (l := l) hfl hC hV (vl := w_2) ⟨by omega, by omega⟩) (vx_cwSW 2 hts gL_law_L_finds rfl rfl rfl (by decide +kernel) ⟨by decide, by decide⟩) ⟨Kp.blind _ _ _ _ _, fun U hU hW => hK.pass hB U hU hW⟩ rfl rfl hl.1 rfl (lv_room (Nat.le_of_ble_eq_true rfl)) dL_law_222 ⟨(by show cells + 0 + 2 ≤ 758523; omega), (by show slots + 0 + 12 ≤ 6826128; omega)⟩) hB (fun v u H locs hp hB => ?_)
    rcases hp with ⟨rfl, hfi, hC, hFm⟩ | ⟨rfl, hfi, hC, hFm⟩
    · have hk := hFm.I hk
      show W _ _ _ _ _ _ _ _ _ _ _ _ _ _ _ (F0 m 225 ls [.int (iI (-3))])
      refine lv_istore (lv' := [(18, .int (iI (-3))), (17, .int (iI w_2)), (0, .ref b), (1, .ref x), (2, .ref ka), (3, .int (iI (ni : Int))), (4, .int (iI rem)), (5, .int (iI st)), (6, .int (iI 1)), (7, .int (iI tn)), (8, .int (iI (tu : Int))), (9, .int (iI x9)), (10, .int (iI (yn : Int))), (11, .int (iI (dn : Int))), (12, .int (iI (σ 9 0))), (13, .int (iI pt)), (14, .int (iI ot)), (15, .int (iI (rn : Int))), (16, .int (iI (nTb σ)))]) hx hb dL_law_225 hl (by decide) rfl (fun ls hl => ?_)
      refine lv_aload_n hx hb dL_law_227 rfl (lv_at hl 3 rfl) ?_
      refine lv_aload_n hx hb dL_law_228 rfl (lv_at hl 4 rfl) ?_
      refine lv_iload_n hx hb dL_law_229 rfl (lv_at hl 5 rfl) ?_
      refine m_kld hx hb hK hB hk (n := ni) (by omega) dL_law_230 ?_
      refine j_topE (show (f1 ni).toInt = w_20 by rw [ef1, upd_s, iI_t ⟨by omega, by omega⟩]) ?_
      refine lv_iload hx hb dL_law_231 (lv_at hl 12 rfl) ?_
      refine j_bipush hx hb dL_law_233 (by decide) ?_
      refine j_shrT (n := 9) hx hb ⟨by omega, by omega⟩ (by decide) dL_law_235 (fun w_21 hw_21 kw_21 => ?_)
      refine j_bipush hx hb dL_law_236 (by decide) ?_
      refine j_remT hx hb ⟨by omega, by omega⟩ ⟨by omega, by omega⟩ dL_law_238 (fun w_22 hw_22 kw_22 => ?_)
      refine lv_iload hx hb dL_law_239 (lv_at hl 1 rfl) ?_
      refine m_run (vx_runSW (As := [.ref x, .int (iI w_20), .int (iI w_22), .int (iI w_2)]) (rest := []) ⟨hx, hb, hml, hown, hts⟩ (k_L_inserts (l := l) hfl hC hV (ky := w_20) (sr := w_22) (vl := w_2) ⟨⟨by omega, by omega⟩, ⟨by omega, by omega⟩, ⟨by omega, by omega⟩⟩ (by omega)) (vx_cwSW 4 hts gL_law_L_inserts rfl rfl rfl (by decide +kernel) ⟨by decide, by decide⟩) ⟨Kp.blind _ _ _ _ _, fun U hU hW => hK.pass hB U hU hW⟩ rfl rfl hl.1 rfl (lv_room (Nat.le_of_ble_eq_true rfl)) dL_law_241 ⟨(by show cells + 2 + 5 ≤ 758523; omega), (by show slots + 12 + 28 ≤ 6826128; omega)⟩) hB (fun v u H locs hp hB => ?_)
      obtain ⟨rfl, σ2, ⟨hV, i1, i2, i3, i9, i10, i11, i6⟩, ⟨xp, xr, pa, ra, hC⟩, hFm⟩ := hp
      have hk := hFm.I hk
      have hI := hV.ib
      have hnp := hI.hnp
      have hnpI := hI.npI
      have htb2 := nTb_rg hI
      have hst2 := hI.2.2.1
      show W _ _ _ _ _ _ _ _ _ _ _ _ _ _ _ (F0 m 244 ls [.int (iI (σ 10 0))])
      refine lv_iload_n hx hb dL_law_244 rfl (lv_at hl 5 rfl) ?_
      refine j_icmp_ne (tgt := 286) hx hb dL_law_245 (by decide) ⟨by omega, by omega⟩ ⟨by omega, by omega⟩ (fun c_23 => False.elim (by omega)) (fun c_23 => ?_)
      refine lv_aload_n hx hb dL_law_248 rfl (lv_at hl 3 rfl) ?_
      refine m_run (va_runV (As := []) (rest := []) ⟨hx, hb, hml, hown, hts⟩ (k_X3_rows (l := l) hC hI) (cwV 0 hts gL_law_X3_rows rfl rfl rfl (by decide +kernel) ⟨by decide, by decide⟩) ⟨Kp.blind _ _ _ _ _, m_recv hK hB (ci := 3) rfl hC.tb, fun U hU hW => hK.pass hB U hU hW⟩ rfl rfl hl.1 rfl (lv_room (Nat.le_of_ble_eq_true rfl)) dL_law_249 ⟨(by show cells + 7 + 0 ≤ 758523; omega), (by show slots + 40 + 0 ≤ 6826128; omega)⟩) hB (fun v u H locs hp hB => ?_)
      obtain ⟨rfl, hC, hFm⟩ := hp
      have hk := hFm.I hk
      show W _ _ _ _ _ _ _ _ _ _ _ _ _ _ _ (F0 m 252 ls [.int (iI (nTb σ2))])
      refine lv_iload hx hb dL_law_252 (lv_at hl 18 rfl) ?_
      refine j_iconst hx hb dL_law_254 ?_
      refine j_iadd hx hb dL_law_255 ?_
      refine j_icmp_ne (tgt := 286) hx hb dL_law_256 (by decide) ⟨by omega, by omega⟩ ⟨by omega, by omega⟩ (fun c_24 => False.elim (by omega)) (fun c_24 => ?_)
      refine lv_aload_n hx hb dL_law_259 rfl (lv_at hl 3 rfl) ?_
      refine lv_iload hx hb dL_law_260 (lv_at hl 1 rfl) ?_
      refine m_run (vx_runSW (As := [.ref x, .int (iI w_2)]) (rest := []) ⟨hx, hb, hml, hown, hts⟩ (k_L_finds (l := l) hfl hC hV (vl := w_2) ⟨by omega, by omega⟩) (vx_cwSW 2 hts gL_law_L_finds rfl rfl rfl (by decide +kernel) ⟨by decide, by decide⟩) ⟨Kp.blind _ _ _ _ _, fun U hU hW => hK.pass hB U hU hW⟩ rfl rfl hl.1 rfl (lv_room (Nat.le_of_ble_eq_true rfl)) dL_law_262 ⟨(by show cells + 7 + 2 ≤ 758523; omega), (by show slots + 40 + 12 ≤ 6826128; omega)⟩) hB (fun v u H locs hp hB => ?_)
      rcases hp with ⟨rfl, hfi2, hC, hFm⟩ | ⟨rfl, hfi2, hC, hFm⟩
      · have hk := hFm.I hk
        show W _ _ _ _ _ _ _ _ _ _ _ _ _ _ _ (F0 m 265 ls [.int (iI (-3))])
        refine lv_iload hx hb dL_law_265 (lv_at hl 7 rfl) ?_
        refine j_if_eq (tgt := 275) hx hb dL_law_267 (by decide) ⟨by omega, by omega⟩ (fun c_25 => False.elim (by omega)) (fun c_25 => ?_)
        refine j_bipush hx hb dL_law_270 (by decide) ?_
        refine lv_goto (tgt := 279) hx hb dL_law_272 (by decide) ?_
        refine j_icmp_ne (tgt := 286) hx hb dL_law_279 (by decide) ⟨by decide, by decide⟩ ⟨by decide, by decide⟩ (fun c_26 => False.elim (by omega)) (fun c_26 => ?_)
        refine j_iconst hx hb dL_law_282 ?_
        refine lv_goto (tgt := 287) hx hb dL_law_283 (by decide) ?_
        refine lv_istore (lv' := [(6, .int (iI 1)), (18, .int (iI (-3))), (17, .int (iI w_2)), (0, .ref b), (1, .ref x), (2, .ref ka), (3, .int (iI (ni : Int))), (4, .int (iI rem)), (5, .int (iI st)), (7, .int (iI tn)), (8, .int (iI (tu : Int))), (9, .int (iI x9)), (10, .int (iI (yn : Int))), (11, .int (iI (dn : Int))), (12, .int (iI (σ 9 0))), (13, .int (iI pt)), (14, .int (iI ot)), (15, .int (iI (rn : Int))), (16, .int (iI (nTb σ)))]) hx hb dL_law_287 hl (by decide) rfl (fun ls hl => ?_)
        have hkf : ∀ j, live σ2 j → f1 j = iI (σ2 6 j) := fun j w => by
          rcases i6 j w with ⟨q1, q2⟩ | ⟨q1, q2⟩
          · rw [q2]; exact hkf j q1
          · rw [q2, show j = ni by omega, ef1, upd_s]
        refine j_iinc (lv' := [(3, .int (iI ((ni + 1 : Nat) : Int))), (6, .int (iI 1)), (18, .int (iI (-3))), (17, .int (iI w_2)), (0, .ref b), (1, .ref x), (2, .ref ka), (4, .int (iI rem)), (5, .int (iI st)), (7, .int (iI tn)), (8, .int (iI (tu : Int))), (9, .int (iI x9)), (10, .int (iI (yn : Int))), (11, .int (iI (dn : Int))), (12, .int (iI (σ 9 0))), (13, .int (iI pt)), (14, .int (iI ot)), (15, .int (iI (rn : Int))), (16, .int (iI (nTb σ)))]) hx hb dL_law_289 hl (k := 6) rfl (by decide) rfl (fun ls hl => ?_)
        refine lv_goto (tgt := 1129) hx hb dL_law_292 (by decide) ?_
        refine W.widen (k := cells + 60) (n := slots + 400) (by show cells + 9 ≤ cells + 60; omega) (by show slots + 52 ≤ slots + 400; omega) ?_
        exact kk σ2 (ni + 1) rem st _ _ _ _ ⟨hV, hC.x, ⟨_, hk, hkf⟩, by omega, by omega, by omega, by omega⟩ hB (lv_sub hl [4, 5, 6, 0, 7, 8, 1, 9, 10, 12] rfl)
      · exact False.elim (by omega)
    · have hk := hFm.I hk
      have hvl := nVl_rg hI w_2
      show W _ _ _ _ _ _ _ _ _ _ _ _ _ _ _ (F0 m 225 ls [.int (iI (nVl σ w_2))])
      refine lv_istore (lv' := [(18, .int (iI (nVl σ w_2))), (17, .int (iI w_2)), (0, .ref b), (1, .ref x), (2, .ref ka), (3, .int (iI (ni : Int))), (4, .int (iI rem)), (5, .int (iI st)), (6, .int (iI 1)), (7, .int (iI tn)), (8, .int (iI (tu : Int))), (9, .int (iI x9)), (10, .int (iI (yn : Int))), (11, .int (iI (dn : Int))), (12, .int (iI (σ 9 0))), (13, .int (iI pt)), (14, .int (iI ot)), (15, .int (iI (rn : Int))), (16, .int (iI (nTb σ)))]) hx hb dL_law_225 hl (by decide) rfl (fun ls hl => ?_)
      refine lv_aload_n hx hb dL_law_227 rfl (lv_at hl 3 rfl) ?_
      refine lv_aload_n hx hb dL_law_228 rfl (lv_at hl 4 rfl) ?_
      refine lv_iload_n hx hb dL_law_229 rfl (lv_at hl 5 rfl) ?_
      refine m_kld hx hb hK hB hk (n := ni) (by omega) dL_law_230 ?_
      refine j_topE (show (f1 ni).toInt = w_20 by rw [ef1, upd_s, iI_t ⟨by omega, by omega⟩]) ?_
      refine lv_iload hx hb dL_law_231 (lv_at hl 12 rfl) ?_
      refine j_bipush hx hb dL_law_233 (by decide) ?_
      refine j_shrT (n := 9) hx hb ⟨by omega, by omega⟩ (by decide) dL_law_235 (fun w_27 hw_27 kw_27 => ?_)
      refine j_bipush hx hb dL_law_236 (by decide) ?_
      refine j_remT hx hb ⟨by omega, by omega⟩ ⟨by omega, by omega⟩ dL_law_238 (fun w_28 hw_28 kw_28 => ?_)
      refine lv_iload hx hb dL_law_239 (lv_at hl 1 rfl) ?_
      refine m_run (vx_runSW (As := [.ref x, .int (iI w_20), .int (iI w_28), .int (iI w_2)]) (rest := []) ⟨hx, hb, hml, hown, hts⟩ (k_L_inserts (l := l) hfl hC hV (ky := w_20) (sr := w_28) (vl := w_2) ⟨⟨by omega, by omega⟩, ⟨by omega, by omega⟩, ⟨by omega, by omega⟩⟩ (by omega)) (vx_cwSW 4 hts gL_law_L_inserts rfl rfl rfl (by decide +kernel) ⟨by decide, by decide⟩) ⟨Kp.blind _ _ _ _ _, fun U hU hW => hK.pass hB U hU hW⟩ rfl rfl hl.1 rfl (lv_room (Nat.le_of_ble_eq_true rfl)) dL_law_241 ⟨(by show cells + 2 + 5 ≤ 758523; omega), (by show slots + 12 + 28 ≤ 6826128; omega)⟩) hB (fun v u H locs hp hB => ?_)
      obtain ⟨rfl, σ2, ⟨hV, i1, i2, i3, i9, i10, i11, i6⟩, ⟨xp, xr, pa, ra, hC⟩, hFm⟩ := hp
      have hk := hFm.I hk
      have hI := hV.ib
      have hnp := hI.hnp
      have hnpI := hI.npI
      have htb2 := nTb_rg hI
      have hst2 := hI.2.2.1
      show W _ _ _ _ _ _ _ _ _ _ _ _ _ _ _ (F0 m 244 ls [.int (iI (σ 10 0))])
      refine lv_iload_n hx hb dL_law_244 rfl (lv_at hl 5 rfl) ?_
      refine j_icmp_ne (tgt := 286) hx hb dL_law_245 (by decide) ⟨by omega, by omega⟩ ⟨by omega, by omega⟩ (fun c_29 => False.elim (by omega)) (fun c_29 => ?_)
      refine lv_aload_n hx hb dL_law_248 rfl (lv_at hl 3 rfl) ?_
      refine m_run (va_runV (As := []) (rest := []) ⟨hx, hb, hml, hown, hts⟩ (k_X3_rows (l := l) hC hI) (cwV 0 hts gL_law_X3_rows rfl rfl rfl (by decide +kernel) ⟨by decide, by decide⟩) ⟨Kp.blind _ _ _ _ _, m_recv hK hB (ci := 3) rfl hC.tb, fun U hU hW => hK.pass hB U hU hW⟩ rfl rfl hl.1 rfl (lv_room (Nat.le_of_ble_eq_true rfl)) dL_law_249 ⟨(by show cells + 7 + 0 ≤ 758523; omega), (by show slots + 40 + 0 ≤ 6826128; omega)⟩) hB (fun v u H locs hp hB => ?_)
      obtain ⟨rfl, hC, hFm⟩ := hp
      have hk := hFm.I hk
      show W _ _ _ _ _ _ _ _ _ _ _ _ _ _ _ (F0 m 252 ls [.int (iI (nTb σ2))])
      refine lv_iload hx hb dL_law_252 (lv_at hl 18 rfl) ?_
      refine j_iconst hx hb dL_law_254 ?_
      refine j_iadd hx hb dL_law_255 ?_
      refine j_icmp_ne (tgt := 286) hx hb dL_law_256 (by decide) ⟨by omega, by omega⟩ ⟨by omega, by omega⟩ (fun c_30 => False.elim (by omega)) (fun c_30 => ?_)
      refine lv_aload_n hx hb dL_law_259 rfl (lv_at hl 3 rfl) ?_
      refine lv_iload hx hb dL_law_260 (lv_at hl 1 rfl) ?_
      refine m_run (vx_runSW (As := [.ref x, .int (iI w_2)]) (rest := []) ⟨hx, hb, hml, hown, hts⟩ (k_L_finds (l := l) hfl hC hV (vl := w_2) ⟨by omega, by omega⟩) (vx_cwSW 2 hts gL_law_L_finds rfl rfl rfl (by decide +kernel) ⟨by decide, by decide⟩) ⟨Kp.blind _ _ _ _ _, fun U hU hW => hK.pass hB U hU hW⟩ rfl rfl hl.1 rfl (lv_room (Nat.le_of_ble_eq_true rfl)) dL_law_262 ⟨(by show cells + 7 + 2 ≤ 758523; omega), (by show slots + 40 + 12 ≤ 6826128; omega)⟩) hB (fun v u H locs hp hB => ?_)
      rcases hp with ⟨rfl, hfi2, hC, hFm⟩ | ⟨rfl, hfi2, hC, hFm⟩
      · exact False.elim (by omega)
      · have hk := hFm.I hk
        have hvl2 := nVl_rg hI w_2
        show W _ _ _ _ _ _ _ _ _ _ _ _ _ _ _ (F0 m 265 ls [.int (iI (nVl σ2 w_2))])
        refine lv_iload hx hb dL_law_265 (lv_at hl 7 rfl) ?_
        refine j_if_eq (tgt := 275) hx hb dL_law_267 (by decide) ⟨by omega, by omega⟩ (fun c_31 => ?_) (fun c_31 => False.elim (by omega))
        refine lv_iload hx hb dL_law_275 (lv_at hl 0 rfl) ?_
        refine j_iconst hx hb dL_law_277 ?_
        refine j_iadd hx hb dL_law_278 ?_
        refine j_icmp_ne (tgt := 286) hx hb dL_law_279 (by decide) ⟨by omega, by omega⟩ ⟨by omega, by omega⟩ (fun c_32 => False.elim (by omega)) (fun c_32 => ?_)
        refine j_iconst hx hb dL_law_282 ?_
        refine lv_goto (tgt := 287) hx hb dL_law_283 (by decide) ?_
        refine lv_istore (lv' := [(6, .int (iI 1)), (18, .int (iI (nVl σ w_2))), (17, .int (iI w_2)), (0, .ref b), (1, .ref x), (2, .ref ka), (3, .int (iI (ni : Int))), (4, .int (iI rem)), (5, .int (iI st)), (7, .int (iI tn)), (8, .int (iI (tu : Int))), (9, .int (iI x9)), (10, .int (iI (yn : Int))), (11, .int (iI (dn : Int))), (12, .int (iI (σ 9 0))), (13, .int (iI pt)), (14, .int (iI ot)), (15, .int (iI (rn : Int))), (16, .int (iI (nTb σ)))]) hx hb dL_law_287 hl (by decide) rfl (fun ls hl => ?_)
        have hkf : ∀ j, live σ2 j → f1 j = iI (σ2 6 j) := fun j w => by
          rcases i6 j w with ⟨q1, q2⟩ | ⟨q1, q2⟩
          · rw [q2]; exact hkf j q1
          · rw [q2, show j = ni by omega, ef1, upd_s]
        refine j_iinc (lv' := [(3, .int (iI ((ni + 1 : Nat) : Int))), (6, .int (iI 1)), (18, .int (iI (nVl σ w_2))), (17, .int (iI w_2)), (0, .ref b), (1, .ref x), (2, .ref ka), (4, .int (iI rem)), (5, .int (iI st)), (7, .int (iI tn)), (8, .int (iI (tu : Int))), (9, .int (iI x9)), (10, .int (iI (yn : Int))), (11, .int (iI (dn : Int))), (12, .int (iI (σ 9 0))), (13, .int (iI pt)), (14, .int (iI ot)), (15, .int (iI (rn : Int))), (16, .int (iI (nTb σ)))]) hx hb dL_law_289 hl (k := 6) rfl (by decide) rfl (fun ls hl => ?_)
        refine lv_goto (tgt := 1129) hx hb dL_law_292 (by decide) ?_
        refine W.widen (k := cells + 60) (n := slots + 400) (by show cells + 9 ≤ cells + 60; omega) (by show slots + 52 ≤ slots + 400; omega) ?_
        exact kk σ2 (ni + 1) rem st _ _ _ _ ⟨hV, hC.x, ⟨_, hk, hkf⟩, by omega, by omega, by omega, by omega⟩ hB (lv_sub hl [4, 5, 6, 0, 7, 8, 1, 9, 10, 12] rfl)

