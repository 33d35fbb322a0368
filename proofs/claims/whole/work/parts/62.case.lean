set_option maxHeartbeats 4000000 in
set_option maxRecDepth 100000 in
theorem lc_0 {l : Launch} (hfl : l.stackTraces = false) {D : va_G} {cI cP cR cJ : ClassId} {p : Program} {e : Env} {s : State} {m : MethodId} {below : List Frame} {meth : Method} {c : Code} {b L : Nat} {xs : Nat → Int32} (hL : L ≤ 3072) (hx : p.tables.exec = Jvm.exec) (hb : c.code = cL_law) (hml : c.maxLocals = 7) (hown : s.vm.findClass RL = some m.cls) (hts : ∀ w ∈ wsL_law, w.before #[Value.ref b] s = true) (hX : va_X b L xs s s.heap) (hbl : b < s.heap.size) (hK : Kb D s.heap.size (tyL cI cP cR cJ) s) {x xm oa i : Nat} (hi : 6 * i + 6 ≤ L) {cells slots : Nat} (hc : cells + 100 ≤ 632940) (hs : slots + 1000 ≤ 7197285) {σ : Sg} {h0 : Hp} {H : Heap} {locs : List Loc} (hS : LwS cI cP cR cJ x xm oa σ h0) (hB : Bk D s.heap.size s.heap h0 H locs) {ls : Array Slot} (hl : lv_has ls 7 [(4, .int (iI ((6 * i : Nat) : Int))), (0, .ref b), (1, .ref x), (2, .ref xm), (3, .ref oa)]) {Q : State → Prop} (kk : ∀ (σ2 : Sg) (h2 : Hp) (H2 : Heap) (locs2 : List Loc) (ls2 : Array Slot), LwS cI cP cR cJ x xm oa σ2 h2 → Bk D s.heap.size s.heap h2 H2 locs2 → lv_has ls2 7 [(4, .int (iI ((6 * i : Nat) : Int))), (0, .ref b), (1, .ref x), (2, .ref xm), (3, .ref oa)] → W p l e room_1 s m #[Value.ref b] below meth c H2 locs2 (cells + 100) (slots + 1000) Q (F0 m 1638 ls2 [])) : W p l e room_1 s m #[Value.ref b] below meth c H locs cells slots Q (F0 m 152 ls []) := by
  obtain ⟨hV, ⟨xp, xr, pa, ra, hC⟩, ⟨xa, th, hM⟩, fo, ho⟩ := hS
  have hI := hV.ib
  have hnp := hI.hnp
  have hst := hI.2.2.1
  have hnrI := hI.nrI
  refine lv_aload_n hx hb dL_law_152 rfl (lv_at hl 2 rfl) ?_
  refine lv_aload_n hx hb dL_law_153 rfl (lv_at hl 1 rfl) ?_
  refine lv_iload hx hb dL_law_154 (lv_at hl 0 rfl) ?_
  refine j_iconst hx hb dL_law_156 ?_
  refine j_iadd hx hb dL_law_157 ?_
  refine j_topE (show (((6 * i : Nat) : Int) + 1) = ((6 * i + 1 : Nat) : Int) by omega) ?_
  refine m_sld hx hb hX hbl hB (n := 6 * i + 1) (by omega) hL dL_law_158 ?_
  refine lv_aload_n hx hb dL_law_159 rfl (lv_at hl 1 rfl) ?_
  refine lv_iload hx hb dL_law_160 (lv_at hl 0 rfl) ?_
  refine j_iconst hx hb dL_law_162 ?_
  refine j_iadd hx hb dL_law_163 ?_
  refine j_topE (show (((6 * i : Nat) : Int) + 2) = ((6 * i + 2 : Nat) : Int) by omega) ?_
  refine m_sld hx hb hX hbl hB (n := 6 * i + 2) (by omega) hL dL_law_164 ?_
  refine lv_aload_n hx hb dL_law_165 rfl (lv_at hl 1 rfl) ?_
  refine lv_iload hx hb dL_law_166 (lv_at hl 0 rfl) ?_
  refine j_iconst hx hb dL_law_168 ?_
  refine j_iadd hx hb dL_law_169 ?_
  refine j_topE (show (((6 * i : Nat) : Int) + 3) = ((6 * i + 3 : Nat) : Int) by omega) ?_
  refine m_sld hx hb hX hbl hB (n := 6 * i + 3) (by omega) hL dL_law_170 ?_
  refine lv_aload_n hx hb dL_law_171 rfl (lv_at hl 1 rfl) ?_
  refine lv_iload hx hb dL_law_172 (lv_at hl 0 rfl) ?_
  refine j_iconst hx hb dL_law_174 ?_
  refine j_iadd hx hb dL_law_175 ?_
  refine j_topE (show (((6 * i : Nat) : Int) + 4) = ((6 * i + 4 : Nat) : Int) by omega) ?_
  refine m_sld hx hb hX hbl hB (n := 6 * i + 4) (by omega) hL dL_law_176 ?_
  refine lv_aload_n hx hb dL_law_177 rfl (lv_at hl 4 rfl) ?_
  refine m_run (vx_runSW (As := [.ref x, .int (iI ((xs (6 * i + 1)).toInt)), .int (iI ((xs (6 * i + 2)).toInt)), .int (iI ((xs (6 * i + 3)).toInt)), .int (iI ((xs (6 * i + 4)).toInt)), .ref oa]) (rest := []) ⟨hx, hb, hml, hown, hts⟩ (k_L_makePart (l := l) hfl hC hI ho (iI_rg _) (iI_rg _) (iI_rg _) (iI_rg _)) (vx_cwSW 6 hts gL_law_L_makePart rfl rfl rfl (by decide +kernel) ⟨by decide, by decide⟩) ⟨Kp.blind _ _ _ _ _, fun U hU hW => hK.pass hB U hU hW⟩ rfl rfl hl.1 rfl (lv_room (Nat.le_of_ble_eq_true rfl)) dL_law_178 ⟨(by show cells + 7 ≤ 632940; omega), (by show slots + 42 ≤ 7197285; omega)⟩) hB (fun v u H locs hp hB => ?_)
  rcases hp with ⟨rfl, cA, pa, hC, ⟨fo2, ho, ef⟩, hFl⟩ | ⟨rfl, cA, hC, hFl⟩ | ⟨rfl, cA, hC, hFl⟩
  · have hM := hM.frL hFl
    show W _ _ _ _ _ _ _ _ _ _ _ _ _ _ _ (F0 m 181 ls [.int (iI 0)])
    refine lv_istore (lv' := [(5, .int (iI 0)), (4, .int (iI ((6 * i : Nat) : Int))), (0, .ref b), (1, .ref x), (2, .ref xm), (3, .ref oa)]) hx hb dL_law_181 hl (by decide) rfl (fun ls hl => ?_)
    refine lv_aload_n hx hb dL_law_183 rfl (lv_at hl 4 rfl) ?_
    refine lv_aload_n hx hb dL_law_184 rfl (lv_at hl 2 rfl) ?_
    refine lv_iload hx hb dL_law_185 (lv_at hl 1 rfl) ?_
    refine j_iconst hx hb dL_law_187 ?_
    refine j_iadd hx hb dL_law_188 ?_
    refine j_topE (show (((6 * i : Nat) : Int) + 1) = ((6 * i + 1 : Nat) : Int) by omega) ?_
    refine m_sld hx hb hX hbl hB (n := 6 * i + 1) (by omega) hL dL_law_189 ?_
    refine lv_aload_n hx hb dL_law_190 rfl (lv_at hl 2 rfl) ?_
    refine lv_iload hx hb dL_law_191 (lv_at hl 1 rfl) ?_
    refine j_iconst hx hb dL_law_193 ?_
    refine j_iadd hx hb dL_law_194 ?_
    refine j_topE (show (((6 * i : Nat) : Int) + 2) = ((6 * i + 2 : Nat) : Int) by omega) ?_
    refine m_sld hx hb hX hbl hB (n := 6 * i + 2) (by omega) hL dL_law_195 ?_
    refine lv_aload_n hx hb dL_law_196 rfl (lv_at hl 2 rfl) ?_
    refine lv_iload hx hb dL_law_197 (lv_at hl 1 rfl) ?_
    refine j_iconst hx hb dL_law_199 ?_
    refine j_iadd hx hb dL_law_200 ?_
    refine j_topE (show (((6 * i : Nat) : Int) + 3) = ((6 * i + 3 : Nat) : Int) by omega) ?_
    refine m_sld hx hb hX hbl hB (n := 6 * i + 3) (by omega) hL dL_law_201 ?_
    refine lv_aload_n hx hb dL_law_202 rfl (lv_at hl 2 rfl) ?_
    refine lv_iload hx hb dL_law_203 (lv_at hl 1 rfl) ?_
    refine j_iconst hx hb dL_law_205 ?_
    refine j_iadd hx hb dL_law_206 ?_
    refine j_topE (show (((6 * i : Nat) : Int) + 4) = ((6 * i + 4 : Nat) : Int) by omega) ?_
    refine m_sld hx hb hX hbl hB (n := 6 * i + 4) (by omega) hL dL_law_207 ?_
    refine m_run (va_runV (As := [.int (iI ((xs (6 * i + 1)).toInt)), .int (iI ((xs (6 * i + 2)).toInt)), .int (iI ((xs (6 * i + 3)).toInt)), .int (iI ((xs (6 * i + 4)).toInt))]) (rest := []) ⟨hx, hb, hml, hown, hts⟩ (k_X4_makePart (l := l) hM hI (iI_rg _) (iI_rg _) (iI_rg _) (iI_rg _)) (cwV 4 hts gL_law_X4_makePart rfl rfl rfl (by decide +kernel) ⟨by decide, by decide⟩) ⟨Kp.blind _ _ _ _ _, m_recv hK hB (ci := 4) rfl hM.1, fun U hU hW => hK.pass hB U hU hW⟩ rfl rfl hl.1 rfl (lv_room (Nat.le_of_ble_eq_true rfl)) dL_law_208 ⟨(by show cells + 7 ≤ 632940; omega), (by show slots + 42 ≤ 7197285; omega)⟩) hB (fun v u H locs hp hB => ?_)
    rcases hp with ⟨cB, rfl, hM, hFm⟩ | ⟨cB, rfl, hM, hFm⟩ | ⟨cB, rfl, hM, hFm⟩
    · have hC := hC.fr hFm
      have ho := hFm.J ho
      have hV2 := hV.mkp cA.2.2.2 cA.1.1 cA.1.2 cA.2.1 cA.2.2.1
      show W _ _ _ _ _ _ _ _ _ _ _ _ _ _ _ (F0 m 211 ls [.int (iI (σ 9 0 + 1))])
      refine lv_istore (lv' := [(6, .int (iI (σ 9 0 + 1))), (5, .int (iI 0)), (4, .int (iI ((6 * i : Nat) : Int))), (0, .ref b), (1, .ref x), (2, .ref xm), (3, .ref oa)]) hx hb dL_law_211 hl (by decide) rfl (fun ls hl => ?_)
      refine lv_aload_n hx hb dL_law_213 rfl (lv_at hl 5 rfl) ?_
      refine m_run (va_runV (As := []) (rest := []) ⟨hx, hb, hml, hown, hts⟩ (k_X4_thrown (l := l) hM hV2.ib) (cwV 0 hts gL_law_X4_thrown rfl rfl rfl (by decide +kernel) ⟨by decide, by decide⟩) ⟨Kp.blind _ _ _ _ _, m_recv hK hB (ci := 4) rfl hM.1, fun U hU hW => hK.pass hB U hU hW⟩ rfl rfl hl.1 rfl (lv_room (Nat.le_of_ble_eq_true rfl)) dL_law_214 ⟨(by show cells + 7 ≤ 632940; omega), (by show slots + 42 ≤ 7197285; omega)⟩) hB (fun v u H locs hp hB => ?_)
      obtain ⟨rfl, rfl⟩ := hp
      show W _ _ _ _ _ _ _ _ _ _ _ _ _ _ _ (F0 m 217 ls [.int (iI 0)])
      refine lv_iload hx hb dL_law_217 (lv_at hl 1 rfl) ?_
      refine j_icmp_eq (tgt := 224) hx hb dL_law_219 (by decide) ⟨by decide, by decide⟩ ⟨by decide, by decide⟩ (fun _ => ?_) (fun w => absurd rfl w)
      refine lv_iload hx hb dL_law_224 (lv_at hl 1 rfl) ?_
      refine j_if_ne (tgt := 241) hx hb dL_law_226 (by decide) ⟨by decide, by decide⟩ (fun c_1 => absurd c_1 (by decide)) (fun c_1 => ?_)
      refine lv_aload_n hx hb dL_law_229 rfl (lv_at hl 6 rfl) ?_
      refine j_iconst hx hb dL_law_230 ?_
      refine m_lald hx hb hK hB 3 ho rfl in01 dL_law_231 ?_
      refine lv_iload hx hb dL_law_232 (lv_at hl 0 rfl) ?_
      refine lv_i2l hx hb dL_law_234 (rfl : _ = lI (σ 9 0 + 1)) ?_
      refine j_lcmp0 hx hb (show fo2 (iI 0).toNatClampNeg = _ from ef) dL_law_235 ?_
      refine j_if_eq (tgt := 241) hx hb dL_law_236 (by decide) ⟨by decide, by decide⟩ (fun c_2 => ?_) (fun c_2 => absurd c_2 (by decide))
      refine lv_goto (tgt := 1638) hx hb dL_law_241 (by decide) ?_
      refine W.widen (k := cells + 100) (n := slots + 1000) (by show cells + 7 ≤ cells + 100; omega) (by show slots + 42 ≤ slots + 1000; omega) ?_
      exact kk _ _ _ _ _ (LwS.mk hV2 hC hM ho) hB (lv_sub hl [2, 3, 4, 5, 6] rfl)
    · exact (cl_makePart_0_1 cA cB).elim
    · exact (cl_makePart_0_2 cA cB).elim
  · have hM := hM.frL hFl.L
    have ho := hFl.J ho
    show W _ _ _ _ _ _ _ _ _ _ _ _ _ _ _ (F0 m 181 ls [.int (iI 1)])
    refine lv_istore (lv' := [(5, .int (iI 1)), (4, .int (iI ((6 * i : Nat) : Int))), (0, .ref b), (1, .ref x), (2, .ref xm), (3, .ref oa)]) hx hb dL_law_181 hl (by decide) rfl (fun ls hl => ?_)
    refine lv_aload_n hx hb dL_law_183 rfl (lv_at hl 4 rfl) ?_
    refine lv_aload_n hx hb dL_law_184 rfl (lv_at hl 2 rfl) ?_
    refine lv_iload hx hb dL_law_185 (lv_at hl 1 rfl) ?_
    refine j_iconst hx hb dL_law_187 ?_
    refine j_iadd hx hb dL_law_188 ?_
    refine j_topE (show (((6 * i : Nat) : Int) + 1) = ((6 * i + 1 : Nat) : Int) by omega) ?_
    refine m_sld hx hb hX hbl hB (n := 6 * i + 1) (by omega) hL dL_law_189 ?_
    refine lv_aload_n hx hb dL_law_190 rfl (lv_at hl 2 rfl) ?_
    refine lv_iload hx hb dL_law_191 (lv_at hl 1 rfl) ?_
    refine j_iconst hx hb dL_law_193 ?_
    refine j_iadd hx hb dL_law_194 ?_
    refine j_topE (show (((6 * i : Nat) : Int) + 2) = ((6 * i + 2 : Nat) : Int) by omega) ?_
    refine m_sld hx hb hX hbl hB (n := 6 * i + 2) (by omega) hL dL_law_195 ?_
    refine lv_aload_n hx hb dL_law_196 rfl (lv_at hl 2 rfl) ?_
    refine lv_iload hx hb dL_law_197 (lv_at hl 1 rfl) ?_
    refine j_iconst hx hb dL_law_199 ?_
    refine j_iadd hx hb dL_law_200 ?_
    refine j_topE (show (((6 * i : Nat) : Int) + 3) = ((6 * i + 3 : Nat) : Int) by omega) ?_
    refine m_sld hx hb hX hbl hB (n := 6 * i + 3) (by omega) hL dL_law_201 ?_
    refine lv_aload_n hx hb dL_law_202 rfl (lv_at hl 2 rfl) ?_
    refine lv_iload hx hb dL_law_203 (lv_at hl 1 rfl) ?_
    refine j_iconst hx hb dL_law_205 ?_
    refine j_iadd hx hb dL_law_206 ?_
    refine j_topE (show (((6 * i : Nat) : Int) + 4) = ((6 * i + 4 : Nat) : Int) by omega) ?_
    refine m_sld hx hb hX hbl hB (n := 6 * i + 4) (by omega) hL dL_law_207 ?_
    refine m_run (va_runV (As := [.int (iI ((xs (6 * i + 1)).toInt)), .int (iI ((xs (6 * i + 2)).toInt)), .int (iI ((xs (6 * i + 3)).toInt)), .int (iI ((xs (6 * i + 4)).toInt))]) (rest := []) ⟨hx, hb, hml, hown, hts⟩ (k_X4_makePart (l := l) hM hI (iI_rg _) (iI_rg _) (iI_rg _) (iI_rg _)) (cwV 4 hts gL_law_X4_makePart rfl rfl rfl (by decide +kernel) ⟨by decide, by decide⟩) ⟨Kp.blind _ _ _ _ _, m_recv hK hB (ci := 4) rfl hM.1, fun U hU hW => hK.pass hB U hU hW⟩ rfl rfl hl.1 rfl (lv_room (Nat.le_of_ble_eq_true rfl)) dL_law_208 ⟨(by show cells + 7 ≤ 632940; omega), (by show slots + 42 ≤ 7197285; omega)⟩) hB (fun v u H locs hp hB => ?_)
    rcases hp with ⟨cB, rfl, hM, hFm⟩ | ⟨cB, rfl, hM, hFm⟩ | ⟨cB, rfl, hM, hFm⟩
    · exact (cl_makePart_1_0 cA cB).elim
    · have hC := hC.fr hFm
      have ho := hFm.J ho
      have hV2 := hV
      show W _ _ _ _ _ _ _ _ _ _ _ _ _ _ _ (F0 m 211 ls [.int (iI 0)])
      refine lv_istore (lv' := [(6, .int (iI 0)), (5, .int (iI 1)), (4, .int (iI ((6 * i : Nat) : Int))), (0, .ref b), (1, .ref x), (2, .ref xm), (3, .ref oa)]) hx hb dL_law_211 hl (by decide) rfl (fun ls hl => ?_)
      refine lv_aload_n hx hb dL_law_213 rfl (lv_at hl 5 rfl) ?_
      refine m_run (va_runV (As := []) (rest := []) ⟨hx, hb, hml, hown, hts⟩ (k_X4_thrown (l := l) hM hV2.ib) (cwV 0 hts gL_law_X4_thrown rfl rfl rfl (by decide +kernel) ⟨by decide, by decide⟩) ⟨Kp.blind _ _ _ _ _, m_recv hK hB (ci := 4) rfl hM.1, fun U hU hW => hK.pass hB U hU hW⟩ rfl rfl hl.1 rfl (lv_room (Nat.le_of_ble_eq_true rfl)) dL_law_214 ⟨(by show cells + 7 ≤ 632940; omega), (by show slots + 42 ≤ 7197285; omega)⟩) hB (fun v u H locs hp hB => ?_)
      obtain ⟨rfl, rfl⟩ := hp
      show W _ _ _ _ _ _ _ _ _ _ _ _ _ _ _ (F0 m 217 ls [.int (iI 1)])
      refine lv_iload hx hb dL_law_217 (lv_at hl 1 rfl) ?_
      refine j_icmp_eq (tgt := 224) hx hb dL_law_219 (by decide) ⟨by decide, by decide⟩ ⟨by decide, by decide⟩ (fun _ => ?_) (fun w => absurd rfl w)
      refine lv_iload hx hb dL_law_224 (lv_at hl 1 rfl) ?_
      refine j_if_ne (tgt := 241) hx hb dL_law_226 (by decide) ⟨by decide, by decide⟩ (fun c_3 => ?_) (fun c_3 => absurd c_3 (by decide))
      refine lv_goto (tgt := 1638) hx hb dL_law_241 (by decide) ?_
      refine W.widen (k := cells + 100) (n := slots + 1000) (by show cells + 7 ≤ cells + 100; omega) (by show slots + 42 ≤ slots + 1000; omega) ?_
      exact kk _ _ _ _ _ (LwS.mk hV2 hC hM ho) hB (lv_sub hl [2, 3, 4, 5, 6] rfl)
    · exact (cl_makePart_1_2 cA cB).elim
  · have hM := hM.frL hFl.L
    have ho := hFl.J ho
    show W _ _ _ _ _ _ _ _ _ _ _ _ _ _ _ (F0 m 181 ls [.int (iI 2)])
    refine lv_istore (lv' := [(5, .int (iI 2)), (4, .int (iI ((6 * i : Nat) : Int))), (0, .ref b), (1, .ref x), (2, .ref xm), (3, .ref oa)]) hx hb dL_law_181 hl (by decide) rfl (fun ls hl => ?_)
    refine lv_aload_n hx hb dL_law_183 rfl (lv_at hl 4 rfl) ?_
    refine lv_aload_n hx hb dL_law_184 rfl (lv_at hl 2 rfl) ?_
    refine lv_iload hx hb dL_law_185 (lv_at hl 1 rfl) ?_
    refine j_iconst hx hb dL_law_187 ?_
    refine j_iadd hx hb dL_law_188 ?_
    refine j_topE (show (((6 * i : Nat) : Int) + 1) = ((6 * i + 1 : Nat) : Int) by omega) ?_
    refine m_sld hx hb hX hbl hB (n := 6 * i + 1) (by omega) hL dL_law_189 ?_
    refine lv_aload_n hx hb dL_law_190 rfl (lv_at hl 2 rfl) ?_
    refine lv_iload hx hb dL_law_191 (lv_at hl 1 rfl) ?_
    refine j_iconst hx hb dL_law_193 ?_
    refine j_iadd hx hb dL_law_194 ?_
    refine j_topE (show (((6 * i : Nat) : Int) + 2) = ((6 * i + 2 : Nat) : Int) by omega) ?_
    refine m_sld hx hb hX hbl hB (n := 6 * i + 2) (by omega) hL dL_law_195 ?_
    refine lv_aload_n hx hb dL_law_196 rfl (lv_at hl 2 rfl) ?_
    refine lv_iload hx hb dL_law_197 (lv_at hl 1 rfl) ?_
    refine j_iconst hx hb dL_law_199 ?_
    refine j_iadd hx hb dL_law_200 ?_
    refine j_topE (show (((6 * i : Nat) : Int) + 3) = ((6 * i + 3 : Nat) : Int) by omega) ?_
    refine m_sld hx hb hX hbl hB (n := 6 * i + 3) (by omega) hL dL_law_201 ?_
    refine lv_aload_n hx hb dL_law_202 rfl (lv_at hl 2 rfl) ?_
    refine lv_iload hx hb dL_law_203 (lv_at hl 1 rfl) ?_
    refine j_iconst hx hb dL_law_205 ?_
    refine j_iadd hx hb dL_law_206 ?_
    refine j_topE (show (((6 * i : Nat) : Int) + 4) = ((6 * i + 4 : Nat) : Int) by omega) ?_
    refine m_sld hx hb hX hbl hB (n := 6 * i + 4) (by omega) hL dL_law_207 ?_
    refine m_run (va_runV (As := [.int (iI ((xs (6 * i + 1)).toInt)), .int (iI ((xs (6 * i + 2)).toInt)), .int (iI ((xs (6 * i + 3)).toInt)), .int (iI ((xs (6 * i + 4)).toInt))]) (rest := []) ⟨hx, hb, hml, hown, hts⟩ (k_X4_makePart (l := l) hM hI (iI_rg _) (iI_rg _) (iI_rg _) (iI_rg _)) (cwV 4 hts gL_law_X4_makePart rfl rfl rfl (by decide +kernel) ⟨by decide, by decide⟩) ⟨Kp.blind _ _ _ _ _, m_recv hK hB (ci := 4) rfl hM.1, fun U hU hW => hK.pass hB U hU hW⟩ rfl rfl hl.1 rfl (lv_room (Nat.le_of_ble_eq_true rfl)) dL_law_208 ⟨(by show cells + 7 ≤ 632940; omega), (by show slots + 42 ≤ 7197285; omega)⟩) hB (fun v u H locs hp hB => ?_)
    rcases hp with ⟨cB, rfl, hM, hFm⟩ | ⟨cB, rfl, hM, hFm⟩ | ⟨cB, rfl, hM, hFm⟩
    · exact (cl_makePart_2_0 cA cB).elim
    · exact (cl_makePart_2_1 cA cB).elim
    · have hC := hC.fr hFm
      have ho := hFm.J ho
      have hV2 := hV
      show W _ _ _ _ _ _ _ _ _ _ _ _ _ _ _ (F0 m 211 ls [.int (iI 0)])
      refine lv_istore (lv' := [(6, .int (iI 0)), (5, .int (iI 2)), (4, .int (iI ((6 * i : Nat) : Int))), (0, .ref b), (1, .ref x), (2, .ref xm), (3, .ref oa)]) hx hb dL_law_211 hl (by decide) rfl (fun ls hl => ?_)
      refine lv_aload_n hx hb dL_law_213 rfl (lv_at hl 5 rfl) ?_
      refine m_run (va_runV (As := []) (rest := []) ⟨hx, hb, hml, hown, hts⟩ (k_X4_thrown (l := l) hM hV2.ib) (cwV 0 hts gL_law_X4_thrown rfl rfl rfl (by decide +kernel) ⟨by decide, by decide⟩) ⟨Kp.blind _ _ _ _ _, m_recv hK hB (ci := 4) rfl hM.1, fun U hU hW => hK.pass hB U hU hW⟩ rfl rfl hl.1 rfl (lv_room (Nat.le_of_ble_eq_true rfl)) dL_law_214 ⟨(by show cells + 7 ≤ 632940; omega), (by show slots + 42 ≤ 7197285; omega)⟩) hB (fun v u H locs hp hB => ?_)
      obtain ⟨rfl, rfl⟩ := hp
      show W _ _ _ _ _ _ _ _ _ _ _ _ _ _ _ (F0 m 217 ls [.int (iI 2)])
      refine lv_iload hx hb dL_law_217 (lv_at hl 1 rfl) ?_
      refine j_icmp_eq (tgt := 224) hx hb dL_law_219 (by decide) ⟨by decide, by decide⟩ ⟨by decide, by decide⟩ (fun _ => ?_) (fun w => absurd rfl w)
      refine lv_iload hx hb dL_law_224 (lv_at hl 1 rfl) ?_
      refine j_if_ne (tgt := 241) hx hb dL_law_226 (by decide) ⟨by decide, by decide⟩ (fun c_4 => ?_) (fun c_4 => absurd c_4 (by decide))
      refine lv_goto (tgt := 1638) hx hb dL_law_241 (by decide) ?_
      refine W.widen (k := cells + 100) (n := slots + 1000) (by show cells + 7 ≤ cells + 100; omega) (by show slots + 42 ≤ slots + 1000; omega) ?_
      exact kk _ _ _ _ _ (LwS.mk hV2 hC hM ho) hB (lv_sub hl [2, 3, 4, 5, 6] rfl)

set_option maxHeartbeats 4000000 in
set_option maxRecDepth 100000 in
theorem lc_1 {l : Launch} (hfl : l.stackTraces = false) {D : va_G} {cI cP cR cJ : ClassId} {p : Program} {e : Env} {s : State} {m : MethodId} {below : List Frame} {meth : Method} {c : Code} {b L : Nat} {xs : Nat → Int32} (hL : L ≤ 3072) (hx : p.tables.exec = Jvm.exec) (hb : c.code = cL_law) (hml : c.maxLocals = 7) (hown : s.vm.findClass RL = some m.cls) (hts : ∀ w ∈ wsL_law, w.before #[Value.ref b] s = true) (hX : va_X b L xs s s.heap) (hbl : b < s.heap.size) (hK : Kb D s.heap.size (tyL cI cP cR cJ) s) {x xm oa i : Nat} (hi : 6 * i + 6 ≤ L) {cells slots : Nat} (hc : cells + 100 ≤ 632940) (hs : slots + 1000 ≤ 7197285) {σ : Sg} {h0 : Hp} {H : Heap} {locs : List Loc} (hS : LwS cI cP cR cJ x xm oa σ h0) (hB : Bk D s.heap.size s.heap h0 H locs) {ls : Array Slot} (hl : lv_has ls 7 [(4, .int (iI ((6 * i : Nat) : Int))), (0, .ref b), (1, .ref x), (2, .ref xm), (3, .ref oa)]) {Q : State → Prop} (kk : ∀ (σ2 : Sg) (h2 : Hp) (H2 : Heap) (locs2 : List Loc) (ls2 : Array Slot), LwS cI cP cR cJ x xm oa σ2 h2 → Bk D s.heap.size s.heap h2 H2 locs2 → lv_has ls2 7 [(4, .int (iI ((6 * i : Nat) : Int))), (0, .ref b), (1, .ref x), (2, .ref xm), (3, .ref oa)] → W p l e room_1 s m #[Value.ref b] below meth c H2 locs2 (cells + 100) (slots + 1000) Q (F0 m 1638 ls2 [])) : W p l e room_1 s m #[Value.ref b] below meth c H locs cells slots Q (F0 m 244 ls []) := by
  obtain ⟨hV, ⟨xp, xr, pa, ra, hC⟩, ⟨xa, th, hM⟩, fo, ho⟩ := hS
  have hI := hV.ib
  have hnp := hI.hnp
  have hst := hI.2.2.1
  have hnrI := hI.nrI
  refine lv_aload_n hx hb dL_law_244 rfl (lv_at hl 2 rfl) ?_
  refine lv_aload_n hx hb dL_law_245 rfl (lv_at hl 1 rfl) ?_
  refine lv_iload hx hb dL_law_246 (lv_at hl 0 rfl) ?_
  refine j_iconst hx hb dL_law_248 ?_
  refine j_iadd hx hb dL_law_249 ?_
  refine j_topE (show (((6 * i : Nat) : Int) + 1) = ((6 * i + 1 : Nat) : Int) by omega) ?_
  refine m_sld hx hb hX hbl hB (n := 6 * i + 1) (by omega) hL dL_law_250 ?_
  refine lv_aload_n hx hb dL_law_251 rfl (lv_at hl 1 rfl) ?_
  refine lv_iload hx hb dL_law_252 (lv_at hl 0 rfl) ?_
  refine j_iconst hx hb dL_law_254 ?_
  refine j_iadd hx hb dL_law_255 ?_
  refine j_topE (show (((6 * i : Nat) : Int) + 2) = ((6 * i + 2 : Nat) : Int) by omega) ?_
  refine m_sld hx hb hX hbl hB (n := 6 * i + 2) (by omega) hL dL_law_256 ?_
  refine lv_aload_n hx hb dL_law_257 rfl (lv_at hl 1 rfl) ?_
  refine lv_iload hx hb dL_law_258 (lv_at hl 0 rfl) ?_
  refine j_iconst hx hb dL_law_260 ?_
  refine j_iadd hx hb dL_law_261 ?_
  refine j_topE (show (((6 * i : Nat) : Int) + 3) = ((6 * i + 3 : Nat) : Int) by omega) ?_
  refine m_sld hx hb hX hbl hB (n := 6 * i + 3) (by omega) hL dL_law_262 ?_
  refine lv_aload_n hx hb dL_law_263 rfl (lv_at hl 1 rfl) ?_
  refine lv_iload hx hb dL_law_264 (lv_at hl 0 rfl) ?_
  refine j_iconst hx hb dL_law_266 ?_
  refine j_iadd hx hb dL_law_267 ?_
  refine j_topE (show (((6 * i : Nat) : Int) + 4) = ((6 * i + 4 : Nat) : Int) by omega) ?_
  refine m_sld hx hb hX hbl hB (n := 6 * i + 4) (by omega) hL dL_law_268 ?_
  refine lv_aload_n hx hb dL_law_269 rfl (lv_at hl 4 rfl) ?_
  refine m_run (vx_runSW (As := [.ref x, .int (iI ((xs (6 * i + 1)).toInt)), .int (iI ((xs (6 * i + 2)).toInt)), .int (iI ((xs (6 * i + 3)).toInt)), .int (iI ((xs (6 * i + 4)).toInt)), .ref oa]) (rest := []) ⟨hx, hb, hml, hown, hts⟩ (k_L_carveOut (l := l) hfl hC hI ho (iI_rg _) (iI_rg _) (iI_rg _) (iI_rg _)) (vx_cwSW 6 hts gL_law_L_carveOut rfl rfl rfl (by decide +kernel) ⟨by decide, by decide⟩) ⟨Kp.blind _ _ _ _ _, fun U hU hW => hK.pass hB U hU hW⟩ rfl rfl hl.1 rfl (lv_room (Nat.le_of_ble_eq_true rfl)) dL_law_270 ⟨(by show cells + 6 ≤ 632940; omega), (by show slots + 36 ≤ 7197285; omega)⟩) hB (fun v u H locs hp hB => ?_)
  rcases hp with ⟨rfl, cA, pa, hC, ⟨fo2, ho, ef⟩, hFl⟩ | ⟨rfl, cA, hC, hFl⟩ | ⟨rfl, cA, hC, hFl⟩
  · have hM := hM.frL hFl
    show W _ _ _ _ _ _ _ _ _ _ _ _ _ _ _ (F0 m 273 ls [.int (iI 0)])
    refine lv_istore (lv' := [(5, .int (iI 0)), (4, .int (iI ((6 * i : Nat) : Int))), (0, .ref b), (1, .ref x), (2, .ref xm), (3, .ref oa)]) hx hb dL_law_273 hl (by decide) rfl (fun ls hl => ?_)
    refine lv_aload_n hx hb dL_law_275 rfl (lv_at hl 4 rfl) ?_
    refine lv_aload_n hx hb dL_law_276 rfl (lv_at hl 2 rfl) ?_
    refine lv_iload hx hb dL_law_277 (lv_at hl 1 rfl) ?_
    refine j_iconst hx hb dL_law_279 ?_
    refine j_iadd hx hb dL_law_280 ?_
    refine j_topE (show (((6 * i : Nat) : Int) + 1) = ((6 * i + 1 : Nat) : Int) by omega) ?_
    refine m_sld hx hb hX hbl hB (n := 6 * i + 1) (by omega) hL dL_law_281 ?_
    refine lv_aload_n hx hb dL_law_282 rfl (lv_at hl 2 rfl) ?_
    refine lv_iload hx hb dL_law_283 (lv_at hl 1 rfl) ?_
    refine j_iconst hx hb dL_law_285 ?_
    refine j_iadd hx hb dL_law_286 ?_
    refine j_topE (show (((6 * i : Nat) : Int) + 2) = ((6 * i + 2 : Nat) : Int) by omega) ?_
    refine m_sld hx hb hX hbl hB (n := 6 * i + 2) (by omega) hL dL_law_287 ?_
    refine lv_aload_n hx hb dL_law_288 rfl (lv_at hl 2 rfl) ?_
    refine lv_iload hx hb dL_law_289 (lv_at hl 1 rfl) ?_
    refine j_iconst hx hb dL_law_291 ?_
    refine j_iadd hx hb dL_law_292 ?_
    refine j_topE (show (((6 * i : Nat) : Int) + 3) = ((6 * i + 3 : Nat) : Int) by omega) ?_
    refine m_sld hx hb hX hbl hB (n := 6 * i + 3) (by omega) hL dL_law_293 ?_
    refine lv_aload_n hx hb dL_law_294 rfl (lv_at hl 2 rfl) ?_
    refine lv_iload hx hb dL_law_295 (lv_at hl 1 rfl) ?_
    refine j_iconst hx hb dL_law_297 ?_
    refine j_iadd hx hb dL_law_298 ?_
    refine j_topE (show (((6 * i : Nat) : Int) + 4) = ((6 * i + 4 : Nat) : Int) by omega) ?_
    refine m_sld hx hb hX hbl hB (n := 6 * i + 4) (by omega) hL dL_law_299 ?_
    refine m_run (va_runV (As := [.int (iI ((xs (6 * i + 1)).toInt)), .int (iI ((xs (6 * i + 2)).toInt)), .int (iI ((xs (6 * i + 3)).toInt)), .int (iI ((xs (6 * i + 4)).toInt))]) (rest := []) ⟨hx, hb, hml, hown, hts⟩ (k_X4_carveOut (l := l) hM hI (iI_rg _) (iI_rg _) (iI_rg _) (iI_rg _)) (cwV 4 hts gL_law_X4_carveOut rfl rfl rfl (by decide +kernel) ⟨by decide, by decide⟩) ⟨Kp.blind _ _ _ _ _, m_recv hK hB (ci := 4) rfl hM.1, fun U hU hW => hK.pass hB U hU hW⟩ rfl rfl hl.1 rfl (lv_room (Nat.le_of_ble_eq_true rfl)) dL_law_300 ⟨(by show cells + 6 ≤ 632940; omega), (by show slots + 36 ≤ 7197285; omega)⟩) hB (fun v u H locs hp hB => ?_)
    rcases hp with ⟨cB, rfl, hM, hFm⟩ | ⟨cB, rfl, hM, hFm⟩ | ⟨cB, rfl, hM, hFm⟩
    · have hC := hC.fr hFm
      have ho := hFm.J ho
      have hV2 := hV.carve cA.2.2 cA.1.1 cA.1.2 cA.2.1
      show W _ _ _ _ _ _ _ _ _ _ _ _ _ _ _ (F0 m 303 ls [.int (iI (cnt (fun j => live (mvS (mkP σ ((xs (6 * i + 1)).toInt) ((xs (6 * i + 2)).toInt) ((xs (6 * i + 3)).toInt) ((xs (6 * i + 4)).toInt)) 0 (npN σ + 1) 200) j ∧ pn (mvS (mkP σ ((xs (6 * i + 1)).toInt) ((xs (6 * i + 2)).toInt) ((xs (6 * i + 3)).toInt) ((xs (6 * i + 4)).toInt)) 0 (npN σ + 1) 200) j = npN σ + 1) (nrN (mvS (mkP σ ((xs (6 * i + 1)).toInt) ((xs (6 * i + 2)).toInt) ((xs (6 * i + 3)).toInt) ((xs (6 * i + 4)).toInt)) 0 (npN σ + 1) 200))))])
      refine lv_istore (lv' := [(6, .int (iI (cnt (fun j => live (mvS (mkP σ ((xs (6 * i + 1)).toInt) ((xs (6 * i + 2)).toInt) ((xs (6 * i + 3)).toInt) ((xs (6 * i + 4)).toInt)) 0 (npN σ + 1) 200) j ∧ pn (mvS (mkP σ ((xs (6 * i + 1)).toInt) ((xs (6 * i + 2)).toInt) ((xs (6 * i + 3)).toInt) ((xs (6 * i + 4)).toInt)) 0 (npN σ + 1) 200) j = npN σ + 1) (nrN (mvS (mkP σ ((xs (6 * i + 1)).toInt) ((xs (6 * i + 2)).toInt) ((xs (6 * i + 3)).toInt) ((xs (6 * i + 4)).toInt)) 0 (npN σ + 1) 200))))), (5, .int (iI 0)), (4, .int (iI ((6 * i : Nat) : Int))), (0, .ref b), (1, .ref x), (2, .ref xm), (3, .ref oa)]) hx hb dL_law_303 hl (by decide) rfl (fun ls hl => ?_)
      refine lv_aload_n hx hb dL_law_305 rfl (lv_at hl 5 rfl) ?_
      refine m_run (va_runV (As := []) (rest := []) ⟨hx, hb, hml, hown, hts⟩ (k_X4_thrown (l := l) hM hV2.ib) (cwV 0 hts gL_law_X4_thrown rfl rfl rfl (by decide +kernel) ⟨by decide, by decide⟩) ⟨Kp.blind _ _ _ _ _, m_recv hK hB (ci := 4) rfl hM.1, fun U hU hW => hK.pass hB U hU hW⟩ rfl rfl hl.1 rfl (lv_room (Nat.le_of_ble_eq_true rfl)) dL_law_306 ⟨(by show cells + 6 ≤ 632940; omega), (by show slots + 36 ≤ 7197285; omega)⟩) hB (fun v u H locs hp hB => ?_)
      obtain ⟨rfl, rfl⟩ := hp
      show W _ _ _ _ _ _ _ _ _ _ _ _ _ _ _ (F0 m 309 ls [.int (iI 0)])
      refine lv_iload hx hb dL_law_309 (lv_at hl 1 rfl) ?_
      refine j_icmp_eq (tgt := 316) hx hb dL_law_311 (by decide) ⟨by decide, by decide⟩ ⟨by decide, by decide⟩ (fun _ => ?_) (fun w => absurd rfl w)
      refine lv_iload hx hb dL_law_316 (lv_at hl 1 rfl) ?_
      refine j_if_ne (tgt := 333) hx hb dL_law_318 (by decide) ⟨by decide, by decide⟩ (fun c_1 => absurd c_1 (by decide)) (fun c_1 => ?_)
      refine lv_aload_n hx hb dL_law_321 rfl (lv_at hl 6 rfl) ?_
      refine j_iconst hx hb dL_law_322 ?_
      refine m_lald hx hb hK hB 3 ho rfl in01 dL_law_323 ?_
      refine lv_iload hx hb dL_law_324 (lv_at hl 0 rfl) ?_
      refine lv_i2l hx hb dL_law_326 (rfl : _ = lI (cnt (fun j => live (mvS (mkP σ ((xs (6 * i + 1)).toInt) ((xs (6 * i + 2)).toInt) ((xs (6 * i + 3)).toInt) ((xs (6 * i + 4)).toInt)) 0 (npN σ + 1) 200) j ∧ pn (mvS (mkP σ ((xs (6 * i + 1)).toInt) ((xs (6 * i + 2)).toInt) ((xs (6 * i + 3)).toInt) ((xs (6 * i + 4)).toInt)) 0 (npN σ + 1) 200) j = npN σ + 1) (nrN (mvS (mkP σ ((xs (6 * i + 1)).toInt) ((xs (6 * i + 2)).toInt) ((xs (6 * i + 3)).toInt) ((xs (6 * i + 4)).toInt)) 0 (npN σ + 1) 200)))) ?_
      refine j_lcmp0 hx hb (show fo2 (iI 0).toNatClampNeg = _ from ef) dL_law_327 ?_
      refine j_if_eq (tgt := 333) hx hb dL_law_328 (by decide) ⟨by decide, by decide⟩ (fun c_2 => ?_) (fun c_2 => absurd c_2 (by decide))
      refine lv_goto (tgt := 1638) hx hb dL_law_333 (by decide) ?_
      refine W.widen (k := cells + 100) (n := slots + 1000) (by show cells + 6 ≤ cells + 100; omega) (by show slots + 36 ≤ slots + 1000; omega) ?_
      exact kk _ _ _ _ _ (LwS.mk hV2 hC hM ho) hB (lv_sub hl [2, 3, 4, 5, 6] rfl)
    · exact (cl_carveOut_0_1 cA cB).elim
    · exact (cl_carveOut_0_2 cA cB).elim
  · have hM := hM.frL hFl.L
    have ho := hFl.J ho
    show W _ _ _ _ _ _ _ _ _ _ _ _ _ _ _ (F0 m 273 ls [.int (iI 1)])
    refine lv_istore (lv' := [(5, .int (iI 1)), (4, .int (iI ((6 * i : Nat) : Int))), (0, .ref b), (1, .ref x), (2, .ref xm), (3, .ref oa)]) hx hb dL_law_273 hl (by decide) rfl (fun ls hl => ?_)
    refine lv_aload_n hx hb dL_law_275 rfl (lv_at hl 4 rfl) ?_
    refine lv_aload_n hx hb dL_law_276 rfl (lv_at hl 2 rfl) ?_
    refine lv_iload hx hb dL_law_277 (lv_at hl 1 rfl) ?_
    refine j_iconst hx hb dL_law_279 ?_
    refine j_iadd hx hb dL_law_280 ?_
    refine j_topE (show (((6 * i : Nat) : Int) + 1) = ((6 * i + 1 : Nat) : Int) by omega) ?_
    refine m_sld hx hb hX hbl hB (n := 6 * i + 1) (by omega) hL dL_law_281 ?_
    refine lv_aload_n hx hb dL_law_282 rfl (lv_at hl 2 rfl) ?_
    refine lv_iload hx hb dL_law_283 (lv_at hl 1 rfl) ?_
    refine j_iconst hx hb dL_law_285 ?_
    refine j_iadd hx hb dL_law_286 ?_
    refine j_topE (show (((6 * i : Nat) : Int) + 2) = ((6 * i + 2 : Nat) : Int) by omega) ?_
    refine m_sld hx hb hX hbl hB (n := 6 * i + 2) (by omega) hL dL_law_287 ?_
    refine lv_aload_n hx hb dL_law_288 rfl (lv_at hl 2 rfl) ?_
    refine lv_iload hx hb dL_law_289 (lv_at hl 1 rfl) ?_
    refine j_iconst hx hb dL_law_291 ?_
    refine j_iadd hx hb dL_law_292 ?_
    refine j_topE (show (((6 * i : Nat) : Int) + 3) = ((6 * i + 3 : Nat) : Int) by omega) ?_
    refine m_sld hx hb hX hbl hB (n := 6 * i + 3) (by omega) hL dL_law_293 ?_
    refine lv_aload_n hx hb dL_law_294 rfl (lv_at hl 2 rfl) ?_
    refine lv_iload hx hb dL_law_295 (lv_at hl 1 rfl) ?_
    refine j_iconst hx hb dL_law_297 ?_
    refine j_iadd hx hb dL_law_298 ?_
    refine j_topE (show (((6 * i : Nat) : Int) + 4) = ((6 * i + 4 : Nat) : Int) by omega) ?_
    refine m_sld hx hb hX hbl hB (n := 6 * i + 4) (by omega) hL dL_law_299 ?_
    refine m_run (va_runV (As := [.int (iI ((xs (6 * i + 1)).toInt)), .int (iI ((xs (6 * i + 2)).toInt)), .int (iI ((xs (6 * i + 3)).toInt)), .int (iI ((xs (6 * i + 4)).toInt))]) (rest := []) ⟨hx, hb, hml, hown, hts⟩ (k_X4_carveOut (l := l) hM hI (iI_rg _) (iI_rg _) (iI_rg _) (iI_rg _)) (cwV 4 hts gL_law_X4_carveOut rfl rfl rfl (by decide +kernel) ⟨by decide, by decide⟩) ⟨Kp.blind _ _ _ _ _, m_recv hK hB (ci := 4) rfl hM.1, fun U hU hW => hK.pass hB U hU hW⟩ rfl rfl hl.1 rfl (lv_room (Nat.le_of_ble_eq_true rfl)) dL_law_300 ⟨(by show cells + 6 ≤ 632940; omega), (by show slots + 36 ≤ 7197285; omega)⟩) hB (fun v u H locs hp hB => ?_)
    rcases hp with ⟨cB, rfl, hM, hFm⟩ | ⟨cB, rfl, hM, hFm⟩ | ⟨cB, rfl, hM, hFm⟩
    · exact (cl_carveOut_1_0 cA cB).elim
    · have hC := hC.fr hFm
      have ho := hFm.J ho
      have hV2 := hV
      show W _ _ _ _ _ _ _ _ _ _ _ _ _ _ _ (F0 m 303 ls [.int (iI 0)])
      refine lv_istore (lv' := [(6, .int (iI 0)), (5, .int (iI 1)), (4, .int (iI ((6 * i : Nat) : Int))), (0, .ref b), (1, .ref x), (2, .ref xm), (3, .ref oa)]) hx hb dL_law_303 hl (by decide) rfl (fun ls hl => ?_)
      refine lv_aload_n hx hb dL_law_305 rfl (lv_at hl 5 rfl) ?_
      refine m_run (va_runV (As := []) (rest := []) ⟨hx, hb, hml, hown, hts⟩ (k_X4_thrown (l := l) hM hV2.ib) (cwV 0 hts gL_law_X4_thrown rfl rfl rfl (by decide +kernel) ⟨by decide, by decide⟩) ⟨Kp.blind _ _ _ _ _, m_recv hK hB (ci := 4) rfl hM.1, fun U hU hW => hK.pass hB U hU hW⟩ rfl rfl hl.1 rfl (lv_room (Nat.le_of_ble_eq_true rfl)) dL_law_306 ⟨(by show cells + 6 ≤ 632940; omega), (by show slots + 36 ≤ 7197285; omega)⟩) hB (fun v u H locs hp hB => ?_)
      obtain ⟨rfl, rfl⟩ := hp
      show W _ _ _ _ _ _ _ _ _ _ _ _ _ _ _ (F0 m 309 ls [.int (iI 1)])
      refine lv_iload hx hb dL_law_309 (lv_at hl 1 rfl) ?_
      refine j_icmp_eq (tgt := 316) hx hb dL_law_311 (by decide) ⟨by decide, by decide⟩ ⟨by decide, by decide⟩ (fun _ => ?_) (fun w => absurd rfl w)
      refine lv_iload hx hb dL_law_316 (lv_at hl 1 rfl) ?_
      refine j_if_ne (tgt := 333) hx hb dL_law_318 (by decide) ⟨by decide, by decide⟩ (fun c_3 => ?_) (fun c_3 => absurd c_3 (by decide))
      refine lv_goto (tgt := 1638) hx hb dL_law_333 (by decide) ?_
      refine W.widen (k := cells + 100) (n := slots + 1000) (by show cells + 6 ≤ cells + 100; omega) (by show slots + 36 ≤ slots + 1000; omega) ?_
      exact kk _ _ _ _ _ (LwS.mk hV2 hC hM ho) hB (lv_sub hl [2, 3, 4, 5, 6] rfl)
    · exact (cl_carveOut_1_2 cA cB).elim
  · have hM := hM.frL hFl.L
    have ho := hFl.J ho
    show W _ _ _ _ _ _ _ _ _ _ _ _ _ _ _ (F0 m 273 ls [.int (iI 2)])
    refine lv_istore (lv' := [(5, .int (iI 2)), (4, .int (iI ((6 * i : Nat) : Int))), (0, .ref b), (1, .ref x), (2, .ref xm), (3, .ref oa)]) hx hb dL_law_273 hl (by decide) rfl (fun ls hl => ?_)
    refine lv_aload_n hx hb dL_law_275 rfl (lv_at hl 4 rfl) ?_
    refine lv_aload_n hx hb dL_law_276 rfl (lv_at hl 2 rfl) ?_
    refine lv_iload hx hb dL_law_277 (lv_at hl 1 rfl) ?_
    refine j_iconst hx hb dL_law_279 ?_
    refine j_iadd hx hb dL_law_280 ?_
    refine j_topE (show (((6 * i : Nat) : Int) + 1) = ((6 * i + 1 : Nat) : Int) by omega) ?_
    refine m_sld hx hb hX hbl hB (n := 6 * i + 1) (by omega) hL dL_law_281 ?_
    refine lv_aload_n hx hb dL_law_282 rfl (lv_at hl 2 rfl) ?_
    refine lv_iload hx hb dL_law_283 (lv_at hl 1 rfl) ?_
    refine j_iconst hx hb dL_law_285 ?_
    refine j_iadd hx hb dL_law_286 ?_
    refine j_topE (show (((6 * i : Nat) : Int) + 2) = ((6 * i + 2 : Nat) : Int) by omega) ?_
    refine m_sld hx hb hX hbl hB (n := 6 * i + 2) (by omega) hL dL_law_287 ?_
    refine lv_aload_n hx hb dL_law_288 rfl (lv_at hl 2 rfl) ?_
    refine lv_iload hx hb dL_law_289 (lv_at hl 1 rfl) ?_
    refine j_iconst hx hb dL_law_291 ?_
    refine j_iadd hx hb dL_law_292 ?_
    refine j_topE (show (((6 * i : Nat) : Int) + 3) = ((6 * i + 3 : Nat) : Int) by omega) ?_
    refine m_sld hx hb hX hbl hB (n := 6 * i + 3) (by omega) hL dL_law_293 ?_
    refine lv_aload_n hx hb dL_law_294 rfl (lv_at hl 2 rfl) ?_
    refine lv_iload hx hb dL_law_295 (lv_at hl 1 rfl) ?_
    refine j_iconst hx hb dL_law_297 ?_
    refine j_iadd hx hb dL_law_298 ?_
    refine j_topE (show (((6 * i : Nat) : Int) + 4) = ((6 * i + 4 : Nat) : Int) by omega) ?_
    refine m_sld hx hb hX hbl hB (n := 6 * i + 4) (by omega) hL dL_law_299 ?_
    refine m_run (va_runV (As := [.int (iI ((xs (6 * i + 1)).toInt)), .int (iI ((xs (6 * i + 2)).toInt)), .int (iI ((xs (6 * i + 3)).toInt)), .int (iI ((xs (6 * i + 4)).toInt))]) (rest := []) ⟨hx, hb, hml, hown, hts⟩ (k_X4_carveOut (l := l) hM hI (iI_rg _) (iI_rg _) (iI_rg _) (iI_rg _)) (cwV 4 hts gL_law_X4_carveOut rfl rfl rfl (by decide +kernel) ⟨by decide, by decide⟩) ⟨Kp.blind _ _ _ _ _, m_recv hK hB (ci := 4) rfl hM.1, fun U hU hW => hK.pass hB U hU hW⟩ rfl rfl hl.1 rfl (lv_room (Nat.le_of_ble_eq_true rfl)) dL_law_300 ⟨(by show cells + 6 ≤ 632940; omega), (by show slots + 36 ≤ 7197285; omega)⟩) hB (fun v u H locs hp hB => ?_)
    rcases hp with ⟨cB, rfl, hM, hFm⟩ | ⟨cB, rfl, hM, hFm⟩ | ⟨cB, rfl, hM, hFm⟩
    · exact (cl_carveOut_2_0 cA cB).elim
    · exact (cl_carveOut_2_1 cA cB).elim
    · have hC := hC.fr hFm
      have ho := hFm.J ho
      have hV2 := hV
      show W _ _ _ _ _ _ _ _ _ _ _ _ _ _ _ (F0 m 303 ls [.int (iI 0)])
      refine lv_istore (lv' := [(6, .int (iI 0)), (5, .int (iI 2)), (4, .int (iI ((6 * i : Nat) : Int))), (0, .ref b), (1, .ref x), (2, .ref xm), (3, .ref oa)]) hx hb dL_law_303 hl (by decide) rfl (fun ls hl => ?_)
      refine lv_aload_n hx hb dL_law_305 rfl (lv_at hl 5 rfl) ?_
      refine m_run (va_runV (As := []) (rest := []) ⟨hx, hb, hml, hown, hts⟩ (k_X4_thrown (l := l) hM hV2.ib) (cwV 0 hts gL_law_X4_thrown rfl rfl rfl (by decide +kernel) ⟨by decide, by decide⟩) ⟨Kp.blind _ _ _ _ _, m_recv hK hB (ci := 4) rfl hM.1, fun U hU hW => hK.pass hB U hU hW⟩ rfl rfl hl.1 rfl (lv_room (Nat.le_of_ble_eq_true rfl)) dL_law_306 ⟨(by show cells + 6 ≤ 632940; omega), (by show slots + 36 ≤ 7197285; omega)⟩) hB (fun v u H locs hp hB => ?_)
      obtain ⟨rfl, rfl⟩ := hp
      show W _ _ _ _ _ _ _ _ _ _ _ _ _ _ _ (F0 m 309 ls [.int (iI 2)])
      refine lv_iload hx hb dL_law_309 (lv_at hl 1 rfl) ?_
      refine j_icmp_eq (tgt := 316) hx hb dL_law_311 (by decide) ⟨by decide, by decide⟩ ⟨by decide, by decide⟩ (fun _ => ?_) (fun w => absurd rfl w)
      refine lv_iload hx hb dL_law_316 (lv_at hl 1 rfl) ?_
      refine j_if_ne (tgt := 333) hx hb dL_law_318 (by decide) ⟨by decide, by decide⟩ (fun c_4 => ?_) (fun c_4 => absurd c_4 (by decide))
      refine lv_goto (tgt := 1638) hx hb dL_law_333 (by decide) ?_
      refine W.widen (k := cells + 100) (n := slots + 1000) (by show cells + 6 ≤ cells + 100; omega) (by show slots + 36 ≤ slots + 1000; omega) ?_
      exact kk _ _ _ _ _ (LwS.mk hV2 hC hM ho) hB (lv_sub hl [2, 3, 4, 5, 6] rfl)

set_option maxHeartbeats 4000000 in
set_option maxRecDepth 100000 in
theorem lc_2 {l : Launch} (hfl : l.stackTraces = false) {D : va_G} {cI cP cR cJ : ClassId} {p : Program} {e : Env} {s : State} {m : MethodId} {below : List Frame} {meth : Method} {c : Code} {b L : Nat} {xs : Nat → Int32} (hL : L ≤ 3072) (hx : p.tables.exec = Jvm.exec) (hb : c.code = cL_law) (hml : c.maxLocals = 7) (hown : s.vm.findClass RL = some m.cls) (hts : ∀ w ∈ wsL_law, w.before #[Value.ref b] s = true) (hX : va_X b L xs s s.heap) (hbl : b < s.heap.size) (hK : Kb D s.heap.size (tyL cI cP cR cJ) s) {x xm oa i : Nat} (hi : 6 * i + 6 ≤ L) {cells slots : Nat} (hc : cells + 100 ≤ 632940) (hs : slots + 1000 ≤ 7197285) {σ : Sg} {h0 : Hp} {H : Heap} {locs : List Loc} (hS : LwS cI cP cR cJ x xm oa σ h0) (hB : Bk D s.heap.size s.heap h0 H locs) {ls : Array Slot} (hl : lv_has ls 7 [(4, .int (iI ((6 * i : Nat) : Int))), (0, .ref b), (1, .ref x), (2, .ref xm), (3, .ref oa)]) {Q : State → Prop} (kk : ∀ (σ2 : Sg) (h2 : Hp) (H2 : Heap) (locs2 : List Loc) (ls2 : Array Slot), LwS cI cP cR cJ x xm oa σ2 h2 → Bk D s.heap.size s.heap h2 H2 locs2 → lv_has ls2 7 [(4, .int (iI ((6 * i : Nat) : Int))), (0, .ref b), (1, .ref x), (2, .ref xm), (3, .ref oa)] → W p l e room_1 s m #[Value.ref b] below meth c H2 locs2 (cells + 100) (slots + 1000) Q (F0 m 1638 ls2 [])) : W p l e room_1 s m #[Value.ref b] below meth c H locs cells slots Q (F0 m 336 ls []) := by
  obtain ⟨hV, ⟨xp, xr, pa, ra, hC⟩, ⟨xa, th, hM⟩, fo, ho⟩ := hS
  have hI := hV.ib
  have hnp := hI.hnp
  have hst := hI.2.2.1
  have hnrI := hI.nrI
  refine lv_aload_n hx hb dL_law_336 rfl (lv_at hl 2 rfl) ?_
  refine lv_aload_n hx hb dL_law_337 rfl (lv_at hl 1 rfl) ?_
  refine lv_iload hx hb dL_law_338 (lv_at hl 0 rfl) ?_
  refine j_iconst hx hb dL_law_340 ?_
  refine j_iadd hx hb dL_law_341 ?_
  refine j_topE (show (((6 * i : Nat) : Int) + 1) = ((6 * i + 1 : Nat) : Int) by omega) ?_
  refine m_sld hx hb hX hbl hB (n := 6 * i + 1) (by omega) hL dL_law_342 ?_
  refine lv_aload_n hx hb dL_law_343 rfl (lv_at hl 1 rfl) ?_
  refine lv_iload hx hb dL_law_344 (lv_at hl 0 rfl) ?_
  refine j_iconst hx hb dL_law_346 ?_
  refine j_iadd hx hb dL_law_347 ?_
  refine j_topE (show (((6 * i : Nat) : Int) + 2) = ((6 * i + 2 : Nat) : Int) by omega) ?_
  refine m_sld hx hb hX hbl hB (n := 6 * i + 2) (by omega) hL dL_law_348 ?_
  refine lv_aload_n hx hb dL_law_349 rfl (lv_at hl 4 rfl) ?_
  refine m_run (vx_runSW (As := [.ref x, .int (iI ((xs (6 * i + 1)).toInt)), .int (iI ((xs (6 * i + 2)).toInt)), .ref oa]) (rest := []) ⟨hx, hb, hml, hown, hts⟩ (k_L_split (l := l) hfl hC hI ho (iI_rg _) (iI_rg _)) (vx_cwSW 4 hts gL_law_L_split rfl rfl rfl (by decide +kernel) ⟨by decide, by decide⟩) ⟨Kp.blind _ _ _ _ _, fun U hU hW => hK.pass hB U hU hW⟩ rfl rfl hl.1 rfl (lv_room (Nat.le_of_ble_eq_true rfl)) dL_law_350 ⟨(by show cells + 10 ≤ 632940; omega), (by show slots + 60 ≤ 7197285; omega)⟩) hB (fun v u H locs hp hB => ?_)
  rcases hp with ⟨rfl, cA, pa, hC, ⟨fo2, ho, ef⟩, hFl⟩ | ⟨rfl, cA, hC, hFl⟩ | ⟨rfl, cA, hC, hFl⟩ | ⟨rfl, cA, hC, hFl⟩
  · have hM := hM.frL hFl
    show W _ _ _ _ _ _ _ _ _ _ _ _ _ _ _ (F0 m 353 ls [.int (iI 0)])
    refine lv_istore (lv' := [(5, .int (iI 0)), (4, .int (iI ((6 * i : Nat) : Int))), (0, .ref b), (1, .ref x), (2, .ref xm), (3, .ref oa)]) hx hb dL_law_353 hl (by decide) rfl (fun ls hl => ?_)
    refine lv_aload_n hx hb dL_law_355 rfl (lv_at hl 4 rfl) ?_
    refine lv_aload_n hx hb dL_law_356 rfl (lv_at hl 2 rfl) ?_
    refine lv_iload hx hb dL_law_357 (lv_at hl 1 rfl) ?_
    refine j_iconst hx hb dL_law_359 ?_
    refine j_iadd hx hb dL_law_360 ?_
    refine j_topE (show (((6 * i : Nat) : Int) + 1) = ((6 * i + 1 : Nat) : Int) by omega) ?_
    refine m_sld hx hb hX hbl hB (n := 6 * i + 1) (by omega) hL dL_law_361 ?_
    refine lv_aload_n hx hb dL_law_362 rfl (lv_at hl 2 rfl) ?_
    refine lv_iload hx hb dL_law_363 (lv_at hl 1 rfl) ?_
    refine j_iconst hx hb dL_law_365 ?_
    refine j_iadd hx hb dL_law_366 ?_
    refine j_topE (show (((6 * i : Nat) : Int) + 2) = ((6 * i + 2 : Nat) : Int) by omega) ?_
    refine m_sld hx hb hX hbl hB (n := 6 * i + 2) (by omega) hL dL_law_367 ?_
    refine m_run (va_runV (As := [.int (iI ((xs (6 * i + 1)).toInt)), .int (iI ((xs (6 * i + 2)).toInt))]) (rest := []) ⟨hx, hb, hml, hown, hts⟩ (k_X4_split (l := l) hM hI (iI_rg _) (iI_rg _)) (cwV 2 hts gL_law_X4_split rfl rfl rfl (by decide +kernel) ⟨by decide, by decide⟩) ⟨Kp.blind _ _ _ _ _, m_recv hK hB (ci := 4) rfl hM.1, fun U hU hW => hK.pass hB U hU hW⟩ rfl rfl hl.1 rfl (lv_room (Nat.le_of_ble_eq_true rfl)) dL_law_368 ⟨(by show cells + 10 ≤ 632940; omega), (by show slots + 60 ≤ 7197285; omega)⟩) hB (fun v u H locs hp hB => ?_)
    rcases hp with ⟨cB, rfl, hM, hFm⟩ | ⟨cB, rfl, hM, hFm⟩ | ⟨cB, rfl, hM, hFm⟩ | ⟨cB, rfl, hM, hFm⟩
    · have hC := hC.fr hFm
      have ho := hFm.J ho
      have hV2 := hV.split cA.2.2.2 ⟨by have w := cA.1; unfold isP at w; omega, by have w := cA.1; unfold isP at w; omega⟩ cA.2.2.1 cA.2.1
      show W _ _ _ _ _ _ _ _ _ _ _ _ _ _ _ (F0 m 371 ls [.int (iI (σ 9 0 + 1))])
      refine lv_istore (lv' := [(6, .int (iI (σ 9 0 + 1))), (5, .int (iI 0)), (4, .int (iI ((6 * i : Nat) : Int))), (0, .ref b), (1, .ref x), (2, .ref xm), (3, .ref oa)]) hx hb dL_law_371 hl (by decide) rfl (fun ls hl => ?_)
      refine lv_aload_n hx hb dL_law_373 rfl (lv_at hl 5 rfl) ?_
      refine m_run (va_runV (As := []) (rest := []) ⟨hx, hb, hml, hown, hts⟩ (k_X4_thrown (l := l) hM hV2.ib) (cwV 0 hts gL_law_X4_thrown rfl rfl rfl (by decide +kernel) ⟨by decide, by decide⟩) ⟨Kp.blind _ _ _ _ _, m_recv hK hB (ci := 4) rfl hM.1, fun U hU hW => hK.pass hB U hU hW⟩ rfl rfl hl.1 rfl (lv_room (Nat.le_of_ble_eq_true rfl)) dL_law_374 ⟨(by show cells + 10 ≤ 632940; omega), (by show slots + 60 ≤ 7197285; omega)⟩) hB (fun v u H locs hp hB => ?_)
      obtain ⟨rfl, rfl⟩ := hp
      show W _ _ _ _ _ _ _ _ _ _ _ _ _ _ _ (F0 m 377 ls [.int (iI 0)])
      refine lv_iload hx hb dL_law_377 (lv_at hl 1 rfl) ?_
      refine j_icmp_eq (tgt := 384) hx hb dL_law_379 (by decide) ⟨by decide, by decide⟩ ⟨by decide, by decide⟩ (fun _ => ?_) (fun w => absurd rfl w)
      refine lv_iload hx hb dL_law_384 (lv_at hl 1 rfl) ?_
      refine j_if_ne (tgt := 401) hx hb dL_law_386 (by decide) ⟨by decide, by decide⟩ (fun c_1 => absurd c_1 (by decide)) (fun c_1 => ?_)
      refine lv_aload_n hx hb dL_law_389 rfl (lv_at hl 6 rfl) ?_
      refine j_iconst hx hb dL_law_390 ?_
      refine m_lald hx hb hK hB 3 ho rfl in01 dL_law_391 ?_
      refine lv_iload hx hb dL_law_392 (lv_at hl 0 rfl) ?_
      refine lv_i2l hx hb dL_law_394 (rfl : _ = lI (σ 9 0 + 1)) ?_
      refine j_lcmp0 hx hb (show fo2 (iI 0).toNatClampNeg = _ from ef) dL_law_395 ?_
      refine j_if_eq (tgt := 401) hx hb dL_law_396 (by decide) ⟨by decide, by decide⟩ (fun c_2 => ?_) (fun c_2 => absurd c_2 (by decide))
      refine lv_goto (tgt := 1638) hx hb dL_law_401 (by decide) ?_
      refine W.widen (k := cells + 100) (n := slots + 1000) (by show cells + 10 ≤ cells + 100; omega) (by show slots + 60 ≤ slots + 1000; omega) ?_
      exact kk _ _ _ _ _ (LwS.mk hV2 hC hM ho) hB (lv_sub hl [2, 3, 4, 5, 6] rfl)
    · exact (cl_split_0_1 cA cB).elim
    · exact (cl_split_0_2 cA cB).elim
    · exact (cl_split_0_3 cA cB).elim
  · have hM := hM.frL hFl.L
    have ho := hFl.J ho
    show W _ _ _ _ _ _ _ _ _ _ _ _ _ _ _ (F0 m 353 ls [.int (iI 1)])
    refine lv_istore (lv' := [(5, .int (iI 1)), (4, .int (iI ((6 * i : Nat) : Int))), (0, .ref b), (1, .ref x), (2, .ref xm), (3, .ref oa)]) hx hb dL_law_353 hl (by decide) rfl (fun ls hl => ?_)
    refine lv_aload_n hx hb dL_law_355 rfl (lv_at hl 4 rfl) ?_
    refine lv_aload_n hx hb dL_law_356 rfl (lv_at hl 2 rfl) ?_
    refine lv_iload hx hb dL_law_357 (lv_at hl 1 rfl) ?_
    refine j_iconst hx hb dL_law_359 ?_
    refine j_iadd hx hb dL_law_360 ?_
    refine j_topE (show (((6 * i : Nat) : Int) + 1) = ((6 * i + 1 : Nat) : Int) by omega) ?_
    refine m_sld hx hb hX hbl hB (n := 6 * i + 1) (by omega) hL dL_law_361 ?_
    refine lv_aload_n hx hb dL_law_362 rfl (lv_at hl 2 rfl) ?_
    refine lv_iload hx hb dL_law_363 (lv_at hl 1 rfl) ?_
    refine j_iconst hx hb dL_law_365 ?_
    refine j_iadd hx hb dL_law_366 ?_
    refine j_topE (show (((6 * i : Nat) : Int) + 2) = ((6 * i + 2 : Nat) : Int) by omega) ?_
    refine m_sld hx hb hX hbl hB (n := 6 * i + 2) (by omega) hL dL_law_367 ?_
    refine m_run (va_runV (As := [.int (iI ((xs (6 * i + 1)).toInt)), .int (iI ((xs (6 * i + 2)).toInt))]) (rest := []) ⟨hx, hb, hml, hown, hts⟩ (k_X4_split (l := l) hM hI (iI_rg _) (iI_rg _)) (cwV 2 hts gL_law_X4_split rfl rfl rfl (by decide +kernel) ⟨by decide, by decide⟩) ⟨Kp.blind _ _ _ _ _, m_recv hK hB (ci := 4) rfl hM.1, fun U hU hW => hK.pass hB U hU hW⟩ rfl rfl hl.1 rfl (lv_room (Nat.le_of_ble_eq_true rfl)) dL_law_368 ⟨(by show cells + 10 ≤ 632940; omega), (by show slots + 60 ≤ 7197285; omega)⟩) hB (fun v u H locs hp hB => ?_)
    rcases hp with ⟨cB, rfl, hM, hFm⟩ | ⟨cB, rfl, hM, hFm⟩ | ⟨cB, rfl, hM, hFm⟩ | ⟨cB, rfl, hM, hFm⟩
    · exact (cl_split_1_0 cA cB).elim
    · have hC := hC.fr hFm
      have ho := hFm.J ho
      have hV2 := hV
      show W _ _ _ _ _ _ _ _ _ _ _ _ _ _ _ (F0 m 371 ls [.int (iI 0)])
      refine lv_istore (lv' := [(6, .int (iI 0)), (5, .int (iI 1)), (4, .int (iI ((6 * i : Nat) : Int))), (0, .ref b), (1, .ref x), (2, .ref xm), (3, .ref oa)]) hx hb dL_law_371 hl (by decide) rfl (fun ls hl => ?_)
      refine lv_aload_n hx hb dL_law_373 rfl (lv_at hl 5 rfl) ?_
      refine m_run (va_runV (As := []) (rest := []) ⟨hx, hb, hml, hown, hts⟩ (k_X4_thrown (l := l) hM hV2.ib) (cwV 0 hts gL_law_X4_thrown rfl rfl rfl (by decide +kernel) ⟨by decide, by decide⟩) ⟨Kp.blind _ _ _ _ _, m_recv hK hB (ci := 4) rfl hM.1, fun U hU hW => hK.pass hB U hU hW⟩ rfl rfl hl.1 rfl (lv_room (Nat.le_of_ble_eq_true rfl)) dL_law_374 ⟨(by show cells + 10 ≤ 632940; omega), (by show slots + 60 ≤ 7197285; omega)⟩) hB (fun v u H locs hp hB => ?_)
      obtain ⟨rfl, rfl⟩ := hp
      show W _ _ _ _ _ _ _ _ _ _ _ _ _ _ _ (F0 m 377 ls [.int (iI 1)])
      refine lv_iload hx hb dL_law_377 (lv_at hl 1 rfl) ?_
      refine j_icmp_eq (tgt := 384) hx hb dL_law_379 (by decide) ⟨by decide, by decide⟩ ⟨by decide, by decide⟩ (fun _ => ?_) (fun w => absurd rfl w)
      refine lv_iload hx hb dL_law_384 (lv_at hl 1 rfl) ?_
      refine j_if_ne (tgt := 401) hx hb dL_law_386 (by decide) ⟨by decide, by decide⟩ (fun c_3 => ?_) (fun c_3 => absurd c_3 (by decide))
      refine lv_goto (tgt := 1638) hx hb dL_law_401 (by decide) ?_
      refine W.widen (k := cells + 100) (n := slots + 1000) (by show cells + 10 ≤ cells + 100; omega) (by show slots + 60 ≤ slots + 1000; omega) ?_
      exact kk _ _ _ _ _ (LwS.mk hV2 hC hM ho) hB (lv_sub hl [2, 3, 4, 5, 6] rfl)
    · exact (cl_split_1_2 cA cB).elim
    · exact (cl_split_1_3 cA cB).elim
  · have hM := hM.frL hFl.L
    have ho := hFl.J ho
    show W _ _ _ _ _ _ _ _ _ _ _ _ _ _ _ (F0 m 353 ls [.int (iI 2)])
    refine lv_istore (lv' := [(5, .int (iI 2)), (4, .int (iI ((6 * i : Nat) : Int))), (0, .ref b), (1, .ref x), (2, .ref xm), (3, .ref oa)]) hx hb dL_law_353 hl (by decide) rfl (fun ls hl => ?_)
    refine lv_aload_n hx hb dL_law_355 rfl (lv_at hl 4 rfl) ?_
    refine lv_aload_n hx hb dL_law_356 rfl (lv_at hl 2 rfl) ?_
    refine lv_iload hx hb dL_law_357 (lv_at hl 1 rfl) ?_
    refine j_iconst hx hb dL_law_359 ?_
    refine j_iadd hx hb dL_law_360 ?_
    refine j_topE (show (((6 * i : Nat) : Int) + 1) = ((6 * i + 1 : Nat) : Int) by omega) ?_
    refine m_sld hx hb hX hbl hB (n := 6 * i + 1) (by omega) hL dL_law_361 ?_
    refine lv_aload_n hx hb dL_law_362 rfl (lv_at hl 2 rfl) ?_
    refine lv_iload hx hb dL_law_363 (lv_at hl 1 rfl) ?_
    refine j_iconst hx hb dL_law_365 ?_
    refine j_iadd hx hb dL_law_366 ?_
    refine j_topE (show (((6 * i : Nat) : Int) + 2) = ((6 * i + 2 : Nat) : Int) by omega) ?_
    refine m_sld hx hb hX hbl hB (n := 6 * i + 2) (by omega) hL dL_law_367 ?_
    refine m_run (va_runV (As := [.int (iI ((xs (6 * i + 1)).toInt)), .int (iI ((xs (6 * i + 2)).toInt))]) (rest := []) ⟨hx, hb, hml, hown, hts⟩ (k_X4_split (l := l) hM hI (iI_rg _) (iI_rg _)) (cwV 2 hts gL_law_X4_split rfl rfl rfl (by decide +kernel) ⟨by decide, by decide⟩) ⟨Kp.blind _ _ _ _ _, m_recv hK hB (ci := 4) rfl hM.1, fun U hU hW => hK.pass hB U hU hW⟩ rfl rfl hl.1 rfl (lv_room (Nat.le_of_ble_eq_true rfl)) dL_law_368 ⟨(by show cells + 10 ≤ 632940; omega), (by show slots + 60 ≤ 7197285; omega)⟩) hB (fun v u H locs hp hB => ?_)
    rcases hp with ⟨cB, rfl, hM, hFm⟩ | ⟨cB, rfl, hM, hFm⟩ | ⟨cB, rfl, hM, hFm⟩ | ⟨cB, rfl, hM, hFm⟩
    · exact (cl_split_2_0 cA cB).elim
    · exact (cl_split_2_1 cA cB).elim
    · have hC := hC.fr hFm
      have ho := hFm.J ho
      have hV2 := hV
      show W _ _ _ _ _ _ _ _ _ _ _ _ _ _ _ (F0 m 371 ls [.int (iI 0)])
      refine lv_istore (lv' := [(6, .int (iI 0)), (5, .int (iI 2)), (4, .int (iI ((6 * i : Nat) : Int))), (0, .ref b), (1, .ref x), (2, .ref xm), (3, .ref oa)]) hx hb dL_law_371 hl (by decide) rfl (fun ls hl => ?_)
      refine lv_aload_n hx hb dL_law_373 rfl (lv_at hl 5 rfl) ?_
      refine m_run (va_runV (As := []) (rest := []) ⟨hx, hb, hml, hown, hts⟩ (k_X4_thrown (l := l) hM hV2.ib) (cwV 0 hts gL_law_X4_thrown rfl rfl rfl (by decide +kernel) ⟨by decide, by decide⟩) ⟨Kp.blind _ _ _ _ _, m_recv hK hB (ci := 4) rfl hM.1, fun U hU hW => hK.pass hB U hU hW⟩ rfl rfl hl.1 rfl (lv_room (Nat.le_of_ble_eq_true rfl)) dL_law_374 ⟨(by show cells + 10 ≤ 632940; omega), (by show slots + 60 ≤ 7197285; omega)⟩) hB (fun v u H locs hp hB => ?_)
      obtain ⟨rfl, rfl⟩ := hp
      show W _ _ _ _ _ _ _ _ _ _ _ _ _ _ _ (F0 m 377 ls [.int (iI 2)])
      refine lv_iload hx hb dL_law_377 (lv_at hl 1 rfl) ?_
      refine j_icmp_eq (tgt := 384) hx hb dL_law_379 (by decide) ⟨by decide, by decide⟩ ⟨by decide, by decide⟩ (fun _ => ?_) (fun w => absurd rfl w)
      refine lv_iload hx hb dL_law_384 (lv_at hl 1 rfl) ?_
      refine j_if_ne (tgt := 401) hx hb dL_law_386 (by decide) ⟨by decide, by decide⟩ (fun c_4 => ?_) (fun c_4 => absurd c_4 (by decide))
      refine lv_goto (tgt := 1638) hx hb dL_law_401 (by decide) ?_
      refine W.widen (k := cells + 100) (n := slots + 1000) (by show cells + 10 ≤ cells + 100; omega) (by show slots + 60 ≤ slots + 1000; omega) ?_
      exact kk _ _ _ _ _ (LwS.mk hV2 hC hM ho) hB (lv_sub hl [2, 3, 4, 5, 6] rfl)
    · exact (cl_split_2_3 cA cB).elim
  · have hM := hM.frL hFl.L
    have ho := hFl.J ho
    show W _ _ _ _ _ _ _ _ _ _ _ _ _ _ _ (F0 m 353 ls [.int (iI 3)])
    refine lv_istore (lv' := [(5, .int (iI 3)), (4, .int (iI ((6 * i : Nat) : Int))), (0, .ref b), (1, .ref x), (2, .ref xm), (3, .ref oa)]) hx hb dL_law_353 hl (by decide) rfl (fun ls hl => ?_)
    refine lv_aload_n hx hb dL_law_355 rfl (lv_at hl 4 rfl) ?_
    refine lv_aload_n hx hb dL_law_356 rfl (lv_at hl 2 rfl) ?_
    refine lv_iload hx hb dL_law_357 (lv_at hl 1 rfl) ?_
    refine j_iconst hx hb dL_law_359 ?_
    refine j_iadd hx hb dL_law_360 ?_
    refine j_topE (show (((6 * i : Nat) : Int) + 1) = ((6 * i + 1 : Nat) : Int) by omega) ?_
    refine m_sld hx hb hX hbl hB (n := 6 * i + 1) (by omega) hL dL_law_361 ?_
    refine lv_aload_n hx hb dL_law_362 rfl (lv_at hl 2 rfl) ?_
    refine lv_iload hx hb dL_law_363 (lv_at hl 1 rfl) ?_
    refine j_iconst hx hb dL_law_365 ?_
    refine j_iadd hx hb dL_law_366 ?_
    refine j_topE (show (((6 * i : Nat) : Int) + 2) = ((6 * i + 2 : Nat) : Int) by omega) ?_
    refine m_sld hx hb hX hbl hB (n := 6 * i + 2) (by omega) hL dL_law_367 ?_
    refine m_run (va_runV (As := [.int (iI ((xs (6 * i + 1)).toInt)), .int (iI ((xs (6 * i + 2)).toInt))]) (rest := []) ⟨hx, hb, hml, hown, hts⟩ (k_X4_split (l := l) hM hI (iI_rg _) (iI_rg _)) (cwV 2 hts gL_law_X4_split rfl rfl rfl (by decide +kernel) ⟨by decide, by decide⟩) ⟨Kp.blind _ _ _ _ _, m_recv hK hB (ci := 4) rfl hM.1, fun U hU hW => hK.pass hB U hU hW⟩ rfl rfl hl.1 rfl (lv_room (Nat.le_of_ble_eq_true rfl)) dL_law_368 ⟨(by show cells + 10 ≤ 632940; omega), (by show slots + 60 ≤ 7197285; omega)⟩) hB (fun v u H locs hp hB => ?_)
    rcases hp with ⟨cB, rfl, hM, hFm⟩ | ⟨cB, rfl, hM, hFm⟩ | ⟨cB, rfl, hM, hFm⟩ | ⟨cB, rfl, hM, hFm⟩
    · exact (cl_split_3_0 cA cB).elim
    · exact (cl_split_3_1 cA cB).elim
    · exact (cl_split_3_2 cA cB).elim
    · have hC := hC.fr hFm
      have ho := hFm.J ho
      have hV2 := hV
      show W _ _ _ _ _ _ _ _ _ _ _ _ _ _ _ (F0 m 371 ls [.int (iI 0)])
      refine lv_istore (lv' := [(6, .int (iI 0)), (5, .int (iI 3)), (4, .int (iI ((6 * i : Nat) : Int))), (0, .ref b), (1, .ref x), (2, .ref xm), (3, .ref oa)]) hx hb dL_law_371 hl (by decide) rfl (fun ls hl => ?_)
      refine lv_aload_n hx hb dL_law_373 rfl (lv_at hl 5 rfl) ?_
      refine m_run (va_runV (As := []) (rest := []) ⟨hx, hb, hml, hown, hts⟩ (k_X4_thrown (l := l) hM hV2.ib) (cwV 0 hts gL_law_X4_thrown rfl rfl rfl (by decide +kernel) ⟨by decide, by decide⟩) ⟨Kp.blind _ _ _ _ _, m_recv hK hB (ci := 4) rfl hM.1, fun U hU hW => hK.pass hB U hU hW⟩ rfl rfl hl.1 rfl (lv_room (Nat.le_of_ble_eq_true rfl)) dL_law_374 ⟨(by show cells + 10 ≤ 632940; omega), (by show slots + 60 ≤ 7197285; omega)⟩) hB (fun v u H locs hp hB => ?_)
      obtain ⟨rfl, rfl⟩ := hp
      show W _ _ _ _ _ _ _ _ _ _ _ _ _ _ _ (F0 m 377 ls [.int (iI 3)])
      refine lv_iload hx hb dL_law_377 (lv_at hl 1 rfl) ?_
      refine j_icmp_eq (tgt := 384) hx hb dL_law_379 (by decide) ⟨by decide, by decide⟩ ⟨by decide, by decide⟩ (fun _ => ?_) (fun w => absurd rfl w)
      refine lv_iload hx hb dL_law_384 (lv_at hl 1 rfl) ?_
      refine j_if_ne (tgt := 401) hx hb dL_law_386 (by decide) ⟨by decide, by decide⟩ (fun c_5 => ?_) (fun c_5 => absurd c_5 (by decide))
      refine lv_goto (tgt := 1638) hx hb dL_law_401 (by decide) ?_
      refine W.widen (k := cells + 100) (n := slots + 1000) (by show cells + 10 ≤ cells + 100; omega) (by show slots + 60 ≤ slots + 1000; omega) ?_
      exact kk _ _ _ _ _ (LwS.mk hV2 hC hM ho) hB (lv_sub hl [2, 3, 4, 5, 6] rfl)

set_option maxHeartbeats 4000000 in
set_option maxRecDepth 100000 in
theorem lc_3 {l : Launch} (hfl : l.stackTraces = false) {D : va_G} {cI cP cR cJ : ClassId} {p : Program} {e : Env} {s : State} {m : MethodId} {below : List Frame} {meth : Method} {c : Code} {b L : Nat} {xs : Nat → Int32} (hL : L ≤ 3072) (hx : p.tables.exec = Jvm.exec) (hb : c.code = cL_law) (hml : c.maxLocals = 7) (hown : s.vm.findClass RL = some m.cls) (hts : ∀ w ∈ wsL_law, w.before #[Value.ref b] s = true) (hX : va_X b L xs s s.heap) (hbl : b < s.heap.size) (hK : Kb D s.heap.size (tyL cI cP cR cJ) s) {x xm oa i : Nat} (hi : 6 * i + 6 ≤ L) {cells slots : Nat} (hc : cells + 100 ≤ 632940) (hs : slots + 1000 ≤ 7197285) {σ : Sg} {h0 : Hp} {H : Heap} {locs : List Loc} (hS : LwS cI cP cR cJ x xm oa σ h0) (hB : Bk D s.heap.size s.heap h0 H locs) {ls : Array Slot} (hl : lv_has ls 7 [(4, .int (iI ((6 * i : Nat) : Int))), (0, .ref b), (1, .ref x), (2, .ref xm), (3, .ref oa)]) {Q : State → Prop} (kk : ∀ (σ2 : Sg) (h2 : Hp) (H2 : Heap) (locs2 : List Loc) (ls2 : Array Slot), LwS cI cP cR cJ x xm oa σ2 h2 → Bk D s.heap.size s.heap h2 H2 locs2 → lv_has ls2 7 [(4, .int (iI ((6 * i : Nat) : Int))), (0, .ref b), (1, .ref x), (2, .ref xm), (3, .ref oa)] → W p l e room_1 s m #[Value.ref b] below meth c H2 locs2 (cells + 100) (slots + 1000) Q (F0 m 1638 ls2 [])) : W p l e room_1 s m #[Value.ref b] below meth c H locs cells slots Q (F0 m 404 ls []) := by
  obtain ⟨hV, ⟨xp, xr, pa, ra, hC⟩, ⟨xa, th, hM⟩, fo, ho⟩ := hS
  have hI := hV.ib
  have hnp := hI.hnp
  have hst := hI.2.2.1
  have hnrI := hI.nrI
  refine lv_aload_n hx hb dL_law_404 rfl (lv_at hl 2 rfl) ?_
  refine lv_aload_n hx hb dL_law_405 rfl (lv_at hl 1 rfl) ?_
  refine lv_iload hx hb dL_law_406 (lv_at hl 0 rfl) ?_
  refine j_iconst hx hb dL_law_408 ?_
  refine j_iadd hx hb dL_law_409 ?_
  refine j_topE (show (((6 * i : Nat) : Int) + 1) = ((6 * i + 1 : Nat) : Int) by omega) ?_
  refine m_sld hx hb hX hbl hB (n := 6 * i + 1) (by omega) hL dL_law_410 ?_
  refine lv_aload_n hx hb dL_law_411 rfl (lv_at hl 1 rfl) ?_
  refine lv_iload hx hb dL_law_412 (lv_at hl 0 rfl) ?_
  refine j_iconst hx hb dL_law_414 ?_
  refine j_iadd hx hb dL_law_415 ?_
  refine j_topE (show (((6 * i : Nat) : Int) + 2) = ((6 * i + 2 : Nat) : Int) by omega) ?_
  refine m_sld hx hb hX hbl hB (n := 6 * i + 2) (by omega) hL dL_law_416 ?_
  refine lv_aload_n hx hb dL_law_417 rfl (lv_at hl 4 rfl) ?_
  refine m_run (vx_runSW (As := [.ref x, .int (iI ((xs (6 * i + 1)).toInt)), .int (iI ((xs (6 * i + 2)).toInt)), .ref oa]) (rest := []) ⟨hx, hb, hml, hown, hts⟩ (k_L_merge (l := l) hfl hC hI ho (iI_rg _) (iI_rg _)) (vx_cwSW 4 hts gL_law_L_merge rfl rfl rfl (by decide +kernel) ⟨by decide, by decide⟩) ⟨Kp.blind _ _ _ _ _, fun U hU hW => hK.pass hB U hU hW⟩ rfl rfl hl.1 rfl (lv_room (Nat.le_of_ble_eq_true rfl)) dL_law_418 ⟨(by show cells + 9 ≤ 632940; omega), (by show slots + 54 ≤ 7197285; omega)⟩) hB (fun v u H locs hp hB => ?_)
  rcases hp with ⟨rfl, cA, hC, ⟨fo2, ho, ef⟩, hFl⟩ | ⟨rfl, cA, hC, hFl⟩ | ⟨rfl, cA, hC, hFl⟩
  · have hM := hM.frL hFl
    show W _ _ _ _ _ _ _ _ _ _ _ _ _ _ _ (F0 m 421 ls [.int (iI 0)])
    refine lv_istore (lv' := [(5, .int (iI 0)), (4, .int (iI ((6 * i : Nat) : Int))), (0, .ref b), (1, .ref x), (2, .ref xm), (3, .ref oa)]) hx hb dL_law_421 hl (by decide) rfl (fun ls hl => ?_)
    refine lv_aload_n hx hb dL_law_423 rfl (lv_at hl 4 rfl) ?_
    refine lv_aload_n hx hb dL_law_424 rfl (lv_at hl 2 rfl) ?_
    refine lv_iload hx hb dL_law_425 (lv_at hl 1 rfl) ?_
    refine j_iconst hx hb dL_law_427 ?_
    refine j_iadd hx hb dL_law_428 ?_
    refine j_topE (show (((6 * i : Nat) : Int) + 1) = ((6 * i + 1 : Nat) : Int) by omega) ?_
    refine m_sld hx hb hX hbl hB (n := 6 * i + 1) (by omega) hL dL_law_429 ?_
    refine lv_aload_n hx hb dL_law_430 rfl (lv_at hl 2 rfl) ?_
    refine lv_iload hx hb dL_law_431 (lv_at hl 1 rfl) ?_
    refine j_iconst hx hb dL_law_433 ?_
    refine j_iadd hx hb dL_law_434 ?_
    refine j_topE (show (((6 * i : Nat) : Int) + 2) = ((6 * i + 2 : Nat) : Int) by omega) ?_
    refine m_sld hx hb hX hbl hB (n := 6 * i + 2) (by omega) hL dL_law_435 ?_
    refine m_run (va_runV (As := [.int (iI ((xs (6 * i + 1)).toInt)), .int (iI ((xs (6 * i + 2)).toInt))]) (rest := []) ⟨hx, hb, hml, hown, hts⟩ (k_X4_merge (l := l) hM hI (iI_rg _) (iI_rg _)) (cwV 2 hts gL_law_X4_merge rfl rfl rfl (by decide +kernel) ⟨by decide, by decide⟩) ⟨Kp.blind _ _ _ _ _, m_recv hK hB (ci := 4) rfl hM.1, fun U hU hW => hK.pass hB U hU hW⟩ rfl rfl hl.1 rfl (lv_room (Nat.le_of_ble_eq_true rfl)) dL_law_436 ⟨(by show cells + 9 ≤ 632940; omega), (by show slots + 54 ≤ 7197285; omega)⟩) hB (fun v u H locs hp hB => ?_)
    rcases hp with ⟨cB, rfl, hM, hFm⟩ | ⟨cB, rfl, hM, hFm⟩ | ⟨cB, rfl, hM, hFm⟩
    · have hC := hC.fr hFm
      have ho := hFm.J ho
      have hV2 := hV.merge ⟨by have w := cA.1.1; unfold isP at w; omega, by have w := cA.1.1; unfold isP at w; omega⟩ ⟨by have w := cA.1.2; unfold isP at w; omega, by have w := cA.1.2; unfold isP at w; omega⟩ cA.2.1 cA.2.2.1 cA.2.2.2.1
      show W _ _ _ _ _ _ _ _ _ _ _ _ _ _ _ (F0 m 439 ls [.int (iI (cnt (fun j => live (upS (mvS (upS σ 1 ((xs (6 * i + 1)).toInt).toNat (σ 1 ((xs (6 * i + 2)).toInt).toNat)) ((xs (6 * i + 2)).toInt).toNat ((xs (6 * i + 1)).toInt).toNat 200) 4 ((xs (6 * i + 2)).toInt).toNat 2) j ∧ pn (upS (mvS (upS σ 1 ((xs (6 * i + 1)).toInt).toNat (σ 1 ((xs (6 * i + 2)).toInt).toNat)) ((xs (6 * i + 2)).toInt).toNat ((xs (6 * i + 1)).toInt).toNat 200) 4 ((xs (6 * i + 2)).toInt).toNat 2) j = ((xs (6 * i + 1)).toInt).toNat) (nrN (upS (mvS (upS σ 1 ((xs (6 * i + 1)).toInt).toNat (σ 1 ((xs (6 * i + 2)).toInt).toNat)) ((xs (6 * i + 2)).toInt).toNat ((xs (6 * i + 1)).toInt).toNat 200) 4 ((xs (6 * i + 2)).toInt).toNat 2))))])
      refine lv_istore (lv' := [(6, .int (iI (cnt (fun j => live (upS (mvS (upS σ 1 ((xs (6 * i + 1)).toInt).toNat (σ 1 ((xs (6 * i + 2)).toInt).toNat)) ((xs (6 * i + 2)).toInt).toNat ((xs (6 * i + 1)).toInt).toNat 200) 4 ((xs (6 * i + 2)).toInt).toNat 2) j ∧ pn (upS (mvS (upS σ 1 ((xs (6 * i + 1)).toInt).toNat (σ 1 ((xs (6 * i + 2)).toInt).toNat)) ((xs (6 * i + 2)).toInt).toNat ((xs (6 * i + 1)).toInt).toNat 200) 4 ((xs (6 * i + 2)).toInt).toNat 2) j = ((xs (6 * i + 1)).toInt).toNat) (nrN (upS (mvS (upS σ 1 ((xs (6 * i + 1)).toInt).toNat (σ 1 ((xs (6 * i + 2)).toInt).toNat)) ((xs (6 * i + 2)).toInt).toNat ((xs (6 * i + 1)).toInt).toNat 200) 4 ((xs (6 * i + 2)).toInt).toNat 2))))), (5, .int (iI 0)), (4, .int (iI ((6 * i : Nat) : Int))), (0, .ref b), (1, .ref x), (2, .ref xm), (3, .ref oa)]) hx hb dL_law_439 hl (by decide) rfl (fun ls hl => ?_)
      refine lv_aload_n hx hb dL_law_441 rfl (lv_at hl 5 rfl) ?_
      refine m_run (va_runV (As := []) (rest := []) ⟨hx, hb, hml, hown, hts⟩ (k_X4_thrown (l := l) hM hV2.ib) (cwV 0 hts gL_law_X4_thrown rfl rfl rfl (by decide +kernel) ⟨by decide, by decide⟩) ⟨Kp.blind _ _ _ _ _, m_recv hK hB (ci := 4) rfl hM.1, fun U hU hW => hK.pass hB U hU hW⟩ rfl rfl hl.1 rfl (lv_room (Nat.le_of_ble_eq_true rfl)) dL_law_442 ⟨(by show cells + 9 ≤ 632940; omega), (by show slots + 54 ≤ 7197285; omega)⟩) hB (fun v u H locs hp hB => ?_)
      obtain ⟨rfl, rfl⟩ := hp
      show W _ _ _ _ _ _ _ _ _ _ _ _ _ _ _ (F0 m 445 ls [.int (iI 0)])
      refine lv_iload hx hb dL_law_445 (lv_at hl 1 rfl) ?_
      refine j_icmp_eq (tgt := 452) hx hb dL_law_447 (by decide) ⟨by decide, by decide⟩ ⟨by decide, by decide⟩ (fun _ => ?_) (fun w => absurd rfl w)
      refine lv_iload hx hb dL_law_452 (lv_at hl 1 rfl) ?_
      refine j_if_ne (tgt := 469) hx hb dL_law_454 (by decide) ⟨by decide, by decide⟩ (fun c_1 => absurd c_1 (by decide)) (fun c_1 => ?_)
      refine lv_aload_n hx hb dL_law_457 rfl (lv_at hl 6 rfl) ?_
      refine j_iconst hx hb dL_law_458 ?_
      refine m_lald hx hb hK hB 3 ho rfl in01 dL_law_459 ?_
      refine lv_iload hx hb dL_law_460 (lv_at hl 0 rfl) ?_
      refine lv_i2l hx hb dL_law_462 (rfl : _ = lI (cnt (fun j => live (upS (mvS (upS σ 1 ((xs (6 * i + 1)).toInt).toNat (σ 1 ((xs (6 * i + 2)).toInt).toNat)) ((xs (6 * i + 2)).toInt).toNat ((xs (6 * i + 1)).toInt).toNat 200) 4 ((xs (6 * i + 2)).toInt).toNat 2) j ∧ pn (upS (mvS (upS σ 1 ((xs (6 * i + 1)).toInt).toNat (σ 1 ((xs (6 * i + 2)).toInt).toNat)) ((xs (6 * i + 2)).toInt).toNat ((xs (6 * i + 1)).toInt).toNat 200) 4 ((xs (6 * i + 2)).toInt).toNat 2) j = ((xs (6 * i + 1)).toInt).toNat) (nrN (upS (mvS (upS σ 1 ((xs (6 * i + 1)).toInt).toNat (σ 1 ((xs (6 * i + 2)).toInt).toNat)) ((xs (6 * i + 2)).toInt).toNat ((xs (6 * i + 1)).toInt).toNat 200) 4 ((xs (6 * i + 2)).toInt).toNat 2)))) ?_
      refine j_lcmp0 hx hb (show fo2 (iI 0).toNatClampNeg = _ from ef) dL_law_463 ?_
      refine j_if_eq (tgt := 469) hx hb dL_law_464 (by decide) ⟨by decide, by decide⟩ (fun c_2 => ?_) (fun c_2 => absurd c_2 (by decide))
      refine lv_goto (tgt := 1638) hx hb dL_law_469 (by decide) ?_
      refine W.widen (k := cells + 100) (n := slots + 1000) (by show cells + 9 ≤ cells + 100; omega) (by show slots + 54 ≤ slots + 1000; omega) ?_
      exact kk _ _ _ _ _ (LwS.mk hV2 hC hM ho) hB (lv_sub hl [2, 3, 4, 5, 6] rfl)
    · exact (cl_merge_0_1 cA cB).elim
    · exact (cl_merge_0_2 cA cB).elim
  · have hM := hM.frL hFl.L
    have ho := hFl.J ho
    show W _ _ _ _ _ _ _ _ _ _ _ _ _ _ _ (F0 m 421 ls [.int (iI 1)])
    refine lv_istore (lv' := [(5, .int (iI 1)), (4, .int (iI ((6 * i : Nat) : Int))), (0, .ref b), (1, .ref x), (2, .ref xm), (3, .ref oa)]) hx hb dL_law_421 hl (by decide) rfl (fun ls hl => ?_)
    refine lv_aload_n hx hb dL_law_423 rfl (lv_at hl 4 rfl) ?_
    refine lv_aload_n hx hb dL_law_424 rfl (lv_at hl 2 rfl) ?_
    refine lv_iload hx hb dL_law_425 (lv_at hl 1 rfl) ?_
    refine j_iconst hx hb dL_law_427 ?_
    refine j_iadd hx hb dL_law_428 ?_
    refine j_topE (show (((6 * i : Nat) : Int) + 1) = ((6 * i + 1 : Nat) : Int) by omega) ?_
    refine m_sld hx hb hX hbl hB (n := 6 * i + 1) (by omega) hL dL_law_429 ?_
    refine lv_aload_n hx hb dL_law_430 rfl (lv_at hl 2 rfl) ?_
    refine lv_iload hx hb dL_law_431 (lv_at hl 1 rfl) ?_
    refine j_iconst hx hb dL_law_433 ?_
    refine j_iadd hx hb dL_law_434 ?_
    refine j_topE (show (((6 * i : Nat) : Int) + 2) = ((6 * i + 2 : Nat) : Int) by omega) ?_
    refine m_sld hx hb hX hbl hB (n := 6 * i + 2) (by omega) hL dL_law_435 ?_
    refine m_run (va_runV (As := [.int (iI ((xs (6 * i + 1)).toInt)), .int (iI ((xs (6 * i + 2)).toInt))]) (rest := []) ⟨hx, hb, hml, hown, hts⟩ (k_X4_merge (l := l) hM hI (iI_rg _) (iI_rg _)) (cwV 2 hts gL_law_X4_merge rfl rfl rfl (by decide +kernel) ⟨by decide, by decide⟩) ⟨Kp.blind _ _ _ _ _, m_recv hK hB (ci := 4) rfl hM.1, fun U hU hW => hK.pass hB U hU hW⟩ rfl rfl hl.1 rfl (lv_room (Nat.le_of_ble_eq_true rfl)) dL_law_436 ⟨(by show cells + 9 ≤ 632940; omega), (by show slots + 54 ≤ 7197285; omega)⟩) hB (fun v u H locs hp hB => ?_)
    rcases hp with ⟨cB, rfl, hM, hFm⟩ | ⟨cB, rfl, hM, hFm⟩ | ⟨cB, rfl, hM, hFm⟩
    · exact (cl_merge_1_0 cA cB).elim
    · have hC := hC.fr hFm
      have ho := hFm.J ho
      have hV2 := hV
      show W _ _ _ _ _ _ _ _ _ _ _ _ _ _ _ (F0 m 439 ls [.int (iI 0)])
      refine lv_istore (lv' := [(6, .int (iI 0)), (5, .int (iI 1)), (4, .int (iI ((6 * i : Nat) : Int))), (0, .ref b), (1, .ref x), (2, .ref xm), (3, .ref oa)]) hx hb dL_law_439 hl (by decide) rfl (fun ls hl => ?_)
      refine lv_aload_n hx hb dL_law_441 rfl (lv_at hl 5 rfl) ?_
      refine m_run (va_runV (As := []) (rest := []) ⟨hx, hb, hml, hown, hts⟩ (k_X4_thrown (l := l) hM hV2.ib) (cwV 0 hts gL_law_X4_thrown rfl rfl rfl (by decide +kernel) ⟨by decide, by decide⟩) ⟨Kp.blind _ _ _ _ _, m_recv hK hB (ci := 4) rfl hM.1, fun U hU hW => hK.pass hB U hU hW⟩ rfl rfl hl.1 rfl (lv_room (Nat.le_of_ble_eq_true rfl)) dL_law_442 ⟨(by show cells + 9 ≤ 632940; omega), (by show slots + 54 ≤ 7197285; omega)⟩) hB (fun v u H locs hp hB => ?_)
      obtain ⟨rfl, rfl⟩ := hp
      show W _ _ _ _ _ _ _ _ _ _ _ _ _ _ _ (F0 m 445 ls [.int (iI 1)])
      refine lv_iload hx hb dL_law_445 (lv_at hl 1 rfl) ?_
      refine j_icmp_eq (tgt := 452) hx hb dL_law_447 (by decide) ⟨by decide, by decide⟩ ⟨by decide, by decide⟩ (fun _ => ?_) (fun w => absurd rfl w)
      refine lv_iload hx hb dL_law_452 (lv_at hl 1 rfl) ?_
      refine j_if_ne (tgt := 469) hx hb dL_law_454 (by decide) ⟨by decide, by decide⟩ (fun c_3 => ?_) (fun c_3 => absurd c_3 (by decide))
      refine lv_goto (tgt := 1638) hx hb dL_law_469 (by decide) ?_
      refine W.widen (k := cells + 100) (n := slots + 1000) (by show cells + 9 ≤ cells + 100; omega) (by show slots + 54 ≤ slots + 1000; omega) ?_
      exact kk _ _ _ _ _ (LwS.mk hV2 hC hM ho) hB (lv_sub hl [2, 3, 4, 5, 6] rfl)
    · exact (cl_merge_1_2 cA cB).elim
  · have hM := hM.frL hFl.L
    have ho := hFl.J ho
    show W _ _ _ _ _ _ _ _ _ _ _ _ _ _ _ (F0 m 421 ls [.int (iI 2)])
    refine lv_istore (lv' := [(5, .int (iI 2)), (4, .int (iI ((6 * i : Nat) : Int))), (0, .ref b), (1, .ref x), (2, .ref xm), (3, .ref oa)]) hx hb dL_law_421 hl (by decide) rfl (fun ls hl => ?_)
    refine lv_aload_n hx hb dL_law_423 rfl (lv_at hl 4 rfl) ?_
    refine lv_aload_n hx hb dL_law_424 rfl (lv_at hl 2 rfl) ?_
    refine lv_iload hx hb dL_law_425 (lv_at hl 1 rfl) ?_
    refine j_iconst hx hb dL_law_427 ?_
    refine j_iadd hx hb dL_law_428 ?_
    refine j_topE (show (((6 * i : Nat) : Int) + 1) = ((6 * i + 1 : Nat) : Int) by omega) ?_
    refine m_sld hx hb hX hbl hB (n := 6 * i + 1) (by omega) hL dL_law_429 ?_
    refine lv_aload_n hx hb dL_law_430 rfl (lv_at hl 2 rfl) ?_
    refine lv_iload hx hb dL_law_431 (lv_at hl 1 rfl) ?_
    refine j_iconst hx hb dL_law_433 ?_
    refine j_iadd hx hb dL_law_434 ?_
    refine j_topE (show (((6 * i : Nat) : Int) + 2) = ((6 * i + 2 : Nat) : Int) by omega) ?_
    refine m_sld hx hb hX hbl hB (n := 6 * i + 2) (by omega) hL dL_law_435 ?_
    refine m_run (va_runV (As := [.int (iI ((xs (6 * i + 1)).toInt)), .int (iI ((xs (6 * i + 2)).toInt))]) (rest := []) ⟨hx, hb, hml, hown, hts⟩ (k_X4_merge (l := l) hM hI (iI_rg _) (iI_rg _)) (cwV 2 hts gL_law_X4_merge rfl rfl rfl (by decide +kernel) ⟨by decide, by decide⟩) ⟨Kp.blind _ _ _ _ _, m_recv hK hB (ci := 4) rfl hM.1, fun U hU hW => hK.pass hB U hU hW⟩ rfl rfl hl.1 rfl (lv_room (Nat.le_of_ble_eq_true rfl)) dL_law_436 ⟨(by show cells + 9 ≤ 632940; omega), (by show slots + 54 ≤ 7197285; omega)⟩) hB (fun v u H locs hp hB => ?_)
    rcases hp with ⟨cB, rfl, hM, hFm⟩ | ⟨cB, rfl, hM, hFm⟩ | ⟨cB, rfl, hM, hFm⟩
    · exact (cl_merge_2_0 cA cB).elim
    · exact (cl_merge_2_1 cA cB).elim
    · have hC := hC.fr hFm
      have ho := hFm.J ho
      have hV2 := hV
      show W _ _ _ _ _ _ _ _ _ _ _ _ _ _ _ (F0 m 439 ls [.int (iI 0)])
      refine lv_istore (lv' := [(6, .int (iI 0)), (5, .int (iI 2)), (4, .int (iI ((6 * i : Nat) : Int))), (0, .ref b), (1, .ref x), (2, .ref xm), (3, .ref oa)]) hx hb dL_law_439 hl (by decide) rfl (fun ls hl => ?_)
      refine lv_aload_n hx hb dL_law_441 rfl (lv_at hl 5 rfl) ?_
      refine m_run (va_runV (As := []) (rest := []) ⟨hx, hb, hml, hown, hts⟩ (k_X4_thrown (l := l) hM hV2.ib) (cwV 0 hts gL_law_X4_thrown rfl rfl rfl (by decide +kernel) ⟨by decide, by decide⟩) ⟨Kp.blind _ _ _ _ _, m_recv hK hB (ci := 4) rfl hM.1, fun U hU hW => hK.pass hB U hU hW⟩ rfl rfl hl.1 rfl (lv_room (Nat.le_of_ble_eq_true rfl)) dL_law_442 ⟨(by show cells + 9 ≤ 632940; omega), (by show slots + 54 ≤ 7197285; omega)⟩) hB (fun v u H locs hp hB => ?_)
      obtain ⟨rfl, rfl⟩ := hp
      show W _ _ _ _ _ _ _ _ _ _ _ _ _ _ _ (F0 m 445 ls [.int (iI 2)])
      refine lv_iload hx hb dL_law_445 (lv_at hl 1 rfl) ?_
      refine j_icmp_eq (tgt := 452) hx hb dL_law_447 (by decide) ⟨by decide, by decide⟩ ⟨by decide, by decide⟩ (fun _ => ?_) (fun w => absurd rfl w)
      refine lv_iload hx hb dL_law_452 (lv_at hl 1 rfl) ?_
      refine j_if_ne (tgt := 469) hx hb dL_law_454 (by decide) ⟨by decide, by decide⟩ (fun c_4 => ?_) (fun c_4 => absurd c_4 (by decide))
      refine lv_goto (tgt := 1638) hx hb dL_law_469 (by decide) ?_
      refine W.widen (k := cells + 100) (n := slots + 1000) (by show cells + 9 ≤ cells + 100; omega) (by show slots + 54 ≤ slots + 1000; omega) ?_
      exact kk _ _ _ _ _ (LwS.mk hV2 hC hM ho) hB (lv_sub hl [2, 3, 4, 5, 6] rfl)

