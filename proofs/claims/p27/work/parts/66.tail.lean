set_option maxHeartbeats 4000000 in
set_option maxRecDepth 100000 in
theorem lt_tail {l : Launch} (hfl : l.stackTraces = false) {D : va_G} {cI cP cR cJ : ClassId} {p : Program} {e : Env} {s : State} {m : MethodId} {below : List Frame} {meth : Method} {c : Code} {b L : Nat} {xs : Nat → Int32} (hL : L ≤ 260) (hx : p.tables.exec = Jvm.exec) (hb : c.code = cL_law) (hml : c.maxLocals = 20) (hown : s.vm.findClass RL = some m.cls) (hts : ∀ w ∈ wsL_law, w.before #[Value.ref b] s = true) (hX : va_X b L xs s s.heap) (hbl : b < s.heap.size) (hK : Kb D s.heap.size (tyL cI cP cR cJ) s) {x ka tu ni yn : Nat} {rem st tn : Int} {σ : Sg} {h0 : Hp} {H : Heap} {locs : List Loc} (hS : LwP cI cP cR x ka σ ni rem st h0) (hB : Bk D s.heap.size s.heap h0 H locs) (fy : yn ≤ 268435455) (ft : tu ≤ 240) (ftn : 0 ≤ tn ∧ tn ≤ 240) {cells slots : Nat} (hc : cells + 1240 ≤ 758523) (hs : slots + 7600 ≤ 6826128) {Q : State → Prop} {ls : Array Slot} (hl : lv_has ls 20 [(0, .ref b), (1, .ref x), (2, .ref ka), (3, .int (iI (ni : Int))), (4, .int (iI rem)), (5, .int (iI st)), (6, .int (iI 1)), (7, .int (iI tn)), (8, .int (iI (tu : Int))), (10, .int (iI (yn : Int)))]) (kk : ∀ (σ2 : Sg) (n2 : Nat) (r2 s2 : Int) (h2 : Hp) (H2 : Heap) (locs2 : List Loc) (ls2 : Array Slot), LwP cI cP cR x ka σ2 n2 r2 s2 h2 → Bk D s.heap.size s.heap h2 H2 locs2 → lv_has ls2 20 [(0, .ref b), (1, .ref x), (2, .ref ka), (3, .int (iI (n2 : Int))), (4, .int (iI r2)), (5, .int (iI s2)), (6, .int (iI 1)), (7, .int (iI tn)), (8, .int (iI ((tu + 1 : Nat) : Int)))] → W p l e room_1 s m #[Value.ref b] below meth c H2 locs2 (cells + 1240) (slots + 7600) Q (F0 m 64 ls2 [])) : W p l e room_1 s m #[Value.ref b] below meth c H locs cells slots Q (F0 m 1129 ls []) := by
  obtain ⟨hV, ⟨xp, xr, pa, ra, hC⟩, ⟨f, hk, hkf⟩, hni, hn64, hlv, hst⟩ := hS
  have hI := hV.ib
  have hnp := hI.hnp
  have hnpI := hI.npI
  have hnl := nLv_rg hI
  have htb := nTb_rg hI
  have hst1 := hI.2.2.1
  refine lv_iload hx hb dL_law_1129 (lv_at hl 9 rfl) ?_
  refine j_iconst hx hb dL_law_1131 ?_
  refine j_shrT (n := 2) hx hb ⟨by omega, by omega⟩ (by decide) dL_law_1132 (fun w_1 hw_1 kw_1 => ?_)
  refine j_sipush hx hb dL_law_1133 (by decide) ?_
  refine j_remT hx hb ⟨by omega, by omega⟩ ⟨by omega, by omega⟩ dL_law_1136 (fun w_2 hw_2 kw_2 => ?_)
  refine lv_istore (lv' := [(17, .int (iI w_2)), (0, .ref b), (1, .ref x), (2, .ref ka), (3, .int (iI (ni : Int))), (4, .int (iI rem)), (5, .int (iI st)), (6, .int (iI 1)), (7, .int (iI tn)), (8, .int (iI (tu : Int))), (10, .int (iI (yn : Int)))]) hx hb dL_law_1137 hl (by decide) rfl (fun ls hl => ?_)
  refine lv_iload hx hb dL_law_1139 (lv_at hl 7 rfl) ?_
  refine j_if_eq (tgt := 1196) hx hb dL_law_1141 (by decide) ⟨by decide, by decide⟩ (fun c_3 => False.elim (by omega)) (fun c_3 => ?_)
  refine lv_aload_n hx hb dL_law_1144 rfl (lv_at hl 2 rfl) ?_
  refine m_run (va_runV (As := []) (rest := []) ⟨hx, hb, hml, hown, hts⟩ (k_X3_isStale (l := l) hC hI) (cwV 0 hts gL_law_X3_isStale rfl rfl rfl (by decide +kernel) ⟨by decide, by decide⟩) ⟨Kp.blind _ _ _ _ _, m_recv hK hB (ci := 3) rfl hC.tb, fun U hU hW => hK.pass hB U hU hW⟩ rfl rfl hl.1 rfl (lv_room (Nat.le_of_ble_eq_true rfl)) dL_law_1145 ⟨(by show cells + 0 + 0 ≤ 758523; omega), (by show slots + 0 + 0 ≤ 6826128; omega)⟩) hB (fun v u H locs hp hB => ?_)
  obtain ⟨rfl, hC, hFm⟩ := hp
  have hk := hFm.I hk
  show W _ _ _ _ _ _ _ _ _ _ _ _ _ _ _ (F0 m 1148 ls [.int (iI (σ 11 0))])
  refine lv_iload hx hb dL_law_1148 (lv_at hl 6 rfl) ?_
  refine j_icmp_ne (tgt := 1196) hx hb dL_law_1150 (by decide) ⟨by omega, by omega⟩ ⟨by omega, by omega⟩ (fun c_4 => False.elim (by omega)) (fun c_4 => ?_)
  refine lv_aload_n hx hb dL_law_1153 rfl (lv_at hl 2 rfl) ?_
  refine lv_iload_n hx hb dL_law_1154 rfl (lv_at hl 4 rfl) ?_
  refine lv_iload hx hb dL_law_1155 (lv_at hl 5 rfl) ?_
  refine m_run (va_runS (As := [.ref x, .int (iI (ni : Int)), .int (iI rem)]) (rest := []) ⟨hx, hb, hml, hown, hts⟩ (k_L_areLeaves (l := l) hfl hC hV (a := (ni : Int)) (b := rem) (by omega)) (va_cwS 3 hts gL_law_L_areLeaves rfl rfl rfl (by decide +kernel) ⟨by decide, by decide⟩) ⟨Kp.blind _ _ _ _ _, fun U hU hW => hK.pass hB U hU hW⟩ rfl rfl hl.1 rfl (lv_room (Nat.le_of_ble_eq_true rfl)) dL_law_1157 ⟨(by show cells + 0 + 259 ≤ 758523; omega), (by show slots + 0 + 1551 ≤ 6826128; omega)⟩) hB (fun v u H locs hp hB => ?_)
  obtain ⟨rfl, hC, hFm⟩ := hp
  have hk := hFm.I hk
  show W _ _ _ _ _ _ _ _ _ _ _ _ _ _ _ (F0 m 1160 ls [.int (iI 1)])
  refine j_if_eq (tgt := 1196) hx hb dL_law_1160 (by decide) ⟨by decide, by decide⟩ (fun c_5 => False.elim (by omega)) (fun c_5 => ?_)
  refine lv_aload_n hx hb dL_law_1163 rfl (lv_at hl 2 rfl) ?_
  refine lv_iload hx hb dL_law_1164 (lv_at hl 0 rfl) ?_
  refine lv_iload hx hb dL_law_1166 (lv_at hl 0 rfl) ?_
  refine lv_iload hx hb dL_law_1168 (lv_at hl 10 rfl) ?_
  refine j_bipush hx hb dL_law_1170 (by decide) ?_
  refine j_shrT (n := 7) hx hb ⟨by omega, by omega⟩ (by decide) dL_law_1172 (fun w_6 hw_6 kw_6 => ?_)
  refine j_bipush hx hb dL_law_1173 (by decide) ?_
  refine j_remT hx hb ⟨by omega, by omega⟩ ⟨by omega, by omega⟩ dL_law_1175 (fun w_7 hw_7 kw_7 => ?_)
  refine j_iadd hx hb dL_law_1176 ?_
  refine lv_iload hx hb dL_law_1177 (lv_at hl 10 rfl) ?_
  refine j_bipush hx hb dL_law_1179 (by decide) ?_
  refine j_shrT (n := 11) hx hb ⟨by omega, by omega⟩ (by decide) dL_law_1181 (fun w_8 hw_8 kw_8 => ?_)
  refine j_sipush hx hb dL_law_1182 (by decide) ?_
  refine j_mask (n := 1023) hx hb dL_law_1185 (fun w_9 hw_9 => ?_)
  refine m_run (va_runS (As := [.ref x, .int (iI w_2), .int (iI (w_2 + w_7)), .int (iI (w_9 : Int))]) (rest := []) ⟨hx, hb, hml, hown, hts⟩ (k_L_isRead (l := l) hfl hC hV (lo := w_2) (hi := (w_2 + w_7)) (sn := w_9) (by unfold okQ; omega)) (va_cwS 4 hts gL_law_L_isRead rfl rfl rfl (by decide +kernel) ⟨by decide, by decide⟩) ⟨Kp.blind _ _ _ _ _, fun U hU hW => hK.pass hB U hU hW⟩ rfl rfl hl.1 rfl (lv_room (Nat.le_of_ble_eq_true rfl)) dL_law_1186 ⟨(by show cells + 259 + 824 ≤ 758523; omega), (by show slots + 1551 + 4680 ≤ 6826128; omega)⟩) hB (fun v u H locs hp hB => ?_)
  obtain ⟨rfl, hC, hFm⟩ := hp
  have hk := hFm.I hk
  show W _ _ _ _ _ _ _ _ _ _ _ _ _ _ _ (F0 m 1189 ls [.int (iI 1)])
  refine j_if_eq (tgt := 1196) hx hb dL_law_1189 (by decide) ⟨by decide, by decide⟩ (fun c_10 => False.elim (by omega)) (fun c_10 => ?_)
  refine j_iconst hx hb dL_law_1192 ?_
  refine lv_goto (tgt := 1197) hx hb dL_law_1193 (by decide) ?_
  refine lv_istore (lv' := [(6, .int (iI 1)), (17, .int (iI w_2)), (0, .ref b), (1, .ref x), (2, .ref ka), (3, .int (iI (ni : Int))), (4, .int (iI rem)), (5, .int (iI st)), (7, .int (iI tn)), (8, .int (iI (tu : Int))), (10, .int (iI (yn : Int)))]) hx hb dL_law_1197 hl (by decide) rfl (fun ls hl => ?_)
  refine j_iconst hx hb dL_law_1199 ?_
  refine lv_istore (lv' := [(18, .int (iI 0)), (6, .int (iI 1)), (17, .int (iI w_2)), (0, .ref b), (1, .ref x), (2, .ref ka), (3, .int (iI (ni : Int))), (4, .int (iI rem)), (5, .int (iI st)), (7, .int (iI tn)), (8, .int (iI (tu : Int))), (10, .int (iI (yn : Int)))]) hx hb dL_law_1200 hl (by decide) rfl (fun ls hl => ?_)
  have lp_1202 : ∀ (fuel wk : Nat), wk ≤ 22 → 22 + 1 ≤ wk + fuel → ∀ (h : Hp) (hC : CR cP cR x xp xr pa ra σ h) (hk : h ka = some (arI cI 64 f)) (H : Heap) (locs : List Loc), Bk D s.heap.size s.heap h H locs → ∀ ls : Array Slot, lv_has ls 20 [(18, .int (iI ((3 * wk : Nat) : Int))), (6, .int (iI 1)), (0, .ref b), (1, .ref x), (2, .ref ka), (3, .int (iI (ni : Int))), (4, .int (iI rem)), (5, .int (iI st)), (7, .int (iI tn)), (8, .int (iI (tu : Int))), (10, .int (iI (yn : Int)))] → W p l e room_1 s m #[Value.ref b] below meth c H locs (cells + 1083 + 7 * wk) (slots + 6231 + 42 * wk) (Q) (F0 m 1202 ls []) := by
    intro fuel
    induction fuel with
    | zero => intro wk w1 w2; exact absurd w2 (by omega)
    | succ fuel ih1202 =>
      intro wk w1 w2 h hC hk  H locs hB ls hl
      refine lv_iload hx hb dL_law_1202 (lv_at hl 0 rfl) ?_
      refine lv_iload_n hx hb dL_law_1204 rfl (lv_at hl 5 rfl) ?_
      refine j_icmp_ge (tgt := 1241) hx hb dL_law_1205 (by decide) ⟨by omega, by omega⟩ ⟨by omega, by omega⟩ (fun c_11 => ?_) (fun c_11 => ?_)
      · refine W.widen (k := cells + 1083 + 7 * 22) (n := slots + 6231 + 42 * 22) (by show cells + 1083 + 7 * wk + 0 ≤ cells + 1083 + 7 * 22; omega) (by show slots + 6231 + 42 * wk + 0 ≤ slots + 6231 + 42 * 22; omega) ?_
        refine j_iinc (lv' := [(8, .int (iI ((tu + 1 : Nat) : Int))), (18, .int (iI ((3 * wk : Nat) : Int))), (6, .int (iI 1)), (0, .ref b), (1, .ref x), (2, .ref ka), (3, .int (iI (ni : Int))), (4, .int (iI rem)), (5, .int (iI st)), (7, .int (iI tn)), (10, .int (iI (yn : Int)))]) hx hb dL_law_1241 hl (k := 9) rfl (by decide) rfl (fun ls hl => ?_)
        refine lv_goto (tgt := 64) hx hb dL_law_1244 (by decide) ?_
        refine W.widen (k := cells + 1240) (n := slots + 7600) (by show cells + 1083 + 7 * 22 + 0 ≤ cells + 1240; omega) (by show slots + 6231 + 42 * 22 + 0 ≤ slots + 7600; omega) ?_
        exact kk σ ni rem st _ _ _ _ ⟨hV, hC.x, ⟨_, hk, hkf⟩, by omega, by omega, by omega, by omega⟩ hB (lv_sub hl [3, 4, 5, 6, 7, 8, 2, 9, 0] rfl)
      · refine lv_iload hx hb dL_law_1208 (lv_at hl 1 rfl) ?_
        refine j_if_eq (tgt := 1241) hx hb dL_law_1210 (by decide) ⟨by decide, by decide⟩ (fun c_12 => False.elim (by omega)) (fun c_12 => ?_)
        refine lv_aload_n hx hb dL_law_1213 rfl (lv_at hl 3 rfl) ?_
        refine lv_iload hx hb dL_law_1214 (lv_at hl 0 rfl) ?_
        refine lv_iload hx hb dL_law_1216 (lv_at hl 9 rfl) ?_
        refine j_iadd hx hb dL_law_1218 ?_
        refine lv_iload_n hx hb dL_law_1219 rfl (lv_at hl 5 rfl) ?_
        refine j_irem hx hb ⟨by omega, by omega⟩ ⟨by omega, by omega⟩ dL_law_1220 ?_
        obtain ⟨qn, eqn⟩ : ∃ qn : Nat, ((((3 * wk : Nat) : Int) + (tu : Int)) % (ni : Int)) = (qn : Int) := ⟨(((((3 * wk : Nat) : Int) + (tu : Int)) % (ni : Int))).toNat, by have := Int.emod_nonneg (((3 * wk : Nat) : Int) + (tu : Int)) (b := (ni : Int)) (by omega); omega⟩
        have hqn : (qn : Int) < (ni : Int) := by rw [← eqn]; exact Int.emod_lt_of_pos _ (by omega)
        refine j_topE eqn ?_
        refine lv_aload_n hx hb dL_law_1221 rfl (lv_at hl 4 rfl) ?_
        refine lv_iload hx hb dL_law_1222 (lv_at hl 0 rfl) ?_
        refine lv_iload hx hb dL_law_1224 (lv_at hl 9 rfl) ?_
        refine j_iadd hx hb dL_law_1226 ?_
        refine lv_iload_n hx hb dL_law_1227 rfl (lv_at hl 5 rfl) ?_
        refine j_irem hx hb ⟨by omega, by omega⟩ ⟨by omega, by omega⟩ dL_law_1228 ?_
        refine j_topE eqn ?_
        refine m_kld hx hb hK hB hk (n := qn) (by omega) dL_law_1229 ?_
        refine m_run (va_runS (As := [.ref x, .int (iI (qn : Int)), .int (iI ((f qn).toInt))]) (rest := []) ⟨hx, hb, hml, hown, hts⟩ (k_L_isRow (l := l) hfl hC hV (n := (qn : Int)) (ky := (f qn).toInt) ⟨by omega, by omega⟩ (kf_row hI hkf)) (va_cwS 3 hts gL_law_L_isRow rfl rfl rfl (by decide +kernel) ⟨by decide, by decide⟩) ⟨Kp.blind _ _ _ _ _, fun U hU hW => hK.pass hB U hU hW⟩ rfl rfl hl.1 rfl (lv_room (Nat.le_of_ble_eq_true rfl)) dL_law_1230 ⟨(by show cells + 1083 + 7 * wk + 0 + 7 ≤ 758523; omega), (by show slots + 6231 + 42 * wk + 0 + 42 ≤ 6826128; omega)⟩) hB (fun v u H locs hp hB => ?_)
        obtain ⟨rfl, hC, hFm⟩ := hp
        have hk := hFm.I hk
        show W _ _ _ _ _ _ _ _ _ _ _ _ _ _ _ (F0 m 1233 ls [.int (iI 1)])
        refine lv_istore (lv' := [(6, .int (iI 1)), (18, .int (iI ((3 * wk : Nat) : Int))), (0, .ref b), (1, .ref x), (2, .ref ka), (3, .int (iI (ni : Int))), (4, .int (iI rem)), (5, .int (iI st)), (7, .int (iI tn)), (8, .int (iI (tu : Int))), (10, .int (iI (yn : Int)))]) hx hb dL_law_1233 hl (by decide) rfl (fun ls hl => ?_)
        refine j_iinc (lv' := [(18, .int (iI (((3 * wk : Nat) : Int) + 3))), (6, .int (iI 1)), (0, .ref b), (1, .ref x), (2, .ref ka), (3, .int (iI (ni : Int))), (4, .int (iI rem)), (5, .int (iI st)), (7, .int (iI tn)), (8, .int (iI (tu : Int))), (10, .int (iI (yn : Int)))]) hx hb dL_law_1235 hl (k := 1) rfl (by decide) rfl (fun ls hl => ?_)
        have e3 : ((3 * wk : Nat) : Int) + 3 = ((3 * (wk + 1) : Nat) : Int) := by omega
        rw [e3] at hl
        refine lv_goto (tgt := 1202) hx hb dL_law_1238 (by decide) ?_
        refine W.widen (k := cells + 1083 + 7 * (wk + 1)) (n := slots + 6231 + 42 * (wk + 1)) (by show cells + 1083 + 7 * wk + 7 ≤ cells + 1083 + 7 * (wk + 1); omega) (by show slots + 6231 + 42 * wk + 42 ≤ slots + 6231 + 42 * (wk + 1); omega) ?_
        exact ih1202 (wk + 1) (by omega) (by omega) _ hC hk  _ _ hB ls (lv_sub hl [0, 1, 2, 3, 4, 5, 6, 7, 8, 9, 10] rfl)
  refine W.widen (k := cells + 1083 + 7 * 0) (n := slots + 6231 + 42 * 0) (by show cells + 1083 ≤ cells + 1083 + 7 * 0; omega) (by show slots + 6231 ≤ slots + 6231 + 42 * 0; omega) ?_
  exact lp_1202 (22 + 1) 0 (by omega) (by omega) _ hC hk  _ _ hB ls (lv_sub hl [0, 1, 3, 4, 5, 6, 7, 8, 9, 10, 11] rfl)

