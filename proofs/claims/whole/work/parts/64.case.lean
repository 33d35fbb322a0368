set_option maxHeartbeats 4000000 in
set_option maxRecDepth 100000 in
theorem lc_12 {l : Launch} (hfl : l.stackTraces = false) {D : va_G} {cI cP cR cJ : ClassId} {p : Program} {e : Env} {s : State} {m : MethodId} {below : List Frame} {meth : Method} {c : Code} {b L : Nat} {xs : Nat → Int32} (hL : L ≤ 3072) (hx : p.tables.exec = Jvm.exec) (hb : c.code = cL_law) (hml : c.maxLocals = 7) (hown : s.vm.findClass RL = some m.cls) (hts : ∀ w ∈ wsL_law, w.before #[Value.ref b] s = true) (hX : va_X b L xs s s.heap) (hbl : b < s.heap.size) (hK : Kb D s.heap.size (tyL cI cP cR cJ) s) {x xm oa i : Nat} (hi : 6 * i + 6 ≤ L) {cells slots : Nat} (hc : cells + 100 ≤ 632940) (hs : slots + 1000 ≤ 7197285) {σ : Sg} {h0 : Hp} {H : Heap} {locs : List Loc} (hS : LwS cI cP cR cJ x xm oa σ h0) (hB : Bk D s.heap.size s.heap h0 H locs) {ls : Array Slot} (hl : lv_has ls 7 [(4, .int (iI ((6 * i : Nat) : Int))), (0, .ref b), (1, .ref x), (2, .ref xm), (3, .ref oa)]) {Q : State → Prop} (kk : ∀ (σ2 : Sg) (h2 : Hp) (H2 : Heap) (locs2 : List Loc) (ls2 : Array Slot), LwS cI cP cR cJ x xm oa σ2 h2 → Bk D s.heap.size s.heap h2 H2 locs2 → lv_has ls2 7 [(4, .int (iI ((6 * i : Nat) : Int))), (0, .ref b), (1, .ref x), (2, .ref xm), (3, .ref oa)] → W p l e room_1 s m #[Value.ref b] below meth c H2 locs2 (cells + 100) (slots + 1000) Q (F0 m 1638 ls2 [])) : W p l e room_1 s m #[Value.ref b] below meth c H locs cells slots Q (F0 m 944 ls []) := by
  obtain ⟨hV, ⟨xp, xr, pa, ra, hC⟩, ⟨xa, th, hM⟩, fo, ho⟩ := hS
  have hI := hV.ib
  have hnp := hI.hnp
  have hst := hI.2.2.1
  have hnrI := hI.nrI
  refine lv_aload_n hx hb dL_law_944 rfl (lv_at hl 2 rfl) ?_
  refine lv_aload_n hx hb dL_law_945 rfl (lv_at hl 1 rfl) ?_
  refine lv_iload hx hb dL_law_946 (lv_at hl 0 rfl) ?_
  refine j_iconst hx hb dL_law_948 ?_
  refine j_iadd hx hb dL_law_949 ?_
  refine j_topE (show (((6 * i : Nat) : Int) + 1) = ((6 * i + 1 : Nat) : Int) by omega) ?_
  refine m_sld hx hb hX hbl hB (n := 6 * i + 1) (by omega) hL dL_law_950 ?_
  refine lv_aload_n hx hb dL_law_951 rfl (lv_at hl 4 rfl) ?_
  refine m_run (vx_runSW (As := [.ref x, .int (iI ((xs (6 * i + 1)).toInt)), .ref oa]) (rest := []) ⟨hx, hb, hml, hown, hts⟩ (k_L_partOf (l := l) hfl hC hI ho (iI_rg _)) (vx_cwSW 3 hts gL_law_L_partOf rfl rfl rfl (by decide +kernel) ⟨by decide, by decide⟩) ⟨Kp.blind _ _ _ _ _, fun U hU hW => hK.pass hB U hU hW⟩ rfl rfl hl.1 rfl (lv_room (Nat.le_of_ble_eq_true rfl)) dL_law_952 ⟨(by show cells + 1 ≤ 632940; omega), (by show slots + 6 ≤ 7197285; omega)⟩) hB (fun v u H locs hp hB => ?_)
  rcases hp with ⟨rfl, cA, hC, ⟨fo2, ho, ef⟩, hFl⟩ | ⟨rfl, cA, hC, hFl⟩
  · have hM := hM.frL hFl
    show W _ _ _ _ _ _ _ _ _ _ _ _ _ _ _ (F0 m 955 ls [.int (iI 0)])
    refine lv_istore (lv' := [(5, .int (iI 0)), (4, .int (iI ((6 * i : Nat) : Int))), (0, .ref b), (1, .ref x), (2, .ref xm), (3, .ref oa)]) hx hb dL_law_955 hl (by decide) rfl (fun ls hl => ?_)
    refine lv_aload_n hx hb dL_law_957 rfl (lv_at hl 4 rfl) ?_
    refine lv_aload_n hx hb dL_law_958 rfl (lv_at hl 2 rfl) ?_
    refine lv_iload hx hb dL_law_959 (lv_at hl 1 rfl) ?_
    refine j_iconst hx hb dL_law_961 ?_
    refine j_iadd hx hb dL_law_962 ?_
    refine j_topE (show (((6 * i : Nat) : Int) + 1) = ((6 * i + 1 : Nat) : Int) by omega) ?_
    refine m_sld hx hb hX hbl hB (n := 6 * i + 1) (by omega) hL dL_law_963 ?_
    refine m_run (va_runV (As := [.int (iI ((xs (6 * i + 1)).toInt))]) (rest := []) ⟨hx, hb, hml, hown, hts⟩ (k_X4_partOf (l := l) hM hI (iI_rg _)) (cwV 1 hts gL_law_X4_partOf rfl rfl rfl (by decide +kernel) ⟨by decide, by decide⟩) ⟨Kp.blind _ _ _ _ _, m_recv hK hB (ci := 4) rfl hM.1, fun U hU hW => hK.pass hB U hU hW⟩ rfl rfl hl.1 rfl (lv_room (Nat.le_of_ble_eq_true rfl)) dL_law_964 ⟨(by show cells + 1 ≤ 632940; omega), (by show slots + 6 ≤ 7197285; omega)⟩) hB (fun v u H locs hp hB => ?_)
    rcases hp with ⟨cB, rfl, hM, hFm⟩ | ⟨cB, rfl, hM, hFm⟩
    · have hC := hC.fr hFm
      have ho := hFm.J ho
      have hV2 := hV
      show W _ _ _ _ _ _ _ _ _ _ _ _ _ _ _ (F0 m 967 ls [.int (iI ((pw σ ((xs (6 * i + 1)).toInt) : Nat) : Int))])
      refine lv_istore (lv' := [(6, .int (iI ((pw σ ((xs (6 * i + 1)).toInt) : Nat) : Int))), (5, .int (iI 0)), (4, .int (iI ((6 * i : Nat) : Int))), (0, .ref b), (1, .ref x), (2, .ref xm), (3, .ref oa)]) hx hb dL_law_967 hl (by decide) rfl (fun ls hl => ?_)
      refine lv_aload_n hx hb dL_law_969 rfl (lv_at hl 5 rfl) ?_
      refine m_run (va_runV (As := []) (rest := []) ⟨hx, hb, hml, hown, hts⟩ (k_X4_thrown (l := l) hM hV2.ib) (cwV 0 hts gL_law_X4_thrown rfl rfl rfl (by decide +kernel) ⟨by decide, by decide⟩) ⟨Kp.blind _ _ _ _ _, m_recv hK hB (ci := 4) rfl hM.1, fun U hU hW => hK.pass hB U hU hW⟩ rfl rfl hl.1 rfl (lv_room (Nat.le_of_ble_eq_true rfl)) dL_law_970 ⟨(by show cells + 1 ≤ 632940; omega), (by show slots + 6 ≤ 7197285; omega)⟩) hB (fun v u H locs hp hB => ?_)
      obtain ⟨rfl, rfl⟩ := hp
      show W _ _ _ _ _ _ _ _ _ _ _ _ _ _ _ (F0 m 973 ls [.int (iI 0)])
      refine lv_iload hx hb dL_law_973 (lv_at hl 1 rfl) ?_
      refine j_icmp_eq (tgt := 980) hx hb dL_law_975 (by decide) ⟨by decide, by decide⟩ ⟨by decide, by decide⟩ (fun _ => ?_) (fun w => absurd rfl w)
      refine lv_iload hx hb dL_law_980 (lv_at hl 1 rfl) ?_
      refine j_if_ne (tgt := 997) hx hb dL_law_982 (by decide) ⟨by decide, by decide⟩ (fun c_1 => absurd c_1 (by decide)) (fun c_1 => ?_)
      refine lv_aload_n hx hb dL_law_985 rfl (lv_at hl 6 rfl) ?_
      refine j_iconst hx hb dL_law_986 ?_
      refine m_lald hx hb hK hB 3 ho rfl in01 dL_law_987 ?_
      refine lv_iload hx hb dL_law_988 (lv_at hl 0 rfl) ?_
      refine lv_i2l hx hb dL_law_990 (rfl : _ = lI ((pw σ ((xs (6 * i + 1)).toInt) : Nat) : Int)) ?_
      refine j_lcmp0 hx hb (show fo2 (iI 0).toNatClampNeg = _ from ef) dL_law_991 ?_
      refine j_if_eq (tgt := 997) hx hb dL_law_992 (by decide) ⟨by decide, by decide⟩ (fun c_2 => ?_) (fun c_2 => absurd c_2 (by decide))
      refine lv_goto (tgt := 1638) hx hb dL_law_997 (by decide) ?_
      refine W.widen (k := cells + 100) (n := slots + 1000) (by show cells + 1 ≤ cells + 100; omega) (by show slots + 6 ≤ slots + 1000; omega) ?_
      exact kk _ _ _ _ _ (LwS.mk hV2 hC hM ho) hB (lv_sub hl [2, 3, 4, 5, 6] rfl)
    · exact (cl_partOf_0_1 (σ := σ) cA cB).elim
  · have hM := hM.frL hFl.L
    have ho := hFl.J ho
    show W _ _ _ _ _ _ _ _ _ _ _ _ _ _ _ (F0 m 955 ls [.int (iI 1)])
    refine lv_istore (lv' := [(5, .int (iI 1)), (4, .int (iI ((6 * i : Nat) : Int))), (0, .ref b), (1, .ref x), (2, .ref xm), (3, .ref oa)]) hx hb dL_law_955 hl (by decide) rfl (fun ls hl => ?_)
    refine lv_aload_n hx hb dL_law_957 rfl (lv_at hl 4 rfl) ?_
    refine lv_aload_n hx hb dL_law_958 rfl (lv_at hl 2 rfl) ?_
    refine lv_iload hx hb dL_law_959 (lv_at hl 1 rfl) ?_
    refine j_iconst hx hb dL_law_961 ?_
    refine j_iadd hx hb dL_law_962 ?_
    refine j_topE (show (((6 * i : Nat) : Int) + 1) = ((6 * i + 1 : Nat) : Int) by omega) ?_
    refine m_sld hx hb hX hbl hB (n := 6 * i + 1) (by omega) hL dL_law_963 ?_
    refine m_run (va_runV (As := [.int (iI ((xs (6 * i + 1)).toInt))]) (rest := []) ⟨hx, hb, hml, hown, hts⟩ (k_X4_partOf (l := l) hM hI (iI_rg _)) (cwV 1 hts gL_law_X4_partOf rfl rfl rfl (by decide +kernel) ⟨by decide, by decide⟩) ⟨Kp.blind _ _ _ _ _, m_recv hK hB (ci := 4) rfl hM.1, fun U hU hW => hK.pass hB U hU hW⟩ rfl rfl hl.1 rfl (lv_room (Nat.le_of_ble_eq_true rfl)) dL_law_964 ⟨(by show cells + 1 ≤ 632940; omega), (by show slots + 6 ≤ 7197285; omega)⟩) hB (fun v u H locs hp hB => ?_)
    rcases hp with ⟨cB, rfl, hM, hFm⟩ | ⟨cB, rfl, hM, hFm⟩
    · exact (cl_partOf_1_0 (σ := σ) cA cB).elim
    · have hC := hC.fr hFm
      have ho := hFm.J ho
      have hV2 := hV
      show W _ _ _ _ _ _ _ _ _ _ _ _ _ _ _ (F0 m 967 ls [.int (iI 0)])
      refine lv_istore (lv' := [(6, .int (iI 0)), (5, .int (iI 1)), (4, .int (iI ((6 * i : Nat) : Int))), (0, .ref b), (1, .ref x), (2, .ref xm), (3, .ref oa)]) hx hb dL_law_967 hl (by decide) rfl (fun ls hl => ?_)
      refine lv_aload_n hx hb dL_law_969 rfl (lv_at hl 5 rfl) ?_
      refine m_run (va_runV (As := []) (rest := []) ⟨hx, hb, hml, hown, hts⟩ (k_X4_thrown (l := l) hM hV2.ib) (cwV 0 hts gL_law_X4_thrown rfl rfl rfl (by decide +kernel) ⟨by decide, by decide⟩) ⟨Kp.blind _ _ _ _ _, m_recv hK hB (ci := 4) rfl hM.1, fun U hU hW => hK.pass hB U hU hW⟩ rfl rfl hl.1 rfl (lv_room (Nat.le_of_ble_eq_true rfl)) dL_law_970 ⟨(by show cells + 1 ≤ 632940; omega), (by show slots + 6 ≤ 7197285; omega)⟩) hB (fun v u H locs hp hB => ?_)
      obtain ⟨rfl, rfl⟩ := hp
      show W _ _ _ _ _ _ _ _ _ _ _ _ _ _ _ (F0 m 973 ls [.int (iI 1)])
      refine lv_iload hx hb dL_law_973 (lv_at hl 1 rfl) ?_
      refine j_icmp_eq (tgt := 980) hx hb dL_law_975 (by decide) ⟨by decide, by decide⟩ ⟨by decide, by decide⟩ (fun _ => ?_) (fun w => absurd rfl w)
      refine lv_iload hx hb dL_law_980 (lv_at hl 1 rfl) ?_
      refine j_if_ne (tgt := 997) hx hb dL_law_982 (by decide) ⟨by decide, by decide⟩ (fun c_3 => ?_) (fun c_3 => absurd c_3 (by decide))
      refine lv_goto (tgt := 1638) hx hb dL_law_997 (by decide) ?_
      refine W.widen (k := cells + 100) (n := slots + 1000) (by show cells + 1 ≤ cells + 100; omega) (by show slots + 6 ≤ slots + 1000; omega) ?_
      exact kk _ _ _ _ _ (LwS.mk hV2 hC hM ho) hB (lv_sub hl [2, 3, 4, 5, 6] rfl)

set_option maxHeartbeats 4000000 in
set_option maxRecDepth 100000 in
theorem lc_13 {l : Launch} (hfl : l.stackTraces = false) {D : va_G} {cI cP cR cJ : ClassId} {p : Program} {e : Env} {s : State} {m : MethodId} {below : List Frame} {meth : Method} {c : Code} {b L : Nat} {xs : Nat → Int32} (hL : L ≤ 3072) (hx : p.tables.exec = Jvm.exec) (hb : c.code = cL_law) (hml : c.maxLocals = 7) (hown : s.vm.findClass RL = some m.cls) (hts : ∀ w ∈ wsL_law, w.before #[Value.ref b] s = true) (hX : va_X b L xs s s.heap) (hbl : b < s.heap.size) (hK : Kb D s.heap.size (tyL cI cP cR cJ) s) {x xm oa i : Nat} (hi : 6 * i + 6 ≤ L) {cells slots : Nat} (hc : cells + 100 ≤ 632940) (hs : slots + 1000 ≤ 7197285) {σ : Sg} {h0 : Hp} {H : Heap} {locs : List Loc} (hS : LwS cI cP cR cJ x xm oa σ h0) (hB : Bk D s.heap.size s.heap h0 H locs) {ls : Array Slot} (hl : lv_has ls 7 [(4, .int (iI ((6 * i : Nat) : Int))), (0, .ref b), (1, .ref x), (2, .ref xm), (3, .ref oa)]) {Q : State → Prop} (kk : ∀ (σ2 : Sg) (h2 : Hp) (H2 : Heap) (locs2 : List Loc) (ls2 : Array Slot), LwS cI cP cR cJ x xm oa σ2 h2 → Bk D s.heap.size s.heap h2 H2 locs2 → lv_has ls2 7 [(4, .int (iI ((6 * i : Nat) : Int))), (0, .ref b), (1, .ref x), (2, .ref xm), (3, .ref oa)] → W p l e room_1 s m #[Value.ref b] below meth c H2 locs2 (cells + 100) (slots + 1000) Q (F0 m 1638 ls2 [])) : W p l e room_1 s m #[Value.ref b] below meth c H locs cells slots Q (F0 m 1000 ls []) := by
  obtain ⟨hV, ⟨xp, xr, pa, ra, hC⟩, ⟨xa, th, hM⟩, fo, ho⟩ := hS
  have hI := hV.ib
  have hnp := hI.hnp
  have hst := hI.2.2.1
  have hnrI := hI.nrI
  refine lv_aload_n hx hb dL_law_1000 rfl (lv_at hl 2 rfl) ?_
  refine lv_aload_n hx hb dL_law_1001 rfl (lv_at hl 1 rfl) ?_
  refine lv_iload hx hb dL_law_1002 (lv_at hl 0 rfl) ?_
  refine j_iconst hx hb dL_law_1004 ?_
  refine j_iadd hx hb dL_law_1005 ?_
  refine j_topE (show (((6 * i : Nat) : Int) + 1) = ((6 * i + 1 : Nat) : Int) by omega) ?_
  refine m_sld hx hb hX hbl hB (n := 6 * i + 1) (by omega) hL dL_law_1006 ?_
  refine lv_aload_n hx hb dL_law_1007 rfl (lv_at hl 4 rfl) ?_
  refine m_run (vx_runSW (As := [.ref x, .int (iI ((xs (6 * i + 1)).toInt)), .ref oa]) (rest := []) ⟨hx, hb, hml, hown, hts⟩ (k_L_leafOf (l := l) hfl hC hI ho (iI_rg _)) (vx_cwSW 3 hts gL_law_L_leafOf rfl rfl rfl (by decide +kernel) ⟨by decide, by decide⟩) ⟨Kp.blind _ _ _ _ _, fun U hU hW => hK.pass hB U hU hW⟩ rfl rfl hl.1 rfl (lv_room (Nat.le_of_ble_eq_true rfl)) dL_law_1008 ⟨(by show cells + 1 ≤ 632940; omega), (by show slots + 6 ≤ 7197285; omega)⟩) hB (fun v u H locs hp hB => ?_)
  rcases hp with ⟨rfl, cA, hC, ⟨fo2, ho, ef⟩, hFl⟩ | ⟨rfl, cA, hC, hFl⟩
  · have hM := hM.frL hFl
    show W _ _ _ _ _ _ _ _ _ _ _ _ _ _ _ (F0 m 1011 ls [.int (iI 0)])
    refine lv_istore (lv' := [(5, .int (iI 0)), (4, .int (iI ((6 * i : Nat) : Int))), (0, .ref b), (1, .ref x), (2, .ref xm), (3, .ref oa)]) hx hb dL_law_1011 hl (by decide) rfl (fun ls hl => ?_)
    refine lv_aload_n hx hb dL_law_1013 rfl (lv_at hl 4 rfl) ?_
    refine lv_aload_n hx hb dL_law_1014 rfl (lv_at hl 2 rfl) ?_
    refine lv_iload hx hb dL_law_1015 (lv_at hl 1 rfl) ?_
    refine j_iconst hx hb dL_law_1017 ?_
    refine j_iadd hx hb dL_law_1018 ?_
    refine j_topE (show (((6 * i : Nat) : Int) + 1) = ((6 * i + 1 : Nat) : Int) by omega) ?_
    refine m_sld hx hb hX hbl hB (n := 6 * i + 1) (by omega) hL dL_law_1019 ?_
    refine m_run (va_runV (As := [.int (iI ((xs (6 * i + 1)).toInt))]) (rest := []) ⟨hx, hb, hml, hown, hts⟩ (k_X4_leafOf (l := l) hM hI (iI_rg _)) (cwV 1 hts gL_law_X4_leafOf rfl rfl rfl (by decide +kernel) ⟨by decide, by decide⟩) ⟨Kp.blind _ _ _ _ _, m_recv hK hB (ci := 4) rfl hM.1, fun U hU hW => hK.pass hB U hU hW⟩ rfl rfl hl.1 rfl (lv_room (Nat.le_of_ble_eq_true rfl)) dL_law_1020 ⟨(by show cells + 1 ≤ 632940; omega), (by show slots + 6 ≤ 7197285; omega)⟩) hB (fun v u H locs hp hB => ?_)
    rcases hp with ⟨cB, rfl, hM, hFm⟩ | ⟨cB, rfl, hM, hFm⟩
    · have hC := hC.fr hFm
      have ho := hFm.J ho
      have hV2 := hV
      show W _ _ _ _ _ _ _ _ _ _ _ _ _ _ _ (F0 m 1023 ls [.int (iI (10 * ((pn σ ((xs (6 * i + 1)).toInt).toNat : Nat) : Int) + lfr σ ((xs (6 * i + 1)).toInt).toNat))])
      refine lv_istore (lv' := [(6, .int (iI (10 * ((pn σ ((xs (6 * i + 1)).toInt).toNat : Nat) : Int) + lfr σ ((xs (6 * i + 1)).toInt).toNat))), (5, .int (iI 0)), (4, .int (iI ((6 * i : Nat) : Int))), (0, .ref b), (1, .ref x), (2, .ref xm), (3, .ref oa)]) hx hb dL_law_1023 hl (by decide) rfl (fun ls hl => ?_)
      refine lv_aload_n hx hb dL_law_1025 rfl (lv_at hl 5 rfl) ?_
      refine m_run (va_runV (As := []) (rest := []) ⟨hx, hb, hml, hown, hts⟩ (k_X4_thrown (l := l) hM hV2.ib) (cwV 0 hts gL_law_X4_thrown rfl rfl rfl (by decide +kernel) ⟨by decide, by decide⟩) ⟨Kp.blind _ _ _ _ _, m_recv hK hB (ci := 4) rfl hM.1, fun U hU hW => hK.pass hB U hU hW⟩ rfl rfl hl.1 rfl (lv_room (Nat.le_of_ble_eq_true rfl)) dL_law_1026 ⟨(by show cells + 1 ≤ 632940; omega), (by show slots + 6 ≤ 7197285; omega)⟩) hB (fun v u H locs hp hB => ?_)
      obtain ⟨rfl, rfl⟩ := hp
      show W _ _ _ _ _ _ _ _ _ _ _ _ _ _ _ (F0 m 1029 ls [.int (iI 0)])
      refine lv_iload hx hb dL_law_1029 (lv_at hl 1 rfl) ?_
      refine j_icmp_eq (tgt := 1036) hx hb dL_law_1031 (by decide) ⟨by decide, by decide⟩ ⟨by decide, by decide⟩ (fun _ => ?_) (fun w => absurd rfl w)
      refine lv_iload hx hb dL_law_1036 (lv_at hl 1 rfl) ?_
      refine j_if_ne (tgt := 1053) hx hb dL_law_1038 (by decide) ⟨by decide, by decide⟩ (fun c_1 => absurd c_1 (by decide)) (fun c_1 => ?_)
      refine lv_aload_n hx hb dL_law_1041 rfl (lv_at hl 6 rfl) ?_
      refine j_iconst hx hb dL_law_1042 ?_
      refine m_lald hx hb hK hB 3 ho rfl in01 dL_law_1043 ?_
      refine lv_iload hx hb dL_law_1044 (lv_at hl 0 rfl) ?_
      refine lv_i2l hx hb dL_law_1046 (rfl : _ = lI (10 * ((pn σ ((xs (6 * i + 1)).toInt).toNat : Nat) : Int) + lfr σ ((xs (6 * i + 1)).toInt).toNat)) ?_
      refine j_lcmp0 hx hb (show fo2 (iI 0).toNatClampNeg = _ from ef) dL_law_1047 ?_
      refine j_if_eq (tgt := 1053) hx hb dL_law_1048 (by decide) ⟨by decide, by decide⟩ (fun c_2 => ?_) (fun c_2 => absurd c_2 (by decide))
      refine lv_goto (tgt := 1638) hx hb dL_law_1053 (by decide) ?_
      refine W.widen (k := cells + 100) (n := slots + 1000) (by show cells + 1 ≤ cells + 100; omega) (by show slots + 6 ≤ slots + 1000; omega) ?_
      exact kk _ _ _ _ _ (LwS.mk hV2 hC hM ho) hB (lv_sub hl [2, 3, 4, 5, 6] rfl)
    · exact (cl_leafOf_0_1 (σ := σ) cA cB).elim
  · have hM := hM.frL hFl.L
    have ho := hFl.J ho
    show W _ _ _ _ _ _ _ _ _ _ _ _ _ _ _ (F0 m 1011 ls [.int (iI 1)])
    refine lv_istore (lv' := [(5, .int (iI 1)), (4, .int (iI ((6 * i : Nat) : Int))), (0, .ref b), (1, .ref x), (2, .ref xm), (3, .ref oa)]) hx hb dL_law_1011 hl (by decide) rfl (fun ls hl => ?_)
    refine lv_aload_n hx hb dL_law_1013 rfl (lv_at hl 4 rfl) ?_
    refine lv_aload_n hx hb dL_law_1014 rfl (lv_at hl 2 rfl) ?_
    refine lv_iload hx hb dL_law_1015 (lv_at hl 1 rfl) ?_
    refine j_iconst hx hb dL_law_1017 ?_
    refine j_iadd hx hb dL_law_1018 ?_
    refine j_topE (show (((6 * i : Nat) : Int) + 1) = ((6 * i + 1 : Nat) : Int) by omega) ?_
    refine m_sld hx hb hX hbl hB (n := 6 * i + 1) (by omega) hL dL_law_1019 ?_
    refine m_run (va_runV (As := [.int (iI ((xs (6 * i + 1)).toInt))]) (rest := []) ⟨hx, hb, hml, hown, hts⟩ (k_X4_leafOf (l := l) hM hI (iI_rg _)) (cwV 1 hts gL_law_X4_leafOf rfl rfl rfl (by decide +kernel) ⟨by decide, by decide⟩) ⟨Kp.blind _ _ _ _ _, m_recv hK hB (ci := 4) rfl hM.1, fun U hU hW => hK.pass hB U hU hW⟩ rfl rfl hl.1 rfl (lv_room (Nat.le_of_ble_eq_true rfl)) dL_law_1020 ⟨(by show cells + 1 ≤ 632940; omega), (by show slots + 6 ≤ 7197285; omega)⟩) hB (fun v u H locs hp hB => ?_)
    rcases hp with ⟨cB, rfl, hM, hFm⟩ | ⟨cB, rfl, hM, hFm⟩
    · exact (cl_leafOf_1_0 (σ := σ) cA cB).elim
    · have hC := hC.fr hFm
      have ho := hFm.J ho
      have hV2 := hV
      show W _ _ _ _ _ _ _ _ _ _ _ _ _ _ _ (F0 m 1023 ls [.int (iI 0)])
      refine lv_istore (lv' := [(6, .int (iI 0)), (5, .int (iI 1)), (4, .int (iI ((6 * i : Nat) : Int))), (0, .ref b), (1, .ref x), (2, .ref xm), (3, .ref oa)]) hx hb dL_law_1023 hl (by decide) rfl (fun ls hl => ?_)
      refine lv_aload_n hx hb dL_law_1025 rfl (lv_at hl 5 rfl) ?_
      refine m_run (va_runV (As := []) (rest := []) ⟨hx, hb, hml, hown, hts⟩ (k_X4_thrown (l := l) hM hV2.ib) (cwV 0 hts gL_law_X4_thrown rfl rfl rfl (by decide +kernel) ⟨by decide, by decide⟩) ⟨Kp.blind _ _ _ _ _, m_recv hK hB (ci := 4) rfl hM.1, fun U hU hW => hK.pass hB U hU hW⟩ rfl rfl hl.1 rfl (lv_room (Nat.le_of_ble_eq_true rfl)) dL_law_1026 ⟨(by show cells + 1 ≤ 632940; omega), (by show slots + 6 ≤ 7197285; omega)⟩) hB (fun v u H locs hp hB => ?_)
      obtain ⟨rfl, rfl⟩ := hp
      show W _ _ _ _ _ _ _ _ _ _ _ _ _ _ _ (F0 m 1029 ls [.int (iI 1)])
      refine lv_iload hx hb dL_law_1029 (lv_at hl 1 rfl) ?_
      refine j_icmp_eq (tgt := 1036) hx hb dL_law_1031 (by decide) ⟨by decide, by decide⟩ ⟨by decide, by decide⟩ (fun _ => ?_) (fun w => absurd rfl w)
      refine lv_iload hx hb dL_law_1036 (lv_at hl 1 rfl) ?_
      refine j_if_ne (tgt := 1053) hx hb dL_law_1038 (by decide) ⟨by decide, by decide⟩ (fun c_3 => ?_) (fun c_3 => absurd c_3 (by decide))
      refine lv_goto (tgt := 1638) hx hb dL_law_1053 (by decide) ?_
      refine W.widen (k := cells + 100) (n := slots + 1000) (by show cells + 1 ≤ cells + 100; omega) (by show slots + 6 ≤ slots + 1000; omega) ?_
      exact kk _ _ _ _ _ (LwS.mk hV2 hC hM ho) hB (lv_sub hl [2, 3, 4, 5, 6] rfl)

set_option maxHeartbeats 4000000 in
set_option maxRecDepth 100000 in
theorem lc_14 {l : Launch} (hfl : l.stackTraces = false) {D : va_G} {cI cP cR cJ : ClassId} {p : Program} {e : Env} {s : State} {m : MethodId} {below : List Frame} {meth : Method} {c : Code} {b L : Nat} {xs : Nat → Int32} (hL : L ≤ 3072) (hx : p.tables.exec = Jvm.exec) (hb : c.code = cL_law) (hml : c.maxLocals = 7) (hown : s.vm.findClass RL = some m.cls) (hts : ∀ w ∈ wsL_law, w.before #[Value.ref b] s = true) (hX : va_X b L xs s s.heap) (hbl : b < s.heap.size) (hK : Kb D s.heap.size (tyL cI cP cR cJ) s) {x xm oa i : Nat} (hi : 6 * i + 6 ≤ L) {cells slots : Nat} (hc : cells + 100 ≤ 632940) (hs : slots + 1000 ≤ 7197285) {σ : Sg} {h0 : Hp} {H : Heap} {locs : List Loc} (hS : LwS cI cP cR cJ x xm oa σ h0) (hB : Bk D s.heap.size s.heap h0 H locs) {ls : Array Slot} (hl : lv_has ls 7 [(4, .int (iI ((6 * i : Nat) : Int))), (0, .ref b), (1, .ref x), (2, .ref xm), (3, .ref oa)]) {Q : State → Prop} (kk : ∀ (σ2 : Sg) (h2 : Hp) (H2 : Heap) (locs2 : List Loc) (ls2 : Array Slot), LwS cI cP cR cJ x xm oa σ2 h2 → Bk D s.heap.size s.heap h2 H2 locs2 → lv_has ls2 7 [(4, .int (iI ((6 * i : Nat) : Int))), (0, .ref b), (1, .ref x), (2, .ref xm), (3, .ref oa)] → W p l e room_1 s m #[Value.ref b] below meth c H2 locs2 (cells + 100) (slots + 1000) Q (F0 m 1638 ls2 [])) : W p l e room_1 s m #[Value.ref b] below meth c H locs cells slots Q (F0 m 1056 ls []) := by
  obtain ⟨hV, ⟨xp, xr, pa, ra, hC⟩, ⟨xa, th, hM⟩, fo, ho⟩ := hS
  have hI := hV.ib
  have hnp := hI.hnp
  have hst := hI.2.2.1
  have hnrI := hI.nrI
  refine lv_aload_n hx hb dL_law_1056 rfl (lv_at hl 2 rfl) ?_
  refine lv_aload_n hx hb dL_law_1057 rfl (lv_at hl 1 rfl) ?_
  refine lv_iload hx hb dL_law_1058 (lv_at hl 0 rfl) ?_
  refine j_iconst hx hb dL_law_1060 ?_
  refine j_iadd hx hb dL_law_1061 ?_
  refine j_topE (show (((6 * i : Nat) : Int) + 1) = ((6 * i + 1 : Nat) : Int) by omega) ?_
  refine m_sld hx hb hX hbl hB (n := 6 * i + 1) (by omega) hL dL_law_1062 ?_
  refine lv_aload_n hx hb dL_law_1063 rfl (lv_at hl 1 rfl) ?_
  refine lv_iload hx hb dL_law_1064 (lv_at hl 0 rfl) ?_
  refine j_iconst hx hb dL_law_1066 ?_
  refine j_iadd hx hb dL_law_1067 ?_
  refine j_topE (show (((6 * i : Nat) : Int) + 2) = ((6 * i + 2 : Nat) : Int) by omega) ?_
  refine m_sld hx hb hX hbl hB (n := 6 * i + 2) (by omega) hL dL_law_1068 ?_
  refine lv_aload_n hx hb dL_law_1069 rfl (lv_at hl 4 rfl) ?_
  refine m_run (vx_runSW (As := [.ref x, .int (iI ((xs (6 * i + 1)).toInt)), .int (iI ((xs (6 * i + 2)).toInt)), .ref oa]) (rest := []) ⟨hx, hb, hml, hown, hts⟩ (k_L_rowsIn (l := l) hfl hC hI ho (iI_rg _) (iI_rg _)) (vx_cwSW 4 hts gL_law_L_rowsIn rfl rfl rfl (by decide +kernel) ⟨by decide, by decide⟩) ⟨Kp.blind _ _ _ _ _, fun U hU hW => hK.pass hB U hU hW⟩ rfl rfl hl.1 rfl (lv_room (Nat.le_of_ble_eq_true rfl)) dL_law_1070 ⟨(by show cells + 3 ≤ 632940; omega), (by show slots + 18 ≤ 7197285; omega)⟩) hB (fun v u H locs hp hB => ?_)
  rcases hp with ⟨rfl, cA, hC, ⟨fo2, ho, ef⟩, hFl⟩ | ⟨rfl, cA, hC, hFl⟩
  · have hM := hM.frL hFl
    show W _ _ _ _ _ _ _ _ _ _ _ _ _ _ _ (F0 m 1073 ls [.int (iI 0)])
    refine lv_istore (lv' := [(5, .int (iI 0)), (4, .int (iI ((6 * i : Nat) : Int))), (0, .ref b), (1, .ref x), (2, .ref xm), (3, .ref oa)]) hx hb dL_law_1073 hl (by decide) rfl (fun ls hl => ?_)
    refine lv_aload_n hx hb dL_law_1075 rfl (lv_at hl 4 rfl) ?_
    refine lv_aload_n hx hb dL_law_1076 rfl (lv_at hl 2 rfl) ?_
    refine lv_iload hx hb dL_law_1077 (lv_at hl 1 rfl) ?_
    refine j_iconst hx hb dL_law_1079 ?_
    refine j_iadd hx hb dL_law_1080 ?_
    refine j_topE (show (((6 * i : Nat) : Int) + 1) = ((6 * i + 1 : Nat) : Int) by omega) ?_
    refine m_sld hx hb hX hbl hB (n := 6 * i + 1) (by omega) hL dL_law_1081 ?_
    refine lv_aload_n hx hb dL_law_1082 rfl (lv_at hl 2 rfl) ?_
    refine lv_iload hx hb dL_law_1083 (lv_at hl 1 rfl) ?_
    refine j_iconst hx hb dL_law_1085 ?_
    refine j_iadd hx hb dL_law_1086 ?_
    refine j_topE (show (((6 * i : Nat) : Int) + 2) = ((6 * i + 2 : Nat) : Int) by omega) ?_
    refine m_sld hx hb hX hbl hB (n := 6 * i + 2) (by omega) hL dL_law_1087 ?_
    refine m_run (va_runV (As := [.int (iI ((xs (6 * i + 1)).toInt)), .int (iI ((xs (6 * i + 2)).toInt))]) (rest := []) ⟨hx, hb, hml, hown, hts⟩ (k_X4_rowsIn (l := l) hM hI (iI_rg _) (iI_rg _)) (cwV 2 hts gL_law_X4_rowsIn rfl rfl rfl (by decide +kernel) ⟨by decide, by decide⟩) ⟨Kp.blind _ _ _ _ _, m_recv hK hB (ci := 4) rfl hM.1, fun U hU hW => hK.pass hB U hU hW⟩ rfl rfl hl.1 rfl (lv_room (Nat.le_of_ble_eq_true rfl)) dL_law_1088 ⟨(by show cells + 3 ≤ 632940; omega), (by show slots + 18 ≤ 7197285; omega)⟩) hB (fun v u H locs hp hB => ?_)
    rcases hp with ⟨cB, rfl, hM, hFm⟩ | ⟨cB, rfl, hM, hFm⟩
    · have hC := hC.fr hFm
      have ho := hFm.J ho
      have hV2 := hV
      show W _ _ _ _ _ _ _ _ _ _ _ _ _ _ _ (F0 m 1091 ls [.int (iI (cnt (fun j => live σ j ∧ (pn σ j = ((xs (6 * i + 1)).toInt).toNat ∧ lfr σ j = ((xs (6 * i + 2)).toInt))) (nrN σ)))])
      refine lv_istore (lv' := [(6, .int (iI (cnt (fun j => live σ j ∧ (pn σ j = ((xs (6 * i + 1)).toInt).toNat ∧ lfr σ j = ((xs (6 * i + 2)).toInt))) (nrN σ)))), (5, .int (iI 0)), (4, .int (iI ((6 * i : Nat) : Int))), (0, .ref b), (1, .ref x), (2, .ref xm), (3, .ref oa)]) hx hb dL_law_1091 hl (by decide) rfl (fun ls hl => ?_)
      refine lv_aload_n hx hb dL_law_1093 rfl (lv_at hl 5 rfl) ?_
      refine m_run (va_runV (As := []) (rest := []) ⟨hx, hb, hml, hown, hts⟩ (k_X4_thrown (l := l) hM hV2.ib) (cwV 0 hts gL_law_X4_thrown rfl rfl rfl (by decide +kernel) ⟨by decide, by decide⟩) ⟨Kp.blind _ _ _ _ _, m_recv hK hB (ci := 4) rfl hM.1, fun U hU hW => hK.pass hB U hU hW⟩ rfl rfl hl.1 rfl (lv_room (Nat.le_of_ble_eq_true rfl)) dL_law_1094 ⟨(by show cells + 3 ≤ 632940; omega), (by show slots + 18 ≤ 7197285; omega)⟩) hB (fun v u H locs hp hB => ?_)
      obtain ⟨rfl, rfl⟩ := hp
      show W _ _ _ _ _ _ _ _ _ _ _ _ _ _ _ (F0 m 1097 ls [.int (iI 0)])
      refine lv_iload hx hb dL_law_1097 (lv_at hl 1 rfl) ?_
      refine j_icmp_eq (tgt := 1104) hx hb dL_law_1099 (by decide) ⟨by decide, by decide⟩ ⟨by decide, by decide⟩ (fun _ => ?_) (fun w => absurd rfl w)
      refine lv_iload hx hb dL_law_1104 (lv_at hl 1 rfl) ?_
      refine j_if_ne (tgt := 1121) hx hb dL_law_1106 (by decide) ⟨by decide, by decide⟩ (fun c_1 => absurd c_1 (by decide)) (fun c_1 => ?_)
      refine lv_aload_n hx hb dL_law_1109 rfl (lv_at hl 6 rfl) ?_
      refine j_iconst hx hb dL_law_1110 ?_
      refine m_lald hx hb hK hB 3 ho rfl in01 dL_law_1111 ?_
      refine lv_iload hx hb dL_law_1112 (lv_at hl 0 rfl) ?_
      refine lv_i2l hx hb dL_law_1114 (rfl : _ = lI (cnt (fun j => live σ j ∧ (pn σ j = ((xs (6 * i + 1)).toInt).toNat ∧ lfr σ j = ((xs (6 * i + 2)).toInt))) (nrN σ))) ?_
      refine j_lcmp0 hx hb (show fo2 (iI 0).toNatClampNeg = _ from ef) dL_law_1115 ?_
      refine j_if_eq (tgt := 1121) hx hb dL_law_1116 (by decide) ⟨by decide, by decide⟩ (fun c_2 => ?_) (fun c_2 => absurd c_2 (by decide))
      refine lv_goto (tgt := 1638) hx hb dL_law_1121 (by decide) ?_
      refine W.widen (k := cells + 100) (n := slots + 1000) (by show cells + 3 ≤ cells + 100; omega) (by show slots + 18 ≤ slots + 1000; omega) ?_
      exact kk _ _ _ _ _ (LwS.mk hV2 hC hM ho) hB (lv_sub hl [2, 3, 4, 5, 6] rfl)
    · exact (cl_rowsIn_0_1 (σ := σ) cA cB).elim
  · have hM := hM.frL hFl.L
    have ho := hFl.J ho
    show W _ _ _ _ _ _ _ _ _ _ _ _ _ _ _ (F0 m 1073 ls [.int (iI 1)])
    refine lv_istore (lv' := [(5, .int (iI 1)), (4, .int (iI ((6 * i : Nat) : Int))), (0, .ref b), (1, .ref x), (2, .ref xm), (3, .ref oa)]) hx hb dL_law_1073 hl (by decide) rfl (fun ls hl => ?_)
    refine lv_aload_n hx hb dL_law_1075 rfl (lv_at hl 4 rfl) ?_
    refine lv_aload_n hx hb dL_law_1076 rfl (lv_at hl 2 rfl) ?_
    refine lv_iload hx hb dL_law_1077 (lv_at hl 1 rfl) ?_
    refine j_iconst hx hb dL_law_1079 ?_
    refine j_iadd hx hb dL_law_1080 ?_
    refine j_topE (show (((6 * i : Nat) : Int) + 1) = ((6 * i + 1 : Nat) : Int) by omega) ?_
    refine m_sld hx hb hX hbl hB (n := 6 * i + 1) (by omega) hL dL_law_1081 ?_
    refine lv_aload_n hx hb dL_law_1082 rfl (lv_at hl 2 rfl) ?_
    refine lv_iload hx hb dL_law_1083 (lv_at hl 1 rfl) ?_
    refine j_iconst hx hb dL_law_1085 ?_
    refine j_iadd hx hb dL_law_1086 ?_
    refine j_topE (show (((6 * i : Nat) : Int) + 2) = ((6 * i + 2 : Nat) : Int) by omega) ?_
    refine m_sld hx hb hX hbl hB (n := 6 * i + 2) (by omega) hL dL_law_1087 ?_
    refine m_run (va_runV (As := [.int (iI ((xs (6 * i + 1)).toInt)), .int (iI ((xs (6 * i + 2)).toInt))]) (rest := []) ⟨hx, hb, hml, hown, hts⟩ (k_X4_rowsIn (l := l) hM hI (iI_rg _) (iI_rg _)) (cwV 2 hts gL_law_X4_rowsIn rfl rfl rfl (by decide +kernel) ⟨by decide, by decide⟩) ⟨Kp.blind _ _ _ _ _, m_recv hK hB (ci := 4) rfl hM.1, fun U hU hW => hK.pass hB U hU hW⟩ rfl rfl hl.1 rfl (lv_room (Nat.le_of_ble_eq_true rfl)) dL_law_1088 ⟨(by show cells + 3 ≤ 632940; omega), (by show slots + 18 ≤ 7197285; omega)⟩) hB (fun v u H locs hp hB => ?_)
    rcases hp with ⟨cB, rfl, hM, hFm⟩ | ⟨cB, rfl, hM, hFm⟩
    · exact (cl_rowsIn_1_0 (σ := σ) cA cB).elim
    · have hC := hC.fr hFm
      have ho := hFm.J ho
      have hV2 := hV
      show W _ _ _ _ _ _ _ _ _ _ _ _ _ _ _ (F0 m 1091 ls [.int (iI 0)])
      refine lv_istore (lv' := [(6, .int (iI 0)), (5, .int (iI 1)), (4, .int (iI ((6 * i : Nat) : Int))), (0, .ref b), (1, .ref x), (2, .ref xm), (3, .ref oa)]) hx hb dL_law_1091 hl (by decide) rfl (fun ls hl => ?_)
      refine lv_aload_n hx hb dL_law_1093 rfl (lv_at hl 5 rfl) ?_
      refine m_run (va_runV (As := []) (rest := []) ⟨hx, hb, hml, hown, hts⟩ (k_X4_thrown (l := l) hM hV2.ib) (cwV 0 hts gL_law_X4_thrown rfl rfl rfl (by decide +kernel) ⟨by decide, by decide⟩) ⟨Kp.blind _ _ _ _ _, m_recv hK hB (ci := 4) rfl hM.1, fun U hU hW => hK.pass hB U hU hW⟩ rfl rfl hl.1 rfl (lv_room (Nat.le_of_ble_eq_true rfl)) dL_law_1094 ⟨(by show cells + 3 ≤ 632940; omega), (by show slots + 18 ≤ 7197285; omega)⟩) hB (fun v u H locs hp hB => ?_)
      obtain ⟨rfl, rfl⟩ := hp
      show W _ _ _ _ _ _ _ _ _ _ _ _ _ _ _ (F0 m 1097 ls [.int (iI 1)])
      refine lv_iload hx hb dL_law_1097 (lv_at hl 1 rfl) ?_
      refine j_icmp_eq (tgt := 1104) hx hb dL_law_1099 (by decide) ⟨by decide, by decide⟩ ⟨by decide, by decide⟩ (fun _ => ?_) (fun w => absurd rfl w)
      refine lv_iload hx hb dL_law_1104 (lv_at hl 1 rfl) ?_
      refine j_if_ne (tgt := 1121) hx hb dL_law_1106 (by decide) ⟨by decide, by decide⟩ (fun c_3 => ?_) (fun c_3 => absurd c_3 (by decide))
      refine lv_goto (tgt := 1638) hx hb dL_law_1121 (by decide) ?_
      refine W.widen (k := cells + 100) (n := slots + 1000) (by show cells + 3 ≤ cells + 100; omega) (by show slots + 18 ≤ slots + 1000; omega) ?_
      exact kk _ _ _ _ _ (LwS.mk hV2 hC hM ho) hB (lv_sub hl [2, 3, 4, 5, 6] rfl)

set_option maxHeartbeats 4000000 in
set_option maxRecDepth 100000 in
theorem lc_15 {l : Launch} (hfl : l.stackTraces = false) {D : va_G} {cI cP cR cJ : ClassId} {p : Program} {e : Env} {s : State} {m : MethodId} {below : List Frame} {meth : Method} {c : Code} {b L : Nat} {xs : Nat → Int32} (hL : L ≤ 3072) (hx : p.tables.exec = Jvm.exec) (hb : c.code = cL_law) (hml : c.maxLocals = 7) (hown : s.vm.findClass RL = some m.cls) (hts : ∀ w ∈ wsL_law, w.before #[Value.ref b] s = true) (hX : va_X b L xs s s.heap) (hbl : b < s.heap.size) (hK : Kb D s.heap.size (tyL cI cP cR cJ) s) {x xm oa i : Nat} (hi : 6 * i + 6 ≤ L) {cells slots : Nat} (hc : cells + 100 ≤ 632940) (hs : slots + 1000 ≤ 7197285) {σ : Sg} {h0 : Hp} {H : Heap} {locs : List Loc} (hS : LwS cI cP cR cJ x xm oa σ h0) (hB : Bk D s.heap.size s.heap h0 H locs) {ls : Array Slot} (hl : lv_has ls 7 [(4, .int (iI ((6 * i : Nat) : Int))), (0, .ref b), (1, .ref x), (2, .ref xm), (3, .ref oa)]) {Q : State → Prop} (kk : ∀ (σ2 : Sg) (h2 : Hp) (H2 : Heap) (locs2 : List Loc) (ls2 : Array Slot), LwS cI cP cR cJ x xm oa σ2 h2 → Bk D s.heap.size s.heap h2 H2 locs2 → lv_has ls2 7 [(4, .int (iI ((6 * i : Nat) : Int))), (0, .ref b), (1, .ref x), (2, .ref xm), (3, .ref oa)] → W p l e room_1 s m #[Value.ref b] below meth c H2 locs2 (cells + 100) (slots + 1000) Q (F0 m 1638 ls2 [])) : W p l e room_1 s m #[Value.ref b] below meth c H locs cells slots Q (F0 m 1124 ls []) := by
  obtain ⟨hV, ⟨xp, xr, pa, ra, hC⟩, ⟨xa, th, hM⟩, fo, ho⟩ := hS
  have hI := hV.ib
  have hnp := hI.hnp
  have hst := hI.2.2.1
  have hnrI := hI.nrI
  refine lv_aload_n hx hb dL_law_1124 rfl (lv_at hl 2 rfl) ?_
  refine m_run (va_runV (As := []) (rest := []) ⟨hx, hb, hml, hown, hts⟩ (k_X3_rows (l := l) hC hI) (cwV 0 hts gL_law_X3_rows rfl rfl rfl (by decide +kernel) ⟨by decide, by decide⟩) ⟨Kp.blind _ _ _ _ _, m_recv hK hB (ci := 3) rfl hC.tb, fun U hU hW => hK.pass hB U hU hW⟩ rfl rfl hl.1 rfl (lv_room (Nat.le_of_ble_eq_true rfl)) dL_law_1125 ⟨(by show cells + 0 ≤ 632940; omega), (by show slots + 0 ≤ 7197285; omega)⟩) hB (fun v u H locs hp hB => ?_)
  obtain ⟨rfl, hC, hFm⟩ := hp
  have hM := hM.fr hFm
  have ho := hFm.J ho
  show W _ _ _ _ _ _ _ _ _ _ _ _ _ _ _ (F0 m 1128 ls [.int (iI (cnt (fun j => live σ j ∧ σ 4 (pn σ j) = 0) (nrN σ)))])
  refine lv_aload_n hx hb dL_law_1128 rfl (lv_at hl 3 rfl) ?_
  refine m_run (va_runV (As := []) (rest := [.int (iI (cnt (fun j => live σ j ∧ σ 4 (pn σ j) = 0) (nrN σ)))]) ⟨hx, hb, hml, hown, hts⟩ (k_X4_rows (l := l) hM hI ) (cwV 0 hts gL_law_X4_rows rfl rfl rfl (by decide +kernel) ⟨by decide, by decide⟩) ⟨Kp.blind _ _ _ _ _, m_recv hK hB (ci := 4) rfl hM.1, fun U hU hW => hK.pass hB U hU hW⟩ rfl rfl hl.1 rfl (lv_room (Nat.le_of_ble_eq_true rfl)) dL_law_1129 ⟨(by show cells + 0 ≤ 632940; omega), (by show slots + 0 ≤ 7197285; omega)⟩) hB (fun v u H locs hp hB => ?_)
  obtain ⟨cB, rfl, hM, hFm⟩ := hp
  have hC := hC.fr hFm
  have ho := hFm.J ho
  have hV2 := hV
  show W _ _ _ _ _ _ _ _ _ _ _ _ _ _ _ (F0 m 1132 ls [.int (iI (cnt (fun j => live σ j ∧ σ 4 (pn σ j) = 0) (nrN σ))), .int (iI (cnt (fun j => live σ j ∧ σ 4 (pn σ j) = 0) (nrN σ)))])
  refine j_icmp_eq (tgt := 1638) hx hb dL_law_1132 (by decide) (cnt_rgI hV2.ib _) (cnt_rgI hV2.ib _) (fun _ => ?_) (fun w => absurd rfl w)
  refine W.widen (k := cells + 100) (n := slots + 1000) (by show cells + 0 ≤ cells + 100; omega) (by show slots + 0 ≤ slots + 1000; omega) ?_
  exact kk _ _ _ _ _ (LwS.mk hV2 hC hM ho) hB (lv_sub hl [0, 1, 2, 3, 4] rfl)

set_option maxHeartbeats 4000000 in
set_option maxRecDepth 100000 in
theorem lc_16 {l : Launch} (hfl : l.stackTraces = false) {D : va_G} {cI cP cR cJ : ClassId} {p : Program} {e : Env} {s : State} {m : MethodId} {below : List Frame} {meth : Method} {c : Code} {b L : Nat} {xs : Nat → Int32} (hL : L ≤ 3072) (hx : p.tables.exec = Jvm.exec) (hb : c.code = cL_law) (hml : c.maxLocals = 7) (hown : s.vm.findClass RL = some m.cls) (hts : ∀ w ∈ wsL_law, w.before #[Value.ref b] s = true) (hX : va_X b L xs s s.heap) (hbl : b < s.heap.size) (hK : Kb D s.heap.size (tyL cI cP cR cJ) s) {x xm oa i : Nat} (hi : 6 * i + 6 ≤ L) {cells slots : Nat} (hc : cells + 100 ≤ 632940) (hs : slots + 1000 ≤ 7197285) {σ : Sg} {h0 : Hp} {H : Heap} {locs : List Loc} (hS : LwS cI cP cR cJ x xm oa σ h0) (hB : Bk D s.heap.size s.heap h0 H locs) {ls : Array Slot} (hl : lv_has ls 7 [(4, .int (iI ((6 * i : Nat) : Int))), (0, .ref b), (1, .ref x), (2, .ref xm), (3, .ref oa)]) {Q : State → Prop} (kk : ∀ (σ2 : Sg) (h2 : Hp) (H2 : Heap) (locs2 : List Loc) (ls2 : Array Slot), LwS cI cP cR cJ x xm oa σ2 h2 → Bk D s.heap.size s.heap h2 H2 locs2 → lv_has ls2 7 [(4, .int (iI ((6 * i : Nat) : Int))), (0, .ref b), (1, .ref x), (2, .ref xm), (3, .ref oa)] → W p l e room_1 s m #[Value.ref b] below meth c H2 locs2 (cells + 100) (slots + 1000) Q (F0 m 1638 ls2 [])) : W p l e room_1 s m #[Value.ref b] below meth c H locs cells slots Q (F0 m 1137 ls []) := by
  obtain ⟨hV, ⟨xp, xr, pa, ra, hC⟩, ⟨xa, th, hM⟩, fo, ho⟩ := hS
  have hI := hV.ib
  have hnp := hI.hnp
  have hst := hI.2.2.1
  have hnrI := hI.nrI
  refine lv_aload_n hx hb dL_law_1137 rfl (lv_at hl 2 rfl) ?_
  refine lv_aload_n hx hb dL_law_1138 rfl (lv_at hl 1 rfl) ?_
  refine lv_iload hx hb dL_law_1139 (lv_at hl 0 rfl) ?_
  refine j_iconst hx hb dL_law_1141 ?_
  refine j_iadd hx hb dL_law_1142 ?_
  refine j_topE (show (((6 * i : Nat) : Int) + 1) = ((6 * i + 1 : Nat) : Int) by omega) ?_
  refine m_sld hx hb hX hbl hB (n := 6 * i + 1) (by omega) hL dL_law_1143 ?_
  refine lv_aload_n hx hb dL_law_1144 rfl (lv_at hl 1 rfl) ?_
  refine lv_iload hx hb dL_law_1145 (lv_at hl 0 rfl) ?_
  refine j_iconst hx hb dL_law_1147 ?_
  refine j_iadd hx hb dL_law_1148 ?_
  refine j_topE (show (((6 * i : Nat) : Int) + 2) = ((6 * i + 2 : Nat) : Int) by omega) ?_
  refine m_sld hx hb hX hbl hB (n := 6 * i + 2) (by omega) hL dL_law_1149 ?_
  refine lv_aload_n hx hb dL_law_1150 rfl (lv_at hl 1 rfl) ?_
  refine lv_iload hx hb dL_law_1151 (lv_at hl 0 rfl) ?_
  refine j_iconst hx hb dL_law_1153 ?_
  refine j_iadd hx hb dL_law_1154 ?_
  refine j_topE (show (((6 * i : Nat) : Int) + 3) = ((6 * i + 3 : Nat) : Int) by omega) ?_
  refine m_sld hx hb hX hbl hB (n := 6 * i + 3) (by omega) hL dL_law_1155 ?_
  refine lv_aload_n hx hb dL_law_1156 rfl (lv_at hl 4 rfl) ?_
  refine m_run (vx_runSW (As := [.ref x, .int (iI ((xs (6 * i + 1)).toInt)), .int (iI ((xs (6 * i + 2)).toInt)), .int (iI ((xs (6 * i + 3)).toInt)), .ref oa]) (rest := []) ⟨hx, hb, hml, hown, hts⟩ (k_L_count (l := l) hfl hC hI ho (iI_rg _) (iI_rg _) (iI_rg _)) (vx_cwSW 5 hts gL_law_L_count rfl rfl rfl (by decide +kernel) ⟨by decide, by decide⟩) ⟨Kp.blind _ _ _ _ _, fun U hU hW => hK.pass hB U hU hW⟩ rfl rfl hl.1 rfl (lv_room (Nat.le_of_ble_eq_true rfl)) dL_law_1157 ⟨(by show cells + 3 ≤ 632940; omega), (by show slots + 15 ≤ 7197285; omega)⟩) hB (fun v u H locs hp hB => ?_)
  rcases hp with ⟨rfl, cA, hC, ⟨fo2, ho, ef⟩, hFl⟩ | ⟨rfl, cA, hC, hFl⟩
  · have hM := hM.frL hFl
    show W _ _ _ _ _ _ _ _ _ _ _ _ _ _ _ (F0 m 1160 ls [.int (iI 0)])
    refine lv_istore (lv' := [(5, .int (iI 0)), (4, .int (iI ((6 * i : Nat) : Int))), (0, .ref b), (1, .ref x), (2, .ref xm), (3, .ref oa)]) hx hb dL_law_1160 hl (by decide) rfl (fun ls hl => ?_)
    refine lv_aload_n hx hb dL_law_1162 rfl (lv_at hl 4 rfl) ?_
    refine lv_aload_n hx hb dL_law_1163 rfl (lv_at hl 2 rfl) ?_
    refine lv_iload hx hb dL_law_1164 (lv_at hl 1 rfl) ?_
    refine j_iconst hx hb dL_law_1166 ?_
    refine j_iadd hx hb dL_law_1167 ?_
    refine j_topE (show (((6 * i : Nat) : Int) + 1) = ((6 * i + 1 : Nat) : Int) by omega) ?_
    refine m_sld hx hb hX hbl hB (n := 6 * i + 1) (by omega) hL dL_law_1168 ?_
    refine lv_aload_n hx hb dL_law_1169 rfl (lv_at hl 2 rfl) ?_
    refine lv_iload hx hb dL_law_1170 (lv_at hl 1 rfl) ?_
    refine j_iconst hx hb dL_law_1172 ?_
    refine j_iadd hx hb dL_law_1173 ?_
    refine j_topE (show (((6 * i : Nat) : Int) + 2) = ((6 * i + 2 : Nat) : Int) by omega) ?_
    refine m_sld hx hb hX hbl hB (n := 6 * i + 2) (by omega) hL dL_law_1174 ?_
    refine lv_aload_n hx hb dL_law_1175 rfl (lv_at hl 2 rfl) ?_
    refine lv_iload hx hb dL_law_1176 (lv_at hl 1 rfl) ?_
    refine j_iconst hx hb dL_law_1178 ?_
    refine j_iadd hx hb dL_law_1179 ?_
    refine j_topE (show (((6 * i : Nat) : Int) + 3) = ((6 * i + 3 : Nat) : Int) by omega) ?_
    refine m_sld hx hb hX hbl hB (n := 6 * i + 3) (by omega) hL dL_law_1180 ?_
    refine m_run (va_runV (As := [.int (iI ((xs (6 * i + 1)).toInt)), .int (iI ((xs (6 * i + 2)).toInt)), .int (iI ((xs (6 * i + 3)).toInt))]) (rest := []) ⟨hx, hb, hml, hown, hts⟩ (k_X4_count (l := l) hM hI (iI_rg _) (iI_rg _) (iI_rg _)) (cwV 3 hts gL_law_X4_count rfl rfl rfl (by decide +kernel) ⟨by decide, by decide⟩) ⟨Kp.blind _ _ _ _ _, m_recv hK hB (ci := 4) rfl hM.1, fun U hU hW => hK.pass hB U hU hW⟩ rfl rfl hl.1 rfl (lv_room (Nat.le_of_ble_eq_true rfl)) dL_law_1181 ⟨(by show cells + 3 ≤ 632940; omega), (by show slots + 15 ≤ 7197285; omega)⟩) hB (fun v u H locs hp hB => ?_)
    rcases hp with ⟨cB, rfl, hM, hFm⟩ | ⟨cB, rfl, hM, hFm⟩
    · have hC := hC.fr hFm
      have ho := hFm.J ho
      have hV2 := hV
      show W _ _ _ _ _ _ _ _ _ _ _ _ _ _ _ (F0 m 1184 ls [.int (iI (cnt (fun j => live σ j ∧ σ 4 (pn σ j) = 0 ∧ (((xs (6 * i + 1)).toInt) ≤ σ 6 j ∧ σ 6 j ≤ ((xs (6 * i + 2)).toInt) ∧ hbit ((xs (6 * i + 3)).toInt) (σ 7 j))) (nrN σ)))])
      refine lv_istore (lv' := [(6, .int (iI (cnt (fun j => live σ j ∧ σ 4 (pn σ j) = 0 ∧ (((xs (6 * i + 1)).toInt) ≤ σ 6 j ∧ σ 6 j ≤ ((xs (6 * i + 2)).toInt) ∧ hbit ((xs (6 * i + 3)).toInt) (σ 7 j))) (nrN σ)))), (5, .int (iI 0)), (4, .int (iI ((6 * i : Nat) : Int))), (0, .ref b), (1, .ref x), (2, .ref xm), (3, .ref oa)]) hx hb dL_law_1184 hl (by decide) rfl (fun ls hl => ?_)
      refine lv_aload_n hx hb dL_law_1186 rfl (lv_at hl 5 rfl) ?_
      refine m_run (va_runV (As := []) (rest := []) ⟨hx, hb, hml, hown, hts⟩ (k_X4_thrown (l := l) hM hV2.ib) (cwV 0 hts gL_law_X4_thrown rfl rfl rfl (by decide +kernel) ⟨by decide, by decide⟩) ⟨Kp.blind _ _ _ _ _, m_recv hK hB (ci := 4) rfl hM.1, fun U hU hW => hK.pass hB U hU hW⟩ rfl rfl hl.1 rfl (lv_room (Nat.le_of_ble_eq_true rfl)) dL_law_1187 ⟨(by show cells + 3 ≤ 632940; omega), (by show slots + 15 ≤ 7197285; omega)⟩) hB (fun v u H locs hp hB => ?_)
      obtain ⟨rfl, rfl⟩ := hp
      show W _ _ _ _ _ _ _ _ _ _ _ _ _ _ _ (F0 m 1190 ls [.int (iI 0)])
      refine lv_iload hx hb dL_law_1190 (lv_at hl 1 rfl) ?_
      refine j_icmp_eq (tgt := 1197) hx hb dL_law_1192 (by decide) ⟨by decide, by decide⟩ ⟨by decide, by decide⟩ (fun _ => ?_) (fun w => absurd rfl w)
      refine lv_iload hx hb dL_law_1197 (lv_at hl 1 rfl) ?_
      refine j_if_ne (tgt := 1214) hx hb dL_law_1199 (by decide) ⟨by decide, by decide⟩ (fun c_1 => absurd c_1 (by decide)) (fun c_1 => ?_)
      refine lv_aload_n hx hb dL_law_1202 rfl (lv_at hl 6 rfl) ?_
      refine j_iconst hx hb dL_law_1203 ?_
      refine m_lald hx hb hK hB 3 ho rfl in01 dL_law_1204 ?_
      refine lv_iload hx hb dL_law_1205 (lv_at hl 0 rfl) ?_
      refine lv_i2l hx hb dL_law_1207 (rfl : _ = lI (cnt (fun j => live σ j ∧ σ 4 (pn σ j) = 0 ∧ (((xs (6 * i + 1)).toInt) ≤ σ 6 j ∧ σ 6 j ≤ ((xs (6 * i + 2)).toInt) ∧ hbit ((xs (6 * i + 3)).toInt) (σ 7 j))) (nrN σ))) ?_
      refine j_lcmp0 hx hb (show fo2 (iI 0).toNatClampNeg = _ from (ef.trans (congrArg lI (cntA_eq hV (by unfold okQ at cA; omega) (by unfold okQ at cA; omega))))) dL_law_1208 ?_
      refine j_if_eq (tgt := 1214) hx hb dL_law_1209 (by decide) ⟨by decide, by decide⟩ (fun c_2 => ?_) (fun c_2 => absurd c_2 (by decide))
      refine lv_goto (tgt := 1638) hx hb dL_law_1214 (by decide) ?_
      refine W.widen (k := cells + 100) (n := slots + 1000) (by show cells + 3 ≤ cells + 100; omega) (by show slots + 15 ≤ slots + 1000; omega) ?_
      exact kk _ _ _ _ _ (LwS.mk hV2 hC hM ho) hB (lv_sub hl [2, 3, 4, 5, 6] rfl)
    · exact (cl_count_0_1 (σ := σ) cA cB).elim
  · have hM := hM.frL hFl.L
    have ho := hFl.J ho
    show W _ _ _ _ _ _ _ _ _ _ _ _ _ _ _ (F0 m 1160 ls [.int (iI 1)])
    refine lv_istore (lv' := [(5, .int (iI 1)), (4, .int (iI ((6 * i : Nat) : Int))), (0, .ref b), (1, .ref x), (2, .ref xm), (3, .ref oa)]) hx hb dL_law_1160 hl (by decide) rfl (fun ls hl => ?_)
    refine lv_aload_n hx hb dL_law_1162 rfl (lv_at hl 4 rfl) ?_
    refine lv_aload_n hx hb dL_law_1163 rfl (lv_at hl 2 rfl) ?_
    refine lv_iload hx hb dL_law_1164 (lv_at hl 1 rfl) ?_
    refine j_iconst hx hb dL_law_1166 ?_
    refine j_iadd hx hb dL_law_1167 ?_
    refine j_topE (show (((6 * i : Nat) : Int) + 1) = ((6 * i + 1 : Nat) : Int) by omega) ?_
    refine m_sld hx hb hX hbl hB (n := 6 * i + 1) (by omega) hL dL_law_1168 ?_
    refine lv_aload_n hx hb dL_law_1169 rfl (lv_at hl 2 rfl) ?_
    refine lv_iload hx hb dL_law_1170 (lv_at hl 1 rfl) ?_
    refine j_iconst hx hb dL_law_1172 ?_
    refine j_iadd hx hb dL_law_1173 ?_
    refine j_topE (show (((6 * i : Nat) : Int) + 2) = ((6 * i + 2 : Nat) : Int) by omega) ?_
    refine m_sld hx hb hX hbl hB (n := 6 * i + 2) (by omega) hL dL_law_1174 ?_
    refine lv_aload_n hx hb dL_law_1175 rfl (lv_at hl 2 rfl) ?_
    refine lv_iload hx hb dL_law_1176 (lv_at hl 1 rfl) ?_
    refine j_iconst hx hb dL_law_1178 ?_
    refine j_iadd hx hb dL_law_1179 ?_
    refine j_topE (show (((6 * i : Nat) : Int) + 3) = ((6 * i + 3 : Nat) : Int) by omega) ?_
    refine m_sld hx hb hX hbl hB (n := 6 * i + 3) (by omega) hL dL_law_1180 ?_
    refine m_run (va_runV (As := [.int (iI ((xs (6 * i + 1)).toInt)), .int (iI ((xs (6 * i + 2)).toInt)), .int (iI ((xs (6 * i + 3)).toInt))]) (rest := []) ⟨hx, hb, hml, hown, hts⟩ (k_X4_count (l := l) hM hI (iI_rg _) (iI_rg _) (iI_rg _)) (cwV 3 hts gL_law_X4_count rfl rfl rfl (by decide +kernel) ⟨by decide, by decide⟩) ⟨Kp.blind _ _ _ _ _, m_recv hK hB (ci := 4) rfl hM.1, fun U hU hW => hK.pass hB U hU hW⟩ rfl rfl hl.1 rfl (lv_room (Nat.le_of_ble_eq_true rfl)) dL_law_1181 ⟨(by show cells + 3 ≤ 632940; omega), (by show slots + 15 ≤ 7197285; omega)⟩) hB (fun v u H locs hp hB => ?_)
    rcases hp with ⟨cB, rfl, hM, hFm⟩ | ⟨cB, rfl, hM, hFm⟩
    · exact (cl_count_1_0 (σ := σ) cA cB).elim
    · have hC := hC.fr hFm
      have ho := hFm.J ho
      have hV2 := hV
      show W _ _ _ _ _ _ _ _ _ _ _ _ _ _ _ (F0 m 1184 ls [.int (iI 0)])
      refine lv_istore (lv' := [(6, .int (iI 0)), (5, .int (iI 1)), (4, .int (iI ((6 * i : Nat) : Int))), (0, .ref b), (1, .ref x), (2, .ref xm), (3, .ref oa)]) hx hb dL_law_1184 hl (by decide) rfl (fun ls hl => ?_)
      refine lv_aload_n hx hb dL_law_1186 rfl (lv_at hl 5 rfl) ?_
      refine m_run (va_runV (As := []) (rest := []) ⟨hx, hb, hml, hown, hts⟩ (k_X4_thrown (l := l) hM hV2.ib) (cwV 0 hts gL_law_X4_thrown rfl rfl rfl (by decide +kernel) ⟨by decide, by decide⟩) ⟨Kp.blind _ _ _ _ _, m_recv hK hB (ci := 4) rfl hM.1, fun U hU hW => hK.pass hB U hU hW⟩ rfl rfl hl.1 rfl (lv_room (Nat.le_of_ble_eq_true rfl)) dL_law_1187 ⟨(by show cells + 3 ≤ 632940; omega), (by show slots + 15 ≤ 7197285; omega)⟩) hB (fun v u H locs hp hB => ?_)
      obtain ⟨rfl, rfl⟩ := hp
      show W _ _ _ _ _ _ _ _ _ _ _ _ _ _ _ (F0 m 1190 ls [.int (iI 1)])
      refine lv_iload hx hb dL_law_1190 (lv_at hl 1 rfl) ?_
      refine j_icmp_eq (tgt := 1197) hx hb dL_law_1192 (by decide) ⟨by decide, by decide⟩ ⟨by decide, by decide⟩ (fun _ => ?_) (fun w => absurd rfl w)
      refine lv_iload hx hb dL_law_1197 (lv_at hl 1 rfl) ?_
      refine j_if_ne (tgt := 1214) hx hb dL_law_1199 (by decide) ⟨by decide, by decide⟩ (fun c_3 => ?_) (fun c_3 => absurd c_3 (by decide))
      refine lv_goto (tgt := 1638) hx hb dL_law_1214 (by decide) ?_
      refine W.widen (k := cells + 100) (n := slots + 1000) (by show cells + 3 ≤ cells + 100; omega) (by show slots + 15 ≤ slots + 1000; omega) ?_
      exact kk _ _ _ _ _ (LwS.mk hV2 hC hM ho) hB (lv_sub hl [2, 3, 4, 5, 6] rfl)

set_option maxHeartbeats 4000000 in
set_option maxRecDepth 100000 in
theorem lc_17 {l : Launch} (hfl : l.stackTraces = false) {D : va_G} {cI cP cR cJ : ClassId} {p : Program} {e : Env} {s : State} {m : MethodId} {below : List Frame} {meth : Method} {c : Code} {b L : Nat} {xs : Nat → Int32} (hL : L ≤ 3072) (hx : p.tables.exec = Jvm.exec) (hb : c.code = cL_law) (hml : c.maxLocals = 7) (hown : s.vm.findClass RL = some m.cls) (hts : ∀ w ∈ wsL_law, w.before #[Value.ref b] s = true) (hX : va_X b L xs s s.heap) (hbl : b < s.heap.size) (hK : Kb D s.heap.size (tyL cI cP cR cJ) s) {x xm oa i : Nat} (hi : 6 * i + 6 ≤ L) {cells slots : Nat} (hc : cells + 100 ≤ 632940) (hs : slots + 1000 ≤ 7197285) {σ : Sg} {h0 : Hp} {H : Heap} {locs : List Loc} (hS : LwS cI cP cR cJ x xm oa σ h0) (hB : Bk D s.heap.size s.heap h0 H locs) {ls : Array Slot} (hl : lv_has ls 7 [(4, .int (iI ((6 * i : Nat) : Int))), (0, .ref b), (1, .ref x), (2, .ref xm), (3, .ref oa)]) {Q : State → Prop} (kk : ∀ (σ2 : Sg) (h2 : Hp) (H2 : Heap) (locs2 : List Loc) (ls2 : Array Slot), LwS cI cP cR cJ x xm oa σ2 h2 → Bk D s.heap.size s.heap h2 H2 locs2 → lv_has ls2 7 [(4, .int (iI ((6 * i : Nat) : Int))), (0, .ref b), (1, .ref x), (2, .ref xm), (3, .ref oa)] → W p l e room_1 s m #[Value.ref b] below meth c H2 locs2 (cells + 100) (slots + 1000) Q (F0 m 1638 ls2 [])) : W p l e room_1 s m #[Value.ref b] below meth c H locs cells slots Q (F0 m 1217 ls []) := by
  obtain ⟨hV, ⟨xp, xr, pa, ra, hC⟩, ⟨xa, th, hM⟩, fo, ho⟩ := hS
  have hI := hV.ib
  have hnp := hI.hnp
  have hst := hI.2.2.1
  have hnrI := hI.nrI
  refine lv_aload_n hx hb dL_law_1217 rfl (lv_at hl 2 rfl) ?_
  refine lv_aload_n hx hb dL_law_1218 rfl (lv_at hl 1 rfl) ?_
  refine lv_iload hx hb dL_law_1219 (lv_at hl 0 rfl) ?_
  refine j_iconst hx hb dL_law_1221 ?_
  refine j_iadd hx hb dL_law_1222 ?_
  refine j_topE (show (((6 * i : Nat) : Int) + 1) = ((6 * i + 1 : Nat) : Int) by omega) ?_
  refine m_sld hx hb hX hbl hB (n := 6 * i + 1) (by omega) hL dL_law_1223 ?_
  refine lv_aload_n hx hb dL_law_1224 rfl (lv_at hl 1 rfl) ?_
  refine lv_iload hx hb dL_law_1225 (lv_at hl 0 rfl) ?_
  refine j_iconst hx hb dL_law_1227 ?_
  refine j_iadd hx hb dL_law_1228 ?_
  refine j_topE (show (((6 * i : Nat) : Int) + 2) = ((6 * i + 2 : Nat) : Int) by omega) ?_
  refine m_sld hx hb hX hbl hB (n := 6 * i + 2) (by omega) hL dL_law_1229 ?_
  refine lv_aload_n hx hb dL_law_1230 rfl (lv_at hl 1 rfl) ?_
  refine lv_iload hx hb dL_law_1231 (lv_at hl 0 rfl) ?_
  refine j_iconst hx hb dL_law_1233 ?_
  refine j_iadd hx hb dL_law_1234 ?_
  refine j_topE (show (((6 * i : Nat) : Int) + 3) = ((6 * i + 3 : Nat) : Int) by omega) ?_
  refine m_sld hx hb hX hbl hB (n := 6 * i + 3) (by omega) hL dL_law_1235 ?_
  refine lv_aload_n hx hb dL_law_1236 rfl (lv_at hl 4 rfl) ?_
  refine m_run (vx_runSW (As := [.ref x, .int (iI ((xs (6 * i + 1)).toInt)), .int (iI ((xs (6 * i + 2)).toInt)), .int (iI ((xs (6 * i + 3)).toInt)), .ref oa]) (rest := []) ⟨hx, hb, hml, hown, hts⟩ (k_L_countPlain (l := l) hfl hC hI ho (iI_rg _) (iI_rg _) (iI_rg _)) (vx_cwSW 5 hts gL_law_L_countPlain rfl rfl rfl (by decide +kernel) ⟨by decide, by decide⟩) ⟨Kp.blind _ _ _ _ _, fun U hU hW => hK.pass hB U hU hW⟩ rfl rfl hl.1 rfl (lv_room (Nat.le_of_ble_eq_true rfl)) dL_law_1237 ⟨(by show cells + 3 ≤ 632940; omega), (by show slots + 15 ≤ 7197285; omega)⟩) hB (fun v u H locs hp hB => ?_)
  rcases hp with ⟨rfl, cA, hC, ⟨fo2, ho, ef⟩, hFl⟩ | ⟨rfl, cA, hC, hFl⟩
  · have hM := hM.frL hFl
    show W _ _ _ _ _ _ _ _ _ _ _ _ _ _ _ (F0 m 1240 ls [.int (iI 0)])
    refine lv_istore (lv' := [(5, .int (iI 0)), (4, .int (iI ((6 * i : Nat) : Int))), (0, .ref b), (1, .ref x), (2, .ref xm), (3, .ref oa)]) hx hb dL_law_1240 hl (by decide) rfl (fun ls hl => ?_)
    refine lv_aload_n hx hb dL_law_1242 rfl (lv_at hl 4 rfl) ?_
    refine lv_aload_n hx hb dL_law_1243 rfl (lv_at hl 2 rfl) ?_
    refine lv_iload hx hb dL_law_1244 (lv_at hl 1 rfl) ?_
    refine j_iconst hx hb dL_law_1246 ?_
    refine j_iadd hx hb dL_law_1247 ?_
    refine j_topE (show (((6 * i : Nat) : Int) + 1) = ((6 * i + 1 : Nat) : Int) by omega) ?_
    refine m_sld hx hb hX hbl hB (n := 6 * i + 1) (by omega) hL dL_law_1248 ?_
    refine lv_aload_n hx hb dL_law_1249 rfl (lv_at hl 2 rfl) ?_
    refine lv_iload hx hb dL_law_1250 (lv_at hl 1 rfl) ?_
    refine j_iconst hx hb dL_law_1252 ?_
    refine j_iadd hx hb dL_law_1253 ?_
    refine j_topE (show (((6 * i : Nat) : Int) + 2) = ((6 * i + 2 : Nat) : Int) by omega) ?_
    refine m_sld hx hb hX hbl hB (n := 6 * i + 2) (by omega) hL dL_law_1254 ?_
    refine lv_aload_n hx hb dL_law_1255 rfl (lv_at hl 2 rfl) ?_
    refine lv_iload hx hb dL_law_1256 (lv_at hl 1 rfl) ?_
    refine j_iconst hx hb dL_law_1258 ?_
    refine j_iadd hx hb dL_law_1259 ?_
    refine j_topE (show (((6 * i : Nat) : Int) + 3) = ((6 * i + 3 : Nat) : Int) by omega) ?_
    refine m_sld hx hb hX hbl hB (n := 6 * i + 3) (by omega) hL dL_law_1260 ?_
    refine m_run (va_runV (As := [.int (iI ((xs (6 * i + 1)).toInt)), .int (iI ((xs (6 * i + 2)).toInt)), .int (iI ((xs (6 * i + 3)).toInt))]) (rest := []) ⟨hx, hb, hml, hown, hts⟩ (k_X4_countPlain (l := l) hM hI (iI_rg _) (iI_rg _) (iI_rg _)) (cwV 3 hts gL_law_X4_countPlain rfl rfl rfl (by decide +kernel) ⟨by decide, by decide⟩) ⟨Kp.blind _ _ _ _ _, m_recv hK hB (ci := 4) rfl hM.1, fun U hU hW => hK.pass hB U hU hW⟩ rfl rfl hl.1 rfl (lv_room (Nat.le_of_ble_eq_true rfl)) dL_law_1261 ⟨(by show cells + 3 ≤ 632940; omega), (by show slots + 15 ≤ 7197285; omega)⟩) hB (fun v u H locs hp hB => ?_)
    rcases hp with ⟨cB, rfl, hM, hFm⟩ | ⟨cB, rfl, hM, hFm⟩
    · have hC := hC.fr hFm
      have ho := hFm.J ho
      have hV2 := hV
      show W _ _ _ _ _ _ _ _ _ _ _ _ _ _ _ (F0 m 1264 ls [.int (iI (cnt (fun j => live σ j ∧ σ 4 (pn σ j) = 0 ∧ (((xs (6 * i + 1)).toInt) ≤ σ 6 j ∧ σ 6 j ≤ ((xs (6 * i + 2)).toInt) ∧ hbit ((xs (6 * i + 3)).toInt) (σ 7 j))) (nrN σ)))])
      refine lv_istore (lv' := [(6, .int (iI (cnt (fun j => live σ j ∧ σ 4 (pn σ j) = 0 ∧ (((xs (6 * i + 1)).toInt) ≤ σ 6 j ∧ σ 6 j ≤ ((xs (6 * i + 2)).toInt) ∧ hbit ((xs (6 * i + 3)).toInt) (σ 7 j))) (nrN σ)))), (5, .int (iI 0)), (4, .int (iI ((6 * i : Nat) : Int))), (0, .ref b), (1, .ref x), (2, .ref xm), (3, .ref oa)]) hx hb dL_law_1264 hl (by decide) rfl (fun ls hl => ?_)
      refine lv_aload_n hx hb dL_law_1266 rfl (lv_at hl 5 rfl) ?_
      refine m_run (va_runV (As := []) (rest := []) ⟨hx, hb, hml, hown, hts⟩ (k_X4_thrown (l := l) hM hV2.ib) (cwV 0 hts gL_law_X4_thrown rfl rfl rfl (by decide +kernel) ⟨by decide, by decide⟩) ⟨Kp.blind _ _ _ _ _, m_recv hK hB (ci := 4) rfl hM.1, fun U hU hW => hK.pass hB U hU hW⟩ rfl rfl hl.1 rfl (lv_room (Nat.le_of_ble_eq_true rfl)) dL_law_1267 ⟨(by show cells + 3 ≤ 632940; omega), (by show slots + 15 ≤ 7197285; omega)⟩) hB (fun v u H locs hp hB => ?_)
      obtain ⟨rfl, rfl⟩ := hp
      show W _ _ _ _ _ _ _ _ _ _ _ _ _ _ _ (F0 m 1270 ls [.int (iI 0)])
      refine lv_iload hx hb dL_law_1270 (lv_at hl 1 rfl) ?_
      refine j_icmp_eq (tgt := 1277) hx hb dL_law_1272 (by decide) ⟨by decide, by decide⟩ ⟨by decide, by decide⟩ (fun _ => ?_) (fun w => absurd rfl w)
      refine lv_iload hx hb dL_law_1277 (lv_at hl 1 rfl) ?_
      refine j_if_ne (tgt := 1294) hx hb dL_law_1279 (by decide) ⟨by decide, by decide⟩ (fun c_1 => absurd c_1 (by decide)) (fun c_1 => ?_)
      refine lv_aload_n hx hb dL_law_1282 rfl (lv_at hl 6 rfl) ?_
      refine j_iconst hx hb dL_law_1283 ?_
      refine m_lald hx hb hK hB 3 ho rfl in01 dL_law_1284 ?_
      refine lv_iload hx hb dL_law_1285 (lv_at hl 0 rfl) ?_
      refine lv_i2l hx hb dL_law_1287 (rfl : _ = lI (cnt (fun j => live σ j ∧ σ 4 (pn σ j) = 0 ∧ (((xs (6 * i + 1)).toInt) ≤ σ 6 j ∧ σ 6 j ≤ ((xs (6 * i + 2)).toInt) ∧ hbit ((xs (6 * i + 3)).toInt) (σ 7 j))) (nrN σ))) ?_
      refine j_lcmp0 hx hb (show fo2 (iI 0).toNatClampNeg = _ from ef) dL_law_1288 ?_
      refine j_if_eq (tgt := 1294) hx hb dL_law_1289 (by decide) ⟨by decide, by decide⟩ (fun c_2 => ?_) (fun c_2 => absurd c_2 (by decide))
      refine lv_goto (tgt := 1638) hx hb dL_law_1294 (by decide) ?_
      refine W.widen (k := cells + 100) (n := slots + 1000) (by show cells + 3 ≤ cells + 100; omega) (by show slots + 15 ≤ slots + 1000; omega) ?_
      exact kk _ _ _ _ _ (LwS.mk hV2 hC hM ho) hB (lv_sub hl [2, 3, 4, 5, 6] rfl)
    · exact (cl_countPlain_0_1 (σ := σ) cA cB).elim
  · have hM := hM.frL hFl.L
    have ho := hFl.J ho
    show W _ _ _ _ _ _ _ _ _ _ _ _ _ _ _ (F0 m 1240 ls [.int (iI 1)])
    refine lv_istore (lv' := [(5, .int (iI 1)), (4, .int (iI ((6 * i : Nat) : Int))), (0, .ref b), (1, .ref x), (2, .ref xm), (3, .ref oa)]) hx hb dL_law_1240 hl (by decide) rfl (fun ls hl => ?_)
    refine lv_aload_n hx hb dL_law_1242 rfl (lv_at hl 4 rfl) ?_
    refine lv_aload_n hx hb dL_law_1243 rfl (lv_at hl 2 rfl) ?_
    refine lv_iload hx hb dL_law_1244 (lv_at hl 1 rfl) ?_
    refine j_iconst hx hb dL_law_1246 ?_
    refine j_iadd hx hb dL_law_1247 ?_
    refine j_topE (show (((6 * i : Nat) : Int) + 1) = ((6 * i + 1 : Nat) : Int) by omega) ?_
    refine m_sld hx hb hX hbl hB (n := 6 * i + 1) (by omega) hL dL_law_1248 ?_
    refine lv_aload_n hx hb dL_law_1249 rfl (lv_at hl 2 rfl) ?_
    refine lv_iload hx hb dL_law_1250 (lv_at hl 1 rfl) ?_
    refine j_iconst hx hb dL_law_1252 ?_
    refine j_iadd hx hb dL_law_1253 ?_
    refine j_topE (show (((6 * i : Nat) : Int) + 2) = ((6 * i + 2 : Nat) : Int) by omega) ?_
    refine m_sld hx hb hX hbl hB (n := 6 * i + 2) (by omega) hL dL_law_1254 ?_
    refine lv_aload_n hx hb dL_law_1255 rfl (lv_at hl 2 rfl) ?_
    refine lv_iload hx hb dL_law_1256 (lv_at hl 1 rfl) ?_
    refine j_iconst hx hb dL_law_1258 ?_
    refine j_iadd hx hb dL_law_1259 ?_
    refine j_topE (show (((6 * i : Nat) : Int) + 3) = ((6 * i + 3 : Nat) : Int) by omega) ?_
    refine m_sld hx hb hX hbl hB (n := 6 * i + 3) (by omega) hL dL_law_1260 ?_
    refine m_run (va_runV (As := [.int (iI ((xs (6 * i + 1)).toInt)), .int (iI ((xs (6 * i + 2)).toInt)), .int (iI ((xs (6 * i + 3)).toInt))]) (rest := []) ⟨hx, hb, hml, hown, hts⟩ (k_X4_countPlain (l := l) hM hI (iI_rg _) (iI_rg _) (iI_rg _)) (cwV 3 hts gL_law_X4_countPlain rfl rfl rfl (by decide +kernel) ⟨by decide, by decide⟩) ⟨Kp.blind _ _ _ _ _, m_recv hK hB (ci := 4) rfl hM.1, fun U hU hW => hK.pass hB U hU hW⟩ rfl rfl hl.1 rfl (lv_room (Nat.le_of_ble_eq_true rfl)) dL_law_1261 ⟨(by show cells + 3 ≤ 632940; omega), (by show slots + 15 ≤ 7197285; omega)⟩) hB (fun v u H locs hp hB => ?_)
    rcases hp with ⟨cB, rfl, hM, hFm⟩ | ⟨cB, rfl, hM, hFm⟩
    · exact (cl_countPlain_1_0 (σ := σ) cA cB).elim
    · have hC := hC.fr hFm
      have ho := hFm.J ho
      have hV2 := hV
      show W _ _ _ _ _ _ _ _ _ _ _ _ _ _ _ (F0 m 1264 ls [.int (iI 0)])
      refine lv_istore (lv' := [(6, .int (iI 0)), (5, .int (iI 1)), (4, .int (iI ((6 * i : Nat) : Int))), (0, .ref b), (1, .ref x), (2, .ref xm), (3, .ref oa)]) hx hb dL_law_1264 hl (by decide) rfl (fun ls hl => ?_)
      refine lv_aload_n hx hb dL_law_1266 rfl (lv_at hl 5 rfl) ?_
      refine m_run (va_runV (As := []) (rest := []) ⟨hx, hb, hml, hown, hts⟩ (k_X4_thrown (l := l) hM hV2.ib) (cwV 0 hts gL_law_X4_thrown rfl rfl rfl (by decide +kernel) ⟨by decide, by decide⟩) ⟨Kp.blind _ _ _ _ _, m_recv hK hB (ci := 4) rfl hM.1, fun U hU hW => hK.pass hB U hU hW⟩ rfl rfl hl.1 rfl (lv_room (Nat.le_of_ble_eq_true rfl)) dL_law_1267 ⟨(by show cells + 3 ≤ 632940; omega), (by show slots + 15 ≤ 7197285; omega)⟩) hB (fun v u H locs hp hB => ?_)
      obtain ⟨rfl, rfl⟩ := hp
      show W _ _ _ _ _ _ _ _ _ _ _ _ _ _ _ (F0 m 1270 ls [.int (iI 1)])
      refine lv_iload hx hb dL_law_1270 (lv_at hl 1 rfl) ?_
      refine j_icmp_eq (tgt := 1277) hx hb dL_law_1272 (by decide) ⟨by decide, by decide⟩ ⟨by decide, by decide⟩ (fun _ => ?_) (fun w => absurd rfl w)
      refine lv_iload hx hb dL_law_1277 (lv_at hl 1 rfl) ?_
      refine j_if_ne (tgt := 1294) hx hb dL_law_1279 (by decide) ⟨by decide, by decide⟩ (fun c_3 => ?_) (fun c_3 => absurd c_3 (by decide))
      refine lv_goto (tgt := 1638) hx hb dL_law_1294 (by decide) ?_
      refine W.widen (k := cells + 100) (n := slots + 1000) (by show cells + 3 ≤ cells + 100; omega) (by show slots + 15 ≤ slots + 1000; omega) ?_
      exact kk _ _ _ _ _ (LwS.mk hV2 hC hM ho) hB (lv_sub hl [2, 3, 4, 5, 6] rfl)

set_option maxHeartbeats 4000000 in
set_option maxRecDepth 100000 in
theorem lc_18 {l : Launch} (hfl : l.stackTraces = false) {D : va_G} {cI cP cR cJ : ClassId} {p : Program} {e : Env} {s : State} {m : MethodId} {below : List Frame} {meth : Method} {c : Code} {b L : Nat} {xs : Nat → Int32} (hL : L ≤ 3072) (hx : p.tables.exec = Jvm.exec) (hb : c.code = cL_law) (hml : c.maxLocals = 7) (hown : s.vm.findClass RL = some m.cls) (hts : ∀ w ∈ wsL_law, w.before #[Value.ref b] s = true) (hX : va_X b L xs s s.heap) (hbl : b < s.heap.size) (hK : Kb D s.heap.size (tyL cI cP cR cJ) s) {x xm oa i : Nat} (hi : 6 * i + 6 ≤ L) {cells slots : Nat} (hc : cells + 100 ≤ 632940) (hs : slots + 1000 ≤ 7197285) {σ : Sg} {h0 : Hp} {H : Heap} {locs : List Loc} (hS : LwS cI cP cR cJ x xm oa σ h0) (hB : Bk D s.heap.size s.heap h0 H locs) {ls : Array Slot} (hl : lv_has ls 7 [(4, .int (iI ((6 * i : Nat) : Int))), (0, .ref b), (1, .ref x), (2, .ref xm), (3, .ref oa)]) {Q : State → Prop} (kk : ∀ (σ2 : Sg) (h2 : Hp) (H2 : Heap) (locs2 : List Loc) (ls2 : Array Slot), LwS cI cP cR cJ x xm oa σ2 h2 → Bk D s.heap.size s.heap h2 H2 locs2 → lv_has ls2 7 [(4, .int (iI ((6 * i : Nat) : Int))), (0, .ref b), (1, .ref x), (2, .ref xm), (3, .ref oa)] → W p l e room_1 s m #[Value.ref b] below meth c H2 locs2 (cells + 100) (slots + 1000) Q (F0 m 1638 ls2 [])) : W p l e room_1 s m #[Value.ref b] below meth c H locs cells slots Q (F0 m 1297 ls []) := by
  obtain ⟨hV, ⟨xp, xr, pa, ra, hC⟩, ⟨xa, th, hM⟩, fo, ho⟩ := hS
  have hI := hV.ib
  have hnp := hI.hnp
  have hst := hI.2.2.1
  have hnrI := hI.nrI
  refine lv_aload_n hx hb dL_law_1297 rfl (lv_at hl 2 rfl) ?_
  refine lv_aload_n hx hb dL_law_1298 rfl (lv_at hl 1 rfl) ?_
  refine lv_iload hx hb dL_law_1299 (lv_at hl 0 rfl) ?_
  refine j_iconst hx hb dL_law_1301 ?_
  refine j_iadd hx hb dL_law_1302 ?_
  refine j_topE (show (((6 * i : Nat) : Int) + 1) = ((6 * i + 1 : Nat) : Int) by omega) ?_
  refine m_sld hx hb hX hbl hB (n := 6 * i + 1) (by omega) hL dL_law_1303 ?_
  refine lv_aload_n hx hb dL_law_1304 rfl (lv_at hl 1 rfl) ?_
  refine lv_iload hx hb dL_law_1305 (lv_at hl 0 rfl) ?_
  refine j_iconst hx hb dL_law_1307 ?_
  refine j_iadd hx hb dL_law_1308 ?_
  refine j_topE (show (((6 * i : Nat) : Int) + 2) = ((6 * i + 2 : Nat) : Int) by omega) ?_
  refine m_sld hx hb hX hbl hB (n := 6 * i + 2) (by omega) hL dL_law_1309 ?_
  refine lv_aload_n hx hb dL_law_1310 rfl (lv_at hl 1 rfl) ?_
  refine lv_iload hx hb dL_law_1311 (lv_at hl 0 rfl) ?_
  refine j_iconst hx hb dL_law_1313 ?_
  refine j_iadd hx hb dL_law_1314 ?_
  refine j_topE (show (((6 * i : Nat) : Int) + 3) = ((6 * i + 3 : Nat) : Int) by omega) ?_
  refine m_sld hx hb hX hbl hB (n := 6 * i + 3) (by omega) hL dL_law_1315 ?_
  refine lv_aload_n hx hb dL_law_1316 rfl (lv_at hl 4 rfl) ?_
  refine m_run (vx_runSW (As := [.ref x, .int (iI ((xs (6 * i + 1)).toInt)), .int (iI ((xs (6 * i + 2)).toInt)), .int (iI ((xs (6 * i + 3)).toInt)), .ref oa]) (rest := []) ⟨hx, hb, hml, hown, hts⟩ (k_L_read (l := l) hfl hC hI ho (iI_rg _) (iI_rg _) (iI_rg _)) (vx_cwSW 5 hts gL_law_L_read rfl rfl rfl (by decide +kernel) ⟨by decide, by decide⟩) ⟨Kp.blind _ _ _ _ _, fun U hU hW => hK.pass hB U hU hW⟩ rfl rfl hl.1 rfl (lv_room (Nat.le_of_ble_eq_true rfl)) dL_law_1317 ⟨(by show cells + 3 ≤ 632940; omega), (by show slots + 15 ≤ 7197285; omega)⟩) hB (fun v u H locs hp hB => ?_)
  rcases hp with ⟨rfl, cA, hC, ⟨fo2, ho, ef⟩, hFl⟩ | ⟨rfl, cA, hC, hFl⟩
  · have hM := hM.frL hFl
    show W _ _ _ _ _ _ _ _ _ _ _ _ _ _ _ (F0 m 1320 ls [.int (iI 0)])
    refine lv_istore (lv' := [(5, .int (iI 0)), (4, .int (iI ((6 * i : Nat) : Int))), (0, .ref b), (1, .ref x), (2, .ref xm), (3, .ref oa)]) hx hb dL_law_1320 hl (by decide) rfl (fun ls hl => ?_)
    refine lv_aload_n hx hb dL_law_1322 rfl (lv_at hl 4 rfl) ?_
    refine lv_aload_n hx hb dL_law_1323 rfl (lv_at hl 2 rfl) ?_
    refine lv_iload hx hb dL_law_1324 (lv_at hl 1 rfl) ?_
    refine j_iconst hx hb dL_law_1326 ?_
    refine j_iadd hx hb dL_law_1327 ?_
    refine j_topE (show (((6 * i : Nat) : Int) + 1) = ((6 * i + 1 : Nat) : Int) by omega) ?_
    refine m_sld hx hb hX hbl hB (n := 6 * i + 1) (by omega) hL dL_law_1328 ?_
    refine lv_aload_n hx hb dL_law_1329 rfl (lv_at hl 2 rfl) ?_
    refine lv_iload hx hb dL_law_1330 (lv_at hl 1 rfl) ?_
    refine j_iconst hx hb dL_law_1332 ?_
    refine j_iadd hx hb dL_law_1333 ?_
    refine j_topE (show (((6 * i : Nat) : Int) + 2) = ((6 * i + 2 : Nat) : Int) by omega) ?_
    refine m_sld hx hb hX hbl hB (n := 6 * i + 2) (by omega) hL dL_law_1334 ?_
    refine lv_aload_n hx hb dL_law_1335 rfl (lv_at hl 2 rfl) ?_
    refine lv_iload hx hb dL_law_1336 (lv_at hl 1 rfl) ?_
    refine j_iconst hx hb dL_law_1338 ?_
    refine j_iadd hx hb dL_law_1339 ?_
    refine j_topE (show (((6 * i : Nat) : Int) + 3) = ((6 * i + 3 : Nat) : Int) by omega) ?_
    refine m_sld hx hb hX hbl hB (n := 6 * i + 3) (by omega) hL dL_law_1340 ?_
    refine m_run (va_runV (As := [.int (iI ((xs (6 * i + 1)).toInt)), .int (iI ((xs (6 * i + 2)).toInt)), .int (iI ((xs (6 * i + 3)).toInt))]) (rest := []) ⟨hx, hb, hml, hown, hts⟩ (k_X4_read (l := l) hM hI (iI_rg _) (iI_rg _) (iI_rg _)) (cwV 3 hts gL_law_X4_read rfl rfl rfl (by decide +kernel) ⟨by decide, by decide⟩) ⟨Kp.blind _ _ _ _ _, m_recv hK hB (ci := 4) rfl hM.1, fun U hU hW => hK.pass hB U hU hW⟩ rfl rfl hl.1 rfl (lv_room (Nat.le_of_ble_eq_true rfl)) dL_law_1341 ⟨(by show cells + 3 ≤ 632940; omega), (by show slots + 15 ≤ 7197285; omega)⟩) hB (fun v u H locs hp hB => ?_)
    rcases hp with ⟨cB, rfl, hM, hFm⟩ | ⟨cB, rfl, hM, hFm⟩
    · have hC := hC.fr hFm
      have ho := hFm.J ho
      have hV2 := hV
      show W _ _ _ _ _ _ _ _ _ _ _ _ _ _ _ (F0 m 1344 ls [.int (iI (rdM σ ((xs (6 * i + 1)).toInt) ((xs (6 * i + 2)).toInt) ((xs (6 * i + 3)).toInt)))])
      refine lv_istore (lv' := [(6, .int (iI (rdM σ ((xs (6 * i + 1)).toInt) ((xs (6 * i + 2)).toInt) ((xs (6 * i + 3)).toInt)))), (5, .int (iI 0)), (4, .int (iI ((6 * i : Nat) : Int))), (0, .ref b), (1, .ref x), (2, .ref xm), (3, .ref oa)]) hx hb dL_law_1344 hl (by decide) rfl (fun ls hl => ?_)
      refine lv_aload_n hx hb dL_law_1346 rfl (lv_at hl 5 rfl) ?_
      refine m_run (va_runV (As := []) (rest := []) ⟨hx, hb, hml, hown, hts⟩ (k_X4_thrown (l := l) hM hV2.ib) (cwV 0 hts gL_law_X4_thrown rfl rfl rfl (by decide +kernel) ⟨by decide, by decide⟩) ⟨Kp.blind _ _ _ _ _, m_recv hK hB (ci := 4) rfl hM.1, fun U hU hW => hK.pass hB U hU hW⟩ rfl rfl hl.1 rfl (lv_room (Nat.le_of_ble_eq_true rfl)) dL_law_1347 ⟨(by show cells + 3 ≤ 632940; omega), (by show slots + 15 ≤ 7197285; omega)⟩) hB (fun v u H locs hp hB => ?_)
      obtain ⟨rfl, rfl⟩ := hp
      show W _ _ _ _ _ _ _ _ _ _ _ _ _ _ _ (F0 m 1350 ls [.int (iI 0)])
      refine lv_iload hx hb dL_law_1350 (lv_at hl 1 rfl) ?_
      refine j_icmp_eq (tgt := 1357) hx hb dL_law_1352 (by decide) ⟨by decide, by decide⟩ ⟨by decide, by decide⟩ (fun _ => ?_) (fun w => absurd rfl w)
      refine lv_iload hx hb dL_law_1357 (lv_at hl 1 rfl) ?_
      refine j_if_ne (tgt := 1374) hx hb dL_law_1359 (by decide) ⟨by decide, by decide⟩ (fun c_1 => absurd c_1 (by decide)) (fun c_1 => ?_)
      refine lv_aload_n hx hb dL_law_1362 rfl (lv_at hl 6 rfl) ?_
      refine j_iconst hx hb dL_law_1363 ?_
      refine m_lald hx hb hK hB 3 ho rfl in01 dL_law_1364 ?_
      refine lv_iload hx hb dL_law_1365 (lv_at hl 0 rfl) ?_
      refine lv_i2l hx hb dL_law_1367 (rfl : _ = lI (rdM σ ((xs (6 * i + 1)).toInt) ((xs (6 * i + 2)).toInt) ((xs (6 * i + 3)).toInt))) ?_
      refine j_lcmp0 hx hb (show fo2 (iI 0).toNatClampNeg = _ from (ef.trans (congrArg lI (rdA_eq hI (by unfold okQ at cA; omega) (by unfold okQ at cA; omega))))) dL_law_1368 ?_
      refine j_if_eq (tgt := 1374) hx hb dL_law_1369 (by decide) ⟨by decide, by decide⟩ (fun c_2 => ?_) (fun c_2 => absurd c_2 (by decide))
      refine lv_goto (tgt := 1638) hx hb dL_law_1374 (by decide) ?_
      refine W.widen (k := cells + 100) (n := slots + 1000) (by show cells + 3 ≤ cells + 100; omega) (by show slots + 15 ≤ slots + 1000; omega) ?_
      exact kk _ _ _ _ _ (LwS.mk hV2 hC hM ho) hB (lv_sub hl [2, 3, 4, 5, 6] rfl)
    · exact (cl_read_0_1 (σ := σ) cA cB).elim
  · have hM := hM.frL hFl.L
    have ho := hFl.J ho
    show W _ _ _ _ _ _ _ _ _ _ _ _ _ _ _ (F0 m 1320 ls [.int (iI 1)])
    refine lv_istore (lv' := [(5, .int (iI 1)), (4, .int (iI ((6 * i : Nat) : Int))), (0, .ref b), (1, .ref x), (2, .ref xm), (3, .ref oa)]) hx hb dL_law_1320 hl (by decide) rfl (fun ls hl => ?_)
    refine lv_aload_n hx hb dL_law_1322 rfl (lv_at hl 4 rfl) ?_
    refine lv_aload_n hx hb dL_law_1323 rfl (lv_at hl 2 rfl) ?_
    refine lv_iload hx hb dL_law_1324 (lv_at hl 1 rfl) ?_
    refine j_iconst hx hb dL_law_1326 ?_
    refine j_iadd hx hb dL_law_1327 ?_
    refine j_topE (show (((6 * i : Nat) : Int) + 1) = ((6 * i + 1 : Nat) : Int) by omega) ?_
    refine m_sld hx hb hX hbl hB (n := 6 * i + 1) (by omega) hL dL_law_1328 ?_
    refine lv_aload_n hx hb dL_law_1329 rfl (lv_at hl 2 rfl) ?_
    refine lv_iload hx hb dL_law_1330 (lv_at hl 1 rfl) ?_
    refine j_iconst hx hb dL_law_1332 ?_
    refine j_iadd hx hb dL_law_1333 ?_
    refine j_topE (show (((6 * i : Nat) : Int) + 2) = ((6 * i + 2 : Nat) : Int) by omega) ?_
    refine m_sld hx hb hX hbl hB (n := 6 * i + 2) (by omega) hL dL_law_1334 ?_
    refine lv_aload_n hx hb dL_law_1335 rfl (lv_at hl 2 rfl) ?_
    refine lv_iload hx hb dL_law_1336 (lv_at hl 1 rfl) ?_
    refine j_iconst hx hb dL_law_1338 ?_
    refine j_iadd hx hb dL_law_1339 ?_
    refine j_topE (show (((6 * i : Nat) : Int) + 3) = ((6 * i + 3 : Nat) : Int) by omega) ?_
    refine m_sld hx hb hX hbl hB (n := 6 * i + 3) (by omega) hL dL_law_1340 ?_
    refine m_run (va_runV (As := [.int (iI ((xs (6 * i + 1)).toInt)), .int (iI ((xs (6 * i + 2)).toInt)), .int (iI ((xs (6 * i + 3)).toInt))]) (rest := []) ⟨hx, hb, hml, hown, hts⟩ (k_X4_read (l := l) hM hI (iI_rg _) (iI_rg _) (iI_rg _)) (cwV 3 hts gL_law_X4_read rfl rfl rfl (by decide +kernel) ⟨by decide, by decide⟩) ⟨Kp.blind _ _ _ _ _, m_recv hK hB (ci := 4) rfl hM.1, fun U hU hW => hK.pass hB U hU hW⟩ rfl rfl hl.1 rfl (lv_room (Nat.le_of_ble_eq_true rfl)) dL_law_1341 ⟨(by show cells + 3 ≤ 632940; omega), (by show slots + 15 ≤ 7197285; omega)⟩) hB (fun v u H locs hp hB => ?_)
    rcases hp with ⟨cB, rfl, hM, hFm⟩ | ⟨cB, rfl, hM, hFm⟩
    · exact (cl_read_1_0 (σ := σ) cA cB).elim
    · have hC := hC.fr hFm
      have ho := hFm.J ho
      have hV2 := hV
      show W _ _ _ _ _ _ _ _ _ _ _ _ _ _ _ (F0 m 1344 ls [.int (iI 0)])
      refine lv_istore (lv' := [(6, .int (iI 0)), (5, .int (iI 1)), (4, .int (iI ((6 * i : Nat) : Int))), (0, .ref b), (1, .ref x), (2, .ref xm), (3, .ref oa)]) hx hb dL_law_1344 hl (by decide) rfl (fun ls hl => ?_)
      refine lv_aload_n hx hb dL_law_1346 rfl (lv_at hl 5 rfl) ?_
      refine m_run (va_runV (As := []) (rest := []) ⟨hx, hb, hml, hown, hts⟩ (k_X4_thrown (l := l) hM hV2.ib) (cwV 0 hts gL_law_X4_thrown rfl rfl rfl (by decide +kernel) ⟨by decide, by decide⟩) ⟨Kp.blind _ _ _ _ _, m_recv hK hB (ci := 4) rfl hM.1, fun U hU hW => hK.pass hB U hU hW⟩ rfl rfl hl.1 rfl (lv_room (Nat.le_of_ble_eq_true rfl)) dL_law_1347 ⟨(by show cells + 3 ≤ 632940; omega), (by show slots + 15 ≤ 7197285; omega)⟩) hB (fun v u H locs hp hB => ?_)
      obtain ⟨rfl, rfl⟩ := hp
      show W _ _ _ _ _ _ _ _ _ _ _ _ _ _ _ (F0 m 1350 ls [.int (iI 1)])
      refine lv_iload hx hb dL_law_1350 (lv_at hl 1 rfl) ?_
      refine j_icmp_eq (tgt := 1357) hx hb dL_law_1352 (by decide) ⟨by decide, by decide⟩ ⟨by decide, by decide⟩ (fun _ => ?_) (fun w => absurd rfl w)
      refine lv_iload hx hb dL_law_1357 (lv_at hl 1 rfl) ?_
      refine j_if_ne (tgt := 1374) hx hb dL_law_1359 (by decide) ⟨by decide, by decide⟩ (fun c_3 => ?_) (fun c_3 => absurd c_3 (by decide))
      refine lv_goto (tgt := 1638) hx hb dL_law_1374 (by decide) ?_
      refine W.widen (k := cells + 100) (n := slots + 1000) (by show cells + 3 ≤ cells + 100; omega) (by show slots + 15 ≤ slots + 1000; omega) ?_
      exact kk _ _ _ _ _ (LwS.mk hV2 hC hM ho) hB (lv_sub hl [2, 3, 4, 5, 6] rfl)

set_option maxHeartbeats 4000000 in
set_option maxRecDepth 100000 in
theorem lc_19 {l : Launch} (hfl : l.stackTraces = false) {D : va_G} {cI cP cR cJ : ClassId} {p : Program} {e : Env} {s : State} {m : MethodId} {below : List Frame} {meth : Method} {c : Code} {b L : Nat} {xs : Nat → Int32} (hL : L ≤ 3072) (hx : p.tables.exec = Jvm.exec) (hb : c.code = cL_law) (hml : c.maxLocals = 7) (hown : s.vm.findClass RL = some m.cls) (hts : ∀ w ∈ wsL_law, w.before #[Value.ref b] s = true) (hX : va_X b L xs s s.heap) (hbl : b < s.heap.size) (hK : Kb D s.heap.size (tyL cI cP cR cJ) s) {x xm oa i : Nat} (hi : 6 * i + 6 ≤ L) {cells slots : Nat} (hc : cells + 100 ≤ 632940) (hs : slots + 1000 ≤ 7197285) {σ : Sg} {h0 : Hp} {H : Heap} {locs : List Loc} (hS : LwS cI cP cR cJ x xm oa σ h0) (hB : Bk D s.heap.size s.heap h0 H locs) {ls : Array Slot} (hl : lv_has ls 7 [(4, .int (iI ((6 * i : Nat) : Int))), (0, .ref b), (1, .ref x), (2, .ref xm), (3, .ref oa)]) {Q : State → Prop} (kk : ∀ (σ2 : Sg) (h2 : Hp) (H2 : Heap) (locs2 : List Loc) (ls2 : Array Slot), LwS cI cP cR cJ x xm oa σ2 h2 → Bk D s.heap.size s.heap h2 H2 locs2 → lv_has ls2 7 [(4, .int (iI ((6 * i : Nat) : Int))), (0, .ref b), (1, .ref x), (2, .ref xm), (3, .ref oa)] → W p l e room_1 s m #[Value.ref b] below meth c H2 locs2 (cells + 100) (slots + 1000) Q (F0 m 1638 ls2 [])) : W p l e room_1 s m #[Value.ref b] below meth c H locs cells slots Q (F0 m 1377 ls []) := by
  obtain ⟨hV, ⟨xp, xr, pa, ra, hC⟩, ⟨xa, th, hM⟩, fo, ho⟩ := hS
  have hI := hV.ib
  have hnp := hI.hnp
  have hst := hI.2.2.1
  have hnrI := hI.nrI
  refine lv_aload_n hx hb dL_law_1377 rfl (lv_at hl 2 rfl) ?_
  refine lv_aload_n hx hb dL_law_1378 rfl (lv_at hl 1 rfl) ?_
  refine lv_iload hx hb dL_law_1379 (lv_at hl 0 rfl) ?_
  refine j_iconst hx hb dL_law_1381 ?_
  refine j_iadd hx hb dL_law_1382 ?_
  refine j_topE (show (((6 * i : Nat) : Int) + 1) = ((6 * i + 1 : Nat) : Int) by omega) ?_
  refine m_sld hx hb hX hbl hB (n := 6 * i + 1) (by omega) hL dL_law_1383 ?_
  refine lv_aload_n hx hb dL_law_1384 rfl (lv_at hl 1 rfl) ?_
  refine lv_iload hx hb dL_law_1385 (lv_at hl 0 rfl) ?_
  refine j_iconst hx hb dL_law_1387 ?_
  refine j_iadd hx hb dL_law_1388 ?_
  refine j_topE (show (((6 * i : Nat) : Int) + 2) = ((6 * i + 2 : Nat) : Int) by omega) ?_
  refine m_sld hx hb hX hbl hB (n := 6 * i + 2) (by omega) hL dL_law_1389 ?_
  refine lv_aload_n hx hb dL_law_1390 rfl (lv_at hl 1 rfl) ?_
  refine lv_iload hx hb dL_law_1391 (lv_at hl 0 rfl) ?_
  refine j_iconst hx hb dL_law_1393 ?_
  refine j_iadd hx hb dL_law_1394 ?_
  refine j_topE (show (((6 * i : Nat) : Int) + 3) = ((6 * i + 3 : Nat) : Int) by omega) ?_
  refine m_sld hx hb hX hbl hB (n := 6 * i + 3) (by omega) hL dL_law_1395 ?_
  refine lv_aload_n hx hb dL_law_1396 rfl (lv_at hl 1 rfl) ?_
  refine lv_iload hx hb dL_law_1397 (lv_at hl 0 rfl) ?_
  refine j_iconst hx hb dL_law_1399 ?_
  refine j_iadd hx hb dL_law_1400 ?_
  refine j_topE (show (((6 * i : Nat) : Int) + 4) = ((6 * i + 4 : Nat) : Int) by omega) ?_
  refine m_sld hx hb hX hbl hB (n := 6 * i + 4) (by omega) hL dL_law_1401 ?_
  refine lv_aload_n hx hb dL_law_1402 rfl (lv_at hl 1 rfl) ?_
  refine lv_iload hx hb dL_law_1403 (lv_at hl 0 rfl) ?_
  refine j_iconst hx hb dL_law_1405 ?_
  refine j_iadd hx hb dL_law_1406 ?_
  refine j_topE (show (((6 * i : Nat) : Int) + 5) = ((6 * i + 5 : Nat) : Int) by omega) ?_
  refine m_sld hx hb hX hbl hB (n := 6 * i + 5) (by omega) hL dL_law_1407 ?_
  refine lv_aload_n hx hb dL_law_1408 rfl (lv_at hl 4 rfl) ?_
  refine m_run (vx_runSW (As := [.ref x, .int (iI ((xs (6 * i + 1)).toInt)), .int (iI ((xs (6 * i + 2)).toInt)), .int (iI ((xs (6 * i + 3)).toInt)), .int (iI ((xs (6 * i + 4)).toInt)), .int (iI ((xs (6 * i + 5)).toInt)), .ref oa]) (rest := []) ⟨hx, hb, hml, hown, hts⟩ (k_L_matters (l := l) hfl hC hI ho (iI_rg _) (iI_rg _) (iI_rg _) (iI_rg _) (iI_rg _)) (vx_cwSW 7 hts gL_law_L_matters rfl rfl rfl (by decide +kernel) ⟨by decide, by decide⟩) ⟨Kp.blind _ _ _ _ _, fun U hU hW => hK.pass hB U hU hW⟩ rfl rfl hl.1 rfl (lv_room (Nat.le_of_ble_eq_true rfl)) dL_law_1409 ⟨(by show cells + 6 ≤ 632940; omega), (by show slots + 33 ≤ 7197285; omega)⟩) hB (fun v u H locs hp hB => ?_)
  rcases hp with ⟨rfl, cA, hC, ⟨fo2, ho, ef⟩, hFl⟩ | ⟨rfl, cA, hC, hFl⟩ | ⟨rfl, cA, hC, hFl⟩
  · have hM := hM.frL hFl
    show W _ _ _ _ _ _ _ _ _ _ _ _ _ _ _ (F0 m 1412 ls [.int (iI 0)])
    refine lv_istore (lv' := [(5, .int (iI 0)), (4, .int (iI ((6 * i : Nat) : Int))), (0, .ref b), (1, .ref x), (2, .ref xm), (3, .ref oa)]) hx hb dL_law_1412 hl (by decide) rfl (fun ls hl => ?_)
    refine lv_aload_n hx hb dL_law_1414 rfl (lv_at hl 4 rfl) ?_
    refine lv_aload_n hx hb dL_law_1415 rfl (lv_at hl 2 rfl) ?_
    refine lv_iload hx hb dL_law_1416 (lv_at hl 1 rfl) ?_
    refine j_iconst hx hb dL_law_1418 ?_
    refine j_iadd hx hb dL_law_1419 ?_
    refine j_topE (show (((6 * i : Nat) : Int) + 1) = ((6 * i + 1 : Nat) : Int) by omega) ?_
    refine m_sld hx hb hX hbl hB (n := 6 * i + 1) (by omega) hL dL_law_1420 ?_
    refine lv_aload_n hx hb dL_law_1421 rfl (lv_at hl 2 rfl) ?_
    refine lv_iload hx hb dL_law_1422 (lv_at hl 1 rfl) ?_
    refine j_iconst hx hb dL_law_1424 ?_
    refine j_iadd hx hb dL_law_1425 ?_
    refine j_topE (show (((6 * i : Nat) : Int) + 2) = ((6 * i + 2 : Nat) : Int) by omega) ?_
    refine m_sld hx hb hX hbl hB (n := 6 * i + 2) (by omega) hL dL_law_1426 ?_
    refine lv_aload_n hx hb dL_law_1427 rfl (lv_at hl 2 rfl) ?_
    refine lv_iload hx hb dL_law_1428 (lv_at hl 1 rfl) ?_
    refine j_iconst hx hb dL_law_1430 ?_
    refine j_iadd hx hb dL_law_1431 ?_
    refine j_topE (show (((6 * i : Nat) : Int) + 3) = ((6 * i + 3 : Nat) : Int) by omega) ?_
    refine m_sld hx hb hX hbl hB (n := 6 * i + 3) (by omega) hL dL_law_1432 ?_
    refine lv_aload_n hx hb dL_law_1433 rfl (lv_at hl 2 rfl) ?_
    refine lv_iload hx hb dL_law_1434 (lv_at hl 1 rfl) ?_
    refine j_iconst hx hb dL_law_1436 ?_
    refine j_iadd hx hb dL_law_1437 ?_
    refine j_topE (show (((6 * i : Nat) : Int) + 4) = ((6 * i + 4 : Nat) : Int) by omega) ?_
    refine m_sld hx hb hX hbl hB (n := 6 * i + 4) (by omega) hL dL_law_1438 ?_
    refine lv_aload_n hx hb dL_law_1439 rfl (lv_at hl 2 rfl) ?_
    refine lv_iload hx hb dL_law_1440 (lv_at hl 1 rfl) ?_
    refine j_iconst hx hb dL_law_1442 ?_
    refine j_iadd hx hb dL_law_1443 ?_
    refine j_topE (show (((6 * i : Nat) : Int) + 5) = ((6 * i + 5 : Nat) : Int) by omega) ?_
    refine m_sld hx hb hX hbl hB (n := 6 * i + 5) (by omega) hL dL_law_1444 ?_
    refine m_run (va_runV (As := [.int (iI ((xs (6 * i + 1)).toInt)), .int (iI ((xs (6 * i + 2)).toInt)), .int (iI ((xs (6 * i + 3)).toInt)), .int (iI ((xs (6 * i + 4)).toInt)), .int (iI ((xs (6 * i + 5)).toInt))]) (rest := []) ⟨hx, hb, hml, hown, hts⟩ (k_X4_matters (l := l) hM hI (iI_rg _) (iI_rg _) (iI_rg _) (iI_rg _) (iI_rg _)) (cwV 5 hts gL_law_X4_matters rfl rfl rfl (by decide +kernel) ⟨by decide, by decide⟩) ⟨Kp.blind _ _ _ _ _, m_recv hK hB (ci := 4) rfl hM.1, fun U hU hW => hK.pass hB U hU hW⟩ rfl rfl hl.1 rfl (lv_room (Nat.le_of_ble_eq_true rfl)) dL_law_1445 ⟨(by show cells + 6 ≤ 632940; omega), (by show slots + 33 ≤ 7197285; omega)⟩) hB (fun v u H locs hp hB => ?_)
    rcases hp with ⟨cB, rfl, hM, hFm⟩ | ⟨cB, rfl, hM, hFm⟩ | ⟨cB, rfl, hM, hFm⟩
    · have hC := hC.fr hFm
      have ho := hFm.J ho
      have hV2 := hV
      show W _ _ _ _ _ _ _ _ _ _ _ _ _ _ _ (F0 m 1448 ls [.int (iI (b2 (mM σ ((xs (6 * i + 1)).toInt).toNat ((xs (6 * i + 2)).toInt) ((xs (6 * i + 3)).toInt) ((xs (6 * i + 4)).toInt) ((xs (6 * i + 5)).toInt))))])
      refine lv_istore (lv' := [(6, .int (iI (b2 (mM σ ((xs (6 * i + 1)).toInt).toNat ((xs (6 * i + 2)).toInt) ((xs (6 * i + 3)).toInt) ((xs (6 * i + 4)).toInt) ((xs (6 * i + 5)).toInt))))), (5, .int (iI 0)), (4, .int (iI ((6 * i : Nat) : Int))), (0, .ref b), (1, .ref x), (2, .ref xm), (3, .ref oa)]) hx hb dL_law_1448 hl (by decide) rfl (fun ls hl => ?_)
      refine lv_aload_n hx hb dL_law_1450 rfl (lv_at hl 5 rfl) ?_
      refine m_run (va_runV (As := []) (rest := []) ⟨hx, hb, hml, hown, hts⟩ (k_X4_thrown (l := l) hM hV2.ib) (cwV 0 hts gL_law_X4_thrown rfl rfl rfl (by decide +kernel) ⟨by decide, by decide⟩) ⟨Kp.blind _ _ _ _ _, m_recv hK hB (ci := 4) rfl hM.1, fun U hU hW => hK.pass hB U hU hW⟩ rfl rfl hl.1 rfl (lv_room (Nat.le_of_ble_eq_true rfl)) dL_law_1451 ⟨(by show cells + 6 ≤ 632940; omega), (by show slots + 33 ≤ 7197285; omega)⟩) hB (fun v u H locs hp hB => ?_)
      obtain ⟨rfl, rfl⟩ := hp
      show W _ _ _ _ _ _ _ _ _ _ _ _ _ _ _ (F0 m 1454 ls [.int (iI 0)])
      refine lv_iload hx hb dL_law_1454 (lv_at hl 1 rfl) ?_
      refine j_icmp_eq (tgt := 1461) hx hb dL_law_1456 (by decide) ⟨by decide, by decide⟩ ⟨by decide, by decide⟩ (fun _ => ?_) (fun w => absurd rfl w)
      refine lv_iload hx hb dL_law_1461 (lv_at hl 1 rfl) ?_
      refine j_if_ne (tgt := 1485) hx hb dL_law_1463 (by decide) ⟨by decide, by decide⟩ (fun c_1 => absurd c_1 (by decide)) (fun c_1 => ?_)
      refine lv_aload_n hx hb dL_law_1466 rfl (lv_at hl 6 rfl) ?_
      refine j_iconst hx hb dL_law_1467 ?_
      refine m_lald hx hb hK hB 3 ho rfl in01 dL_law_1468 ?_
      refine lv_iload hx hb dL_law_1469 (lv_at hl 0 rfl) ?_
      refine j_ifeqP (tgt := 1478) hx hb dL_law_1471 (by decide) (fun c_2 => ?_) (fun c_2 => ?_)
      · refine lv_lconst hx hb dL_law_1478 lI_0 ?_
        refine j_lcmp0 hx hb (show fo2 (iI 0).toNatClampNeg = _ from ((ef.trans (congrArg lI (b2_c (may_iff hI (by have w := cA.1; unfold isL isA isP at w; omega) cA.1.2 (by have w := cA.2; unfold okQ at w; omega) (by have w := cA.2; unfold okQ at w; omega))))).trans (congrArg lI (b2_f c_2)))) dL_law_1479 ?_
        refine j_if_eq (tgt := 1485) hx hb dL_law_1480 (by decide) ⟨by decide, by decide⟩ (fun c_3 => ?_) (fun c_3 => absurd c_3 (by decide))
        refine lv_goto (tgt := 1638) hx hb dL_law_1485 (by decide) ?_
        refine W.widen (k := cells + 100) (n := slots + 1000) (by show cells + 6 ≤ cells + 100; omega) (by show slots + 33 ≤ slots + 1000; omega) ?_
        exact kk _ _ _ _ _ (LwS.mk hV2 hC hM ho) hB (lv_sub hl [2, 3, 4, 5, 6] rfl)
      · refine lv_lconst hx hb dL_law_1474 lI_1 ?_
        refine lv_goto (tgt := 1479) hx hb dL_law_1475 (by decide) ?_
        refine j_lcmp0 hx hb (show fo2 (iI 0).toNatClampNeg = _ from ((ef.trans (congrArg lI (b2_c (may_iff hI (by have w := cA.1; unfold isL isA isP at w; omega) cA.1.2 (by have w := cA.2; unfold okQ at w; omega) (by have w := cA.2; unfold okQ at w; omega))))).trans (congrArg lI (b2_t c_2)))) dL_law_1479 ?_
        refine j_if_eq (tgt := 1485) hx hb dL_law_1480 (by decide) ⟨by decide, by decide⟩ (fun c_4 => ?_) (fun c_4 => absurd c_4 (by decide))
        refine lv_goto (tgt := 1638) hx hb dL_law_1485 (by decide) ?_
        refine W.widen (k := cells + 100) (n := slots + 1000) (by show cells + 6 ≤ cells + 100; omega) (by show slots + 33 ≤ slots + 1000; omega) ?_
        exact kk _ _ _ _ _ (LwS.mk hV2 hC hM ho) hB (lv_sub hl [2, 3, 4, 5, 6] rfl)
    · exact (cl_matters_0_1 (σ := σ) cA cB).elim
    · exact (cl_matters_0_2 (σ := σ) cA cB).elim
  · have hM := hM.frL hFl.L
    have ho := hFl.J ho
    show W _ _ _ _ _ _ _ _ _ _ _ _ _ _ _ (F0 m 1412 ls [.int (iI 1)])
    refine lv_istore (lv' := [(5, .int (iI 1)), (4, .int (iI ((6 * i : Nat) : Int))), (0, .ref b), (1, .ref x), (2, .ref xm), (3, .ref oa)]) hx hb dL_law_1412 hl (by decide) rfl (fun ls hl => ?_)
    refine lv_aload_n hx hb dL_law_1414 rfl (lv_at hl 4 rfl) ?_
    refine lv_aload_n hx hb dL_law_1415 rfl (lv_at hl 2 rfl) ?_
    refine lv_iload hx hb dL_law_1416 (lv_at hl 1 rfl) ?_
    refine j_iconst hx hb dL_law_1418 ?_
    refine j_iadd hx hb dL_law_1419 ?_
    refine j_topE (show (((6 * i : Nat) : Int) + 1) = ((6 * i + 1 : Nat) : Int) by omega) ?_
    refine m_sld hx hb hX hbl hB (n := 6 * i + 1) (by omega) hL dL_law_1420 ?_
    refine lv_aload_n hx hb dL_law_1421 rfl (lv_at hl 2 rfl) ?_
    refine lv_iload hx hb dL_law_1422 (lv_at hl 1 rfl) ?_
    refine j_iconst hx hb dL_law_1424 ?_
    refine j_iadd hx hb dL_law_1425 ?_
    refine j_topE (show (((6 * i : Nat) : Int) + 2) = ((6 * i + 2 : Nat) : Int) by omega) ?_
    refine m_sld hx hb hX hbl hB (n := 6 * i + 2) (by omega) hL dL_law_1426 ?_
    refine lv_aload_n hx hb dL_law_1427 rfl (lv_at hl 2 rfl) ?_
    refine lv_iload hx hb dL_law_1428 (lv_at hl 1 rfl) ?_
    refine j_iconst hx hb dL_law_1430 ?_
    refine j_iadd hx hb dL_law_1431 ?_
    refine j_topE (show (((6 * i : Nat) : Int) + 3) = ((6 * i + 3 : Nat) : Int) by omega) ?_
    refine m_sld hx hb hX hbl hB (n := 6 * i + 3) (by omega) hL dL_law_1432 ?_
    refine lv_aload_n hx hb dL_law_1433 rfl (lv_at hl 2 rfl) ?_
    refine lv_iload hx hb dL_law_1434 (lv_at hl 1 rfl) ?_
    refine j_iconst hx hb dL_law_1436 ?_
    refine j_iadd hx hb dL_law_1437 ?_
    refine j_topE (show (((6 * i : Nat) : Int) + 4) = ((6 * i + 4 : Nat) : Int) by omega) ?_
    refine m_sld hx hb hX hbl hB (n := 6 * i + 4) (by omega) hL dL_law_1438 ?_
    refine lv_aload_n hx hb dL_law_1439 rfl (lv_at hl 2 rfl) ?_
    refine lv_iload hx hb dL_law_1440 (lv_at hl 1 rfl) ?_
    refine j_iconst hx hb dL_law_1442 ?_
    refine j_iadd hx hb dL_law_1443 ?_
    refine j_topE (show (((6 * i : Nat) : Int) + 5) = ((6 * i + 5 : Nat) : Int) by omega) ?_
    refine m_sld hx hb hX hbl hB (n := 6 * i + 5) (by omega) hL dL_law_1444 ?_
    refine m_run (va_runV (As := [.int (iI ((xs (6 * i + 1)).toInt)), .int (iI ((xs (6 * i + 2)).toInt)), .int (iI ((xs (6 * i + 3)).toInt)), .int (iI ((xs (6 * i + 4)).toInt)), .int (iI ((xs (6 * i + 5)).toInt))]) (rest := []) ⟨hx, hb, hml, hown, hts⟩ (k_X4_matters (l := l) hM hI (iI_rg _) (iI_rg _) (iI_rg _) (iI_rg _) (iI_rg _)) (cwV 5 hts gL_law_X4_matters rfl rfl rfl (by decide +kernel) ⟨by decide, by decide⟩) ⟨Kp.blind _ _ _ _ _, m_recv hK hB (ci := 4) rfl hM.1, fun U hU hW => hK.pass hB U hU hW⟩ rfl rfl hl.1 rfl (lv_room (Nat.le_of_ble_eq_true rfl)) dL_law_1445 ⟨(by show cells + 6 ≤ 632940; omega), (by show slots + 33 ≤ 7197285; omega)⟩) hB (fun v u H locs hp hB => ?_)
    rcases hp with ⟨cB, rfl, hM, hFm⟩ | ⟨cB, rfl, hM, hFm⟩ | ⟨cB, rfl, hM, hFm⟩
    · exact (cl_matters_1_0 (σ := σ) cA cB).elim
    · have hC := hC.fr hFm
      have ho := hFm.J ho
      have hV2 := hV
      show W _ _ _ _ _ _ _ _ _ _ _ _ _ _ _ (F0 m 1448 ls [.int (iI 0)])
      refine lv_istore (lv' := [(6, .int (iI 0)), (5, .int (iI 1)), (4, .int (iI ((6 * i : Nat) : Int))), (0, .ref b), (1, .ref x), (2, .ref xm), (3, .ref oa)]) hx hb dL_law_1448 hl (by decide) rfl (fun ls hl => ?_)
      refine lv_aload_n hx hb dL_law_1450 rfl (lv_at hl 5 rfl) ?_
      refine m_run (va_runV (As := []) (rest := []) ⟨hx, hb, hml, hown, hts⟩ (k_X4_thrown (l := l) hM hV2.ib) (cwV 0 hts gL_law_X4_thrown rfl rfl rfl (by decide +kernel) ⟨by decide, by decide⟩) ⟨Kp.blind _ _ _ _ _, m_recv hK hB (ci := 4) rfl hM.1, fun U hU hW => hK.pass hB U hU hW⟩ rfl rfl hl.1 rfl (lv_room (Nat.le_of_ble_eq_true rfl)) dL_law_1451 ⟨(by show cells + 6 ≤ 632940; omega), (by show slots + 33 ≤ 7197285; omega)⟩) hB (fun v u H locs hp hB => ?_)
      obtain ⟨rfl, rfl⟩ := hp
      show W _ _ _ _ _ _ _ _ _ _ _ _ _ _ _ (F0 m 1454 ls [.int (iI 1)])
      refine lv_iload hx hb dL_law_1454 (lv_at hl 1 rfl) ?_
      refine j_icmp_eq (tgt := 1461) hx hb dL_law_1456 (by decide) ⟨by decide, by decide⟩ ⟨by decide, by decide⟩ (fun _ => ?_) (fun w => absurd rfl w)
      refine lv_iload hx hb dL_law_1461 (lv_at hl 1 rfl) ?_
      refine j_if_ne (tgt := 1485) hx hb dL_law_1463 (by decide) ⟨by decide, by decide⟩ (fun c_5 => ?_) (fun c_5 => absurd c_5 (by decide))
      refine lv_goto (tgt := 1638) hx hb dL_law_1485 (by decide) ?_
      refine W.widen (k := cells + 100) (n := slots + 1000) (by show cells + 6 ≤ cells + 100; omega) (by show slots + 33 ≤ slots + 1000; omega) ?_
      exact kk _ _ _ _ _ (LwS.mk hV2 hC hM ho) hB (lv_sub hl [2, 3, 4, 5, 6] rfl)
    · exact (cl_matters_1_2 (σ := σ) cA cB).elim
  · have hM := hM.frL hFl.L
    have ho := hFl.J ho
    show W _ _ _ _ _ _ _ _ _ _ _ _ _ _ _ (F0 m 1412 ls [.int (iI 2)])
    refine lv_istore (lv' := [(5, .int (iI 2)), (4, .int (iI ((6 * i : Nat) : Int))), (0, .ref b), (1, .ref x), (2, .ref xm), (3, .ref oa)]) hx hb dL_law_1412 hl (by decide) rfl (fun ls hl => ?_)
    refine lv_aload_n hx hb dL_law_1414 rfl (lv_at hl 4 rfl) ?_
    refine lv_aload_n hx hb dL_law_1415 rfl (lv_at hl 2 rfl) ?_
    refine lv_iload hx hb dL_law_1416 (lv_at hl 1 rfl) ?_
    refine j_iconst hx hb dL_law_1418 ?_
    refine j_iadd hx hb dL_law_1419 ?_
    refine j_topE (show (((6 * i : Nat) : Int) + 1) = ((6 * i + 1 : Nat) : Int) by omega) ?_
    refine m_sld hx hb hX hbl hB (n := 6 * i + 1) (by omega) hL dL_law_1420 ?_
    refine lv_aload_n hx hb dL_law_1421 rfl (lv_at hl 2 rfl) ?_
    refine lv_iload hx hb dL_law_1422 (lv_at hl 1 rfl) ?_
    refine j_iconst hx hb dL_law_1424 ?_
    refine j_iadd hx hb dL_law_1425 ?_
    refine j_topE (show (((6 * i : Nat) : Int) + 2) = ((6 * i + 2 : Nat) : Int) by omega) ?_
    refine m_sld hx hb hX hbl hB (n := 6 * i + 2) (by omega) hL dL_law_1426 ?_
    refine lv_aload_n hx hb dL_law_1427 rfl (lv_at hl 2 rfl) ?_
    refine lv_iload hx hb dL_law_1428 (lv_at hl 1 rfl) ?_
    refine j_iconst hx hb dL_law_1430 ?_
    refine j_iadd hx hb dL_law_1431 ?_
    refine j_topE (show (((6 * i : Nat) : Int) + 3) = ((6 * i + 3 : Nat) : Int) by omega) ?_
    refine m_sld hx hb hX hbl hB (n := 6 * i + 3) (by omega) hL dL_law_1432 ?_
    refine lv_aload_n hx hb dL_law_1433 rfl (lv_at hl 2 rfl) ?_
    refine lv_iload hx hb dL_law_1434 (lv_at hl 1 rfl) ?_
    refine j_iconst hx hb dL_law_1436 ?_
    refine j_iadd hx hb dL_law_1437 ?_
    refine j_topE (show (((6 * i : Nat) : Int) + 4) = ((6 * i + 4 : Nat) : Int) by omega) ?_
    refine m_sld hx hb hX hbl hB (n := 6 * i + 4) (by omega) hL dL_law_1438 ?_
    refine lv_aload_n hx hb dL_law_1439 rfl (lv_at hl 2 rfl) ?_
    refine lv_iload hx hb dL_law_1440 (lv_at hl 1 rfl) ?_
    refine j_iconst hx hb dL_law_1442 ?_
    refine j_iadd hx hb dL_law_1443 ?_
    refine j_topE (show (((6 * i : Nat) : Int) + 5) = ((6 * i + 5 : Nat) : Int) by omega) ?_
    refine m_sld hx hb hX hbl hB (n := 6 * i + 5) (by omega) hL dL_law_1444 ?_
    refine m_run (va_runV (As := [.int (iI ((xs (6 * i + 1)).toInt)), .int (iI ((xs (6 * i + 2)).toInt)), .int (iI ((xs (6 * i + 3)).toInt)), .int (iI ((xs (6 * i + 4)).toInt)), .int (iI ((xs (6 * i + 5)).toInt))]) (rest := []) ⟨hx, hb, hml, hown, hts⟩ (k_X4_matters (l := l) hM hI (iI_rg _) (iI_rg _) (iI_rg _) (iI_rg _) (iI_rg _)) (cwV 5 hts gL_law_X4_matters rfl rfl rfl (by decide +kernel) ⟨by decide, by decide⟩) ⟨Kp.blind _ _ _ _ _, m_recv hK hB (ci := 4) rfl hM.1, fun U hU hW => hK.pass hB U hU hW⟩ rfl rfl hl.1 rfl (lv_room (Nat.le_of_ble_eq_true rfl)) dL_law_1445 ⟨(by show cells + 6 ≤ 632940; omega), (by show slots + 33 ≤ 7197285; omega)⟩) hB (fun v u H locs hp hB => ?_)
    rcases hp with ⟨cB, rfl, hM, hFm⟩ | ⟨cB, rfl, hM, hFm⟩ | ⟨cB, rfl, hM, hFm⟩
    · exact (cl_matters_2_0 (σ := σ) cA cB).elim
    · exact (cl_matters_2_1 (σ := σ) cA cB).elim
    · have hC := hC.fr hFm
      have ho := hFm.J ho
      have hV2 := hV
      show W _ _ _ _ _ _ _ _ _ _ _ _ _ _ _ (F0 m 1448 ls [.int (iI 0)])
      refine lv_istore (lv' := [(6, .int (iI 0)), (5, .int (iI 2)), (4, .int (iI ((6 * i : Nat) : Int))), (0, .ref b), (1, .ref x), (2, .ref xm), (3, .ref oa)]) hx hb dL_law_1448 hl (by decide) rfl (fun ls hl => ?_)
      refine lv_aload_n hx hb dL_law_1450 rfl (lv_at hl 5 rfl) ?_
      refine m_run (va_runV (As := []) (rest := []) ⟨hx, hb, hml, hown, hts⟩ (k_X4_thrown (l := l) hM hV2.ib) (cwV 0 hts gL_law_X4_thrown rfl rfl rfl (by decide +kernel) ⟨by decide, by decide⟩) ⟨Kp.blind _ _ _ _ _, m_recv hK hB (ci := 4) rfl hM.1, fun U hU hW => hK.pass hB U hU hW⟩ rfl rfl hl.1 rfl (lv_room (Nat.le_of_ble_eq_true rfl)) dL_law_1451 ⟨(by show cells + 6 ≤ 632940; omega), (by show slots + 33 ≤ 7197285; omega)⟩) hB (fun v u H locs hp hB => ?_)
      obtain ⟨rfl, rfl⟩ := hp
      show W _ _ _ _ _ _ _ _ _ _ _ _ _ _ _ (F0 m 1454 ls [.int (iI 2)])
      refine lv_iload hx hb dL_law_1454 (lv_at hl 1 rfl) ?_
      refine j_icmp_eq (tgt := 1461) hx hb dL_law_1456 (by decide) ⟨by decide, by decide⟩ ⟨by decide, by decide⟩ (fun _ => ?_) (fun w => absurd rfl w)
      refine lv_iload hx hb dL_law_1461 (lv_at hl 1 rfl) ?_
      refine j_if_ne (tgt := 1485) hx hb dL_law_1463 (by decide) ⟨by decide, by decide⟩ (fun c_6 => ?_) (fun c_6 => absurd c_6 (by decide))
      refine lv_goto (tgt := 1638) hx hb dL_law_1485 (by decide) ?_
      refine W.widen (k := cells + 100) (n := slots + 1000) (by show cells + 6 ≤ cells + 100; omega) (by show slots + 33 ≤ slots + 1000; omega) ?_
      exact kk _ _ _ _ _ (LwS.mk hV2 hC hM ho) hB (lv_sub hl [2, 3, 4, 5, 6] rfl)

set_option maxHeartbeats 4000000 in
set_option maxRecDepth 100000 in
theorem lc_20 {l : Launch} (hfl : l.stackTraces = false) {D : va_G} {cI cP cR cJ : ClassId} {p : Program} {e : Env} {s : State} {m : MethodId} {below : List Frame} {meth : Method} {c : Code} {b L : Nat} {xs : Nat → Int32} (hL : L ≤ 3072) (hx : p.tables.exec = Jvm.exec) (hb : c.code = cL_law) (hml : c.maxLocals = 7) (hown : s.vm.findClass RL = some m.cls) (hts : ∀ w ∈ wsL_law, w.before #[Value.ref b] s = true) (hX : va_X b L xs s s.heap) (hbl : b < s.heap.size) (hK : Kb D s.heap.size (tyL cI cP cR cJ) s) {x xm oa i : Nat} (hi : 6 * i + 6 ≤ L) {cells slots : Nat} (hc : cells + 100 ≤ 632940) (hs : slots + 1000 ≤ 7197285) {σ : Sg} {h0 : Hp} {H : Heap} {locs : List Loc} (hS : LwS cI cP cR cJ x xm oa σ h0) (hB : Bk D s.heap.size s.heap h0 H locs) {ls : Array Slot} (hl : lv_has ls 7 [(4, .int (iI ((6 * i : Nat) : Int))), (0, .ref b), (1, .ref x), (2, .ref xm), (3, .ref oa)]) {Q : State → Prop} (kk : ∀ (σ2 : Sg) (h2 : Hp) (H2 : Heap) (locs2 : List Loc) (ls2 : Array Slot), LwS cI cP cR cJ x xm oa σ2 h2 → Bk D s.heap.size s.heap h2 H2 locs2 → lv_has ls2 7 [(4, .int (iI ((6 * i : Nat) : Int))), (0, .ref b), (1, .ref x), (2, .ref xm), (3, .ref oa)] → W p l e room_1 s m #[Value.ref b] below meth c H2 locs2 (cells + 100) (slots + 1000) Q (F0 m 1638 ls2 [])) : W p l e room_1 s m #[Value.ref b] below meth c H locs cells slots Q (F0 m 1488 ls []) := by
  obtain ⟨hV, ⟨xp, xr, pa, ra, hC⟩, ⟨xa, th, hM⟩, fo, ho⟩ := hS
  have hI := hV.ib
  have hnp := hI.hnp
  have hst := hI.2.2.1
  have hnrI := hI.nrI
  refine lv_aload_n hx hb dL_law_1488 rfl (lv_at hl 2 rfl) ?_
  refine m_run (va_runV (As := []) (rest := []) ⟨hx, hb, hml, hown, hts⟩ (k_X3_isStale (l := l) hC hI) (cwV 0 hts gL_law_X3_isStale rfl rfl rfl (by decide +kernel) ⟨by decide, by decide⟩) ⟨Kp.blind _ _ _ _ _, m_recv hK hB (ci := 3) rfl hC.tb, fun U hU hW => hK.pass hB U hU hW⟩ rfl rfl hl.1 rfl (lv_room (Nat.le_of_ble_eq_true rfl)) dL_law_1489 ⟨(by show cells + 0 ≤ 632940; omega), (by show slots + 0 ≤ 7197285; omega)⟩) hB (fun v u H locs hp hB => ?_)
  obtain ⟨rfl, hC, hFm⟩ := hp
  have hM := hM.fr hFm
  have ho := hFm.J ho
  show W _ _ _ _ _ _ _ _ _ _ _ _ _ _ _ (F0 m 1492 ls [.int (iI (σ 11 0))])
  refine lv_aload_n hx hb dL_law_1492 rfl (lv_at hl 3 rfl) ?_
  refine m_run (va_runV (As := []) (rest := [.int (iI (σ 11 0))]) ⟨hx, hb, hml, hown, hts⟩ (k_X4_isStale (l := l) hM hI ) (cwV 0 hts gL_law_X4_isStale rfl rfl rfl (by decide +kernel) ⟨by decide, by decide⟩) ⟨Kp.blind _ _ _ _ _, m_recv hK hB (ci := 4) rfl hM.1, fun U hU hW => hK.pass hB U hU hW⟩ rfl rfl hl.1 rfl (lv_room (Nat.le_of_ble_eq_true rfl)) dL_law_1493 ⟨(by show cells + 0 ≤ 632940; omega), (by show slots + 0 ≤ 7197285; omega)⟩) hB (fun v u H locs hp hB => ?_)
  obtain ⟨cB, rfl, hM, hFm⟩ := hp
  have hC := hC.fr hFm
  have ho := hFm.J ho
  have hV2 := hV
  show W _ _ _ _ _ _ _ _ _ _ _ _ _ _ _ (F0 m 1496 ls [.int (iI (σ 11 0)), .int (iI (σ 11 0))])
  refine j_icmp_eq (tgt := 1638) hx hb dL_law_1496 (by decide) ⟨by omega, by omega⟩ ⟨by omega, by omega⟩ (fun _ => ?_) (fun w => absurd rfl w)
  refine W.widen (k := cells + 100) (n := slots + 1000) (by show cells + 0 ≤ cells + 100; omega) (by show slots + 0 ≤ slots + 1000; omega) ?_
  exact kk _ _ _ _ _ (LwS.mk hV2 hC hM ho) hB (lv_sub hl [0, 1, 2, 3, 4] rfl)

set_option maxHeartbeats 4000000 in
set_option maxRecDepth 100000 in
theorem lc_21 {l : Launch} (hfl : l.stackTraces = false) {D : va_G} {cI cP cR cJ : ClassId} {p : Program} {e : Env} {s : State} {m : MethodId} {below : List Frame} {meth : Method} {c : Code} {b L : Nat} {xs : Nat → Int32} (hL : L ≤ 3072) (hx : p.tables.exec = Jvm.exec) (hb : c.code = cL_law) (hml : c.maxLocals = 7) (hown : s.vm.findClass RL = some m.cls) (hts : ∀ w ∈ wsL_law, w.before #[Value.ref b] s = true) (hX : va_X b L xs s s.heap) (hbl : b < s.heap.size) (hK : Kb D s.heap.size (tyL cI cP cR cJ) s) {x xm oa i : Nat} (hi : 6 * i + 6 ≤ L) {cells slots : Nat} (hc : cells + 100 ≤ 632940) (hs : slots + 1000 ≤ 7197285) {σ : Sg} {h0 : Hp} {H : Heap} {locs : List Loc} (hS : LwS cI cP cR cJ x xm oa σ h0) (hB : Bk D s.heap.size s.heap h0 H locs) {ls : Array Slot} (hl : lv_has ls 7 [(4, .int (iI ((6 * i : Nat) : Int))), (0, .ref b), (1, .ref x), (2, .ref xm), (3, .ref oa)]) {Q : State → Prop} (kk : ∀ (σ2 : Sg) (h2 : Hp) (H2 : Heap) (locs2 : List Loc) (ls2 : Array Slot), LwS cI cP cR cJ x xm oa σ2 h2 → Bk D s.heap.size s.heap h2 H2 locs2 → lv_has ls2 7 [(4, .int (iI ((6 * i : Nat) : Int))), (0, .ref b), (1, .ref x), (2, .ref xm), (3, .ref oa)] → W p l e room_1 s m #[Value.ref b] below meth c H2 locs2 (cells + 100) (slots + 1000) Q (F0 m 1638 ls2 [])) : W p l e room_1 s m #[Value.ref b] below meth c H locs cells slots Q (F0 m 1501 ls []) := by
  obtain ⟨hV, ⟨xp, xr, pa, ra, hC⟩, ⟨xa, th, hM⟩, fo, ho⟩ := hS
  have hI := hV.ib
  have hnp := hI.hnp
  have hst := hI.2.2.1
  have hnrI := hI.nrI
  refine lv_aload_n hx hb dL_law_1501 rfl (lv_at hl 2 rfl) ?_
  refine m_run (va_runV (As := []) (rest := []) ⟨hx, hb, hml, hown, hts⟩ (k_X3_buildIndex (l := l) hC hI) (cwV 0 hts gL_law_X3_buildIndex rfl rfl rfl (by decide +kernel) ⟨by decide, by decide⟩) ⟨Kp.blind _ _ _ _ _, m_recv hK hB (ci := 3) rfl hC.tb, fun U hU hW => hK.pass hB U hU hW⟩ rfl rfl hl.1 rfl (lv_room (Nat.le_of_ble_eq_true rfl)) dL_law_1502 ⟨(by show cells + 0 ≤ 632940; omega), (by show slots + 0 ≤ 7197285; omega)⟩) hB (fun v u H locs hp hB => ?_)
  obtain ⟨rfl, hC, hFm⟩ := hp
  have hM := hM.fr hFm
  have ho := hFm.J ho
  show W _ _ _ _ _ _ _ _ _ _ _ _ _ _ _ (F0 m 1505 ls [.int (iI (cnt (fun j => live (upS σ 11 0 0) j ∧ (upS σ 11 0 0) 4 (pn (upS σ 11 0 0) j) = 0) (nrN (upS σ 11 0 0))))])
  refine lv_aload_n hx hb dL_law_1505 rfl (lv_at hl 3 rfl) ?_
  refine m_run (va_runV (As := []) (rest := [.int (iI (cnt (fun j => live (upS σ 11 0 0) j ∧ (upS σ 11 0 0) 4 (pn (upS σ 11 0 0) j) = 0) (nrN (upS σ 11 0 0))))]) ⟨hx, hb, hml, hown, hts⟩ (k_X4_buildIndex (l := l) hM hI ) (cwV 0 hts gL_law_X4_buildIndex rfl rfl rfl (by decide +kernel) ⟨by decide, by decide⟩) ⟨Kp.blind _ _ _ _ _, m_recv hK hB (ci := 4) rfl hM.1, fun U hU hW => hK.pass hB U hU hW⟩ rfl rfl hl.1 rfl (lv_room (Nat.le_of_ble_eq_true rfl)) dL_law_1506 ⟨(by show cells + 0 ≤ 632940; omega), (by show slots + 0 ≤ 7197285; omega)⟩) hB (fun v u H locs hp hB => ?_)
  obtain ⟨cB, rfl, hM, hFm⟩ := hp
  have hC := hC.fr hFm
  have ho := hFm.J ho
  have hV2 := hV.stale (v := 0) (by omega)
  show W _ _ _ _ _ _ _ _ _ _ _ _ _ _ _ (F0 m 1509 ls [.int (iI (cnt (fun j => live (upS σ 11 0 0) j ∧ (upS σ 11 0 0) 4 (pn (upS σ 11 0 0) j) = 0) (nrN (upS σ 11 0 0)))), .int (iI (cnt (fun j => live (upS σ 11 0 0) j ∧ (upS σ 11 0 0) 4 (pn (upS σ 11 0 0) j) = 0) (nrN (upS σ 11 0 0))))])
  refine j_icmp_eq (tgt := 1638) hx hb dL_law_1509 (by decide) (cnt_rgI hV2.ib _) (cnt_rgI hV2.ib _) (fun _ => ?_) (fun w => absurd rfl w)
  refine W.widen (k := cells + 100) (n := slots + 1000) (by show cells + 0 ≤ cells + 100; omega) (by show slots + 0 ≤ slots + 1000; omega) ?_
  exact kk _ _ _ _ _ (LwS.mk hV2 hC hM ho) hB (lv_sub hl [0, 1, 2, 3, 4] rfl)

set_option maxHeartbeats 4000000 in
set_option maxRecDepth 100000 in
theorem lc_22 {l : Launch} (hfl : l.stackTraces = false) {D : va_G} {cI cP cR cJ : ClassId} {p : Program} {e : Env} {s : State} {m : MethodId} {below : List Frame} {meth : Method} {c : Code} {b L : Nat} {xs : Nat → Int32} (hL : L ≤ 3072) (hx : p.tables.exec = Jvm.exec) (hb : c.code = cL_law) (hml : c.maxLocals = 7) (hown : s.vm.findClass RL = some m.cls) (hts : ∀ w ∈ wsL_law, w.before #[Value.ref b] s = true) (hX : va_X b L xs s s.heap) (hbl : b < s.heap.size) (hK : Kb D s.heap.size (tyL cI cP cR cJ) s) {x xm oa i : Nat} (hi : 6 * i + 6 ≤ L) {cells slots : Nat} (hc : cells + 100 ≤ 632940) (hs : slots + 1000 ≤ 7197285) {σ : Sg} {h0 : Hp} {H : Heap} {locs : List Loc} (hS : LwS cI cP cR cJ x xm oa σ h0) (hB : Bk D s.heap.size s.heap h0 H locs) {ls : Array Slot} (hl : lv_has ls 7 [(4, .int (iI ((6 * i : Nat) : Int))), (0, .ref b), (1, .ref x), (2, .ref xm), (3, .ref oa)]) {Q : State → Prop} (kk : ∀ (σ2 : Sg) (h2 : Hp) (H2 : Heap) (locs2 : List Loc) (ls2 : Array Slot), LwS cI cP cR cJ x xm oa σ2 h2 → Bk D s.heap.size s.heap h2 H2 locs2 → lv_has ls2 7 [(4, .int (iI ((6 * i : Nat) : Int))), (0, .ref b), (1, .ref x), (2, .ref xm), (3, .ref oa)] → W p l e room_1 s m #[Value.ref b] below meth c H2 locs2 (cells + 100) (slots + 1000) Q (F0 m 1638 ls2 [])) : W p l e room_1 s m #[Value.ref b] below meth c H locs cells slots Q (F0 m 1514 ls []) := by
  obtain ⟨hV, ⟨xp, xr, pa, ra, hC⟩, ⟨xa, th, hM⟩, fo, ho⟩ := hS
  have hI := hV.ib
  have hnp := hI.hnp
  have hst := hI.2.2.1
  have hnrI := hI.nrI
  refine lv_aload_n hx hb dL_law_1514 rfl (lv_at hl 2 rfl) ?_
  refine lv_aload_n hx hb dL_law_1515 rfl (lv_at hl 1 rfl) ?_
  refine lv_iload hx hb dL_law_1516 (lv_at hl 0 rfl) ?_
  refine j_iconst hx hb dL_law_1518 ?_
  refine j_iadd hx hb dL_law_1519 ?_
  refine j_topE (show (((6 * i : Nat) : Int) + 1) = ((6 * i + 1 : Nat) : Int) by omega) ?_
  refine m_sld hx hb hX hbl hB (n := 6 * i + 1) (by omega) hL dL_law_1520 ?_
  refine lv_aload_n hx hb dL_law_1521 rfl (lv_at hl 4 rfl) ?_
  refine m_run (vx_runSW (As := [.ref x, .int (iI ((xs (6 * i + 1)).toInt)), .ref oa]) (rest := []) ⟨hx, hb, hml, hown, hts⟩ (k_L_find (l := l) hfl hC hI ho (iI_rg _)) (vx_cwSW 3 hts gL_law_L_find rfl rfl rfl (by decide +kernel) ⟨by decide, by decide⟩) ⟨Kp.blind _ _ _ _ _, fun U hU hW => hK.pass hB U hU hW⟩ rfl rfl hl.1 rfl (lv_room (Nat.le_of_ble_eq_true rfl)) dL_law_1522 ⟨(by show cells + 2 ≤ 632940; omega), (by show slots + 12 ≤ 7197285; omega)⟩) hB (fun v u H locs hp hB => ?_)
  rcases hp with ⟨rfl, cA, hC, ⟨fo2, ho, ef⟩, hFl⟩ | ⟨rfl, cA, hC, hFl⟩ | ⟨rfl, cA, hC, hFl⟩
  · have hM := hM.frL hFl
    show W _ _ _ _ _ _ _ _ _ _ _ _ _ _ _ (F0 m 1525 ls [.int (iI 0)])
    refine lv_istore (lv' := [(5, .int (iI 0)), (4, .int (iI ((6 * i : Nat) : Int))), (0, .ref b), (1, .ref x), (2, .ref xm), (3, .ref oa)]) hx hb dL_law_1525 hl (by decide) rfl (fun ls hl => ?_)
    refine lv_aload_n hx hb dL_law_1527 rfl (lv_at hl 4 rfl) ?_
    refine lv_aload_n hx hb dL_law_1528 rfl (lv_at hl 2 rfl) ?_
    refine lv_iload hx hb dL_law_1529 (lv_at hl 1 rfl) ?_
    refine j_iconst hx hb dL_law_1531 ?_
    refine j_iadd hx hb dL_law_1532 ?_
    refine j_topE (show (((6 * i : Nat) : Int) + 1) = ((6 * i + 1 : Nat) : Int) by omega) ?_
    refine m_sld hx hb hX hbl hB (n := 6 * i + 1) (by omega) hL dL_law_1533 ?_
    refine m_run (va_runV (As := [.int (iI ((xs (6 * i + 1)).toInt))]) (rest := []) ⟨hx, hb, hml, hown, hts⟩ (k_X4_find (l := l) hM hI (iI_rg _)) (cwV 1 hts gL_law_X4_find rfl rfl rfl (by decide +kernel) ⟨by decide, by decide⟩) ⟨Kp.blind _ _ _ _ _, m_recv hK hB (ci := 4) rfl hM.1, fun U hU hW => hK.pass hB U hU hW⟩ rfl rfl hl.1 rfl (lv_room (Nat.le_of_ble_eq_true rfl)) dL_law_1534 ⟨(by show cells + 2 ≤ 632940; omega), (by show slots + 12 ≤ 7197285; omega)⟩) hB (fun v u H locs hp hB => ?_)
    rcases hp with ⟨cB, rfl, hM, hFm⟩ | ⟨cB, rfl, hM, hFm⟩ | ⟨cB, rfl, hM, hFm⟩
    · have hC := hC.fr hFm
      have ho := hFm.J ho
      have hV2 := hV
      show W _ _ _ _ _ _ _ _ _ _ _ _ _ _ _ (F0 m 1537 ls [.int (iI (cnt (fun j => live σ j ∧ σ 4 (pn σ j) = 0 ∧ σ 8 j = ((xs (6 * i + 1)).toInt)) (nrN σ)))])
      refine lv_istore (lv' := [(6, .int (iI (cnt (fun j => live σ j ∧ σ 4 (pn σ j) = 0 ∧ σ 8 j = ((xs (6 * i + 1)).toInt)) (nrN σ)))), (5, .int (iI 0)), (4, .int (iI ((6 * i : Nat) : Int))), (0, .ref b), (1, .ref x), (2, .ref xm), (3, .ref oa)]) hx hb dL_law_1537 hl (by decide) rfl (fun ls hl => ?_)
      refine lv_aload_n hx hb dL_law_1539 rfl (lv_at hl 5 rfl) ?_
      refine m_run (va_runV (As := []) (rest := []) ⟨hx, hb, hml, hown, hts⟩ (k_X4_thrown (l := l) hM hV2.ib) (cwV 0 hts gL_law_X4_thrown rfl rfl rfl (by decide +kernel) ⟨by decide, by decide⟩) ⟨Kp.blind _ _ _ _ _, m_recv hK hB (ci := 4) rfl hM.1, fun U hU hW => hK.pass hB U hU hW⟩ rfl rfl hl.1 rfl (lv_room (Nat.le_of_ble_eq_true rfl)) dL_law_1540 ⟨(by show cells + 2 ≤ 632940; omega), (by show slots + 12 ≤ 7197285; omega)⟩) hB (fun v u H locs hp hB => ?_)
      obtain ⟨rfl, rfl⟩ := hp
      show W _ _ _ _ _ _ _ _ _ _ _ _ _ _ _ (F0 m 1543 ls [.int (iI 0)])
      refine lv_iload hx hb dL_law_1543 (lv_at hl 1 rfl) ?_
      refine j_icmp_eq (tgt := 1550) hx hb dL_law_1545 (by decide) ⟨by decide, by decide⟩ ⟨by decide, by decide⟩ (fun _ => ?_) (fun w => absurd rfl w)
      refine lv_iload hx hb dL_law_1550 (lv_at hl 1 rfl) ?_
      refine j_if_ne (tgt := 1567) hx hb dL_law_1552 (by decide) ⟨by decide, by decide⟩ (fun c_1 => absurd c_1 (by decide)) (fun c_1 => ?_)
      refine lv_aload_n hx hb dL_law_1555 rfl (lv_at hl 6 rfl) ?_
      refine j_iconst hx hb dL_law_1556 ?_
      refine m_lald hx hb hK hB 3 ho rfl in01 dL_law_1557 ?_
      refine lv_iload hx hb dL_law_1558 (lv_at hl 0 rfl) ?_
      refine lv_i2l hx hb dL_law_1560 (rfl : _ = lI (cnt (fun j => live σ j ∧ σ 4 (pn σ j) = 0 ∧ σ 8 j = ((xs (6 * i + 1)).toInt)) (nrN σ))) ?_
      refine j_lcmp0 hx hb (show fo2 (iI 0).toNatClampNeg = _ from ef) dL_law_1561 ?_
      refine j_if_eq (tgt := 1567) hx hb dL_law_1562 (by decide) ⟨by decide, by decide⟩ (fun c_2 => ?_) (fun c_2 => absurd c_2 (by decide))
      refine lv_goto (tgt := 1638) hx hb dL_law_1567 (by decide) ?_
      refine W.widen (k := cells + 100) (n := slots + 1000) (by show cells + 2 ≤ cells + 100; omega) (by show slots + 12 ≤ slots + 1000; omega) ?_
      exact kk _ _ _ _ _ (LwS.mk hV2 hC hM ho) hB (lv_sub hl [2, 3, 4, 5, 6] rfl)
    · exact (cl_find_0_1 (σ := σ) cA cB).elim
    · exact (cl_find_0_2 (σ := σ) cA cB).elim
  · have hM := hM.frL hFl.L
    have ho := hFl.J ho
    show W _ _ _ _ _ _ _ _ _ _ _ _ _ _ _ (F0 m 1525 ls [.int (iI 1)])
    refine lv_istore (lv' := [(5, .int (iI 1)), (4, .int (iI ((6 * i : Nat) : Int))), (0, .ref b), (1, .ref x), (2, .ref xm), (3, .ref oa)]) hx hb dL_law_1525 hl (by decide) rfl (fun ls hl => ?_)
    refine lv_aload_n hx hb dL_law_1527 rfl (lv_at hl 4 rfl) ?_
    refine lv_aload_n hx hb dL_law_1528 rfl (lv_at hl 2 rfl) ?_
    refine lv_iload hx hb dL_law_1529 (lv_at hl 1 rfl) ?_
    refine j_iconst hx hb dL_law_1531 ?_
    refine j_iadd hx hb dL_law_1532 ?_
    refine j_topE (show (((6 * i : Nat) : Int) + 1) = ((6 * i + 1 : Nat) : Int) by omega) ?_
    refine m_sld hx hb hX hbl hB (n := 6 * i + 1) (by omega) hL dL_law_1533 ?_
    refine m_run (va_runV (As := [.int (iI ((xs (6 * i + 1)).toInt))]) (rest := []) ⟨hx, hb, hml, hown, hts⟩ (k_X4_find (l := l) hM hI (iI_rg _)) (cwV 1 hts gL_law_X4_find rfl rfl rfl (by decide +kernel) ⟨by decide, by decide⟩) ⟨Kp.blind _ _ _ _ _, m_recv hK hB (ci := 4) rfl hM.1, fun U hU hW => hK.pass hB U hU hW⟩ rfl rfl hl.1 rfl (lv_room (Nat.le_of_ble_eq_true rfl)) dL_law_1534 ⟨(by show cells + 2 ≤ 632940; omega), (by show slots + 12 ≤ 7197285; omega)⟩) hB (fun v u H locs hp hB => ?_)
    rcases hp with ⟨cB, rfl, hM, hFm⟩ | ⟨cB, rfl, hM, hFm⟩ | ⟨cB, rfl, hM, hFm⟩
    · exact (cl_find_1_0 (σ := σ) cA cB).elim
    · have hC := hC.fr hFm
      have ho := hFm.J ho
      have hV2 := hV
      show W _ _ _ _ _ _ _ _ _ _ _ _ _ _ _ (F0 m 1537 ls [.int (iI 0)])
      refine lv_istore (lv' := [(6, .int (iI 0)), (5, .int (iI 1)), (4, .int (iI ((6 * i : Nat) : Int))), (0, .ref b), (1, .ref x), (2, .ref xm), (3, .ref oa)]) hx hb dL_law_1537 hl (by decide) rfl (fun ls hl => ?_)
      refine lv_aload_n hx hb dL_law_1539 rfl (lv_at hl 5 rfl) ?_
      refine m_run (va_runV (As := []) (rest := []) ⟨hx, hb, hml, hown, hts⟩ (k_X4_thrown (l := l) hM hV2.ib) (cwV 0 hts gL_law_X4_thrown rfl rfl rfl (by decide +kernel) ⟨by decide, by decide⟩) ⟨Kp.blind _ _ _ _ _, m_recv hK hB (ci := 4) rfl hM.1, fun U hU hW => hK.pass hB U hU hW⟩ rfl rfl hl.1 rfl (lv_room (Nat.le_of_ble_eq_true rfl)) dL_law_1540 ⟨(by show cells + 2 ≤ 632940; omega), (by show slots + 12 ≤ 7197285; omega)⟩) hB (fun v u H locs hp hB => ?_)
      obtain ⟨rfl, rfl⟩ := hp
      show W _ _ _ _ _ _ _ _ _ _ _ _ _ _ _ (F0 m 1543 ls [.int (iI 1)])
      refine lv_iload hx hb dL_law_1543 (lv_at hl 1 rfl) ?_
      refine j_icmp_eq (tgt := 1550) hx hb dL_law_1545 (by decide) ⟨by decide, by decide⟩ ⟨by decide, by decide⟩ (fun _ => ?_) (fun w => absurd rfl w)
      refine lv_iload hx hb dL_law_1550 (lv_at hl 1 rfl) ?_
      refine j_if_ne (tgt := 1567) hx hb dL_law_1552 (by decide) ⟨by decide, by decide⟩ (fun c_3 => ?_) (fun c_3 => absurd c_3 (by decide))
      refine lv_goto (tgt := 1638) hx hb dL_law_1567 (by decide) ?_
      refine W.widen (k := cells + 100) (n := slots + 1000) (by show cells + 2 ≤ cells + 100; omega) (by show slots + 12 ≤ slots + 1000; omega) ?_
      exact kk _ _ _ _ _ (LwS.mk hV2 hC hM ho) hB (lv_sub hl [2, 3, 4, 5, 6] rfl)
    · exact (cl_find_1_2 (σ := σ) cA cB).elim
  · have hM := hM.frL hFl.L
    have ho := hFl.J ho
    show W _ _ _ _ _ _ _ _ _ _ _ _ _ _ _ (F0 m 1525 ls [.int (iI 2)])
    refine lv_istore (lv' := [(5, .int (iI 2)), (4, .int (iI ((6 * i : Nat) : Int))), (0, .ref b), (1, .ref x), (2, .ref xm), (3, .ref oa)]) hx hb dL_law_1525 hl (by decide) rfl (fun ls hl => ?_)
    refine lv_aload_n hx hb dL_law_1527 rfl (lv_at hl 4 rfl) ?_
    refine lv_aload_n hx hb dL_law_1528 rfl (lv_at hl 2 rfl) ?_
    refine lv_iload hx hb dL_law_1529 (lv_at hl 1 rfl) ?_
    refine j_iconst hx hb dL_law_1531 ?_
    refine j_iadd hx hb dL_law_1532 ?_
    refine j_topE (show (((6 * i : Nat) : Int) + 1) = ((6 * i + 1 : Nat) : Int) by omega) ?_
    refine m_sld hx hb hX hbl hB (n := 6 * i + 1) (by omega) hL dL_law_1533 ?_
    refine m_run (va_runV (As := [.int (iI ((xs (6 * i + 1)).toInt))]) (rest := []) ⟨hx, hb, hml, hown, hts⟩ (k_X4_find (l := l) hM hI (iI_rg _)) (cwV 1 hts gL_law_X4_find rfl rfl rfl (by decide +kernel) ⟨by decide, by decide⟩) ⟨Kp.blind _ _ _ _ _, m_recv hK hB (ci := 4) rfl hM.1, fun U hU hW => hK.pass hB U hU hW⟩ rfl rfl hl.1 rfl (lv_room (Nat.le_of_ble_eq_true rfl)) dL_law_1534 ⟨(by show cells + 2 ≤ 632940; omega), (by show slots + 12 ≤ 7197285; omega)⟩) hB (fun v u H locs hp hB => ?_)
    rcases hp with ⟨cB, rfl, hM, hFm⟩ | ⟨cB, rfl, hM, hFm⟩ | ⟨cB, rfl, hM, hFm⟩
    · exact (cl_find_2_0 (σ := σ) cA cB).elim
    · exact (cl_find_2_1 (σ := σ) cA cB).elim
    · have hC := hC.fr hFm
      have ho := hFm.J ho
      have hV2 := hV
      show W _ _ _ _ _ _ _ _ _ _ _ _ _ _ _ (F0 m 1537 ls [.int (iI 0)])
      refine lv_istore (lv' := [(6, .int (iI 0)), (5, .int (iI 2)), (4, .int (iI ((6 * i : Nat) : Int))), (0, .ref b), (1, .ref x), (2, .ref xm), (3, .ref oa)]) hx hb dL_law_1537 hl (by decide) rfl (fun ls hl => ?_)
      refine lv_aload_n hx hb dL_law_1539 rfl (lv_at hl 5 rfl) ?_
      refine m_run (va_runV (As := []) (rest := []) ⟨hx, hb, hml, hown, hts⟩ (k_X4_thrown (l := l) hM hV2.ib) (cwV 0 hts gL_law_X4_thrown rfl rfl rfl (by decide +kernel) ⟨by decide, by decide⟩) ⟨Kp.blind _ _ _ _ _, m_recv hK hB (ci := 4) rfl hM.1, fun U hU hW => hK.pass hB U hU hW⟩ rfl rfl hl.1 rfl (lv_room (Nat.le_of_ble_eq_true rfl)) dL_law_1540 ⟨(by show cells + 2 ≤ 632940; omega), (by show slots + 12 ≤ 7197285; omega)⟩) hB (fun v u H locs hp hB => ?_)
      obtain ⟨rfl, rfl⟩ := hp
      show W _ _ _ _ _ _ _ _ _ _ _ _ _ _ _ (F0 m 1543 ls [.int (iI 2)])
      refine lv_iload hx hb dL_law_1543 (lv_at hl 1 rfl) ?_
      refine j_icmp_eq (tgt := 1550) hx hb dL_law_1545 (by decide) ⟨by decide, by decide⟩ ⟨by decide, by decide⟩ (fun _ => ?_) (fun w => absurd rfl w)
      refine lv_iload hx hb dL_law_1550 (lv_at hl 1 rfl) ?_
      refine j_if_ne (tgt := 1567) hx hb dL_law_1552 (by decide) ⟨by decide, by decide⟩ (fun c_4 => ?_) (fun c_4 => absurd c_4 (by decide))
      refine lv_goto (tgt := 1638) hx hb dL_law_1567 (by decide) ?_
      refine W.widen (k := cells + 100) (n := slots + 1000) (by show cells + 2 ≤ cells + 100; omega) (by show slots + 12 ≤ slots + 1000; omega) ?_
      exact kk _ _ _ _ _ (LwS.mk hV2 hC hM ho) hB (lv_sub hl [2, 3, 4, 5, 6] rfl)

set_option maxHeartbeats 4000000 in
set_option maxRecDepth 100000 in
theorem lc_23 {l : Launch} (hfl : l.stackTraces = false) {D : va_G} {cI cP cR cJ : ClassId} {p : Program} {e : Env} {s : State} {m : MethodId} {below : List Frame} {meth : Method} {c : Code} {b L : Nat} {xs : Nat → Int32} (hL : L ≤ 3072) (hx : p.tables.exec = Jvm.exec) (hb : c.code = cL_law) (hml : c.maxLocals = 7) (hown : s.vm.findClass RL = some m.cls) (hts : ∀ w ∈ wsL_law, w.before #[Value.ref b] s = true) (hX : va_X b L xs s s.heap) (hbl : b < s.heap.size) (hK : Kb D s.heap.size (tyL cI cP cR cJ) s) {x xm oa i : Nat} (hi : 6 * i + 6 ≤ L) {cells slots : Nat} (hc : cells + 100 ≤ 632940) (hs : slots + 1000 ≤ 7197285) {σ : Sg} {h0 : Hp} {H : Heap} {locs : List Loc} (hS : LwS cI cP cR cJ x xm oa σ h0) (hB : Bk D s.heap.size s.heap h0 H locs) {ls : Array Slot} (hl : lv_has ls 7 [(4, .int (iI ((6 * i : Nat) : Int))), (0, .ref b), (1, .ref x), (2, .ref xm), (3, .ref oa)]) {Q : State → Prop} (kk : ∀ (σ2 : Sg) (h2 : Hp) (H2 : Heap) (locs2 : List Loc) (ls2 : Array Slot), LwS cI cP cR cJ x xm oa σ2 h2 → Bk D s.heap.size s.heap h2 H2 locs2 → lv_has ls2 7 [(4, .int (iI ((6 * i : Nat) : Int))), (0, .ref b), (1, .ref x), (2, .ref xm), (3, .ref oa)] → W p l e room_1 s m #[Value.ref b] below meth c H2 locs2 (cells + 100) (slots + 1000) Q (F0 m 1638 ls2 [])) : W p l e room_1 s m #[Value.ref b] below meth c H locs cells slots Q (F0 m 1570 ls []) := by
  obtain ⟨hV, ⟨xp, xr, pa, ra, hC⟩, ⟨xa, th, hM⟩, fo, ho⟩ := hS
  have hI := hV.ib
  have hnp := hI.hnp
  have hst := hI.2.2.1
  have hnrI := hI.nrI
  refine lv_aload_n hx hb dL_law_1570 rfl (lv_at hl 2 rfl) ?_
  refine lv_aload_n hx hb dL_law_1571 rfl (lv_at hl 1 rfl) ?_
  refine lv_iload hx hb dL_law_1572 (lv_at hl 0 rfl) ?_
  refine j_iconst hx hb dL_law_1574 ?_
  refine j_iadd hx hb dL_law_1575 ?_
  refine j_topE (show (((6 * i : Nat) : Int) + 1) = ((6 * i + 1 : Nat) : Int) by omega) ?_
  refine m_sld hx hb hX hbl hB (n := 6 * i + 1) (by omega) hL dL_law_1576 ?_
  refine lv_aload_n hx hb dL_law_1577 rfl (lv_at hl 1 rfl) ?_
  refine lv_iload hx hb dL_law_1578 (lv_at hl 0 rfl) ?_
  refine j_iconst hx hb dL_law_1580 ?_
  refine j_iadd hx hb dL_law_1581 ?_
  refine j_topE (show (((6 * i : Nat) : Int) + 2) = ((6 * i + 2 : Nat) : Int) by omega) ?_
  refine m_sld hx hb hX hbl hB (n := 6 * i + 2) (by omega) hL dL_law_1582 ?_
  refine lv_aload_n hx hb dL_law_1583 rfl (lv_at hl 4 rfl) ?_
  refine m_run (vx_runSW (As := [.ref x, .int (iI ((xs (6 * i + 1)).toInt)), .int (iI ((xs (6 * i + 2)).toInt)), .ref oa]) (rest := []) ⟨hx, hb, hml, hown, hts⟩ (k_L_findIn (l := l) hfl hC hI ho (iI_rg _) (iI_rg _)) (vx_cwSW 4 hts gL_law_L_findIn rfl rfl rfl (by decide +kernel) ⟨by decide, by decide⟩) ⟨Kp.blind _ _ _ _ _, fun U hU hW => hK.pass hB U hU hW⟩ rfl rfl hl.1 rfl (lv_room (Nat.le_of_ble_eq_true rfl)) dL_law_1584 ⟨(by show cells + 3 ≤ 632940; omega), (by show slots + 18 ≤ 7197285; omega)⟩) hB (fun v u H locs hp hB => ?_)
  rcases hp with ⟨rfl, cA, hC, ⟨fo2, ho, ef⟩, hFl⟩ | ⟨rfl, cA, hC, hFl⟩ | ⟨rfl, cA, hC, hFl⟩
  · have hM := hM.frL hFl
    show W _ _ _ _ _ _ _ _ _ _ _ _ _ _ _ (F0 m 1587 ls [.int (iI 0)])
    refine lv_istore (lv' := [(5, .int (iI 0)), (4, .int (iI ((6 * i : Nat) : Int))), (0, .ref b), (1, .ref x), (2, .ref xm), (3, .ref oa)]) hx hb dL_law_1587 hl (by decide) rfl (fun ls hl => ?_)
    refine lv_aload_n hx hb dL_law_1589 rfl (lv_at hl 4 rfl) ?_
    refine lv_aload_n hx hb dL_law_1590 rfl (lv_at hl 2 rfl) ?_
    refine lv_iload hx hb dL_law_1591 (lv_at hl 1 rfl) ?_
    refine j_iconst hx hb dL_law_1593 ?_
    refine j_iadd hx hb dL_law_1594 ?_
    refine j_topE (show (((6 * i : Nat) : Int) + 1) = ((6 * i + 1 : Nat) : Int) by omega) ?_
    refine m_sld hx hb hX hbl hB (n := 6 * i + 1) (by omega) hL dL_law_1595 ?_
    refine lv_aload_n hx hb dL_law_1596 rfl (lv_at hl 2 rfl) ?_
    refine lv_iload hx hb dL_law_1597 (lv_at hl 1 rfl) ?_
    refine j_iconst hx hb dL_law_1599 ?_
    refine j_iadd hx hb dL_law_1600 ?_
    refine j_topE (show (((6 * i : Nat) : Int) + 2) = ((6 * i + 2 : Nat) : Int) by omega) ?_
    refine m_sld hx hb hX hbl hB (n := 6 * i + 2) (by omega) hL dL_law_1601 ?_
    refine m_run (va_runV (As := [.int (iI ((xs (6 * i + 1)).toInt)), .int (iI ((xs (6 * i + 2)).toInt))]) (rest := []) ⟨hx, hb, hml, hown, hts⟩ (k_X4_findIn (l := l) hM hI (iI_rg _) (iI_rg _)) (cwV 2 hts gL_law_X4_findIn rfl rfl rfl (by decide +kernel) ⟨by decide, by decide⟩) ⟨Kp.blind _ _ _ _ _, m_recv hK hB (ci := 4) rfl hM.1, fun U hU hW => hK.pass hB U hU hW⟩ rfl rfl hl.1 rfl (lv_room (Nat.le_of_ble_eq_true rfl)) dL_law_1602 ⟨(by show cells + 3 ≤ 632940; omega), (by show slots + 18 ≤ 7197285; omega)⟩) hB (fun v u H locs hp hB => ?_)
    rcases hp with ⟨cB, rfl, hM, hFm⟩ | ⟨cB, rfl, hM, hFm⟩ | ⟨cB, rfl, hM, hFm⟩
    · have hC := hC.fr hFm
      have ho := hFm.J ho
      have hV2 := hV
      show W _ _ _ _ _ _ _ _ _ _ _ _ _ _ _ (F0 m 1605 ls [.int (iI (cnt (fun j => live σ j ∧ pn σ j = ((xs (6 * i + 1)).toInt).toNat ∧ σ 8 j = ((xs (6 * i + 2)).toInt)) (nrN σ)))])
      refine lv_istore (lv' := [(6, .int (iI (cnt (fun j => live σ j ∧ pn σ j = ((xs (6 * i + 1)).toInt).toNat ∧ σ 8 j = ((xs (6 * i + 2)).toInt)) (nrN σ)))), (5, .int (iI 0)), (4, .int (iI ((6 * i : Nat) : Int))), (0, .ref b), (1, .ref x), (2, .ref xm), (3, .ref oa)]) hx hb dL_law_1605 hl (by decide) rfl (fun ls hl => ?_)
      refine lv_aload_n hx hb dL_law_1607 rfl (lv_at hl 5 rfl) ?_
      refine m_run (va_runV (As := []) (rest := []) ⟨hx, hb, hml, hown, hts⟩ (k_X4_thrown (l := l) hM hV2.ib) (cwV 0 hts gL_law_X4_thrown rfl rfl rfl (by decide +kernel) ⟨by decide, by decide⟩) ⟨Kp.blind _ _ _ _ _, m_recv hK hB (ci := 4) rfl hM.1, fun U hU hW => hK.pass hB U hU hW⟩ rfl rfl hl.1 rfl (lv_room (Nat.le_of_ble_eq_true rfl)) dL_law_1608 ⟨(by show cells + 3 ≤ 632940; omega), (by show slots + 18 ≤ 7197285; omega)⟩) hB (fun v u H locs hp hB => ?_)
      obtain ⟨rfl, rfl⟩ := hp
      show W _ _ _ _ _ _ _ _ _ _ _ _ _ _ _ (F0 m 1611 ls [.int (iI 0)])
      refine lv_iload hx hb dL_law_1611 (lv_at hl 1 rfl) ?_
      refine j_icmp_eq (tgt := 1618) hx hb dL_law_1613 (by decide) ⟨by decide, by decide⟩ ⟨by decide, by decide⟩ (fun _ => ?_) (fun w => absurd rfl w)
      refine lv_iload hx hb dL_law_1618 (lv_at hl 1 rfl) ?_
      refine j_if_ne (tgt := 1635) hx hb dL_law_1620 (by decide) ⟨by decide, by decide⟩ (fun c_1 => absurd c_1 (by decide)) (fun c_1 => ?_)
      refine lv_aload_n hx hb dL_law_1623 rfl (lv_at hl 6 rfl) ?_
      refine j_iconst hx hb dL_law_1624 ?_
      refine m_lald hx hb hK hB 3 ho rfl in01 dL_law_1625 ?_
      refine lv_iload hx hb dL_law_1626 (lv_at hl 0 rfl) ?_
      refine lv_i2l hx hb dL_law_1628 (rfl : _ = lI (cnt (fun j => live σ j ∧ pn σ j = ((xs (6 * i + 1)).toInt).toNat ∧ σ 8 j = ((xs (6 * i + 2)).toInt)) (nrN σ))) ?_
      refine j_lcmp0 hx hb (show fo2 (iI 0).toNatClampNeg = _ from ef) dL_law_1629 ?_
      refine j_if_eq (tgt := 1635) hx hb dL_law_1630 (by decide) ⟨by decide, by decide⟩ (fun c_2 => ?_) (fun c_2 => absurd c_2 (by decide))
      refine lv_goto (tgt := 1638) hx hb dL_law_1635 (by decide) ?_
      refine W.widen (k := cells + 100) (n := slots + 1000) (by show cells + 3 ≤ cells + 100; omega) (by show slots + 18 ≤ slots + 1000; omega) ?_
      exact kk _ _ _ _ _ (LwS.mk hV2 hC hM ho) hB (lv_sub hl [2, 3, 4, 5, 6] rfl)
    · exact (cl_findIn_0_1 (σ := σ) cA cB).elim
    · exact (cl_findIn_0_2 (σ := σ) cA cB).elim
  · have hM := hM.frL hFl.L
    have ho := hFl.J ho
    show W _ _ _ _ _ _ _ _ _ _ _ _ _ _ _ (F0 m 1587 ls [.int (iI 1)])
    refine lv_istore (lv' := [(5, .int (iI 1)), (4, .int (iI ((6 * i : Nat) : Int))), (0, .ref b), (1, .ref x), (2, .ref xm), (3, .ref oa)]) hx hb dL_law_1587 hl (by decide) rfl (fun ls hl => ?_)
    refine lv_aload_n hx hb dL_law_1589 rfl (lv_at hl 4 rfl) ?_
    refine lv_aload_n hx hb dL_law_1590 rfl (lv_at hl 2 rfl) ?_
    refine lv_iload hx hb dL_law_1591 (lv_at hl 1 rfl) ?_
    refine j_iconst hx hb dL_law_1593 ?_
    refine j_iadd hx hb dL_law_1594 ?_
    refine j_topE (show (((6 * i : Nat) : Int) + 1) = ((6 * i + 1 : Nat) : Int) by omega) ?_
    refine m_sld hx hb hX hbl hB (n := 6 * i + 1) (by omega) hL dL_law_1595 ?_
    refine lv_aload_n hx hb dL_law_1596 rfl (lv_at hl 2 rfl) ?_
    refine lv_iload hx hb dL_law_1597 (lv_at hl 1 rfl) ?_
    refine j_iconst hx hb dL_law_1599 ?_
    refine j_iadd hx hb dL_law_1600 ?_
    refine j_topE (show (((6 * i : Nat) : Int) + 2) = ((6 * i + 2 : Nat) : Int) by omega) ?_
    refine m_sld hx hb hX hbl hB (n := 6 * i + 2) (by omega) hL dL_law_1601 ?_
    refine m_run (va_runV (As := [.int (iI ((xs (6 * i + 1)).toInt)), .int (iI ((xs (6 * i + 2)).toInt))]) (rest := []) ⟨hx, hb, hml, hown, hts⟩ (k_X4_findIn (l := l) hM hI (iI_rg _) (iI_rg _)) (cwV 2 hts gL_law_X4_findIn rfl rfl rfl (by decide +kernel) ⟨by decide, by decide⟩) ⟨Kp.blind _ _ _ _ _, m_recv hK hB (ci := 4) rfl hM.1, fun U hU hW => hK.pass hB U hU hW⟩ rfl rfl hl.1 rfl (lv_room (Nat.le_of_ble_eq_true rfl)) dL_law_1602 ⟨(by show cells + 3 ≤ 632940; omega), (by show slots + 18 ≤ 7197285; omega)⟩) hB (fun v u H locs hp hB => ?_)
    rcases hp with ⟨cB, rfl, hM, hFm⟩ | ⟨cB, rfl, hM, hFm⟩ | ⟨cB, rfl, hM, hFm⟩
    · exact (cl_findIn_1_0 (σ := σ) cA cB).elim
    · have hC := hC.fr hFm
      have ho := hFm.J ho
      have hV2 := hV
      show W _ _ _ _ _ _ _ _ _ _ _ _ _ _ _ (F0 m 1605 ls [.int (iI 0)])
      refine lv_istore (lv' := [(6, .int (iI 0)), (5, .int (iI 1)), (4, .int (iI ((6 * i : Nat) : Int))), (0, .ref b), (1, .ref x), (2, .ref xm), (3, .ref oa)]) hx hb dL_law_1605 hl (by decide) rfl (fun ls hl => ?_)
      refine lv_aload_n hx hb dL_law_1607 rfl (lv_at hl 5 rfl) ?_
      refine m_run (va_runV (As := []) (rest := []) ⟨hx, hb, hml, hown, hts⟩ (k_X4_thrown (l := l) hM hV2.ib) (cwV 0 hts gL_law_X4_thrown rfl rfl rfl (by decide +kernel) ⟨by decide, by decide⟩) ⟨Kp.blind _ _ _ _ _, m_recv hK hB (ci := 4) rfl hM.1, fun U hU hW => hK.pass hB U hU hW⟩ rfl rfl hl.1 rfl (lv_room (Nat.le_of_ble_eq_true rfl)) dL_law_1608 ⟨(by show cells + 3 ≤ 632940; omega), (by show slots + 18 ≤ 7197285; omega)⟩) hB (fun v u H locs hp hB => ?_)
      obtain ⟨rfl, rfl⟩ := hp
      show W _ _ _ _ _ _ _ _ _ _ _ _ _ _ _ (F0 m 1611 ls [.int (iI 1)])
      refine lv_iload hx hb dL_law_1611 (lv_at hl 1 rfl) ?_
      refine j_icmp_eq (tgt := 1618) hx hb dL_law_1613 (by decide) ⟨by decide, by decide⟩ ⟨by decide, by decide⟩ (fun _ => ?_) (fun w => absurd rfl w)
      refine lv_iload hx hb dL_law_1618 (lv_at hl 1 rfl) ?_
      refine j_if_ne (tgt := 1635) hx hb dL_law_1620 (by decide) ⟨by decide, by decide⟩ (fun c_3 => ?_) (fun c_3 => absurd c_3 (by decide))
      refine lv_goto (tgt := 1638) hx hb dL_law_1635 (by decide) ?_
      refine W.widen (k := cells + 100) (n := slots + 1000) (by show cells + 3 ≤ cells + 100; omega) (by show slots + 18 ≤ slots + 1000; omega) ?_
      exact kk _ _ _ _ _ (LwS.mk hV2 hC hM ho) hB (lv_sub hl [2, 3, 4, 5, 6] rfl)
    · exact (cl_findIn_1_2 (σ := σ) cA cB).elim
  · have hM := hM.frL hFl.L
    have ho := hFl.J ho
    show W _ _ _ _ _ _ _ _ _ _ _ _ _ _ _ (F0 m 1587 ls [.int (iI 2)])
    refine lv_istore (lv' := [(5, .int (iI 2)), (4, .int (iI ((6 * i : Nat) : Int))), (0, .ref b), (1, .ref x), (2, .ref xm), (3, .ref oa)]) hx hb dL_law_1587 hl (by decide) rfl (fun ls hl => ?_)
    refine lv_aload_n hx hb dL_law_1589 rfl (lv_at hl 4 rfl) ?_
    refine lv_aload_n hx hb dL_law_1590 rfl (lv_at hl 2 rfl) ?_
    refine lv_iload hx hb dL_law_1591 (lv_at hl 1 rfl) ?_
    refine j_iconst hx hb dL_law_1593 ?_
    refine j_iadd hx hb dL_law_1594 ?_
    refine j_topE (show (((6 * i : Nat) : Int) + 1) = ((6 * i + 1 : Nat) : Int) by omega) ?_
    refine m_sld hx hb hX hbl hB (n := 6 * i + 1) (by omega) hL dL_law_1595 ?_
    refine lv_aload_n hx hb dL_law_1596 rfl (lv_at hl 2 rfl) ?_
    refine lv_iload hx hb dL_law_1597 (lv_at hl 1 rfl) ?_
    refine j_iconst hx hb dL_law_1599 ?_
    refine j_iadd hx hb dL_law_1600 ?_
    refine j_topE (show (((6 * i : Nat) : Int) + 2) = ((6 * i + 2 : Nat) : Int) by omega) ?_
    refine m_sld hx hb hX hbl hB (n := 6 * i + 2) (by omega) hL dL_law_1601 ?_
    refine m_run (va_runV (As := [.int (iI ((xs (6 * i + 1)).toInt)), .int (iI ((xs (6 * i + 2)).toInt))]) (rest := []) ⟨hx, hb, hml, hown, hts⟩ (k_X4_findIn (l := l) hM hI (iI_rg _) (iI_rg _)) (cwV 2 hts gL_law_X4_findIn rfl rfl rfl (by decide +kernel) ⟨by decide, by decide⟩) ⟨Kp.blind _ _ _ _ _, m_recv hK hB (ci := 4) rfl hM.1, fun U hU hW => hK.pass hB U hU hW⟩ rfl rfl hl.1 rfl (lv_room (Nat.le_of_ble_eq_true rfl)) dL_law_1602 ⟨(by show cells + 3 ≤ 632940; omega), (by show slots + 18 ≤ 7197285; omega)⟩) hB (fun v u H locs hp hB => ?_)
    rcases hp with ⟨cB, rfl, hM, hFm⟩ | ⟨cB, rfl, hM, hFm⟩ | ⟨cB, rfl, hM, hFm⟩
    · exact (cl_findIn_2_0 (σ := σ) cA cB).elim
    · exact (cl_findIn_2_1 (σ := σ) cA cB).elim
    · have hC := hC.fr hFm
      have ho := hFm.J ho
      have hV2 := hV
      show W _ _ _ _ _ _ _ _ _ _ _ _ _ _ _ (F0 m 1605 ls [.int (iI 0)])
      refine lv_istore (lv' := [(6, .int (iI 0)), (5, .int (iI 2)), (4, .int (iI ((6 * i : Nat) : Int))), (0, .ref b), (1, .ref x), (2, .ref xm), (3, .ref oa)]) hx hb dL_law_1605 hl (by decide) rfl (fun ls hl => ?_)
      refine lv_aload_n hx hb dL_law_1607 rfl (lv_at hl 5 rfl) ?_
      refine m_run (va_runV (As := []) (rest := []) ⟨hx, hb, hml, hown, hts⟩ (k_X4_thrown (l := l) hM hV2.ib) (cwV 0 hts gL_law_X4_thrown rfl rfl rfl (by decide +kernel) ⟨by decide, by decide⟩) ⟨Kp.blind _ _ _ _ _, m_recv hK hB (ci := 4) rfl hM.1, fun U hU hW => hK.pass hB U hU hW⟩ rfl rfl hl.1 rfl (lv_room (Nat.le_of_ble_eq_true rfl)) dL_law_1608 ⟨(by show cells + 3 ≤ 632940; omega), (by show slots + 18 ≤ 7197285; omega)⟩) hB (fun v u H locs hp hB => ?_)
      obtain ⟨rfl, rfl⟩ := hp
      show W _ _ _ _ _ _ _ _ _ _ _ _ _ _ _ (F0 m 1611 ls [.int (iI 2)])
      refine lv_iload hx hb dL_law_1611 (lv_at hl 1 rfl) ?_
      refine j_icmp_eq (tgt := 1618) hx hb dL_law_1613 (by decide) ⟨by decide, by decide⟩ ⟨by decide, by decide⟩ (fun _ => ?_) (fun w => absurd rfl w)
      refine lv_iload hx hb dL_law_1618 (lv_at hl 1 rfl) ?_
      refine j_if_ne (tgt := 1635) hx hb dL_law_1620 (by decide) ⟨by decide, by decide⟩ (fun c_4 => ?_) (fun c_4 => absurd c_4 (by decide))
      refine lv_goto (tgt := 1638) hx hb dL_law_1635 (by decide) ?_
      refine W.widen (k := cells + 100) (n := slots + 1000) (by show cells + 3 ≤ cells + 100; omega) (by show slots + 18 ≤ slots + 1000; omega) ?_
      exact kk _ _ _ _ _ (LwS.mk hV2 hC hM ho) hB (lv_sub hl [2, 3, 4, 5, 6] rfl)

