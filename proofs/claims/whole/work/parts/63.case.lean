set_option maxHeartbeats 4000000 in
set_option maxRecDepth 100000 in
theorem lc_4 {l : Launch} (hfl : l.stackTraces = false) {D : va_G} {cI cP cR cJ : ClassId} {p : Program} {e : Env} {s : State} {m : MethodId} {below : List Frame} {meth : Method} {c : Code} {b L : Nat} {xs : Nat → Int32} (hL : L ≤ 3072) (hx : p.tables.exec = Jvm.exec) (hb : c.code = cL_law) (hml : c.maxLocals = 7) (hown : s.vm.findClass RL = some m.cls) (hts : ∀ w ∈ wsL_law, w.before #[Value.ref b] s = true) (hX : va_X b L xs s s.heap) (hbl : b < s.heap.size) (hK : Kb D s.heap.size (tyL cI cP cR cJ) s) {x xm oa i : Nat} (hi : 6 * i + 6 ≤ L) {cells slots : Nat} (hc : cells + 100 ≤ 632940) (hs : slots + 1000 ≤ 7197285) {σ : Sg} {h0 : Hp} {H : Heap} {locs : List Loc} (hS : LwS cI cP cR cJ x xm oa σ h0) (hB : Bk D s.heap.size s.heap h0 H locs) {ls : Array Slot} (hl : lv_has ls 7 [(4, .int (iI ((6 * i : Nat) : Int))), (0, .ref b), (1, .ref x), (2, .ref xm), (3, .ref oa)]) {Q : State → Prop} (kk : ∀ (σ2 : Sg) (h2 : Hp) (H2 : Heap) (locs2 : List Loc) (ls2 : Array Slot), LwS cI cP cR cJ x xm oa σ2 h2 → Bk D s.heap.size s.heap h2 H2 locs2 → lv_has ls2 7 [(4, .int (iI ((6 * i : Nat) : Int))), (0, .ref b), (1, .ref x), (2, .ref xm), (3, .ref oa)] → W p l e room_1 s m #[Value.ref b] below meth c H2 locs2 (cells + 100) (slots + 1000) Q (F0 m 1638 ls2 [])) : W p l e room_1 s m #[Value.ref b] below meth c H locs cells slots Q (F0 m 472 ls []) := by
  obtain ⟨hV, ⟨xp, xr, pa, ra, hC⟩, ⟨xa, th, hM⟩, fo, ho⟩ := hS
  have hI := hV.ib
  have hnp := hI.hnp
  have hst := hI.2.2.1
  have hnrI := hI.nrI
  refine lv_aload_n hx hb dL_law_472 rfl (lv_at hl 2 rfl) ?_
  refine lv_aload_n hx hb dL_law_473 rfl (lv_at hl 1 rfl) ?_
  refine lv_iload hx hb dL_law_474 (lv_at hl 0 rfl) ?_
  refine j_iconst hx hb dL_law_476 ?_
  refine j_iadd hx hb dL_law_477 ?_
  refine j_topE (show (((6 * i : Nat) : Int) + 1) = ((6 * i + 1 : Nat) : Int) by omega) ?_
  refine m_sld hx hb hX hbl hB (n := 6 * i + 1) (by omega) hL dL_law_478 ?_
  refine lv_aload_n hx hb dL_law_479 rfl (lv_at hl 4 rfl) ?_
  refine m_run (vx_runSW (As := [.ref x, .int (iI ((xs (6 * i + 1)).toInt)), .ref oa]) (rest := []) ⟨hx, hb, hml, hown, hts⟩ (k_L_detach (l := l) hfl hC hI ho (iI_rg _)) (vx_cwSW 3 hts gL_law_L_detach rfl rfl rfl (by decide +kernel) ⟨by decide, by decide⟩) ⟨Kp.blind _ _ _ _ _, fun U hU hW => hK.pass hB U hU hW⟩ rfl rfl hl.1 rfl (lv_room (Nat.le_of_ble_eq_true rfl)) dL_law_480 ⟨(by show cells + 4 ≤ 632940; omega), (by show slots + 24 ≤ 7197285; omega)⟩) hB (fun v u H locs hp hB => ?_)
  rcases hp with ⟨rfl, cA, hC, ⟨fo2, ho, ef⟩, hFl⟩ | ⟨rfl, cA, hC, hFl⟩ | ⟨rfl, cA, hC, hFl⟩
  · have hM := hM.frL hFl
    show W _ _ _ _ _ _ _ _ _ _ _ _ _ _ _ (F0 m 483 ls [.int (iI 0)])
    refine lv_istore (lv' := [(5, .int (iI 0)), (4, .int (iI ((6 * i : Nat) : Int))), (0, .ref b), (1, .ref x), (2, .ref xm), (3, .ref oa)]) hx hb dL_law_483 hl (by decide) rfl (fun ls hl => ?_)
    refine lv_aload_n hx hb dL_law_485 rfl (lv_at hl 4 rfl) ?_
    refine lv_aload_n hx hb dL_law_486 rfl (lv_at hl 2 rfl) ?_
    refine lv_iload hx hb dL_law_487 (lv_at hl 1 rfl) ?_
    refine j_iconst hx hb dL_law_489 ?_
    refine j_iadd hx hb dL_law_490 ?_
    refine j_topE (show (((6 * i : Nat) : Int) + 1) = ((6 * i + 1 : Nat) : Int) by omega) ?_
    refine m_sld hx hb hX hbl hB (n := 6 * i + 1) (by omega) hL dL_law_491 ?_
    refine m_run (va_runV (As := [.int (iI ((xs (6 * i + 1)).toInt))]) (rest := []) ⟨hx, hb, hml, hown, hts⟩ (k_X4_detach (l := l) hM hI (iI_rg _)) (cwV 1 hts gL_law_X4_detach rfl rfl rfl (by decide +kernel) ⟨by decide, by decide⟩) ⟨Kp.blind _ _ _ _ _, m_recv hK hB (ci := 4) rfl hM.1, fun U hU hW => hK.pass hB U hU hW⟩ rfl rfl hl.1 rfl (lv_room (Nat.le_of_ble_eq_true rfl)) dL_law_492 ⟨(by show cells + 4 ≤ 632940; omega), (by show slots + 24 ≤ 7197285; omega)⟩) hB (fun v u H locs hp hB => ?_)
    rcases hp with ⟨cB, rfl, hM, hFm⟩ | ⟨cB, rfl, hM, hFm⟩ | ⟨cB, rfl, hM, hFm⟩
    · have hC := hC.fr hFm
      have ho := hFm.J ho
      have hV2 := hV.det (i := ((xs (6 * i + 1)).toInt).toNat) (by have w := cA.1; unfold isP at w; omega)
      show W _ _ _ _ _ _ _ _ _ _ _ _ _ _ _ (F0 m 495 ls [.int (iI (cnt (fun j => live (upS (upS σ 4 ((xs (6 * i + 1)).toInt).toNat 1) 11 0 1) j ∧ pn (upS (upS σ 4 ((xs (6 * i + 1)).toInt).toNat 1) 11 0 1) j = ((xs (6 * i + 1)).toInt).toNat) (nrN (upS (upS σ 4 ((xs (6 * i + 1)).toInt).toNat 1) 11 0 1))))])
      refine lv_istore (lv' := [(6, .int (iI (cnt (fun j => live (upS (upS σ 4 ((xs (6 * i + 1)).toInt).toNat 1) 11 0 1) j ∧ pn (upS (upS σ 4 ((xs (6 * i + 1)).toInt).toNat 1) 11 0 1) j = ((xs (6 * i + 1)).toInt).toNat) (nrN (upS (upS σ 4 ((xs (6 * i + 1)).toInt).toNat 1) 11 0 1))))), (5, .int (iI 0)), (4, .int (iI ((6 * i : Nat) : Int))), (0, .ref b), (1, .ref x), (2, .ref xm), (3, .ref oa)]) hx hb dL_law_495 hl (by decide) rfl (fun ls hl => ?_)
      refine lv_aload_n hx hb dL_law_497 rfl (lv_at hl 5 rfl) ?_
      refine m_run (va_runV (As := []) (rest := []) ⟨hx, hb, hml, hown, hts⟩ (k_X4_thrown (l := l) hM hV2.ib) (cwV 0 hts gL_law_X4_thrown rfl rfl rfl (by decide +kernel) ⟨by decide, by decide⟩) ⟨Kp.blind _ _ _ _ _, m_recv hK hB (ci := 4) rfl hM.1, fun U hU hW => hK.pass hB U hU hW⟩ rfl rfl hl.1 rfl (lv_room (Nat.le_of_ble_eq_true rfl)) dL_law_498 ⟨(by show cells + 4 ≤ 632940; omega), (by show slots + 24 ≤ 7197285; omega)⟩) hB (fun v u H locs hp hB => ?_)
      obtain ⟨rfl, rfl⟩ := hp
      show W _ _ _ _ _ _ _ _ _ _ _ _ _ _ _ (F0 m 501 ls [.int (iI 0)])
      refine lv_iload hx hb dL_law_501 (lv_at hl 1 rfl) ?_
      refine j_icmp_eq (tgt := 508) hx hb dL_law_503 (by decide) ⟨by decide, by decide⟩ ⟨by decide, by decide⟩ (fun _ => ?_) (fun w => absurd rfl w)
      refine lv_iload hx hb dL_law_508 (lv_at hl 1 rfl) ?_
      refine j_if_ne (tgt := 525) hx hb dL_law_510 (by decide) ⟨by decide, by decide⟩ (fun c_1 => absurd c_1 (by decide)) (fun c_1 => ?_)
      refine lv_aload_n hx hb dL_law_513 rfl (lv_at hl 6 rfl) ?_
      refine j_iconst hx hb dL_law_514 ?_
      refine m_lald hx hb hK hB 3 ho rfl in01 dL_law_515 ?_
      refine lv_iload hx hb dL_law_516 (lv_at hl 0 rfl) ?_
      refine lv_i2l hx hb dL_law_518 (rfl : _ = lI (cnt (fun j => live (upS (upS σ 4 ((xs (6 * i + 1)).toInt).toNat 1) 11 0 1) j ∧ pn (upS (upS σ 4 ((xs (6 * i + 1)).toInt).toNat 1) 11 0 1) j = ((xs (6 * i + 1)).toInt).toNat) (nrN (upS (upS σ 4 ((xs (6 * i + 1)).toInt).toNat 1) 11 0 1)))) ?_
      refine j_lcmp0 hx hb (show fo2 (iI 0).toNatClampNeg = _ from ef) dL_law_519 ?_
      refine j_if_eq (tgt := 525) hx hb dL_law_520 (by decide) ⟨by decide, by decide⟩ (fun c_2 => ?_) (fun c_2 => absurd c_2 (by decide))
      refine lv_goto (tgt := 1638) hx hb dL_law_525 (by decide) ?_
      refine W.widen (k := cells + 100) (n := slots + 1000) (by show cells + 4 ≤ cells + 100; omega) (by show slots + 24 ≤ slots + 1000; omega) ?_
      exact kk _ _ _ _ _ (LwS.mk hV2 hC hM ho) hB (lv_sub hl [2, 3, 4, 5, 6] rfl)
    · exact (cl_detach_0_1 cA cB).elim
    · exact (cl_detach_0_2 cA cB).elim
  · have hM := hM.frL hFl.L
    have ho := hFl.J ho
    show W _ _ _ _ _ _ _ _ _ _ _ _ _ _ _ (F0 m 483 ls [.int (iI 1)])
    refine lv_istore (lv' := [(5, .int (iI 1)), (4, .int (iI ((6 * i : Nat) : Int))), (0, .ref b), (1, .ref x), (2, .ref xm), (3, .ref oa)]) hx hb dL_law_483 hl (by decide) rfl (fun ls hl => ?_)
    refine lv_aload_n hx hb dL_law_485 rfl (lv_at hl 4 rfl) ?_
    refine lv_aload_n hx hb dL_law_486 rfl (lv_at hl 2 rfl) ?_
    refine lv_iload hx hb dL_law_487 (lv_at hl 1 rfl) ?_
    refine j_iconst hx hb dL_law_489 ?_
    refine j_iadd hx hb dL_law_490 ?_
    refine j_topE (show (((6 * i : Nat) : Int) + 1) = ((6 * i + 1 : Nat) : Int) by omega) ?_
    refine m_sld hx hb hX hbl hB (n := 6 * i + 1) (by omega) hL dL_law_491 ?_
    refine m_run (va_runV (As := [.int (iI ((xs (6 * i + 1)).toInt))]) (rest := []) ⟨hx, hb, hml, hown, hts⟩ (k_X4_detach (l := l) hM hI (iI_rg _)) (cwV 1 hts gL_law_X4_detach rfl rfl rfl (by decide +kernel) ⟨by decide, by decide⟩) ⟨Kp.blind _ _ _ _ _, m_recv hK hB (ci := 4) rfl hM.1, fun U hU hW => hK.pass hB U hU hW⟩ rfl rfl hl.1 rfl (lv_room (Nat.le_of_ble_eq_true rfl)) dL_law_492 ⟨(by show cells + 4 ≤ 632940; omega), (by show slots + 24 ≤ 7197285; omega)⟩) hB (fun v u H locs hp hB => ?_)
    rcases hp with ⟨cB, rfl, hM, hFm⟩ | ⟨cB, rfl, hM, hFm⟩ | ⟨cB, rfl, hM, hFm⟩
    · exact (cl_detach_1_0 cA cB).elim
    · have hC := hC.fr hFm
      have ho := hFm.J ho
      have hV2 := hV
      show W _ _ _ _ _ _ _ _ _ _ _ _ _ _ _ (F0 m 495 ls [.int (iI 0)])
      refine lv_istore (lv' := [(6, .int (iI 0)), (5, .int (iI 1)), (4, .int (iI ((6 * i : Nat) : Int))), (0, .ref b), (1, .ref x), (2, .ref xm), (3, .ref oa)]) hx hb dL_law_495 hl (by decide) rfl (fun ls hl => ?_)
      refine lv_aload_n hx hb dL_law_497 rfl (lv_at hl 5 rfl) ?_
      refine m_run (va_runV (As := []) (rest := []) ⟨hx, hb, hml, hown, hts⟩ (k_X4_thrown (l := l) hM hV2.ib) (cwV 0 hts gL_law_X4_thrown rfl rfl rfl (by decide +kernel) ⟨by decide, by decide⟩) ⟨Kp.blind _ _ _ _ _, m_recv hK hB (ci := 4) rfl hM.1, fun U hU hW => hK.pass hB U hU hW⟩ rfl rfl hl.1 rfl (lv_room (Nat.le_of_ble_eq_true rfl)) dL_law_498 ⟨(by show cells + 4 ≤ 632940; omega), (by show slots + 24 ≤ 7197285; omega)⟩) hB (fun v u H locs hp hB => ?_)
      obtain ⟨rfl, rfl⟩ := hp
      show W _ _ _ _ _ _ _ _ _ _ _ _ _ _ _ (F0 m 501 ls [.int (iI 1)])
      refine lv_iload hx hb dL_law_501 (lv_at hl 1 rfl) ?_
      refine j_icmp_eq (tgt := 508) hx hb dL_law_503 (by decide) ⟨by decide, by decide⟩ ⟨by decide, by decide⟩ (fun _ => ?_) (fun w => absurd rfl w)
      refine lv_iload hx hb dL_law_508 (lv_at hl 1 rfl) ?_
      refine j_if_ne (tgt := 525) hx hb dL_law_510 (by decide) ⟨by decide, by decide⟩ (fun c_3 => ?_) (fun c_3 => absurd c_3 (by decide))
      refine lv_goto (tgt := 1638) hx hb dL_law_525 (by decide) ?_
      refine W.widen (k := cells + 100) (n := slots + 1000) (by show cells + 4 ≤ cells + 100; omega) (by show slots + 24 ≤ slots + 1000; omega) ?_
      exact kk _ _ _ _ _ (LwS.mk hV2 hC hM ho) hB (lv_sub hl [2, 3, 4, 5, 6] rfl)
    · exact (cl_detach_1_2 cA cB).elim
  · have hM := hM.frL hFl.L
    have ho := hFl.J ho
    show W _ _ _ _ _ _ _ _ _ _ _ _ _ _ _ (F0 m 483 ls [.int (iI 2)])
    refine lv_istore (lv' := [(5, .int (iI 2)), (4, .int (iI ((6 * i : Nat) : Int))), (0, .ref b), (1, .ref x), (2, .ref xm), (3, .ref oa)]) hx hb dL_law_483 hl (by decide) rfl (fun ls hl => ?_)
    refine lv_aload_n hx hb dL_law_485 rfl (lv_at hl 4 rfl) ?_
    refine lv_aload_n hx hb dL_law_486 rfl (lv_at hl 2 rfl) ?_
    refine lv_iload hx hb dL_law_487 (lv_at hl 1 rfl) ?_
    refine j_iconst hx hb dL_law_489 ?_
    refine j_iadd hx hb dL_law_490 ?_
    refine j_topE (show (((6 * i : Nat) : Int) + 1) = ((6 * i + 1 : Nat) : Int) by omega) ?_
    refine m_sld hx hb hX hbl hB (n := 6 * i + 1) (by omega) hL dL_law_491 ?_
    refine m_run (va_runV (As := [.int (iI ((xs (6 * i + 1)).toInt))]) (rest := []) ⟨hx, hb, hml, hown, hts⟩ (k_X4_detach (l := l) hM hI (iI_rg _)) (cwV 1 hts gL_law_X4_detach rfl rfl rfl (by decide +kernel) ⟨by decide, by decide⟩) ⟨Kp.blind _ _ _ _ _, m_recv hK hB (ci := 4) rfl hM.1, fun U hU hW => hK.pass hB U hU hW⟩ rfl rfl hl.1 rfl (lv_room (Nat.le_of_ble_eq_true rfl)) dL_law_492 ⟨(by show cells + 4 ≤ 632940; omega), (by show slots + 24 ≤ 7197285; omega)⟩) hB (fun v u H locs hp hB => ?_)
    rcases hp with ⟨cB, rfl, hM, hFm⟩ | ⟨cB, rfl, hM, hFm⟩ | ⟨cB, rfl, hM, hFm⟩
    · exact (cl_detach_2_0 cA cB).elim
    · exact (cl_detach_2_1 cA cB).elim
    · have hC := hC.fr hFm
      have ho := hFm.J ho
      have hV2 := hV
      show W _ _ _ _ _ _ _ _ _ _ _ _ _ _ _ (F0 m 495 ls [.int (iI 0)])
      refine lv_istore (lv' := [(6, .int (iI 0)), (5, .int (iI 2)), (4, .int (iI ((6 * i : Nat) : Int))), (0, .ref b), (1, .ref x), (2, .ref xm), (3, .ref oa)]) hx hb dL_law_495 hl (by decide) rfl (fun ls hl => ?_)
      refine lv_aload_n hx hb dL_law_497 rfl (lv_at hl 5 rfl) ?_
      refine m_run (va_runV (As := []) (rest := []) ⟨hx, hb, hml, hown, hts⟩ (k_X4_thrown (l := l) hM hV2.ib) (cwV 0 hts gL_law_X4_thrown rfl rfl rfl (by decide +kernel) ⟨by decide, by decide⟩) ⟨Kp.blind _ _ _ _ _, m_recv hK hB (ci := 4) rfl hM.1, fun U hU hW => hK.pass hB U hU hW⟩ rfl rfl hl.1 rfl (lv_room (Nat.le_of_ble_eq_true rfl)) dL_law_498 ⟨(by show cells + 4 ≤ 632940; omega), (by show slots + 24 ≤ 7197285; omega)⟩) hB (fun v u H locs hp hB => ?_)
      obtain ⟨rfl, rfl⟩ := hp
      show W _ _ _ _ _ _ _ _ _ _ _ _ _ _ _ (F0 m 501 ls [.int (iI 2)])
      refine lv_iload hx hb dL_law_501 (lv_at hl 1 rfl) ?_
      refine j_icmp_eq (tgt := 508) hx hb dL_law_503 (by decide) ⟨by decide, by decide⟩ ⟨by decide, by decide⟩ (fun _ => ?_) (fun w => absurd rfl w)
      refine lv_iload hx hb dL_law_508 (lv_at hl 1 rfl) ?_
      refine j_if_ne (tgt := 525) hx hb dL_law_510 (by decide) ⟨by decide, by decide⟩ (fun c_4 => ?_) (fun c_4 => absurd c_4 (by decide))
      refine lv_goto (tgt := 1638) hx hb dL_law_525 (by decide) ?_
      refine W.widen (k := cells + 100) (n := slots + 1000) (by show cells + 4 ≤ cells + 100; omega) (by show slots + 24 ≤ slots + 1000; omega) ?_
      exact kk _ _ _ _ _ (LwS.mk hV2 hC hM ho) hB (lv_sub hl [2, 3, 4, 5, 6] rfl)

set_option maxHeartbeats 4000000 in
set_option maxRecDepth 100000 in
theorem lc_5 {l : Launch} (hfl : l.stackTraces = false) {D : va_G} {cI cP cR cJ : ClassId} {p : Program} {e : Env} {s : State} {m : MethodId} {below : List Frame} {meth : Method} {c : Code} {b L : Nat} {xs : Nat → Int32} (hL : L ≤ 3072) (hx : p.tables.exec = Jvm.exec) (hb : c.code = cL_law) (hml : c.maxLocals = 7) (hown : s.vm.findClass RL = some m.cls) (hts : ∀ w ∈ wsL_law, w.before #[Value.ref b] s = true) (hX : va_X b L xs s s.heap) (hbl : b < s.heap.size) (hK : Kb D s.heap.size (tyL cI cP cR cJ) s) {x xm oa i : Nat} (hi : 6 * i + 6 ≤ L) {cells slots : Nat} (hc : cells + 100 ≤ 632940) (hs : slots + 1000 ≤ 7197285) {σ : Sg} {h0 : Hp} {H : Heap} {locs : List Loc} (hS : LwS cI cP cR cJ x xm oa σ h0) (hB : Bk D s.heap.size s.heap h0 H locs) {ls : Array Slot} (hl : lv_has ls 7 [(4, .int (iI ((6 * i : Nat) : Int))), (0, .ref b), (1, .ref x), (2, .ref xm), (3, .ref oa)]) {Q : State → Prop} (kk : ∀ (σ2 : Sg) (h2 : Hp) (H2 : Heap) (locs2 : List Loc) (ls2 : Array Slot), LwS cI cP cR cJ x xm oa σ2 h2 → Bk D s.heap.size s.heap h2 H2 locs2 → lv_has ls2 7 [(4, .int (iI ((6 * i : Nat) : Int))), (0, .ref b), (1, .ref x), (2, .ref xm), (3, .ref oa)] → W p l e room_1 s m #[Value.ref b] below meth c H2 locs2 (cells + 100) (slots + 1000) Q (F0 m 1638 ls2 [])) : W p l e room_1 s m #[Value.ref b] below meth c H locs cells slots Q (F0 m 528 ls []) := by
  obtain ⟨hV, ⟨xp, xr, pa, ra, hC⟩, ⟨xa, th, hM⟩, fo, ho⟩ := hS
  have hI := hV.ib
  have hnp := hI.hnp
  have hst := hI.2.2.1
  have hnrI := hI.nrI
  refine lv_aload_n hx hb dL_law_528 rfl (lv_at hl 2 rfl) ?_
  refine lv_aload_n hx hb dL_law_529 rfl (lv_at hl 1 rfl) ?_
  refine lv_iload hx hb dL_law_530 (lv_at hl 0 rfl) ?_
  refine j_iconst hx hb dL_law_532 ?_
  refine j_iadd hx hb dL_law_533 ?_
  refine j_topE (show (((6 * i : Nat) : Int) + 1) = ((6 * i + 1 : Nat) : Int) by omega) ?_
  refine m_sld hx hb hX hbl hB (n := 6 * i + 1) (by omega) hL dL_law_534 ?_
  refine lv_aload_n hx hb dL_law_535 rfl (lv_at hl 4 rfl) ?_
  refine m_run (vx_runSW (As := [.ref x, .int (iI ((xs (6 * i + 1)).toInt)), .ref oa]) (rest := []) ⟨hx, hb, hml, hown, hts⟩ (k_L_attach (l := l) hfl hC hI ho (iI_rg _)) (vx_cwSW 3 hts gL_law_L_attach rfl rfl rfl (by decide +kernel) ⟨by decide, by decide⟩) ⟨Kp.blind _ _ _ _ _, fun U hU hW => hK.pass hB U hU hW⟩ rfl rfl hl.1 rfl (lv_room (Nat.le_of_ble_eq_true rfl)) dL_law_536 ⟨(by show cells + 6 ≤ 632940; omega), (by show slots + 36 ≤ 7197285; omega)⟩) hB (fun v u H locs hp hB => ?_)
  rcases hp with ⟨rfl, cA, hC, ⟨fo2, ho, ef⟩, hFl⟩ | ⟨rfl, cA, hC, hFl⟩ | ⟨rfl, cA, hC, hFl⟩
  · have hM := hM.frL hFl
    show W _ _ _ _ _ _ _ _ _ _ _ _ _ _ _ (F0 m 539 ls [.int (iI 0)])
    refine lv_istore (lv' := [(5, .int (iI 0)), (4, .int (iI ((6 * i : Nat) : Int))), (0, .ref b), (1, .ref x), (2, .ref xm), (3, .ref oa)]) hx hb dL_law_539 hl (by decide) rfl (fun ls hl => ?_)
    refine lv_aload_n hx hb dL_law_541 rfl (lv_at hl 4 rfl) ?_
    refine lv_aload_n hx hb dL_law_542 rfl (lv_at hl 2 rfl) ?_
    refine lv_iload hx hb dL_law_543 (lv_at hl 1 rfl) ?_
    refine j_iconst hx hb dL_law_545 ?_
    refine j_iadd hx hb dL_law_546 ?_
    refine j_topE (show (((6 * i : Nat) : Int) + 1) = ((6 * i + 1 : Nat) : Int) by omega) ?_
    refine m_sld hx hb hX hbl hB (n := 6 * i + 1) (by omega) hL dL_law_547 ?_
    refine m_run (va_runV (As := [.int (iI ((xs (6 * i + 1)).toInt))]) (rest := []) ⟨hx, hb, hml, hown, hts⟩ (k_X4_attach (l := l) hM hI (iI_rg _)) (cwV 1 hts gL_law_X4_attach rfl rfl rfl (by decide +kernel) ⟨by decide, by decide⟩) ⟨Kp.blind _ _ _ _ _, m_recv hK hB (ci := 4) rfl hM.1, fun U hU hW => hK.pass hB U hU hW⟩ rfl rfl hl.1 rfl (lv_room (Nat.le_of_ble_eq_true rfl)) dL_law_548 ⟨(by show cells + 6 ≤ 632940; omega), (by show slots + 36 ≤ 7197285; omega)⟩) hB (fun v u H locs hp hB => ?_)
    rcases hp with ⟨cB, rfl, hM, hFm⟩ | ⟨cB, rfl, hM, hFm⟩ | ⟨cB, rfl, hM, hFm⟩
    · have hC := hC.fr hFm
      have ho := hFm.J ho
      have hV2 := hV.att ⟨by have w := cA.1; unfold isP at w; omega, by have w := cA.1; unfold isP at w; omega⟩ cA.2.2.1 cA.2.2.2
      show W _ _ _ _ _ _ _ _ _ _ _ _ _ _ _ (F0 m 551 ls [.int (iI (cnt (fun j => live (upS (upS σ 4 ((xs (6 * i + 1)).toInt).toNat 0) 11 0 1) j ∧ pn (upS (upS σ 4 ((xs (6 * i + 1)).toInt).toNat 0) 11 0 1) j = ((xs (6 * i + 1)).toInt).toNat) (nrN (upS (upS σ 4 ((xs (6 * i + 1)).toInt).toNat 0) 11 0 1))))])
      refine lv_istore (lv' := [(6, .int (iI (cnt (fun j => live (upS (upS σ 4 ((xs (6 * i + 1)).toInt).toNat 0) 11 0 1) j ∧ pn (upS (upS σ 4 ((xs (6 * i + 1)).toInt).toNat 0) 11 0 1) j = ((xs (6 * i + 1)).toInt).toNat) (nrN (upS (upS σ 4 ((xs (6 * i + 1)).toInt).toNat 0) 11 0 1))))), (5, .int (iI 0)), (4, .int (iI ((6 * i : Nat) : Int))), (0, .ref b), (1, .ref x), (2, .ref xm), (3, .ref oa)]) hx hb dL_law_551 hl (by decide) rfl (fun ls hl => ?_)
      refine lv_aload_n hx hb dL_law_553 rfl (lv_at hl 5 rfl) ?_
      refine m_run (va_runV (As := []) (rest := []) ⟨hx, hb, hml, hown, hts⟩ (k_X4_thrown (l := l) hM hV2.ib) (cwV 0 hts gL_law_X4_thrown rfl rfl rfl (by decide +kernel) ⟨by decide, by decide⟩) ⟨Kp.blind _ _ _ _ _, m_recv hK hB (ci := 4) rfl hM.1, fun U hU hW => hK.pass hB U hU hW⟩ rfl rfl hl.1 rfl (lv_room (Nat.le_of_ble_eq_true rfl)) dL_law_554 ⟨(by show cells + 6 ≤ 632940; omega), (by show slots + 36 ≤ 7197285; omega)⟩) hB (fun v u H locs hp hB => ?_)
      obtain ⟨rfl, rfl⟩ := hp
      show W _ _ _ _ _ _ _ _ _ _ _ _ _ _ _ (F0 m 557 ls [.int (iI 0)])
      refine lv_iload hx hb dL_law_557 (lv_at hl 1 rfl) ?_
      refine j_icmp_eq (tgt := 564) hx hb dL_law_559 (by decide) ⟨by decide, by decide⟩ ⟨by decide, by decide⟩ (fun _ => ?_) (fun w => absurd rfl w)
      refine lv_iload hx hb dL_law_564 (lv_at hl 1 rfl) ?_
      refine j_if_ne (tgt := 581) hx hb dL_law_566 (by decide) ⟨by decide, by decide⟩ (fun c_1 => absurd c_1 (by decide)) (fun c_1 => ?_)
      refine lv_aload_n hx hb dL_law_569 rfl (lv_at hl 6 rfl) ?_
      refine j_iconst hx hb dL_law_570 ?_
      refine m_lald hx hb hK hB 3 ho rfl in01 dL_law_571 ?_
      refine lv_iload hx hb dL_law_572 (lv_at hl 0 rfl) ?_
      refine lv_i2l hx hb dL_law_574 (rfl : _ = lI (cnt (fun j => live (upS (upS σ 4 ((xs (6 * i + 1)).toInt).toNat 0) 11 0 1) j ∧ pn (upS (upS σ 4 ((xs (6 * i + 1)).toInt).toNat 0) 11 0 1) j = ((xs (6 * i + 1)).toInt).toNat) (nrN (upS (upS σ 4 ((xs (6 * i + 1)).toInt).toNat 0) 11 0 1)))) ?_
      refine j_lcmp0 hx hb (show fo2 (iI 0).toNatClampNeg = _ from ef) dL_law_575 ?_
      refine j_if_eq (tgt := 581) hx hb dL_law_576 (by decide) ⟨by decide, by decide⟩ (fun c_2 => ?_) (fun c_2 => absurd c_2 (by decide))
      refine lv_goto (tgt := 1638) hx hb dL_law_581 (by decide) ?_
      refine W.widen (k := cells + 100) (n := slots + 1000) (by show cells + 6 ≤ cells + 100; omega) (by show slots + 36 ≤ slots + 1000; omega) ?_
      exact kk _ _ _ _ _ (LwS.mk hV2 hC hM ho) hB (lv_sub hl [2, 3, 4, 5, 6] rfl)
    · exact (cl_attach_0_1 cA cB).elim
    · exact (cl_attach_0_2 cA cB).elim
  · have hM := hM.frL hFl.L
    have ho := hFl.J ho
    show W _ _ _ _ _ _ _ _ _ _ _ _ _ _ _ (F0 m 539 ls [.int (iI 1)])
    refine lv_istore (lv' := [(5, .int (iI 1)), (4, .int (iI ((6 * i : Nat) : Int))), (0, .ref b), (1, .ref x), (2, .ref xm), (3, .ref oa)]) hx hb dL_law_539 hl (by decide) rfl (fun ls hl => ?_)
    refine lv_aload_n hx hb dL_law_541 rfl (lv_at hl 4 rfl) ?_
    refine lv_aload_n hx hb dL_law_542 rfl (lv_at hl 2 rfl) ?_
    refine lv_iload hx hb dL_law_543 (lv_at hl 1 rfl) ?_
    refine j_iconst hx hb dL_law_545 ?_
    refine j_iadd hx hb dL_law_546 ?_
    refine j_topE (show (((6 * i : Nat) : Int) + 1) = ((6 * i + 1 : Nat) : Int) by omega) ?_
    refine m_sld hx hb hX hbl hB (n := 6 * i + 1) (by omega) hL dL_law_547 ?_
    refine m_run (va_runV (As := [.int (iI ((xs (6 * i + 1)).toInt))]) (rest := []) ⟨hx, hb, hml, hown, hts⟩ (k_X4_attach (l := l) hM hI (iI_rg _)) (cwV 1 hts gL_law_X4_attach rfl rfl rfl (by decide +kernel) ⟨by decide, by decide⟩) ⟨Kp.blind _ _ _ _ _, m_recv hK hB (ci := 4) rfl hM.1, fun U hU hW => hK.pass hB U hU hW⟩ rfl rfl hl.1 rfl (lv_room (Nat.le_of_ble_eq_true rfl)) dL_law_548 ⟨(by show cells + 6 ≤ 632940; omega), (by show slots + 36 ≤ 7197285; omega)⟩) hB (fun v u H locs hp hB => ?_)
    rcases hp with ⟨cB, rfl, hM, hFm⟩ | ⟨cB, rfl, hM, hFm⟩ | ⟨cB, rfl, hM, hFm⟩
    · exact (cl_attach_1_0 cA cB).elim
    · have hC := hC.fr hFm
      have ho := hFm.J ho
      have hV2 := hV
      show W _ _ _ _ _ _ _ _ _ _ _ _ _ _ _ (F0 m 551 ls [.int (iI 0)])
      refine lv_istore (lv' := [(6, .int (iI 0)), (5, .int (iI 1)), (4, .int (iI ((6 * i : Nat) : Int))), (0, .ref b), (1, .ref x), (2, .ref xm), (3, .ref oa)]) hx hb dL_law_551 hl (by decide) rfl (fun ls hl => ?_)
      refine lv_aload_n hx hb dL_law_553 rfl (lv_at hl 5 rfl) ?_
      refine m_run (va_runV (As := []) (rest := []) ⟨hx, hb, hml, hown, hts⟩ (k_X4_thrown (l := l) hM hV2.ib) (cwV 0 hts gL_law_X4_thrown rfl rfl rfl (by decide +kernel) ⟨by decide, by decide⟩) ⟨Kp.blind _ _ _ _ _, m_recv hK hB (ci := 4) rfl hM.1, fun U hU hW => hK.pass hB U hU hW⟩ rfl rfl hl.1 rfl (lv_room (Nat.le_of_ble_eq_true rfl)) dL_law_554 ⟨(by show cells + 6 ≤ 632940; omega), (by show slots + 36 ≤ 7197285; omega)⟩) hB (fun v u H locs hp hB => ?_)
      obtain ⟨rfl, rfl⟩ := hp
      show W _ _ _ _ _ _ _ _ _ _ _ _ _ _ _ (F0 m 557 ls [.int (iI 1)])
      refine lv_iload hx hb dL_law_557 (lv_at hl 1 rfl) ?_
      refine j_icmp_eq (tgt := 564) hx hb dL_law_559 (by decide) ⟨by decide, by decide⟩ ⟨by decide, by decide⟩ (fun _ => ?_) (fun w => absurd rfl w)
      refine lv_iload hx hb dL_law_564 (lv_at hl 1 rfl) ?_
      refine j_if_ne (tgt := 581) hx hb dL_law_566 (by decide) ⟨by decide, by decide⟩ (fun c_3 => ?_) (fun c_3 => absurd c_3 (by decide))
      refine lv_goto (tgt := 1638) hx hb dL_law_581 (by decide) ?_
      refine W.widen (k := cells + 100) (n := slots + 1000) (by show cells + 6 ≤ cells + 100; omega) (by show slots + 36 ≤ slots + 1000; omega) ?_
      exact kk _ _ _ _ _ (LwS.mk hV2 hC hM ho) hB (lv_sub hl [2, 3, 4, 5, 6] rfl)
    · exact (cl_attach_1_2 cA cB).elim
  · have hM := hM.frL hFl.L
    have ho := hFl.J ho
    show W _ _ _ _ _ _ _ _ _ _ _ _ _ _ _ (F0 m 539 ls [.int (iI 2)])
    refine lv_istore (lv' := [(5, .int (iI 2)), (4, .int (iI ((6 * i : Nat) : Int))), (0, .ref b), (1, .ref x), (2, .ref xm), (3, .ref oa)]) hx hb dL_law_539 hl (by decide) rfl (fun ls hl => ?_)
    refine lv_aload_n hx hb dL_law_541 rfl (lv_at hl 4 rfl) ?_
    refine lv_aload_n hx hb dL_law_542 rfl (lv_at hl 2 rfl) ?_
    refine lv_iload hx hb dL_law_543 (lv_at hl 1 rfl) ?_
    refine j_iconst hx hb dL_law_545 ?_
    refine j_iadd hx hb dL_law_546 ?_
    refine j_topE (show (((6 * i : Nat) : Int) + 1) = ((6 * i + 1 : Nat) : Int) by omega) ?_
    refine m_sld hx hb hX hbl hB (n := 6 * i + 1) (by omega) hL dL_law_547 ?_
    refine m_run (va_runV (As := [.int (iI ((xs (6 * i + 1)).toInt))]) (rest := []) ⟨hx, hb, hml, hown, hts⟩ (k_X4_attach (l := l) hM hI (iI_rg _)) (cwV 1 hts gL_law_X4_attach rfl rfl rfl (by decide +kernel) ⟨by decide, by decide⟩) ⟨Kp.blind _ _ _ _ _, m_recv hK hB (ci := 4) rfl hM.1, fun U hU hW => hK.pass hB U hU hW⟩ rfl rfl hl.1 rfl (lv_room (Nat.le_of_ble_eq_true rfl)) dL_law_548 ⟨(by show cells + 6 ≤ 632940; omega), (by show slots + 36 ≤ 7197285; omega)⟩) hB (fun v u H locs hp hB => ?_)
    rcases hp with ⟨cB, rfl, hM, hFm⟩ | ⟨cB, rfl, hM, hFm⟩ | ⟨cB, rfl, hM, hFm⟩
    · exact (cl_attach_2_0 cA cB).elim
    · exact (cl_attach_2_1 cA cB).elim
    · have hC := hC.fr hFm
      have ho := hFm.J ho
      have hV2 := hV
      show W _ _ _ _ _ _ _ _ _ _ _ _ _ _ _ (F0 m 551 ls [.int (iI 0)])
      refine lv_istore (lv' := [(6, .int (iI 0)), (5, .int (iI 2)), (4, .int (iI ((6 * i : Nat) : Int))), (0, .ref b), (1, .ref x), (2, .ref xm), (3, .ref oa)]) hx hb dL_law_551 hl (by decide) rfl (fun ls hl => ?_)
      refine lv_aload_n hx hb dL_law_553 rfl (lv_at hl 5 rfl) ?_
      refine m_run (va_runV (As := []) (rest := []) ⟨hx, hb, hml, hown, hts⟩ (k_X4_thrown (l := l) hM hV2.ib) (cwV 0 hts gL_law_X4_thrown rfl rfl rfl (by decide +kernel) ⟨by decide, by decide⟩) ⟨Kp.blind _ _ _ _ _, m_recv hK hB (ci := 4) rfl hM.1, fun U hU hW => hK.pass hB U hU hW⟩ rfl rfl hl.1 rfl (lv_room (Nat.le_of_ble_eq_true rfl)) dL_law_554 ⟨(by show cells + 6 ≤ 632940; omega), (by show slots + 36 ≤ 7197285; omega)⟩) hB (fun v u H locs hp hB => ?_)
      obtain ⟨rfl, rfl⟩ := hp
      show W _ _ _ _ _ _ _ _ _ _ _ _ _ _ _ (F0 m 557 ls [.int (iI 2)])
      refine lv_iload hx hb dL_law_557 (lv_at hl 1 rfl) ?_
      refine j_icmp_eq (tgt := 564) hx hb dL_law_559 (by decide) ⟨by decide, by decide⟩ ⟨by decide, by decide⟩ (fun _ => ?_) (fun w => absurd rfl w)
      refine lv_iload hx hb dL_law_564 (lv_at hl 1 rfl) ?_
      refine j_if_ne (tgt := 581) hx hb dL_law_566 (by decide) ⟨by decide, by decide⟩ (fun c_4 => ?_) (fun c_4 => absurd c_4 (by decide))
      refine lv_goto (tgt := 1638) hx hb dL_law_581 (by decide) ?_
      refine W.widen (k := cells + 100) (n := slots + 1000) (by show cells + 6 ≤ cells + 100; omega) (by show slots + 36 ≤ slots + 1000; omega) ?_
      exact kk _ _ _ _ _ (LwS.mk hV2 hC hM ho) hB (lv_sub hl [2, 3, 4, 5, 6] rfl)

set_option maxHeartbeats 4000000 in
set_option maxRecDepth 100000 in
theorem lc_6 {l : Launch} (hfl : l.stackTraces = false) {D : va_G} {cI cP cR cJ : ClassId} {p : Program} {e : Env} {s : State} {m : MethodId} {below : List Frame} {meth : Method} {c : Code} {b L : Nat} {xs : Nat → Int32} (hL : L ≤ 3072) (hx : p.tables.exec = Jvm.exec) (hb : c.code = cL_law) (hml : c.maxLocals = 7) (hown : s.vm.findClass RL = some m.cls) (hts : ∀ w ∈ wsL_law, w.before #[Value.ref b] s = true) (hX : va_X b L xs s s.heap) (hbl : b < s.heap.size) (hK : Kb D s.heap.size (tyL cI cP cR cJ) s) {x xm oa i : Nat} (hi : 6 * i + 6 ≤ L) {cells slots : Nat} (hc : cells + 100 ≤ 632940) (hs : slots + 1000 ≤ 7197285) {σ : Sg} {h0 : Hp} {H : Heap} {locs : List Loc} (hS : LwS cI cP cR cJ x xm oa σ h0) (hB : Bk D s.heap.size s.heap h0 H locs) {ls : Array Slot} (hl : lv_has ls 7 [(4, .int (iI ((6 * i : Nat) : Int))), (0, .ref b), (1, .ref x), (2, .ref xm), (3, .ref oa)]) {Q : State → Prop} (kk : ∀ (σ2 : Sg) (h2 : Hp) (H2 : Heap) (locs2 : List Loc) (ls2 : Array Slot), LwS cI cP cR cJ x xm oa σ2 h2 → Bk D s.heap.size s.heap h2 H2 locs2 → lv_has ls2 7 [(4, .int (iI ((6 * i : Nat) : Int))), (0, .ref b), (1, .ref x), (2, .ref xm), (3, .ref oa)] → W p l e room_1 s m #[Value.ref b] below meth c H2 locs2 (cells + 100) (slots + 1000) Q (F0 m 1638 ls2 [])) : W p l e room_1 s m #[Value.ref b] below meth c H locs cells slots Q (F0 m 584 ls []) := by
  obtain ⟨hV, ⟨xp, xr, pa, ra, hC⟩, ⟨xa, th, hM⟩, fo, ho⟩ := hS
  have hI := hV.ib
  have hnp := hI.hnp
  have hst := hI.2.2.1
  have hnrI := hI.nrI
  refine lv_aload_n hx hb dL_law_584 rfl (lv_at hl 2 rfl) ?_
  refine lv_aload_n hx hb dL_law_585 rfl (lv_at hl 1 rfl) ?_
  refine lv_iload hx hb dL_law_586 (lv_at hl 0 rfl) ?_
  refine j_iconst hx hb dL_law_588 ?_
  refine j_iadd hx hb dL_law_589 ?_
  refine j_topE (show (((6 * i : Nat) : Int) + 1) = ((6 * i + 1 : Nat) : Int) by omega) ?_
  refine m_sld hx hb hX hbl hB (n := 6 * i + 1) (by omega) hL dL_law_590 ?_
  refine lv_aload_n hx hb dL_law_591 rfl (lv_at hl 1 rfl) ?_
  refine lv_iload hx hb dL_law_592 (lv_at hl 0 rfl) ?_
  refine j_iconst hx hb dL_law_594 ?_
  refine j_iadd hx hb dL_law_595 ?_
  refine j_topE (show (((6 * i : Nat) : Int) + 2) = ((6 * i + 2 : Nat) : Int) by omega) ?_
  refine m_sld hx hb hX hbl hB (n := 6 * i + 2) (by omega) hL dL_law_596 ?_
  refine lv_aload_n hx hb dL_law_597 rfl (lv_at hl 4 rfl) ?_
  refine m_run (vx_runSW (As := [.ref x, .int (iI ((xs (6 * i + 1)).toInt)), .int (iI ((xs (6 * i + 2)).toInt)), .ref oa]) (rest := []) ⟨hx, hb, hml, hown, hts⟩ (k_L_exchange (l := l) hfl hC hI ho (iI_rg _) (iI_rg _)) (vx_cwSW 4 hts gL_law_L_exchange rfl rfl rfl (by decide +kernel) ⟨by decide, by decide⟩) ⟨Kp.blind _ _ _ _ _, fun U hU hW => hK.pass hB U hU hW⟩ rfl rfl hl.1 rfl (lv_room (Nat.le_of_ble_eq_true rfl)) dL_law_598 ⟨(by show cells + 10 ≤ 632940; omega), (by show slots + 60 ≤ 7197285; omega)⟩) hB (fun v u H locs hp hB => ?_)
  rcases hp with ⟨rfl, cA, hC, ⟨fo2, ho, ef⟩, hFl⟩ | ⟨rfl, cA, hC, hFl⟩ | ⟨rfl, cA, hC, hFl⟩
  · have hM := hM.frL hFl
    show W _ _ _ _ _ _ _ _ _ _ _ _ _ _ _ (F0 m 601 ls [.int (iI 0)])
    refine lv_istore (lv' := [(5, .int (iI 0)), (4, .int (iI ((6 * i : Nat) : Int))), (0, .ref b), (1, .ref x), (2, .ref xm), (3, .ref oa)]) hx hb dL_law_601 hl (by decide) rfl (fun ls hl => ?_)
    refine lv_aload_n hx hb dL_law_603 rfl (lv_at hl 4 rfl) ?_
    refine lv_aload_n hx hb dL_law_604 rfl (lv_at hl 2 rfl) ?_
    refine lv_iload hx hb dL_law_605 (lv_at hl 1 rfl) ?_
    refine j_iconst hx hb dL_law_607 ?_
    refine j_iadd hx hb dL_law_608 ?_
    refine j_topE (show (((6 * i : Nat) : Int) + 1) = ((6 * i + 1 : Nat) : Int) by omega) ?_
    refine m_sld hx hb hX hbl hB (n := 6 * i + 1) (by omega) hL dL_law_609 ?_
    refine lv_aload_n hx hb dL_law_610 rfl (lv_at hl 2 rfl) ?_
    refine lv_iload hx hb dL_law_611 (lv_at hl 1 rfl) ?_
    refine j_iconst hx hb dL_law_613 ?_
    refine j_iadd hx hb dL_law_614 ?_
    refine j_topE (show (((6 * i : Nat) : Int) + 2) = ((6 * i + 2 : Nat) : Int) by omega) ?_
    refine m_sld hx hb hX hbl hB (n := 6 * i + 2) (by omega) hL dL_law_615 ?_
    refine m_run (va_runV (As := [.int (iI ((xs (6 * i + 1)).toInt)), .int (iI ((xs (6 * i + 2)).toInt))]) (rest := []) ⟨hx, hb, hml, hown, hts⟩ (k_X4_exchange (l := l) hM hI (iI_rg _) (iI_rg _)) (cwV 2 hts gL_law_X4_exchange rfl rfl rfl (by decide +kernel) ⟨by decide, by decide⟩) ⟨Kp.blind _ _ _ _ _, m_recv hK hB (ci := 4) rfl hM.1, fun U hU hW => hK.pass hB U hU hW⟩ rfl rfl hl.1 rfl (lv_room (Nat.le_of_ble_eq_true rfl)) dL_law_616 ⟨(by show cells + 10 ≤ 632940; omega), (by show slots + 60 ≤ 7197285; omega)⟩) hB (fun v u H locs hp hB => ?_)
    rcases hp with ⟨cB, rfl, hM, hFm⟩ | ⟨cB, rfl, hM, hFm⟩ | ⟨cB, rfl, hM, hFm⟩
    · have hC := hC.fr hFm
      have ho := hFm.J ho
      have hV2 := hV.xch ⟨by have w := cA.1.1; unfold isP at w; omega, by have w := cA.1.1; unfold isP at w; omega⟩ ⟨by have w := cA.1.2; unfold isP at w; omega, by have w := cA.1.2; unfold isP at w; omega⟩ cA.2.1 cA.2.2.1 cA.2.2.2.1 cA.2.2.2.2
      show W _ _ _ _ _ _ _ _ _ _ _ _ _ _ _ (F0 m 619 ls [.int (iI (cnt (fun j => live (upS (swS σ ((xs (6 * i + 1)).toInt).toNat ((xs (6 * i + 2)).toInt).toNat 200) 11 0 1) j ∧ pn (upS (swS σ ((xs (6 * i + 1)).toInt).toNat ((xs (6 * i + 2)).toInt).toNat 200) 11 0 1) j = ((xs (6 * i + 1)).toInt).toNat) (nrN (upS (swS σ ((xs (6 * i + 1)).toInt).toNat ((xs (6 * i + 2)).toInt).toNat 200) 11 0 1))))])
      refine lv_istore (lv' := [(6, .int (iI (cnt (fun j => live (upS (swS σ ((xs (6 * i + 1)).toInt).toNat ((xs (6 * i + 2)).toInt).toNat 200) 11 0 1) j ∧ pn (upS (swS σ ((xs (6 * i + 1)).toInt).toNat ((xs (6 * i + 2)).toInt).toNat 200) 11 0 1) j = ((xs (6 * i + 1)).toInt).toNat) (nrN (upS (swS σ ((xs (6 * i + 1)).toInt).toNat ((xs (6 * i + 2)).toInt).toNat 200) 11 0 1))))), (5, .int (iI 0)), (4, .int (iI ((6 * i : Nat) : Int))), (0, .ref b), (1, .ref x), (2, .ref xm), (3, .ref oa)]) hx hb dL_law_619 hl (by decide) rfl (fun ls hl => ?_)
      refine lv_aload_n hx hb dL_law_621 rfl (lv_at hl 5 rfl) ?_
      refine m_run (va_runV (As := []) (rest := []) ⟨hx, hb, hml, hown, hts⟩ (k_X4_thrown (l := l) hM hV2.ib) (cwV 0 hts gL_law_X4_thrown rfl rfl rfl (by decide +kernel) ⟨by decide, by decide⟩) ⟨Kp.blind _ _ _ _ _, m_recv hK hB (ci := 4) rfl hM.1, fun U hU hW => hK.pass hB U hU hW⟩ rfl rfl hl.1 rfl (lv_room (Nat.le_of_ble_eq_true rfl)) dL_law_622 ⟨(by show cells + 10 ≤ 632940; omega), (by show slots + 60 ≤ 7197285; omega)⟩) hB (fun v u H locs hp hB => ?_)
      obtain ⟨rfl, rfl⟩ := hp
      show W _ _ _ _ _ _ _ _ _ _ _ _ _ _ _ (F0 m 625 ls [.int (iI 0)])
      refine lv_iload hx hb dL_law_625 (lv_at hl 1 rfl) ?_
      refine j_icmp_eq (tgt := 632) hx hb dL_law_627 (by decide) ⟨by decide, by decide⟩ ⟨by decide, by decide⟩ (fun _ => ?_) (fun w => absurd rfl w)
      refine lv_iload hx hb dL_law_632 (lv_at hl 1 rfl) ?_
      refine j_if_ne (tgt := 649) hx hb dL_law_634 (by decide) ⟨by decide, by decide⟩ (fun c_1 => absurd c_1 (by decide)) (fun c_1 => ?_)
      refine lv_aload_n hx hb dL_law_637 rfl (lv_at hl 6 rfl) ?_
      refine j_iconst hx hb dL_law_638 ?_
      refine m_lald hx hb hK hB 3 ho rfl in01 dL_law_639 ?_
      refine lv_iload hx hb dL_law_640 (lv_at hl 0 rfl) ?_
      refine lv_i2l hx hb dL_law_642 (rfl : _ = lI (cnt (fun j => live (upS (swS σ ((xs (6 * i + 1)).toInt).toNat ((xs (6 * i + 2)).toInt).toNat 200) 11 0 1) j ∧ pn (upS (swS σ ((xs (6 * i + 1)).toInt).toNat ((xs (6 * i + 2)).toInt).toNat 200) 11 0 1) j = ((xs (6 * i + 1)).toInt).toNat) (nrN (upS (swS σ ((xs (6 * i + 1)).toInt).toNat ((xs (6 * i + 2)).toInt).toNat 200) 11 0 1)))) ?_
      refine j_lcmp0 hx hb (show fo2 (iI 0).toNatClampNeg = _ from ef) dL_law_643 ?_
      refine j_if_eq (tgt := 649) hx hb dL_law_644 (by decide) ⟨by decide, by decide⟩ (fun c_2 => ?_) (fun c_2 => absurd c_2 (by decide))
      refine lv_goto (tgt := 1638) hx hb dL_law_649 (by decide) ?_
      refine W.widen (k := cells + 100) (n := slots + 1000) (by show cells + 10 ≤ cells + 100; omega) (by show slots + 60 ≤ slots + 1000; omega) ?_
      exact kk _ _ _ _ _ (LwS.mk hV2 hC hM ho) hB (lv_sub hl [2, 3, 4, 5, 6] rfl)
    · exact (cl_exchange_0_1 cA cB).elim
    · exact (cl_exchange_0_2 cA cB).elim
  · have hM := hM.frL hFl.L
    have ho := hFl.J ho
    show W _ _ _ _ _ _ _ _ _ _ _ _ _ _ _ (F0 m 601 ls [.int (iI 1)])
    refine lv_istore (lv' := [(5, .int (iI 1)), (4, .int (iI ((6 * i : Nat) : Int))), (0, .ref b), (1, .ref x), (2, .ref xm), (3, .ref oa)]) hx hb dL_law_601 hl (by decide) rfl (fun ls hl => ?_)
    refine lv_aload_n hx hb dL_law_603 rfl (lv_at hl 4 rfl) ?_
    refine lv_aload_n hx hb dL_law_604 rfl (lv_at hl 2 rfl) ?_
    refine lv_iload hx hb dL_law_605 (lv_at hl 1 rfl) ?_
    refine j_iconst hx hb dL_law_607 ?_
    refine j_iadd hx hb dL_law_608 ?_
    refine j_topE (show (((6 * i : Nat) : Int) + 1) = ((6 * i + 1 : Nat) : Int) by omega) ?_
    refine m_sld hx hb hX hbl hB (n := 6 * i + 1) (by omega) hL dL_law_609 ?_
    refine lv_aload_n hx hb dL_law_610 rfl (lv_at hl 2 rfl) ?_
    refine lv_iload hx hb dL_law_611 (lv_at hl 1 rfl) ?_
    refine j_iconst hx hb dL_law_613 ?_
    refine j_iadd hx hb dL_law_614 ?_
    refine j_topE (show (((6 * i : Nat) : Int) + 2) = ((6 * i + 2 : Nat) : Int) by omega) ?_
    refine m_sld hx hb hX hbl hB (n := 6 * i + 2) (by omega) hL dL_law_615 ?_
    refine m_run (va_runV (As := [.int (iI ((xs (6 * i + 1)).toInt)), .int (iI ((xs (6 * i + 2)).toInt))]) (rest := []) ⟨hx, hb, hml, hown, hts⟩ (k_X4_exchange (l := l) hM hI (iI_rg _) (iI_rg _)) (cwV 2 hts gL_law_X4_exchange rfl rfl rfl (by decide +kernel) ⟨by decide, by decide⟩) ⟨Kp.blind _ _ _ _ _, m_recv hK hB (ci := 4) rfl hM.1, fun U hU hW => hK.pass hB U hU hW⟩ rfl rfl hl.1 rfl (lv_room (Nat.le_of_ble_eq_true rfl)) dL_law_616 ⟨(by show cells + 10 ≤ 632940; omega), (by show slots + 60 ≤ 7197285; omega)⟩) hB (fun v u H locs hp hB => ?_)
    rcases hp with ⟨cB, rfl, hM, hFm⟩ | ⟨cB, rfl, hM, hFm⟩ | ⟨cB, rfl, hM, hFm⟩
    · exact (cl_exchange_1_0 cA cB).elim
    · have hC := hC.fr hFm
      have ho := hFm.J ho
      have hV2 := hV
      show W _ _ _ _ _ _ _ _ _ _ _ _ _ _ _ (F0 m 619 ls [.int (iI 0)])
      refine lv_istore (lv' := [(6, .int (iI 0)), (5, .int (iI 1)), (4, .int (iI ((6 * i : Nat) : Int))), (0, .ref b), (1, .ref x), (2, .ref xm), (3, .ref oa)]) hx hb dL_law_619 hl (by decide) rfl (fun ls hl => ?_)
      refine lv_aload_n hx hb dL_law_621 rfl (lv_at hl 5 rfl) ?_
      refine m_run (va_runV (As := []) (rest := []) ⟨hx, hb, hml, hown, hts⟩ (k_X4_thrown (l := l) hM hV2.ib) (cwV 0 hts gL_law_X4_thrown rfl rfl rfl (by decide +kernel) ⟨by decide, by decide⟩) ⟨Kp.blind _ _ _ _ _, m_recv hK hB (ci := 4) rfl hM.1, fun U hU hW => hK.pass hB U hU hW⟩ rfl rfl hl.1 rfl (lv_room (Nat.le_of_ble_eq_true rfl)) dL_law_622 ⟨(by show cells + 10 ≤ 632940; omega), (by show slots + 60 ≤ 7197285; omega)⟩) hB (fun v u H locs hp hB => ?_)
      obtain ⟨rfl, rfl⟩ := hp
      show W _ _ _ _ _ _ _ _ _ _ _ _ _ _ _ (F0 m 625 ls [.int (iI 1)])
      refine lv_iload hx hb dL_law_625 (lv_at hl 1 rfl) ?_
      refine j_icmp_eq (tgt := 632) hx hb dL_law_627 (by decide) ⟨by decide, by decide⟩ ⟨by decide, by decide⟩ (fun _ => ?_) (fun w => absurd rfl w)
      refine lv_iload hx hb dL_law_632 (lv_at hl 1 rfl) ?_
      refine j_if_ne (tgt := 649) hx hb dL_law_634 (by decide) ⟨by decide, by decide⟩ (fun c_3 => ?_) (fun c_3 => absurd c_3 (by decide))
      refine lv_goto (tgt := 1638) hx hb dL_law_649 (by decide) ?_
      refine W.widen (k := cells + 100) (n := slots + 1000) (by show cells + 10 ≤ cells + 100; omega) (by show slots + 60 ≤ slots + 1000; omega) ?_
      exact kk _ _ _ _ _ (LwS.mk hV2 hC hM ho) hB (lv_sub hl [2, 3, 4, 5, 6] rfl)
    · exact (cl_exchange_1_2 cA cB).elim
  · have hM := hM.frL hFl.L
    have ho := hFl.J ho
    show W _ _ _ _ _ _ _ _ _ _ _ _ _ _ _ (F0 m 601 ls [.int (iI 2)])
    refine lv_istore (lv' := [(5, .int (iI 2)), (4, .int (iI ((6 * i : Nat) : Int))), (0, .ref b), (1, .ref x), (2, .ref xm), (3, .ref oa)]) hx hb dL_law_601 hl (by decide) rfl (fun ls hl => ?_)
    refine lv_aload_n hx hb dL_law_603 rfl (lv_at hl 4 rfl) ?_
    refine lv_aload_n hx hb dL_law_604 rfl (lv_at hl 2 rfl) ?_
    refine lv_iload hx hb dL_law_605 (lv_at hl 1 rfl) ?_
    refine j_iconst hx hb dL_law_607 ?_
    refine j_iadd hx hb dL_law_608 ?_
    refine j_topE (show (((6 * i : Nat) : Int) + 1) = ((6 * i + 1 : Nat) : Int) by omega) ?_
    refine m_sld hx hb hX hbl hB (n := 6 * i + 1) (by omega) hL dL_law_609 ?_
    refine lv_aload_n hx hb dL_law_610 rfl (lv_at hl 2 rfl) ?_
    refine lv_iload hx hb dL_law_611 (lv_at hl 1 rfl) ?_
    refine j_iconst hx hb dL_law_613 ?_
    refine j_iadd hx hb dL_law_614 ?_
    refine j_topE (show (((6 * i : Nat) : Int) + 2) = ((6 * i + 2 : Nat) : Int) by omega) ?_
    refine m_sld hx hb hX hbl hB (n := 6 * i + 2) (by omega) hL dL_law_615 ?_
    refine m_run (va_runV (As := [.int (iI ((xs (6 * i + 1)).toInt)), .int (iI ((xs (6 * i + 2)).toInt))]) (rest := []) ⟨hx, hb, hml, hown, hts⟩ (k_X4_exchange (l := l) hM hI (iI_rg _) (iI_rg _)) (cwV 2 hts gL_law_X4_exchange rfl rfl rfl (by decide +kernel) ⟨by decide, by decide⟩) ⟨Kp.blind _ _ _ _ _, m_recv hK hB (ci := 4) rfl hM.1, fun U hU hW => hK.pass hB U hU hW⟩ rfl rfl hl.1 rfl (lv_room (Nat.le_of_ble_eq_true rfl)) dL_law_616 ⟨(by show cells + 10 ≤ 632940; omega), (by show slots + 60 ≤ 7197285; omega)⟩) hB (fun v u H locs hp hB => ?_)
    rcases hp with ⟨cB, rfl, hM, hFm⟩ | ⟨cB, rfl, hM, hFm⟩ | ⟨cB, rfl, hM, hFm⟩
    · exact (cl_exchange_2_0 cA cB).elim
    · exact (cl_exchange_2_1 cA cB).elim
    · have hC := hC.fr hFm
      have ho := hFm.J ho
      have hV2 := hV
      show W _ _ _ _ _ _ _ _ _ _ _ _ _ _ _ (F0 m 619 ls [.int (iI 0)])
      refine lv_istore (lv' := [(6, .int (iI 0)), (5, .int (iI 2)), (4, .int (iI ((6 * i : Nat) : Int))), (0, .ref b), (1, .ref x), (2, .ref xm), (3, .ref oa)]) hx hb dL_law_619 hl (by decide) rfl (fun ls hl => ?_)
      refine lv_aload_n hx hb dL_law_621 rfl (lv_at hl 5 rfl) ?_
      refine m_run (va_runV (As := []) (rest := []) ⟨hx, hb, hml, hown, hts⟩ (k_X4_thrown (l := l) hM hV2.ib) (cwV 0 hts gL_law_X4_thrown rfl rfl rfl (by decide +kernel) ⟨by decide, by decide⟩) ⟨Kp.blind _ _ _ _ _, m_recv hK hB (ci := 4) rfl hM.1, fun U hU hW => hK.pass hB U hU hW⟩ rfl rfl hl.1 rfl (lv_room (Nat.le_of_ble_eq_true rfl)) dL_law_622 ⟨(by show cells + 10 ≤ 632940; omega), (by show slots + 60 ≤ 7197285; omega)⟩) hB (fun v u H locs hp hB => ?_)
      obtain ⟨rfl, rfl⟩ := hp
      show W _ _ _ _ _ _ _ _ _ _ _ _ _ _ _ (F0 m 625 ls [.int (iI 2)])
      refine lv_iload hx hb dL_law_625 (lv_at hl 1 rfl) ?_
      refine j_icmp_eq (tgt := 632) hx hb dL_law_627 (by decide) ⟨by decide, by decide⟩ ⟨by decide, by decide⟩ (fun _ => ?_) (fun w => absurd rfl w)
      refine lv_iload hx hb dL_law_632 (lv_at hl 1 rfl) ?_
      refine j_if_ne (tgt := 649) hx hb dL_law_634 (by decide) ⟨by decide, by decide⟩ (fun c_4 => ?_) (fun c_4 => absurd c_4 (by decide))
      refine lv_goto (tgt := 1638) hx hb dL_law_649 (by decide) ?_
      refine W.widen (k := cells + 100) (n := slots + 1000) (by show cells + 10 ≤ cells + 100; omega) (by show slots + 60 ≤ slots + 1000; omega) ?_
      exact kk _ _ _ _ _ (LwS.mk hV2 hC hM ho) hB (lv_sub hl [2, 3, 4, 5, 6] rfl)

set_option maxHeartbeats 4000000 in
set_option maxRecDepth 100000 in
theorem lc_7 {l : Launch} (hfl : l.stackTraces = false) {D : va_G} {cI cP cR cJ : ClassId} {p : Program} {e : Env} {s : State} {m : MethodId} {below : List Frame} {meth : Method} {c : Code} {b L : Nat} {xs : Nat → Int32} (hL : L ≤ 3072) (hx : p.tables.exec = Jvm.exec) (hb : c.code = cL_law) (hml : c.maxLocals = 7) (hown : s.vm.findClass RL = some m.cls) (hts : ∀ w ∈ wsL_law, w.before #[Value.ref b] s = true) (hX : va_X b L xs s s.heap) (hbl : b < s.heap.size) (hK : Kb D s.heap.size (tyL cI cP cR cJ) s) {x xm oa i : Nat} (hi : 6 * i + 6 ≤ L) {cells slots : Nat} (hc : cells + 100 ≤ 632940) (hs : slots + 1000 ≤ 7197285) {σ : Sg} {h0 : Hp} {H : Heap} {locs : List Loc} (hS : LwS cI cP cR cJ x xm oa σ h0) (hB : Bk D s.heap.size s.heap h0 H locs) {ls : Array Slot} (hl : lv_has ls 7 [(4, .int (iI ((6 * i : Nat) : Int))), (0, .ref b), (1, .ref x), (2, .ref xm), (3, .ref oa)]) {Q : State → Prop} (kk : ∀ (σ2 : Sg) (h2 : Hp) (H2 : Heap) (locs2 : List Loc) (ls2 : Array Slot), LwS cI cP cR cJ x xm oa σ2 h2 → Bk D s.heap.size s.heap h2 H2 locs2 → lv_has ls2 7 [(4, .int (iI ((6 * i : Nat) : Int))), (0, .ref b), (1, .ref x), (2, .ref xm), (3, .ref oa)] → W p l e room_1 s m #[Value.ref b] below meth c H2 locs2 (cells + 100) (slots + 1000) Q (F0 m 1638 ls2 [])) : W p l e room_1 s m #[Value.ref b] below meth c H locs cells slots Q (F0 m 652 ls []) := by
  obtain ⟨hV, ⟨xp, xr, pa, ra, hC⟩, ⟨xa, th, hM⟩, fo, ho⟩ := hS
  have hI := hV.ib
  have hnp := hI.hnp
  have hst := hI.2.2.1
  have hnrI := hI.nrI
  refine lv_aload_n hx hb dL_law_652 rfl (lv_at hl 2 rfl) ?_
  refine lv_aload_n hx hb dL_law_653 rfl (lv_at hl 1 rfl) ?_
  refine lv_iload hx hb dL_law_654 (lv_at hl 0 rfl) ?_
  refine j_iconst hx hb dL_law_656 ?_
  refine j_iadd hx hb dL_law_657 ?_
  refine j_topE (show (((6 * i : Nat) : Int) + 1) = ((6 * i + 1 : Nat) : Int) by omega) ?_
  refine m_sld hx hb hX hbl hB (n := 6 * i + 1) (by omega) hL dL_law_658 ?_
  refine lv_aload_n hx hb dL_law_659 rfl (lv_at hl 1 rfl) ?_
  refine lv_iload hx hb dL_law_660 (lv_at hl 0 rfl) ?_
  refine j_iconst hx hb dL_law_662 ?_
  refine j_iadd hx hb dL_law_663 ?_
  refine j_topE (show (((6 * i : Nat) : Int) + 2) = ((6 * i + 2 : Nat) : Int) by omega) ?_
  refine m_sld hx hb hX hbl hB (n := 6 * i + 2) (by omega) hL dL_law_664 ?_
  refine lv_aload_n hx hb dL_law_665 rfl (lv_at hl 1 rfl) ?_
  refine lv_iload hx hb dL_law_666 (lv_at hl 0 rfl) ?_
  refine j_iconst hx hb dL_law_668 ?_
  refine j_iadd hx hb dL_law_669 ?_
  refine j_topE (show (((6 * i : Nat) : Int) + 3) = ((6 * i + 3 : Nat) : Int) by omega) ?_
  refine m_sld hx hb hX hbl hB (n := 6 * i + 3) (by omega) hL dL_law_670 ?_
  refine lv_aload_n hx hb dL_law_671 rfl (lv_at hl 4 rfl) ?_
  refine m_run (vx_runSW (As := [.ref x, .int (iI ((xs (6 * i + 1)).toInt)), .int (iI ((xs (6 * i + 2)).toInt)), .int (iI ((xs (6 * i + 3)).toInt)), .ref oa]) (rest := []) ⟨hx, hb, hml, hown, hts⟩ (k_L_insert (l := l) hfl hC hI ho (iI_rg _) (iI_rg _) (iI_rg _)) (vx_cwSW 5 hts gL_law_L_insert rfl rfl rfl (by decide +kernel) ⟨by decide, by decide⟩) ⟨Kp.blind _ _ _ _ _, fun U hU hW => hK.pass hB U hU hW⟩ rfl rfl hl.1 rfl (lv_room (Nat.le_of_ble_eq_true rfl)) dL_law_672 ⟨(by show cells + 5 ≤ 632940; omega), (by show slots + 28 ≤ 7197285; omega)⟩) hB (fun v u H locs hp hB => ?_)
  rcases hp with ⟨rfl, cA, ra, hC, ⟨fo2, ho, ef⟩, hFl⟩ | ⟨rfl, cA, hC, hFl⟩ | ⟨rfl, cA, hC, hFl⟩
  · have hM := hM.frL hFl
    show W _ _ _ _ _ _ _ _ _ _ _ _ _ _ _ (F0 m 675 ls [.int (iI 0)])
    refine lv_istore (lv' := [(5, .int (iI 0)), (4, .int (iI ((6 * i : Nat) : Int))), (0, .ref b), (1, .ref x), (2, .ref xm), (3, .ref oa)]) hx hb dL_law_675 hl (by decide) rfl (fun ls hl => ?_)
    refine lv_aload_n hx hb dL_law_677 rfl (lv_at hl 4 rfl) ?_
    refine lv_aload_n hx hb dL_law_678 rfl (lv_at hl 2 rfl) ?_
    refine lv_iload hx hb dL_law_679 (lv_at hl 1 rfl) ?_
    refine j_iconst hx hb dL_law_681 ?_
    refine j_iadd hx hb dL_law_682 ?_
    refine j_topE (show (((6 * i : Nat) : Int) + 1) = ((6 * i + 1 : Nat) : Int) by omega) ?_
    refine m_sld hx hb hX hbl hB (n := 6 * i + 1) (by omega) hL dL_law_683 ?_
    refine lv_aload_n hx hb dL_law_684 rfl (lv_at hl 2 rfl) ?_
    refine lv_iload hx hb dL_law_685 (lv_at hl 1 rfl) ?_
    refine j_iconst hx hb dL_law_687 ?_
    refine j_iadd hx hb dL_law_688 ?_
    refine j_topE (show (((6 * i : Nat) : Int) + 2) = ((6 * i + 2 : Nat) : Int) by omega) ?_
    refine m_sld hx hb hX hbl hB (n := 6 * i + 2) (by omega) hL dL_law_689 ?_
    refine lv_aload_n hx hb dL_law_690 rfl (lv_at hl 2 rfl) ?_
    refine lv_iload hx hb dL_law_691 (lv_at hl 1 rfl) ?_
    refine j_iconst hx hb dL_law_693 ?_
    refine j_iadd hx hb dL_law_694 ?_
    refine j_topE (show (((6 * i : Nat) : Int) + 3) = ((6 * i + 3 : Nat) : Int) by omega) ?_
    refine m_sld hx hb hX hbl hB (n := 6 * i + 3) (by omega) hL dL_law_695 ?_
    refine m_run (va_runV (As := [.int (iI ((xs (6 * i + 1)).toInt)), .int (iI ((xs (6 * i + 2)).toInt)), .int (iI ((xs (6 * i + 3)).toInt))]) (rest := []) ⟨hx, hb, hml, hown, hts⟩ (k_X4_insert (l := l) hM hI (iI_rg _) (iI_rg _) (iI_rg _)) (cwV 3 hts gL_law_X4_insert rfl rfl rfl (by decide +kernel) ⟨by decide, by decide⟩) ⟨Kp.blind _ _ _ _ _, m_recv hK hB (ci := 4) rfl hM.1, fun U hU hW => hK.pass hB U hU hW⟩ rfl rfl hl.1 rfl (lv_room (Nat.le_of_ble_eq_true rfl)) dL_law_696 ⟨(by show cells + 5 ≤ 632940; omega), (by show slots + 28 ≤ 7197285; omega)⟩) hB (fun v u H locs hp hB => ?_)
    rcases hp with ⟨cB, rfl, hM, hFm⟩ | ⟨cB, rfl, hM, hFm⟩ | ⟨cB, rfl, hM, hFm⟩
    · have hC := hC.fr hFm
      have ho := hFm.J ho
      have hV2 := hV.ins cA.2.2.2 cA.1 cA.2.1 cA.2.2.1
      show W _ _ _ _ _ _ _ _ _ _ _ _ _ _ _ (F0 m 699 ls [.int (iI (σ 10 0))])
      refine lv_istore (lv' := [(6, .int (iI (σ 10 0))), (5, .int (iI 0)), (4, .int (iI ((6 * i : Nat) : Int))), (0, .ref b), (1, .ref x), (2, .ref xm), (3, .ref oa)]) hx hb dL_law_699 hl (by decide) rfl (fun ls hl => ?_)
      refine lv_aload_n hx hb dL_law_701 rfl (lv_at hl 5 rfl) ?_
      refine m_run (va_runV (As := []) (rest := []) ⟨hx, hb, hml, hown, hts⟩ (k_X4_thrown (l := l) hM hV2.ib) (cwV 0 hts gL_law_X4_thrown rfl rfl rfl (by decide +kernel) ⟨by decide, by decide⟩) ⟨Kp.blind _ _ _ _ _, m_recv hK hB (ci := 4) rfl hM.1, fun U hU hW => hK.pass hB U hU hW⟩ rfl rfl hl.1 rfl (lv_room (Nat.le_of_ble_eq_true rfl)) dL_law_702 ⟨(by show cells + 5 ≤ 632940; omega), (by show slots + 28 ≤ 7197285; omega)⟩) hB (fun v u H locs hp hB => ?_)
      obtain ⟨rfl, rfl⟩ := hp
      show W _ _ _ _ _ _ _ _ _ _ _ _ _ _ _ (F0 m 705 ls [.int (iI 0)])
      refine lv_iload hx hb dL_law_705 (lv_at hl 1 rfl) ?_
      refine j_icmp_eq (tgt := 712) hx hb dL_law_707 (by decide) ⟨by decide, by decide⟩ ⟨by decide, by decide⟩ (fun _ => ?_) (fun w => absurd rfl w)
      refine lv_iload hx hb dL_law_712 (lv_at hl 1 rfl) ?_
      refine j_if_ne (tgt := 729) hx hb dL_law_714 (by decide) ⟨by decide, by decide⟩ (fun c_1 => absurd c_1 (by decide)) (fun c_1 => ?_)
      refine lv_aload_n hx hb dL_law_717 rfl (lv_at hl 6 rfl) ?_
      refine j_iconst hx hb dL_law_718 ?_
      refine m_lald hx hb hK hB 3 ho rfl in01 dL_law_719 ?_
      refine lv_iload hx hb dL_law_720 (lv_at hl 0 rfl) ?_
      refine lv_i2l hx hb dL_law_722 (rfl : _ = lI (σ 10 0)) ?_
      refine j_lcmp0 hx hb (show fo2 (iI 0).toNatClampNeg = _ from ef) dL_law_723 ?_
      refine j_if_eq (tgt := 729) hx hb dL_law_724 (by decide) ⟨by decide, by decide⟩ (fun c_2 => ?_) (fun c_2 => absurd c_2 (by decide))
      refine lv_goto (tgt := 1638) hx hb dL_law_729 (by decide) ?_
      refine W.widen (k := cells + 100) (n := slots + 1000) (by show cells + 5 ≤ cells + 100; omega) (by show slots + 28 ≤ slots + 1000; omega) ?_
      exact kk _ _ _ _ _ (LwS.mk hV2 hC hM ho) hB (lv_sub hl [2, 3, 4, 5, 6] rfl)
    · exact (cl_insert_0_1 cA cB).elim
    · exact (cl_insert_0_2 cA cB).elim
  · have hM := hM.frL hFl.L
    have ho := hFl.J ho
    show W _ _ _ _ _ _ _ _ _ _ _ _ _ _ _ (F0 m 675 ls [.int (iI 1)])
    refine lv_istore (lv' := [(5, .int (iI 1)), (4, .int (iI ((6 * i : Nat) : Int))), (0, .ref b), (1, .ref x), (2, .ref xm), (3, .ref oa)]) hx hb dL_law_675 hl (by decide) rfl (fun ls hl => ?_)
    refine lv_aload_n hx hb dL_law_677 rfl (lv_at hl 4 rfl) ?_
    refine lv_aload_n hx hb dL_law_678 rfl (lv_at hl 2 rfl) ?_
    refine lv_iload hx hb dL_law_679 (lv_at hl 1 rfl) ?_
    refine j_iconst hx hb dL_law_681 ?_
    refine j_iadd hx hb dL_law_682 ?_
    refine j_topE (show (((6 * i : Nat) : Int) + 1) = ((6 * i + 1 : Nat) : Int) by omega) ?_
    refine m_sld hx hb hX hbl hB (n := 6 * i + 1) (by omega) hL dL_law_683 ?_
    refine lv_aload_n hx hb dL_law_684 rfl (lv_at hl 2 rfl) ?_
    refine lv_iload hx hb dL_law_685 (lv_at hl 1 rfl) ?_
    refine j_iconst hx hb dL_law_687 ?_
    refine j_iadd hx hb dL_law_688 ?_
    refine j_topE (show (((6 * i : Nat) : Int) + 2) = ((6 * i + 2 : Nat) : Int) by omega) ?_
    refine m_sld hx hb hX hbl hB (n := 6 * i + 2) (by omega) hL dL_law_689 ?_
    refine lv_aload_n hx hb dL_law_690 rfl (lv_at hl 2 rfl) ?_
    refine lv_iload hx hb dL_law_691 (lv_at hl 1 rfl) ?_
    refine j_iconst hx hb dL_law_693 ?_
    refine j_iadd hx hb dL_law_694 ?_
    refine j_topE (show (((6 * i : Nat) : Int) + 3) = ((6 * i + 3 : Nat) : Int) by omega) ?_
    refine m_sld hx hb hX hbl hB (n := 6 * i + 3) (by omega) hL dL_law_695 ?_
    refine m_run (va_runV (As := [.int (iI ((xs (6 * i + 1)).toInt)), .int (iI ((xs (6 * i + 2)).toInt)), .int (iI ((xs (6 * i + 3)).toInt))]) (rest := []) ⟨hx, hb, hml, hown, hts⟩ (k_X4_insert (l := l) hM hI (iI_rg _) (iI_rg _) (iI_rg _)) (cwV 3 hts gL_law_X4_insert rfl rfl rfl (by decide +kernel) ⟨by decide, by decide⟩) ⟨Kp.blind _ _ _ _ _, m_recv hK hB (ci := 4) rfl hM.1, fun U hU hW => hK.pass hB U hU hW⟩ rfl rfl hl.1 rfl (lv_room (Nat.le_of_ble_eq_true rfl)) dL_law_696 ⟨(by show cells + 5 ≤ 632940; omega), (by show slots + 28 ≤ 7197285; omega)⟩) hB (fun v u H locs hp hB => ?_)
    rcases hp with ⟨cB, rfl, hM, hFm⟩ | ⟨cB, rfl, hM, hFm⟩ | ⟨cB, rfl, hM, hFm⟩
    · exact (cl_insert_1_0 cA cB).elim
    · have hC := hC.fr hFm
      have ho := hFm.J ho
      have hV2 := hV
      show W _ _ _ _ _ _ _ _ _ _ _ _ _ _ _ (F0 m 699 ls [.int (iI 0)])
      refine lv_istore (lv' := [(6, .int (iI 0)), (5, .int (iI 1)), (4, .int (iI ((6 * i : Nat) : Int))), (0, .ref b), (1, .ref x), (2, .ref xm), (3, .ref oa)]) hx hb dL_law_699 hl (by decide) rfl (fun ls hl => ?_)
      refine lv_aload_n hx hb dL_law_701 rfl (lv_at hl 5 rfl) ?_
      refine m_run (va_runV (As := []) (rest := []) ⟨hx, hb, hml, hown, hts⟩ (k_X4_thrown (l := l) hM hV2.ib) (cwV 0 hts gL_law_X4_thrown rfl rfl rfl (by decide +kernel) ⟨by decide, by decide⟩) ⟨Kp.blind _ _ _ _ _, m_recv hK hB (ci := 4) rfl hM.1, fun U hU hW => hK.pass hB U hU hW⟩ rfl rfl hl.1 rfl (lv_room (Nat.le_of_ble_eq_true rfl)) dL_law_702 ⟨(by show cells + 5 ≤ 632940; omega), (by show slots + 28 ≤ 7197285; omega)⟩) hB (fun v u H locs hp hB => ?_)
      obtain ⟨rfl, rfl⟩ := hp
      show W _ _ _ _ _ _ _ _ _ _ _ _ _ _ _ (F0 m 705 ls [.int (iI 1)])
      refine lv_iload hx hb dL_law_705 (lv_at hl 1 rfl) ?_
      refine j_icmp_eq (tgt := 712) hx hb dL_law_707 (by decide) ⟨by decide, by decide⟩ ⟨by decide, by decide⟩ (fun _ => ?_) (fun w => absurd rfl w)
      refine lv_iload hx hb dL_law_712 (lv_at hl 1 rfl) ?_
      refine j_if_ne (tgt := 729) hx hb dL_law_714 (by decide) ⟨by decide, by decide⟩ (fun c_3 => ?_) (fun c_3 => absurd c_3 (by decide))
      refine lv_goto (tgt := 1638) hx hb dL_law_729 (by decide) ?_
      refine W.widen (k := cells + 100) (n := slots + 1000) (by show cells + 5 ≤ cells + 100; omega) (by show slots + 28 ≤ slots + 1000; omega) ?_
      exact kk _ _ _ _ _ (LwS.mk hV2 hC hM ho) hB (lv_sub hl [2, 3, 4, 5, 6] rfl)
    · exact (cl_insert_1_2 cA cB).elim
  · have hM := hM.frL hFl.L
    have ho := hFl.J ho
    show W _ _ _ _ _ _ _ _ _ _ _ _ _ _ _ (F0 m 675 ls [.int (iI 2)])
    refine lv_istore (lv' := [(5, .int (iI 2)), (4, .int (iI ((6 * i : Nat) : Int))), (0, .ref b), (1, .ref x), (2, .ref xm), (3, .ref oa)]) hx hb dL_law_675 hl (by decide) rfl (fun ls hl => ?_)
    refine lv_aload_n hx hb dL_law_677 rfl (lv_at hl 4 rfl) ?_
    refine lv_aload_n hx hb dL_law_678 rfl (lv_at hl 2 rfl) ?_
    refine lv_iload hx hb dL_law_679 (lv_at hl 1 rfl) ?_
    refine j_iconst hx hb dL_law_681 ?_
    refine j_iadd hx hb dL_law_682 ?_
    refine j_topE (show (((6 * i : Nat) : Int) + 1) = ((6 * i + 1 : Nat) : Int) by omega) ?_
    refine m_sld hx hb hX hbl hB (n := 6 * i + 1) (by omega) hL dL_law_683 ?_
    refine lv_aload_n hx hb dL_law_684 rfl (lv_at hl 2 rfl) ?_
    refine lv_iload hx hb dL_law_685 (lv_at hl 1 rfl) ?_
    refine j_iconst hx hb dL_law_687 ?_
    refine j_iadd hx hb dL_law_688 ?_
    refine j_topE (show (((6 * i : Nat) : Int) + 2) = ((6 * i + 2 : Nat) : Int) by omega) ?_
    refine m_sld hx hb hX hbl hB (n := 6 * i + 2) (by omega) hL dL_law_689 ?_
    refine lv_aload_n hx hb dL_law_690 rfl (lv_at hl 2 rfl) ?_
    refine lv_iload hx hb dL_law_691 (lv_at hl 1 rfl) ?_
    refine j_iconst hx hb dL_law_693 ?_
    refine j_iadd hx hb dL_law_694 ?_
    refine j_topE (show (((6 * i : Nat) : Int) + 3) = ((6 * i + 3 : Nat) : Int) by omega) ?_
    refine m_sld hx hb hX hbl hB (n := 6 * i + 3) (by omega) hL dL_law_695 ?_
    refine m_run (va_runV (As := [.int (iI ((xs (6 * i + 1)).toInt)), .int (iI ((xs (6 * i + 2)).toInt)), .int (iI ((xs (6 * i + 3)).toInt))]) (rest := []) ⟨hx, hb, hml, hown, hts⟩ (k_X4_insert (l := l) hM hI (iI_rg _) (iI_rg _) (iI_rg _)) (cwV 3 hts gL_law_X4_insert rfl rfl rfl (by decide +kernel) ⟨by decide, by decide⟩) ⟨Kp.blind _ _ _ _ _, m_recv hK hB (ci := 4) rfl hM.1, fun U hU hW => hK.pass hB U hU hW⟩ rfl rfl hl.1 rfl (lv_room (Nat.le_of_ble_eq_true rfl)) dL_law_696 ⟨(by show cells + 5 ≤ 632940; omega), (by show slots + 28 ≤ 7197285; omega)⟩) hB (fun v u H locs hp hB => ?_)
    rcases hp with ⟨cB, rfl, hM, hFm⟩ | ⟨cB, rfl, hM, hFm⟩ | ⟨cB, rfl, hM, hFm⟩
    · exact (cl_insert_2_0 cA cB).elim
    · exact (cl_insert_2_1 cA cB).elim
    · have hC := hC.fr hFm
      have ho := hFm.J ho
      have hV2 := hV
      show W _ _ _ _ _ _ _ _ _ _ _ _ _ _ _ (F0 m 699 ls [.int (iI 0)])
      refine lv_istore (lv' := [(6, .int (iI 0)), (5, .int (iI 2)), (4, .int (iI ((6 * i : Nat) : Int))), (0, .ref b), (1, .ref x), (2, .ref xm), (3, .ref oa)]) hx hb dL_law_699 hl (by decide) rfl (fun ls hl => ?_)
      refine lv_aload_n hx hb dL_law_701 rfl (lv_at hl 5 rfl) ?_
      refine m_run (va_runV (As := []) (rest := []) ⟨hx, hb, hml, hown, hts⟩ (k_X4_thrown (l := l) hM hV2.ib) (cwV 0 hts gL_law_X4_thrown rfl rfl rfl (by decide +kernel) ⟨by decide, by decide⟩) ⟨Kp.blind _ _ _ _ _, m_recv hK hB (ci := 4) rfl hM.1, fun U hU hW => hK.pass hB U hU hW⟩ rfl rfl hl.1 rfl (lv_room (Nat.le_of_ble_eq_true rfl)) dL_law_702 ⟨(by show cells + 5 ≤ 632940; omega), (by show slots + 28 ≤ 7197285; omega)⟩) hB (fun v u H locs hp hB => ?_)
      obtain ⟨rfl, rfl⟩ := hp
      show W _ _ _ _ _ _ _ _ _ _ _ _ _ _ _ (F0 m 705 ls [.int (iI 2)])
      refine lv_iload hx hb dL_law_705 (lv_at hl 1 rfl) ?_
      refine j_icmp_eq (tgt := 712) hx hb dL_law_707 (by decide) ⟨by decide, by decide⟩ ⟨by decide, by decide⟩ (fun _ => ?_) (fun w => absurd rfl w)
      refine lv_iload hx hb dL_law_712 (lv_at hl 1 rfl) ?_
      refine j_if_ne (tgt := 729) hx hb dL_law_714 (by decide) ⟨by decide, by decide⟩ (fun c_4 => ?_) (fun c_4 => absurd c_4 (by decide))
      refine lv_goto (tgt := 1638) hx hb dL_law_729 (by decide) ?_
      refine W.widen (k := cells + 100) (n := slots + 1000) (by show cells + 5 ≤ cells + 100; omega) (by show slots + 28 ≤ slots + 1000; omega) ?_
      exact kk _ _ _ _ _ (LwS.mk hV2 hC hM ho) hB (lv_sub hl [2, 3, 4, 5, 6] rfl)

set_option maxHeartbeats 4000000 in
set_option maxRecDepth 100000 in
theorem lc_8 {l : Launch} (hfl : l.stackTraces = false) {D : va_G} {cI cP cR cJ : ClassId} {p : Program} {e : Env} {s : State} {m : MethodId} {below : List Frame} {meth : Method} {c : Code} {b L : Nat} {xs : Nat → Int32} (hL : L ≤ 3072) (hx : p.tables.exec = Jvm.exec) (hb : c.code = cL_law) (hml : c.maxLocals = 7) (hown : s.vm.findClass RL = some m.cls) (hts : ∀ w ∈ wsL_law, w.before #[Value.ref b] s = true) (hX : va_X b L xs s s.heap) (hbl : b < s.heap.size) (hK : Kb D s.heap.size (tyL cI cP cR cJ) s) {x xm oa i : Nat} (hi : 6 * i + 6 ≤ L) {cells slots : Nat} (hc : cells + 100 ≤ 632940) (hs : slots + 1000 ≤ 7197285) {σ : Sg} {h0 : Hp} {H : Heap} {locs : List Loc} (hS : LwS cI cP cR cJ x xm oa σ h0) (hB : Bk D s.heap.size s.heap h0 H locs) {ls : Array Slot} (hl : lv_has ls 7 [(4, .int (iI ((6 * i : Nat) : Int))), (0, .ref b), (1, .ref x), (2, .ref xm), (3, .ref oa)]) {Q : State → Prop} (kk : ∀ (σ2 : Sg) (h2 : Hp) (H2 : Heap) (locs2 : List Loc) (ls2 : Array Slot), LwS cI cP cR cJ x xm oa σ2 h2 → Bk D s.heap.size s.heap h2 H2 locs2 → lv_has ls2 7 [(4, .int (iI ((6 * i : Nat) : Int))), (0, .ref b), (1, .ref x), (2, .ref xm), (3, .ref oa)] → W p l e room_1 s m #[Value.ref b] below meth c H2 locs2 (cells + 100) (slots + 1000) Q (F0 m 1638 ls2 [])) : W p l e room_1 s m #[Value.ref b] below meth c H locs cells slots Q (F0 m 732 ls []) := by
  obtain ⟨hV, ⟨xp, xr, pa, ra, hC⟩, ⟨xa, th, hM⟩, fo, ho⟩ := hS
  have hI := hV.ib
  have hnp := hI.hnp
  have hst := hI.2.2.1
  have hnrI := hI.nrI
  refine lv_aload_n hx hb dL_law_732 rfl (lv_at hl 2 rfl) ?_
  refine lv_aload_n hx hb dL_law_733 rfl (lv_at hl 1 rfl) ?_
  refine lv_iload hx hb dL_law_734 (lv_at hl 0 rfl) ?_
  refine j_iconst hx hb dL_law_736 ?_
  refine j_iadd hx hb dL_law_737 ?_
  refine j_topE (show (((6 * i : Nat) : Int) + 1) = ((6 * i + 1 : Nat) : Int) by omega) ?_
  refine m_sld hx hb hX hbl hB (n := 6 * i + 1) (by omega) hL dL_law_738 ?_
  refine lv_aload_n hx hb dL_law_739 rfl (lv_at hl 1 rfl) ?_
  refine lv_iload hx hb dL_law_740 (lv_at hl 0 rfl) ?_
  refine j_iconst hx hb dL_law_742 ?_
  refine j_iadd hx hb dL_law_743 ?_
  refine j_topE (show (((6 * i : Nat) : Int) + 2) = ((6 * i + 2 : Nat) : Int) by omega) ?_
  refine m_sld hx hb hX hbl hB (n := 6 * i + 2) (by omega) hL dL_law_744 ?_
  refine lv_aload_n hx hb dL_law_745 rfl (lv_at hl 1 rfl) ?_
  refine lv_iload hx hb dL_law_746 (lv_at hl 0 rfl) ?_
  refine j_iconst hx hb dL_law_748 ?_
  refine j_iadd hx hb dL_law_749 ?_
  refine j_topE (show (((6 * i : Nat) : Int) + 3) = ((6 * i + 3 : Nat) : Int) by omega) ?_
  refine m_sld hx hb hX hbl hB (n := 6 * i + 3) (by omega) hL dL_law_750 ?_
  refine lv_aload_n hx hb dL_law_751 rfl (lv_at hl 4 rfl) ?_
  refine m_run (vx_runSW (As := [.ref x, .int (iI ((xs (6 * i + 1)).toInt)), .int (iI ((xs (6 * i + 2)).toInt)), .int (iI ((xs (6 * i + 3)).toInt)), .ref oa]) (rest := []) ⟨hx, hb, hml, hown, hts⟩ (k_L_change (l := l) hfl hC hI ho (iI_rg _) (iI_rg _) (iI_rg _)) (vx_cwSW 5 hts gL_law_L_change rfl rfl rfl (by decide +kernel) ⟨by decide, by decide⟩) ⟨Kp.blind _ _ _ _ _, fun U hU hW => hK.pass hB U hU hW⟩ rfl rfl hl.1 rfl (lv_room (Nat.le_of_ble_eq_true rfl)) dL_law_752 ⟨(by show cells + 4 ≤ 632940; omega), (by show slots + 24 ≤ 7197285; omega)⟩) hB (fun v u H locs hp hB => ?_)
  rcases hp with ⟨rfl, cA, hC, ⟨fo2, ho, ef⟩, hFl⟩ | ⟨rfl, cA, hC, hFl⟩ | ⟨rfl, cA, hC, hFl⟩ | ⟨rfl, cA, hC, hFl⟩
  · have hM := hM.frL hFl
    show W _ _ _ _ _ _ _ _ _ _ _ _ _ _ _ (F0 m 755 ls [.int (iI 0)])
    refine lv_istore (lv' := [(5, .int (iI 0)), (4, .int (iI ((6 * i : Nat) : Int))), (0, .ref b), (1, .ref x), (2, .ref xm), (3, .ref oa)]) hx hb dL_law_755 hl (by decide) rfl (fun ls hl => ?_)
    refine lv_aload_n hx hb dL_law_757 rfl (lv_at hl 4 rfl) ?_
    refine lv_aload_n hx hb dL_law_758 rfl (lv_at hl 2 rfl) ?_
    refine lv_iload hx hb dL_law_759 (lv_at hl 1 rfl) ?_
    refine j_iconst hx hb dL_law_761 ?_
    refine j_iadd hx hb dL_law_762 ?_
    refine j_topE (show (((6 * i : Nat) : Int) + 1) = ((6 * i + 1 : Nat) : Int) by omega) ?_
    refine m_sld hx hb hX hbl hB (n := 6 * i + 1) (by omega) hL dL_law_763 ?_
    refine lv_aload_n hx hb dL_law_764 rfl (lv_at hl 2 rfl) ?_
    refine lv_iload hx hb dL_law_765 (lv_at hl 1 rfl) ?_
    refine j_iconst hx hb dL_law_767 ?_
    refine j_iadd hx hb dL_law_768 ?_
    refine j_topE (show (((6 * i : Nat) : Int) + 2) = ((6 * i + 2 : Nat) : Int) by omega) ?_
    refine m_sld hx hb hX hbl hB (n := 6 * i + 2) (by omega) hL dL_law_769 ?_
    refine lv_aload_n hx hb dL_law_770 rfl (lv_at hl 2 rfl) ?_
    refine lv_iload hx hb dL_law_771 (lv_at hl 1 rfl) ?_
    refine j_iconst hx hb dL_law_773 ?_
    refine j_iadd hx hb dL_law_774 ?_
    refine j_topE (show (((6 * i : Nat) : Int) + 3) = ((6 * i + 3 : Nat) : Int) by omega) ?_
    refine m_sld hx hb hX hbl hB (n := 6 * i + 3) (by omega) hL dL_law_775 ?_
    refine m_run (va_runV (As := [.int (iI ((xs (6 * i + 1)).toInt)), .int (iI ((xs (6 * i + 2)).toInt)), .int (iI ((xs (6 * i + 3)).toInt))]) (rest := []) ⟨hx, hb, hml, hown, hts⟩ (k_X4_change (l := l) hM hI (iI_rg _) (iI_rg _) (iI_rg _)) (cwV 3 hts gL_law_X4_change rfl rfl rfl (by decide +kernel) ⟨by decide, by decide⟩) ⟨Kp.blind _ _ _ _ _, m_recv hK hB (ci := 4) rfl hM.1, fun U hU hW => hK.pass hB U hU hW⟩ rfl rfl hl.1 rfl (lv_room (Nat.le_of_ble_eq_true rfl)) dL_law_776 ⟨(by show cells + 4 ≤ 632940; omega), (by show slots + 24 ≤ 7197285; omega)⟩) hB (fun v u H locs hp hB => ?_)
    rcases hp with ⟨cB, rfl, hM, hFm⟩ | ⟨cB, rfl, hM, hFm⟩ | ⟨cB, rfl, hM, hFm⟩ | ⟨cB, rfl, hM, hFm⟩
    · have hC := hC.fr hFm
      have ho := hFm.J ho
      have hV2 := hV.chg (j := ((xs (6 * i + 1)).toInt).toNat) ⟨by have w := cA.1; unfold isR at w; omega, by have w := cA.1; unfold isR at w; exact w.2.2⟩ cA.2.1.1 cA.2.1.2
      show W _ _ _ _ _ _ _ _ _ _ _ _ _ _ _ (F0 m 779 ls [.int (iI (b2 (10 * ((pn (upS (upS (upS σ 6 ((xs (6 * i + 1)).toInt).toNat ((xs (6 * i + 2)).toInt)) 7 ((xs (6 * i + 1)).toInt).toNat ((xs (6 * i + 3)).toInt)) 5 ((xs (6 * i + 1)).toInt).toNat ((pw (upS (upS σ 6 ((xs (6 * i + 1)).toInt).toNat ((xs (6 * i + 2)).toInt)) 7 ((xs (6 * i + 1)).toInt).toNat ((xs (6 * i + 3)).toInt)) ((xs (6 * i + 2)).toInt) : Nat) : Int)) ((xs (6 * i + 1)).toInt).toNat : Nat) : Int) + lfr (upS (upS (upS σ 6 ((xs (6 * i + 1)).toInt).toNat ((xs (6 * i + 2)).toInt)) 7 ((xs (6 * i + 1)).toInt).toNat ((xs (6 * i + 3)).toInt)) 5 ((xs (6 * i + 1)).toInt).toNat ((pw (upS (upS σ 6 ((xs (6 * i + 1)).toInt).toNat ((xs (6 * i + 2)).toInt)) 7 ((xs (6 * i + 1)).toInt).toNat ((xs (6 * i + 3)).toInt)) ((xs (6 * i + 2)).toInt) : Nat) : Int)) ((xs (6 * i + 1)).toInt).toNat ≠ 10 * ((pn σ ((xs (6 * i + 1)).toInt).toNat : Nat) : Int) + lfr σ ((xs (6 * i + 1)).toInt).toNat)))])
      refine lv_istore (lv' := [(6, .int (iI (b2 (10 * ((pn (upS (upS (upS σ 6 ((xs (6 * i + 1)).toInt).toNat ((xs (6 * i + 2)).toInt)) 7 ((xs (6 * i + 1)).toInt).toNat ((xs (6 * i + 3)).toInt)) 5 ((xs (6 * i + 1)).toInt).toNat ((pw (upS (upS σ 6 ((xs (6 * i + 1)).toInt).toNat ((xs (6 * i + 2)).toInt)) 7 ((xs (6 * i + 1)).toInt).toNat ((xs (6 * i + 3)).toInt)) ((xs (6 * i + 2)).toInt) : Nat) : Int)) ((xs (6 * i + 1)).toInt).toNat : Nat) : Int) + lfr (upS (upS (upS σ 6 ((xs (6 * i + 1)).toInt).toNat ((xs (6 * i + 2)).toInt)) 7 ((xs (6 * i + 1)).toInt).toNat ((xs (6 * i + 3)).toInt)) 5 ((xs (6 * i + 1)).toInt).toNat ((pw (upS (upS σ 6 ((xs (6 * i + 1)).toInt).toNat ((xs (6 * i + 2)).toInt)) 7 ((xs (6 * i + 1)).toInt).toNat ((xs (6 * i + 3)).toInt)) ((xs (6 * i + 2)).toInt) : Nat) : Int)) ((xs (6 * i + 1)).toInt).toNat ≠ 10 * ((pn σ ((xs (6 * i + 1)).toInt).toNat : Nat) : Int) + lfr σ ((xs (6 * i + 1)).toInt).toNat)))), (5, .int (iI 0)), (4, .int (iI ((6 * i : Nat) : Int))), (0, .ref b), (1, .ref x), (2, .ref xm), (3, .ref oa)]) hx hb dL_law_779 hl (by decide) rfl (fun ls hl => ?_)
      refine lv_aload_n hx hb dL_law_781 rfl (lv_at hl 5 rfl) ?_
      refine m_run (va_runV (As := []) (rest := []) ⟨hx, hb, hml, hown, hts⟩ (k_X4_thrown (l := l) hM hV2.ib) (cwV 0 hts gL_law_X4_thrown rfl rfl rfl (by decide +kernel) ⟨by decide, by decide⟩) ⟨Kp.blind _ _ _ _ _, m_recv hK hB (ci := 4) rfl hM.1, fun U hU hW => hK.pass hB U hU hW⟩ rfl rfl hl.1 rfl (lv_room (Nat.le_of_ble_eq_true rfl)) dL_law_782 ⟨(by show cells + 4 ≤ 632940; omega), (by show slots + 24 ≤ 7197285; omega)⟩) hB (fun v u H locs hp hB => ?_)
      obtain ⟨rfl, rfl⟩ := hp
      show W _ _ _ _ _ _ _ _ _ _ _ _ _ _ _ (F0 m 785 ls [.int (iI 0)])
      refine lv_iload hx hb dL_law_785 (lv_at hl 1 rfl) ?_
      refine j_icmp_eq (tgt := 792) hx hb dL_law_787 (by decide) ⟨by decide, by decide⟩ ⟨by decide, by decide⟩ (fun _ => ?_) (fun w => absurd rfl w)
      refine lv_iload hx hb dL_law_792 (lv_at hl 1 rfl) ?_
      refine j_if_ne (tgt := 816) hx hb dL_law_794 (by decide) ⟨by decide, by decide⟩ (fun c_1 => absurd c_1 (by decide)) (fun c_1 => ?_)
      refine lv_aload_n hx hb dL_law_797 rfl (lv_at hl 6 rfl) ?_
      refine j_iconst hx hb dL_law_798 ?_
      refine m_lald hx hb hK hB 3 ho rfl in01 dL_law_799 ?_
      refine lv_iload hx hb dL_law_800 (lv_at hl 0 rfl) ?_
      refine j_ifeqP (tgt := 809) hx hb dL_law_802 (by decide) (fun c_2 => ?_) (fun c_2 => ?_)
      · refine lv_lconst hx hb dL_law_809 lI_0 ?_
        refine j_lcmp0 hx hb (show fo2 (iI 0).toNatClampNeg = _ from (ef.trans (congrArg lI (b2_f c_2)))) dL_law_810 ?_
        refine j_if_eq (tgt := 816) hx hb dL_law_811 (by decide) ⟨by decide, by decide⟩ (fun c_3 => ?_) (fun c_3 => absurd c_3 (by decide))
        refine lv_goto (tgt := 1638) hx hb dL_law_816 (by decide) ?_
        refine W.widen (k := cells + 100) (n := slots + 1000) (by show cells + 4 ≤ cells + 100; omega) (by show slots + 24 ≤ slots + 1000; omega) ?_
        exact kk _ _ _ _ _ (LwS.mk hV2 hC hM ho) hB (lv_sub hl [2, 3, 4, 5, 6] rfl)
      · refine lv_lconst hx hb dL_law_805 lI_1 ?_
        refine lv_goto (tgt := 810) hx hb dL_law_806 (by decide) ?_
        refine j_lcmp0 hx hb (show fo2 (iI 0).toNatClampNeg = _ from (ef.trans (congrArg lI (b2_t c_2)))) dL_law_810 ?_
        refine j_if_eq (tgt := 816) hx hb dL_law_811 (by decide) ⟨by decide, by decide⟩ (fun c_4 => ?_) (fun c_4 => absurd c_4 (by decide))
        refine lv_goto (tgt := 1638) hx hb dL_law_816 (by decide) ?_
        refine W.widen (k := cells + 100) (n := slots + 1000) (by show cells + 4 ≤ cells + 100; omega) (by show slots + 24 ≤ slots + 1000; omega) ?_
        exact kk _ _ _ _ _ (LwS.mk hV2 hC hM ho) hB (lv_sub hl [2, 3, 4, 5, 6] rfl)
    · exact (cl_change_0_1 cA cB).elim
    · exact (cl_change_0_2 cA cB).elim
    · exact (cl_change_0_3 cA cB).elim
  · have hM := hM.frL hFl.L
    have ho := hFl.J ho
    show W _ _ _ _ _ _ _ _ _ _ _ _ _ _ _ (F0 m 755 ls [.int (iI 1)])
    refine lv_istore (lv' := [(5, .int (iI 1)), (4, .int (iI ((6 * i : Nat) : Int))), (0, .ref b), (1, .ref x), (2, .ref xm), (3, .ref oa)]) hx hb dL_law_755 hl (by decide) rfl (fun ls hl => ?_)
    refine lv_aload_n hx hb dL_law_757 rfl (lv_at hl 4 rfl) ?_
    refine lv_aload_n hx hb dL_law_758 rfl (lv_at hl 2 rfl) ?_
    refine lv_iload hx hb dL_law_759 (lv_at hl 1 rfl) ?_
    refine j_iconst hx hb dL_law_761 ?_
    refine j_iadd hx hb dL_law_762 ?_
    refine j_topE (show (((6 * i : Nat) : Int) + 1) = ((6 * i + 1 : Nat) : Int) by omega) ?_
    refine m_sld hx hb hX hbl hB (n := 6 * i + 1) (by omega) hL dL_law_763 ?_
    refine lv_aload_n hx hb dL_law_764 rfl (lv_at hl 2 rfl) ?_
    refine lv_iload hx hb dL_law_765 (lv_at hl 1 rfl) ?_
    refine j_iconst hx hb dL_law_767 ?_
    refine j_iadd hx hb dL_law_768 ?_
    refine j_topE (show (((6 * i : Nat) : Int) + 2) = ((6 * i + 2 : Nat) : Int) by omega) ?_
    refine m_sld hx hb hX hbl hB (n := 6 * i + 2) (by omega) hL dL_law_769 ?_
    refine lv_aload_n hx hb dL_law_770 rfl (lv_at hl 2 rfl) ?_
    refine lv_iload hx hb dL_law_771 (lv_at hl 1 rfl) ?_
    refine j_iconst hx hb dL_law_773 ?_
    refine j_iadd hx hb dL_law_774 ?_
    refine j_topE (show (((6 * i : Nat) : Int) + 3) = ((6 * i + 3 : Nat) : Int) by omega) ?_
    refine m_sld hx hb hX hbl hB (n := 6 * i + 3) (by omega) hL dL_law_775 ?_
    refine m_run (va_runV (As := [.int (iI ((xs (6 * i + 1)).toInt)), .int (iI ((xs (6 * i + 2)).toInt)), .int (iI ((xs (6 * i + 3)).toInt))]) (rest := []) ⟨hx, hb, hml, hown, hts⟩ (k_X4_change (l := l) hM hI (iI_rg _) (iI_rg _) (iI_rg _)) (cwV 3 hts gL_law_X4_change rfl rfl rfl (by decide +kernel) ⟨by decide, by decide⟩) ⟨Kp.blind _ _ _ _ _, m_recv hK hB (ci := 4) rfl hM.1, fun U hU hW => hK.pass hB U hU hW⟩ rfl rfl hl.1 rfl (lv_room (Nat.le_of_ble_eq_true rfl)) dL_law_776 ⟨(by show cells + 4 ≤ 632940; omega), (by show slots + 24 ≤ 7197285; omega)⟩) hB (fun v u H locs hp hB => ?_)
    rcases hp with ⟨cB, rfl, hM, hFm⟩ | ⟨cB, rfl, hM, hFm⟩ | ⟨cB, rfl, hM, hFm⟩ | ⟨cB, rfl, hM, hFm⟩
    · exact (cl_change_1_0 cA cB).elim
    · have hC := hC.fr hFm
      have ho := hFm.J ho
      have hV2 := hV
      show W _ _ _ _ _ _ _ _ _ _ _ _ _ _ _ (F0 m 779 ls [.int (iI 0)])
      refine lv_istore (lv' := [(6, .int (iI 0)), (5, .int (iI 1)), (4, .int (iI ((6 * i : Nat) : Int))), (0, .ref b), (1, .ref x), (2, .ref xm), (3, .ref oa)]) hx hb dL_law_779 hl (by decide) rfl (fun ls hl => ?_)
      refine lv_aload_n hx hb dL_law_781 rfl (lv_at hl 5 rfl) ?_
      refine m_run (va_runV (As := []) (rest := []) ⟨hx, hb, hml, hown, hts⟩ (k_X4_thrown (l := l) hM hV2.ib) (cwV 0 hts gL_law_X4_thrown rfl rfl rfl (by decide +kernel) ⟨by decide, by decide⟩) ⟨Kp.blind _ _ _ _ _, m_recv hK hB (ci := 4) rfl hM.1, fun U hU hW => hK.pass hB U hU hW⟩ rfl rfl hl.1 rfl (lv_room (Nat.le_of_ble_eq_true rfl)) dL_law_782 ⟨(by show cells + 4 ≤ 632940; omega), (by show slots + 24 ≤ 7197285; omega)⟩) hB (fun v u H locs hp hB => ?_)
      obtain ⟨rfl, rfl⟩ := hp
      show W _ _ _ _ _ _ _ _ _ _ _ _ _ _ _ (F0 m 785 ls [.int (iI 1)])
      refine lv_iload hx hb dL_law_785 (lv_at hl 1 rfl) ?_
      refine j_icmp_eq (tgt := 792) hx hb dL_law_787 (by decide) ⟨by decide, by decide⟩ ⟨by decide, by decide⟩ (fun _ => ?_) (fun w => absurd rfl w)
      refine lv_iload hx hb dL_law_792 (lv_at hl 1 rfl) ?_
      refine j_if_ne (tgt := 816) hx hb dL_law_794 (by decide) ⟨by decide, by decide⟩ (fun c_5 => ?_) (fun c_5 => absurd c_5 (by decide))
      refine lv_goto (tgt := 1638) hx hb dL_law_816 (by decide) ?_
      refine W.widen (k := cells + 100) (n := slots + 1000) (by show cells + 4 ≤ cells + 100; omega) (by show slots + 24 ≤ slots + 1000; omega) ?_
      exact kk _ _ _ _ _ (LwS.mk hV2 hC hM ho) hB (lv_sub hl [2, 3, 4, 5, 6] rfl)
    · exact (cl_change_1_2 cA cB).elim
    · exact (cl_change_1_3 cA cB).elim
  · have hM := hM.frL hFl.L
    have ho := hFl.J ho
    show W _ _ _ _ _ _ _ _ _ _ _ _ _ _ _ (F0 m 755 ls [.int (iI 2)])
    refine lv_istore (lv' := [(5, .int (iI 2)), (4, .int (iI ((6 * i : Nat) : Int))), (0, .ref b), (1, .ref x), (2, .ref xm), (3, .ref oa)]) hx hb dL_law_755 hl (by decide) rfl (fun ls hl => ?_)
    refine lv_aload_n hx hb dL_law_757 rfl (lv_at hl 4 rfl) ?_
    refine lv_aload_n hx hb dL_law_758 rfl (lv_at hl 2 rfl) ?_
    refine lv_iload hx hb dL_law_759 (lv_at hl 1 rfl) ?_
    refine j_iconst hx hb dL_law_761 ?_
    refine j_iadd hx hb dL_law_762 ?_
    refine j_topE (show (((6 * i : Nat) : Int) + 1) = ((6 * i + 1 : Nat) : Int) by omega) ?_
    refine m_sld hx hb hX hbl hB (n := 6 * i + 1) (by omega) hL dL_law_763 ?_
    refine lv_aload_n hx hb dL_law_764 rfl (lv_at hl 2 rfl) ?_
    refine lv_iload hx hb dL_law_765 (lv_at hl 1 rfl) ?_
    refine j_iconst hx hb dL_law_767 ?_
    refine j_iadd hx hb dL_law_768 ?_
    refine j_topE (show (((6 * i : Nat) : Int) + 2) = ((6 * i + 2 : Nat) : Int) by omega) ?_
    refine m_sld hx hb hX hbl hB (n := 6 * i + 2) (by omega) hL dL_law_769 ?_
    refine lv_aload_n hx hb dL_law_770 rfl (lv_at hl 2 rfl) ?_
    refine lv_iload hx hb dL_law_771 (lv_at hl 1 rfl) ?_
    refine j_iconst hx hb dL_law_773 ?_
    refine j_iadd hx hb dL_law_774 ?_
    refine j_topE (show (((6 * i : Nat) : Int) + 3) = ((6 * i + 3 : Nat) : Int) by omega) ?_
    refine m_sld hx hb hX hbl hB (n := 6 * i + 3) (by omega) hL dL_law_775 ?_
    refine m_run (va_runV (As := [.int (iI ((xs (6 * i + 1)).toInt)), .int (iI ((xs (6 * i + 2)).toInt)), .int (iI ((xs (6 * i + 3)).toInt))]) (rest := []) ⟨hx, hb, hml, hown, hts⟩ (k_X4_change (l := l) hM hI (iI_rg _) (iI_rg _) (iI_rg _)) (cwV 3 hts gL_law_X4_change rfl rfl rfl (by decide +kernel) ⟨by decide, by decide⟩) ⟨Kp.blind _ _ _ _ _, m_recv hK hB (ci := 4) rfl hM.1, fun U hU hW => hK.pass hB U hU hW⟩ rfl rfl hl.1 rfl (lv_room (Nat.le_of_ble_eq_true rfl)) dL_law_776 ⟨(by show cells + 4 ≤ 632940; omega), (by show slots + 24 ≤ 7197285; omega)⟩) hB (fun v u H locs hp hB => ?_)
    rcases hp with ⟨cB, rfl, hM, hFm⟩ | ⟨cB, rfl, hM, hFm⟩ | ⟨cB, rfl, hM, hFm⟩ | ⟨cB, rfl, hM, hFm⟩
    · exact (cl_change_2_0 cA cB).elim
    · exact (cl_change_2_1 cA cB).elim
    · have hC := hC.fr hFm
      have ho := hFm.J ho
      have hV2 := hV
      show W _ _ _ _ _ _ _ _ _ _ _ _ _ _ _ (F0 m 779 ls [.int (iI 0)])
      refine lv_istore (lv' := [(6, .int (iI 0)), (5, .int (iI 2)), (4, .int (iI ((6 * i : Nat) : Int))), (0, .ref b), (1, .ref x), (2, .ref xm), (3, .ref oa)]) hx hb dL_law_779 hl (by decide) rfl (fun ls hl => ?_)
      refine lv_aload_n hx hb dL_law_781 rfl (lv_at hl 5 rfl) ?_
      refine m_run (va_runV (As := []) (rest := []) ⟨hx, hb, hml, hown, hts⟩ (k_X4_thrown (l := l) hM hV2.ib) (cwV 0 hts gL_law_X4_thrown rfl rfl rfl (by decide +kernel) ⟨by decide, by decide⟩) ⟨Kp.blind _ _ _ _ _, m_recv hK hB (ci := 4) rfl hM.1, fun U hU hW => hK.pass hB U hU hW⟩ rfl rfl hl.1 rfl (lv_room (Nat.le_of_ble_eq_true rfl)) dL_law_782 ⟨(by show cells + 4 ≤ 632940; omega), (by show slots + 24 ≤ 7197285; omega)⟩) hB (fun v u H locs hp hB => ?_)
      obtain ⟨rfl, rfl⟩ := hp
      show W _ _ _ _ _ _ _ _ _ _ _ _ _ _ _ (F0 m 785 ls [.int (iI 2)])
      refine lv_iload hx hb dL_law_785 (lv_at hl 1 rfl) ?_
      refine j_icmp_eq (tgt := 792) hx hb dL_law_787 (by decide) ⟨by decide, by decide⟩ ⟨by decide, by decide⟩ (fun _ => ?_) (fun w => absurd rfl w)
      refine lv_iload hx hb dL_law_792 (lv_at hl 1 rfl) ?_
      refine j_if_ne (tgt := 816) hx hb dL_law_794 (by decide) ⟨by decide, by decide⟩ (fun c_6 => ?_) (fun c_6 => absurd c_6 (by decide))
      refine lv_goto (tgt := 1638) hx hb dL_law_816 (by decide) ?_
      refine W.widen (k := cells + 100) (n := slots + 1000) (by show cells + 4 ≤ cells + 100; omega) (by show slots + 24 ≤ slots + 1000; omega) ?_
      exact kk _ _ _ _ _ (LwS.mk hV2 hC hM ho) hB (lv_sub hl [2, 3, 4, 5, 6] rfl)
    · exact (cl_change_2_3 cA cB).elim
  · have hM := hM.frL hFl.L
    have ho := hFl.J ho
    show W _ _ _ _ _ _ _ _ _ _ _ _ _ _ _ (F0 m 755 ls [.int (iI 3)])
    refine lv_istore (lv' := [(5, .int (iI 3)), (4, .int (iI ((6 * i : Nat) : Int))), (0, .ref b), (1, .ref x), (2, .ref xm), (3, .ref oa)]) hx hb dL_law_755 hl (by decide) rfl (fun ls hl => ?_)
    refine lv_aload_n hx hb dL_law_757 rfl (lv_at hl 4 rfl) ?_
    refine lv_aload_n hx hb dL_law_758 rfl (lv_at hl 2 rfl) ?_
    refine lv_iload hx hb dL_law_759 (lv_at hl 1 rfl) ?_
    refine j_iconst hx hb dL_law_761 ?_
    refine j_iadd hx hb dL_law_762 ?_
    refine j_topE (show (((6 * i : Nat) : Int) + 1) = ((6 * i + 1 : Nat) : Int) by omega) ?_
    refine m_sld hx hb hX hbl hB (n := 6 * i + 1) (by omega) hL dL_law_763 ?_
    refine lv_aload_n hx hb dL_law_764 rfl (lv_at hl 2 rfl) ?_
    refine lv_iload hx hb dL_law_765 (lv_at hl 1 rfl) ?_
    refine j_iconst hx hb dL_law_767 ?_
    refine j_iadd hx hb dL_law_768 ?_
    refine j_topE (show (((6 * i : Nat) : Int) + 2) = ((6 * i + 2 : Nat) : Int) by omega) ?_
    refine m_sld hx hb hX hbl hB (n := 6 * i + 2) (by omega) hL dL_law_769 ?_
    refine lv_aload_n hx hb dL_law_770 rfl (lv_at hl 2 rfl) ?_
    refine lv_iload hx hb dL_law_771 (lv_at hl 1 rfl) ?_
    refine j_iconst hx hb dL_law_773 ?_
    refine j_iadd hx hb dL_law_774 ?_
    refine j_topE (show (((6 * i : Nat) : Int) + 3) = ((6 * i + 3 : Nat) : Int) by omega) ?_
    refine m_sld hx hb hX hbl hB (n := 6 * i + 3) (by omega) hL dL_law_775 ?_
    refine m_run (va_runV (As := [.int (iI ((xs (6 * i + 1)).toInt)), .int (iI ((xs (6 * i + 2)).toInt)), .int (iI ((xs (6 * i + 3)).toInt))]) (rest := []) ⟨hx, hb, hml, hown, hts⟩ (k_X4_change (l := l) hM hI (iI_rg _) (iI_rg _) (iI_rg _)) (cwV 3 hts gL_law_X4_change rfl rfl rfl (by decide +kernel) ⟨by decide, by decide⟩) ⟨Kp.blind _ _ _ _ _, m_recv hK hB (ci := 4) rfl hM.1, fun U hU hW => hK.pass hB U hU hW⟩ rfl rfl hl.1 rfl (lv_room (Nat.le_of_ble_eq_true rfl)) dL_law_776 ⟨(by show cells + 4 ≤ 632940; omega), (by show slots + 24 ≤ 7197285; omega)⟩) hB (fun v u H locs hp hB => ?_)
    rcases hp with ⟨cB, rfl, hM, hFm⟩ | ⟨cB, rfl, hM, hFm⟩ | ⟨cB, rfl, hM, hFm⟩ | ⟨cB, rfl, hM, hFm⟩
    · exact (cl_change_3_0 cA cB).elim
    · exact (cl_change_3_1 cA cB).elim
    · exact (cl_change_3_2 cA cB).elim
    · have hC := hC.fr hFm
      have ho := hFm.J ho
      have hV2 := hV
      show W _ _ _ _ _ _ _ _ _ _ _ _ _ _ _ (F0 m 779 ls [.int (iI 0)])
      refine lv_istore (lv' := [(6, .int (iI 0)), (5, .int (iI 3)), (4, .int (iI ((6 * i : Nat) : Int))), (0, .ref b), (1, .ref x), (2, .ref xm), (3, .ref oa)]) hx hb dL_law_779 hl (by decide) rfl (fun ls hl => ?_)
      refine lv_aload_n hx hb dL_law_781 rfl (lv_at hl 5 rfl) ?_
      refine m_run (va_runV (As := []) (rest := []) ⟨hx, hb, hml, hown, hts⟩ (k_X4_thrown (l := l) hM hV2.ib) (cwV 0 hts gL_law_X4_thrown rfl rfl rfl (by decide +kernel) ⟨by decide, by decide⟩) ⟨Kp.blind _ _ _ _ _, m_recv hK hB (ci := 4) rfl hM.1, fun U hU hW => hK.pass hB U hU hW⟩ rfl rfl hl.1 rfl (lv_room (Nat.le_of_ble_eq_true rfl)) dL_law_782 ⟨(by show cells + 4 ≤ 632940; omega), (by show slots + 24 ≤ 7197285; omega)⟩) hB (fun v u H locs hp hB => ?_)
      obtain ⟨rfl, rfl⟩ := hp
      show W _ _ _ _ _ _ _ _ _ _ _ _ _ _ _ (F0 m 785 ls [.int (iI 3)])
      refine lv_iload hx hb dL_law_785 (lv_at hl 1 rfl) ?_
      refine j_icmp_eq (tgt := 792) hx hb dL_law_787 (by decide) ⟨by decide, by decide⟩ ⟨by decide, by decide⟩ (fun _ => ?_) (fun w => absurd rfl w)
      refine lv_iload hx hb dL_law_792 (lv_at hl 1 rfl) ?_
      refine j_if_ne (tgt := 816) hx hb dL_law_794 (by decide) ⟨by decide, by decide⟩ (fun c_7 => ?_) (fun c_7 => absurd c_7 (by decide))
      refine lv_goto (tgt := 1638) hx hb dL_law_816 (by decide) ?_
      refine W.widen (k := cells + 100) (n := slots + 1000) (by show cells + 4 ≤ cells + 100; omega) (by show slots + 24 ≤ slots + 1000; omega) ?_
      exact kk _ _ _ _ _ (LwS.mk hV2 hC hM ho) hB (lv_sub hl [2, 3, 4, 5, 6] rfl)

set_option maxHeartbeats 4000000 in
set_option maxRecDepth 100000 in
theorem lc_9 {l : Launch} (hfl : l.stackTraces = false) {D : va_G} {cI cP cR cJ : ClassId} {p : Program} {e : Env} {s : State} {m : MethodId} {below : List Frame} {meth : Method} {c : Code} {b L : Nat} {xs : Nat → Int32} (hL : L ≤ 3072) (hx : p.tables.exec = Jvm.exec) (hb : c.code = cL_law) (hml : c.maxLocals = 7) (hown : s.vm.findClass RL = some m.cls) (hts : ∀ w ∈ wsL_law, w.before #[Value.ref b] s = true) (hX : va_X b L xs s s.heap) (hbl : b < s.heap.size) (hK : Kb D s.heap.size (tyL cI cP cR cJ) s) {x xm oa i : Nat} (hi : 6 * i + 6 ≤ L) {cells slots : Nat} (hc : cells + 100 ≤ 632940) (hs : slots + 1000 ≤ 7197285) {σ : Sg} {h0 : Hp} {H : Heap} {locs : List Loc} (hS : LwS cI cP cR cJ x xm oa σ h0) (hB : Bk D s.heap.size s.heap h0 H locs) {ls : Array Slot} (hl : lv_has ls 7 [(4, .int (iI ((6 * i : Nat) : Int))), (0, .ref b), (1, .ref x), (2, .ref xm), (3, .ref oa)]) {Q : State → Prop} (kk : ∀ (σ2 : Sg) (h2 : Hp) (H2 : Heap) (locs2 : List Loc) (ls2 : Array Slot), LwS cI cP cR cJ x xm oa σ2 h2 → Bk D s.heap.size s.heap h2 H2 locs2 → lv_has ls2 7 [(4, .int (iI ((6 * i : Nat) : Int))), (0, .ref b), (1, .ref x), (2, .ref xm), (3, .ref oa)] → W p l e room_1 s m #[Value.ref b] below meth c H2 locs2 (cells + 100) (slots + 1000) Q (F0 m 1638 ls2 [])) : W p l e room_1 s m #[Value.ref b] below meth c H locs cells slots Q (F0 m 819 ls []) := by
  obtain ⟨hV, ⟨xp, xr, pa, ra, hC⟩, ⟨xa, th, hM⟩, fo, ho⟩ := hS
  have hI := hV.ib
  have hnp := hI.hnp
  have hst := hI.2.2.1
  have hnrI := hI.nrI
  refine lv_aload_n hx hb dL_law_819 rfl (lv_at hl 2 rfl) ?_
  refine lv_aload_n hx hb dL_law_820 rfl (lv_at hl 1 rfl) ?_
  refine lv_iload hx hb dL_law_821 (lv_at hl 0 rfl) ?_
  refine j_iconst hx hb dL_law_823 ?_
  refine j_iadd hx hb dL_law_824 ?_
  refine j_topE (show (((6 * i : Nat) : Int) + 1) = ((6 * i + 1 : Nat) : Int) by omega) ?_
  refine m_sld hx hb hX hbl hB (n := 6 * i + 1) (by omega) hL dL_law_825 ?_
  refine lv_aload_n hx hb dL_law_826 rfl (lv_at hl 4 rfl) ?_
  refine m_run (vx_runSW (As := [.ref x, .int (iI ((xs (6 * i + 1)).toInt)), .ref oa]) (rest := []) ⟨hx, hb, hml, hown, hts⟩ (k_L_remove (l := l) hfl hC hI ho (iI_rg _)) (vx_cwSW 3 hts gL_law_L_remove rfl rfl rfl (by decide +kernel) ⟨by decide, by decide⟩) ⟨Kp.blind _ _ _ _ _, fun U hU hW => hK.pass hB U hU hW⟩ rfl rfl hl.1 rfl (lv_room (Nat.le_of_ble_eq_true rfl)) dL_law_827 ⟨(by show cells + 1 ≤ 632940; omega), (by show slots + 6 ≤ 7197285; omega)⟩) hB (fun v u H locs hp hB => ?_)
  rcases hp with ⟨rfl, cA, hC, ⟨fo2, ho, ef⟩, hFl⟩ | ⟨rfl, cA, hC, hFl⟩
  · have hM := hM.frL hFl
    show W _ _ _ _ _ _ _ _ _ _ _ _ _ _ _ (F0 m 830 ls [.int (iI 0)])
    refine lv_istore (lv' := [(5, .int (iI 0)), (4, .int (iI ((6 * i : Nat) : Int))), (0, .ref b), (1, .ref x), (2, .ref xm), (3, .ref oa)]) hx hb dL_law_830 hl (by decide) rfl (fun ls hl => ?_)
    refine lv_aload_n hx hb dL_law_832 rfl (lv_at hl 4 rfl) ?_
    refine lv_aload_n hx hb dL_law_833 rfl (lv_at hl 2 rfl) ?_
    refine lv_iload hx hb dL_law_834 (lv_at hl 1 rfl) ?_
    refine j_iconst hx hb dL_law_836 ?_
    refine j_iadd hx hb dL_law_837 ?_
    refine j_topE (show (((6 * i : Nat) : Int) + 1) = ((6 * i + 1 : Nat) : Int) by omega) ?_
    refine m_sld hx hb hX hbl hB (n := 6 * i + 1) (by omega) hL dL_law_838 ?_
    refine m_run (va_runV (As := [.int (iI ((xs (6 * i + 1)).toInt))]) (rest := []) ⟨hx, hb, hml, hown, hts⟩ (k_X4_remove (l := l) hM hI (iI_rg _)) (cwV 1 hts gL_law_X4_remove rfl rfl rfl (by decide +kernel) ⟨by decide, by decide⟩) ⟨Kp.blind _ _ _ _ _, m_recv hK hB (ci := 4) rfl hM.1, fun U hU hW => hK.pass hB U hU hW⟩ rfl rfl hl.1 rfl (lv_room (Nat.le_of_ble_eq_true rfl)) dL_law_839 ⟨(by show cells + 1 ≤ 632940; omega), (by show slots + 6 ≤ 7197285; omega)⟩) hB (fun v u H locs hp hB => ?_)
    rcases hp with ⟨cB, rfl, hM, hFm⟩ | ⟨cB, rfl, hM, hFm⟩
    · have hC := hC.fr hFm
      have ho := hFm.J ho
      have hV2 := hV.rem (j := ((xs (6 * i + 1)).toInt).toNat) ⟨by have w := cA; unfold isR at w; omega, by have w := cA; unfold isR at w; exact w.2.2⟩
      show W _ _ _ _ _ _ _ _ _ _ _ _ _ _ _ (F0 m 842 ls [.int (iI (σ 8 ((xs (6 * i + 1)).toInt).toNat))])
      refine lv_istore (lv' := [(6, .int (iI (σ 8 ((xs (6 * i + 1)).toInt).toNat))), (5, .int (iI 0)), (4, .int (iI ((6 * i : Nat) : Int))), (0, .ref b), (1, .ref x), (2, .ref xm), (3, .ref oa)]) hx hb dL_law_842 hl (by decide) rfl (fun ls hl => ?_)
      refine lv_aload_n hx hb dL_law_844 rfl (lv_at hl 5 rfl) ?_
      refine m_run (va_runV (As := []) (rest := []) ⟨hx, hb, hml, hown, hts⟩ (k_X4_thrown (l := l) hM hV2.ib) (cwV 0 hts gL_law_X4_thrown rfl rfl rfl (by decide +kernel) ⟨by decide, by decide⟩) ⟨Kp.blind _ _ _ _ _, m_recv hK hB (ci := 4) rfl hM.1, fun U hU hW => hK.pass hB U hU hW⟩ rfl rfl hl.1 rfl (lv_room (Nat.le_of_ble_eq_true rfl)) dL_law_845 ⟨(by show cells + 1 ≤ 632940; omega), (by show slots + 6 ≤ 7197285; omega)⟩) hB (fun v u H locs hp hB => ?_)
      obtain ⟨rfl, rfl⟩ := hp
      show W _ _ _ _ _ _ _ _ _ _ _ _ _ _ _ (F0 m 848 ls [.int (iI 0)])
      refine lv_iload hx hb dL_law_848 (lv_at hl 1 rfl) ?_
      refine j_icmp_eq (tgt := 855) hx hb dL_law_850 (by decide) ⟨by decide, by decide⟩ ⟨by decide, by decide⟩ (fun _ => ?_) (fun w => absurd rfl w)
      refine lv_iload hx hb dL_law_855 (lv_at hl 1 rfl) ?_
      refine j_if_ne (tgt := 872) hx hb dL_law_857 (by decide) ⟨by decide, by decide⟩ (fun c_1 => absurd c_1 (by decide)) (fun c_1 => ?_)
      refine lv_aload_n hx hb dL_law_860 rfl (lv_at hl 6 rfl) ?_
      refine j_iconst hx hb dL_law_861 ?_
      refine m_lald hx hb hK hB 3 ho rfl in01 dL_law_862 ?_
      refine lv_iload hx hb dL_law_863 (lv_at hl 0 rfl) ?_
      refine lv_i2l hx hb dL_law_865 (rfl : _ = lI (σ 8 ((xs (6 * i + 1)).toInt).toNat)) ?_
      refine j_lcmp0 hx hb (show fo2 (iI 0).toNatClampNeg = _ from ef) dL_law_866 ?_
      refine j_if_eq (tgt := 872) hx hb dL_law_867 (by decide) ⟨by decide, by decide⟩ (fun c_2 => ?_) (fun c_2 => absurd c_2 (by decide))
      refine lv_goto (tgt := 1638) hx hb dL_law_872 (by decide) ?_
      refine W.widen (k := cells + 100) (n := slots + 1000) (by show cells + 1 ≤ cells + 100; omega) (by show slots + 6 ≤ slots + 1000; omega) ?_
      exact kk _ _ _ _ _ (LwS.mk hV2 hC hM ho) hB (lv_sub hl [2, 3, 4, 5, 6] rfl)
    · exact (cl_remove_0_1 cA cB).elim
  · have hM := hM.frL hFl.L
    have ho := hFl.J ho
    show W _ _ _ _ _ _ _ _ _ _ _ _ _ _ _ (F0 m 830 ls [.int (iI 1)])
    refine lv_istore (lv' := [(5, .int (iI 1)), (4, .int (iI ((6 * i : Nat) : Int))), (0, .ref b), (1, .ref x), (2, .ref xm), (3, .ref oa)]) hx hb dL_law_830 hl (by decide) rfl (fun ls hl => ?_)
    refine lv_aload_n hx hb dL_law_832 rfl (lv_at hl 4 rfl) ?_
    refine lv_aload_n hx hb dL_law_833 rfl (lv_at hl 2 rfl) ?_
    refine lv_iload hx hb dL_law_834 (lv_at hl 1 rfl) ?_
    refine j_iconst hx hb dL_law_836 ?_
    refine j_iadd hx hb dL_law_837 ?_
    refine j_topE (show (((6 * i : Nat) : Int) + 1) = ((6 * i + 1 : Nat) : Int) by omega) ?_
    refine m_sld hx hb hX hbl hB (n := 6 * i + 1) (by omega) hL dL_law_838 ?_
    refine m_run (va_runV (As := [.int (iI ((xs (6 * i + 1)).toInt))]) (rest := []) ⟨hx, hb, hml, hown, hts⟩ (k_X4_remove (l := l) hM hI (iI_rg _)) (cwV 1 hts gL_law_X4_remove rfl rfl rfl (by decide +kernel) ⟨by decide, by decide⟩) ⟨Kp.blind _ _ _ _ _, m_recv hK hB (ci := 4) rfl hM.1, fun U hU hW => hK.pass hB U hU hW⟩ rfl rfl hl.1 rfl (lv_room (Nat.le_of_ble_eq_true rfl)) dL_law_839 ⟨(by show cells + 1 ≤ 632940; omega), (by show slots + 6 ≤ 7197285; omega)⟩) hB (fun v u H locs hp hB => ?_)
    rcases hp with ⟨cB, rfl, hM, hFm⟩ | ⟨cB, rfl, hM, hFm⟩
    · exact (cl_remove_1_0 cA cB).elim
    · have hC := hC.fr hFm
      have ho := hFm.J ho
      have hV2 := hV
      show W _ _ _ _ _ _ _ _ _ _ _ _ _ _ _ (F0 m 842 ls [.int (iI 0)])
      refine lv_istore (lv' := [(6, .int (iI 0)), (5, .int (iI 1)), (4, .int (iI ((6 * i : Nat) : Int))), (0, .ref b), (1, .ref x), (2, .ref xm), (3, .ref oa)]) hx hb dL_law_842 hl (by decide) rfl (fun ls hl => ?_)
      refine lv_aload_n hx hb dL_law_844 rfl (lv_at hl 5 rfl) ?_
      refine m_run (va_runV (As := []) (rest := []) ⟨hx, hb, hml, hown, hts⟩ (k_X4_thrown (l := l) hM hV2.ib) (cwV 0 hts gL_law_X4_thrown rfl rfl rfl (by decide +kernel) ⟨by decide, by decide⟩) ⟨Kp.blind _ _ _ _ _, m_recv hK hB (ci := 4) rfl hM.1, fun U hU hW => hK.pass hB U hU hW⟩ rfl rfl hl.1 rfl (lv_room (Nat.le_of_ble_eq_true rfl)) dL_law_845 ⟨(by show cells + 1 ≤ 632940; omega), (by show slots + 6 ≤ 7197285; omega)⟩) hB (fun v u H locs hp hB => ?_)
      obtain ⟨rfl, rfl⟩ := hp
      show W _ _ _ _ _ _ _ _ _ _ _ _ _ _ _ (F0 m 848 ls [.int (iI 1)])
      refine lv_iload hx hb dL_law_848 (lv_at hl 1 rfl) ?_
      refine j_icmp_eq (tgt := 855) hx hb dL_law_850 (by decide) ⟨by decide, by decide⟩ ⟨by decide, by decide⟩ (fun _ => ?_) (fun w => absurd rfl w)
      refine lv_iload hx hb dL_law_855 (lv_at hl 1 rfl) ?_
      refine j_if_ne (tgt := 872) hx hb dL_law_857 (by decide) ⟨by decide, by decide⟩ (fun c_3 => ?_) (fun c_3 => absurd c_3 (by decide))
      refine lv_goto (tgt := 1638) hx hb dL_law_872 (by decide) ?_
      refine W.widen (k := cells + 100) (n := slots + 1000) (by show cells + 1 ≤ cells + 100; omega) (by show slots + 6 ≤ slots + 1000; omega) ?_
      exact kk _ _ _ _ _ (LwS.mk hV2 hC hM ho) hB (lv_sub hl [2, 3, 4, 5, 6] rfl)

set_option maxHeartbeats 4000000 in
set_option maxRecDepth 100000 in
theorem lc_10 {l : Launch} (hfl : l.stackTraces = false) {D : va_G} {cI cP cR cJ : ClassId} {p : Program} {e : Env} {s : State} {m : MethodId} {below : List Frame} {meth : Method} {c : Code} {b L : Nat} {xs : Nat → Int32} (hL : L ≤ 3072) (hx : p.tables.exec = Jvm.exec) (hb : c.code = cL_law) (hml : c.maxLocals = 7) (hown : s.vm.findClass RL = some m.cls) (hts : ∀ w ∈ wsL_law, w.before #[Value.ref b] s = true) (hX : va_X b L xs s s.heap) (hbl : b < s.heap.size) (hK : Kb D s.heap.size (tyL cI cP cR cJ) s) {x xm oa i : Nat} (hi : 6 * i + 6 ≤ L) {cells slots : Nat} (hc : cells + 100 ≤ 632940) (hs : slots + 1000 ≤ 7197285) {σ : Sg} {h0 : Hp} {H : Heap} {locs : List Loc} (hS : LwS cI cP cR cJ x xm oa σ h0) (hB : Bk D s.heap.size s.heap h0 H locs) {ls : Array Slot} (hl : lv_has ls 7 [(4, .int (iI ((6 * i : Nat) : Int))), (0, .ref b), (1, .ref x), (2, .ref xm), (3, .ref oa)]) {Q : State → Prop} (kk : ∀ (σ2 : Sg) (h2 : Hp) (H2 : Heap) (locs2 : List Loc) (ls2 : Array Slot), LwS cI cP cR cJ x xm oa σ2 h2 → Bk D s.heap.size s.heap h2 H2 locs2 → lv_has ls2 7 [(4, .int (iI ((6 * i : Nat) : Int))), (0, .ref b), (1, .ref x), (2, .ref xm), (3, .ref oa)] → W p l e room_1 s m #[Value.ref b] below meth c H2 locs2 (cells + 100) (slots + 1000) Q (F0 m 1638 ls2 [])) : W p l e room_1 s m #[Value.ref b] below meth c H locs cells slots Q (F0 m 875 ls []) := by
  obtain ⟨hV, ⟨xp, xr, pa, ra, hC⟩, ⟨xa, th, hM⟩, fo, ho⟩ := hS
  have hI := hV.ib
  have hnp := hI.hnp
  have hst := hI.2.2.1
  have hnrI := hI.nrI
  refine lv_aload_n hx hb dL_law_875 rfl (lv_at hl 2 rfl) ?_
  refine m_run (va_runV (As := []) (rest := []) ⟨hx, hb, hml, hown, hts⟩ (k_X3_parts (l := l) hC hI) (cwV 0 hts gL_law_X3_parts rfl rfl rfl (by decide +kernel) ⟨by decide, by decide⟩) ⟨Kp.blind _ _ _ _ _, m_recv hK hB (ci := 3) rfl hC.tb, fun U hU hW => hK.pass hB U hU hW⟩ rfl rfl hl.1 rfl (lv_room (Nat.le_of_ble_eq_true rfl)) dL_law_876 ⟨(by show cells + 0 ≤ 632940; omega), (by show slots + 0 ≤ 7197285; omega)⟩) hB (fun v u H locs hp hB => ?_)
  obtain ⟨rfl, hC, hFm⟩ := hp
  have hM := hM.fr hFm
  have ho := hFm.J ho
  show W _ _ _ _ _ _ _ _ _ _ _ _ _ _ _ (F0 m 879 ls [.int (iI (σ 9 0))])
  refine lv_aload_n hx hb dL_law_879 rfl (lv_at hl 3 rfl) ?_
  refine m_run (va_runV (As := []) (rest := [.int (iI (σ 9 0))]) ⟨hx, hb, hml, hown, hts⟩ (k_X4_parts (l := l) hM hI ) (cwV 0 hts gL_law_X4_parts rfl rfl rfl (by decide +kernel) ⟨by decide, by decide⟩) ⟨Kp.blind _ _ _ _ _, m_recv hK hB (ci := 4) rfl hM.1, fun U hU hW => hK.pass hB U hU hW⟩ rfl rfl hl.1 rfl (lv_room (Nat.le_of_ble_eq_true rfl)) dL_law_880 ⟨(by show cells + 0 ≤ 632940; omega), (by show slots + 0 ≤ 7197285; omega)⟩) hB (fun v u H locs hp hB => ?_)
  obtain ⟨cB, rfl, hM, hFm⟩ := hp
  have hC := hC.fr hFm
  have ho := hFm.J ho
  have hV2 := hV
  show W _ _ _ _ _ _ _ _ _ _ _ _ _ _ _ (F0 m 883 ls [.int (iI (σ 9 0)), .int (iI (σ 9 0))])
  refine j_icmp_eq (tgt := 1638) hx hb dL_law_883 (by decide) ⟨by omega, by omega⟩ ⟨by omega, by omega⟩ (fun _ => ?_) (fun w => absurd rfl w)
  refine W.widen (k := cells + 100) (n := slots + 1000) (by show cells + 0 ≤ cells + 100; omega) (by show slots + 0 ≤ slots + 1000; omega) ?_
  exact kk _ _ _ _ _ (LwS.mk hV2 hC hM ho) hB (lv_sub hl [0, 1, 2, 3, 4] rfl)

set_option maxHeartbeats 4000000 in
set_option maxRecDepth 100000 in
theorem lc_11 {l : Launch} (hfl : l.stackTraces = false) {D : va_G} {cI cP cR cJ : ClassId} {p : Program} {e : Env} {s : State} {m : MethodId} {below : List Frame} {meth : Method} {c : Code} {b L : Nat} {xs : Nat → Int32} (hL : L ≤ 3072) (hx : p.tables.exec = Jvm.exec) (hb : c.code = cL_law) (hml : c.maxLocals = 7) (hown : s.vm.findClass RL = some m.cls) (hts : ∀ w ∈ wsL_law, w.before #[Value.ref b] s = true) (hX : va_X b L xs s s.heap) (hbl : b < s.heap.size) (hK : Kb D s.heap.size (tyL cI cP cR cJ) s) {x xm oa i : Nat} (hi : 6 * i + 6 ≤ L) {cells slots : Nat} (hc : cells + 100 ≤ 632940) (hs : slots + 1000 ≤ 7197285) {σ : Sg} {h0 : Hp} {H : Heap} {locs : List Loc} (hS : LwS cI cP cR cJ x xm oa σ h0) (hB : Bk D s.heap.size s.heap h0 H locs) {ls : Array Slot} (hl : lv_has ls 7 [(4, .int (iI ((6 * i : Nat) : Int))), (0, .ref b), (1, .ref x), (2, .ref xm), (3, .ref oa)]) {Q : State → Prop} (kk : ∀ (σ2 : Sg) (h2 : Hp) (H2 : Heap) (locs2 : List Loc) (ls2 : Array Slot), LwS cI cP cR cJ x xm oa σ2 h2 → Bk D s.heap.size s.heap h2 H2 locs2 → lv_has ls2 7 [(4, .int (iI ((6 * i : Nat) : Int))), (0, .ref b), (1, .ref x), (2, .ref xm), (3, .ref oa)] → W p l e room_1 s m #[Value.ref b] below meth c H2 locs2 (cells + 100) (slots + 1000) Q (F0 m 1638 ls2 [])) : W p l e room_1 s m #[Value.ref b] below meth c H locs cells slots Q (F0 m 888 ls []) := by
  obtain ⟨hV, ⟨xp, xr, pa, ra, hC⟩, ⟨xa, th, hM⟩, fo, ho⟩ := hS
  have hI := hV.ib
  have hnp := hI.hnp
  have hst := hI.2.2.1
  have hnrI := hI.nrI
  refine lv_aload_n hx hb dL_law_888 rfl (lv_at hl 2 rfl) ?_
  refine lv_aload_n hx hb dL_law_889 rfl (lv_at hl 1 rfl) ?_
  refine lv_iload hx hb dL_law_890 (lv_at hl 0 rfl) ?_
  refine j_iconst hx hb dL_law_892 ?_
  refine j_iadd hx hb dL_law_893 ?_
  refine j_topE (show (((6 * i : Nat) : Int) + 1) = ((6 * i + 1 : Nat) : Int) by omega) ?_
  refine m_sld hx hb hX hbl hB (n := 6 * i + 1) (by omega) hL dL_law_894 ?_
  refine lv_aload_n hx hb dL_law_895 rfl (lv_at hl 4 rfl) ?_
  refine m_run (vx_runSW (As := [.ref x, .int (iI ((xs (6 * i + 1)).toInt)), .ref oa]) (rest := []) ⟨hx, hb, hml, hown, hts⟩ (k_L_stateOf (l := l) hfl hC hI ho (iI_rg _)) (vx_cwSW 3 hts gL_law_L_stateOf rfl rfl rfl (by decide +kernel) ⟨by decide, by decide⟩) ⟨Kp.blind _ _ _ _ _, fun U hU hW => hK.pass hB U hU hW⟩ rfl rfl hl.1 rfl (lv_room (Nat.le_of_ble_eq_true rfl)) dL_law_896 ⟨(by show cells + 1 ≤ 632940; omega), (by show slots + 6 ≤ 7197285; omega)⟩) hB (fun v u H locs hp hB => ?_)
  rcases hp with ⟨rfl, cA, hC, ⟨fo2, ho, ef⟩, hFl⟩ | ⟨rfl, cA, hC, hFl⟩
  · have hM := hM.frL hFl
    show W _ _ _ _ _ _ _ _ _ _ _ _ _ _ _ (F0 m 899 ls [.int (iI 0)])
    refine lv_istore (lv' := [(5, .int (iI 0)), (4, .int (iI ((6 * i : Nat) : Int))), (0, .ref b), (1, .ref x), (2, .ref xm), (3, .ref oa)]) hx hb dL_law_899 hl (by decide) rfl (fun ls hl => ?_)
    refine lv_aload_n hx hb dL_law_901 rfl (lv_at hl 4 rfl) ?_
    refine lv_aload_n hx hb dL_law_902 rfl (lv_at hl 2 rfl) ?_
    refine lv_iload hx hb dL_law_903 (lv_at hl 1 rfl) ?_
    refine j_iconst hx hb dL_law_905 ?_
    refine j_iadd hx hb dL_law_906 ?_
    refine j_topE (show (((6 * i : Nat) : Int) + 1) = ((6 * i + 1 : Nat) : Int) by omega) ?_
    refine m_sld hx hb hX hbl hB (n := 6 * i + 1) (by omega) hL dL_law_907 ?_
    refine m_run (va_runV (As := [.int (iI ((xs (6 * i + 1)).toInt))]) (rest := []) ⟨hx, hb, hml, hown, hts⟩ (k_X4_stateOf (l := l) hM hI (iI_rg _)) (cwV 1 hts gL_law_X4_stateOf rfl rfl rfl (by decide +kernel) ⟨by decide, by decide⟩) ⟨Kp.blind _ _ _ _ _, m_recv hK hB (ci := 4) rfl hM.1, fun U hU hW => hK.pass hB U hU hW⟩ rfl rfl hl.1 rfl (lv_room (Nat.le_of_ble_eq_true rfl)) dL_law_908 ⟨(by show cells + 1 ≤ 632940; omega), (by show slots + 6 ≤ 7197285; omega)⟩) hB (fun v u H locs hp hB => ?_)
    rcases hp with ⟨cB, rfl, hM, hFm⟩ | ⟨cB, rfl, hM, hFm⟩
    · have hC := hC.fr hFm
      have ho := hFm.J ho
      have hV2 := hV
      show W _ _ _ _ _ _ _ _ _ _ _ _ _ _ _ (F0 m 911 ls [.int (iI (σ 4 ((xs (6 * i + 1)).toInt).toNat))])
      refine lv_istore (lv' := [(6, .int (iI (σ 4 ((xs (6 * i + 1)).toInt).toNat))), (5, .int (iI 0)), (4, .int (iI ((6 * i : Nat) : Int))), (0, .ref b), (1, .ref x), (2, .ref xm), (3, .ref oa)]) hx hb dL_law_911 hl (by decide) rfl (fun ls hl => ?_)
      refine lv_aload_n hx hb dL_law_913 rfl (lv_at hl 5 rfl) ?_
      refine m_run (va_runV (As := []) (rest := []) ⟨hx, hb, hml, hown, hts⟩ (k_X4_thrown (l := l) hM hV2.ib) (cwV 0 hts gL_law_X4_thrown rfl rfl rfl (by decide +kernel) ⟨by decide, by decide⟩) ⟨Kp.blind _ _ _ _ _, m_recv hK hB (ci := 4) rfl hM.1, fun U hU hW => hK.pass hB U hU hW⟩ rfl rfl hl.1 rfl (lv_room (Nat.le_of_ble_eq_true rfl)) dL_law_914 ⟨(by show cells + 1 ≤ 632940; omega), (by show slots + 6 ≤ 7197285; omega)⟩) hB (fun v u H locs hp hB => ?_)
      obtain ⟨rfl, rfl⟩ := hp
      show W _ _ _ _ _ _ _ _ _ _ _ _ _ _ _ (F0 m 917 ls [.int (iI 0)])
      refine lv_iload hx hb dL_law_917 (lv_at hl 1 rfl) ?_
      refine j_icmp_eq (tgt := 924) hx hb dL_law_919 (by decide) ⟨by decide, by decide⟩ ⟨by decide, by decide⟩ (fun _ => ?_) (fun w => absurd rfl w)
      refine lv_iload hx hb dL_law_924 (lv_at hl 1 rfl) ?_
      refine j_if_ne (tgt := 941) hx hb dL_law_926 (by decide) ⟨by decide, by decide⟩ (fun c_1 => absurd c_1 (by decide)) (fun c_1 => ?_)
      refine lv_aload_n hx hb dL_law_929 rfl (lv_at hl 6 rfl) ?_
      refine j_iconst hx hb dL_law_930 ?_
      refine m_lald hx hb hK hB 3 ho rfl in01 dL_law_931 ?_
      refine lv_iload hx hb dL_law_932 (lv_at hl 0 rfl) ?_
      refine lv_i2l hx hb dL_law_934 (rfl : _ = lI (σ 4 ((xs (6 * i + 1)).toInt).toNat)) ?_
      refine j_lcmp0 hx hb (show fo2 (iI 0).toNatClampNeg = _ from ef) dL_law_935 ?_
      refine j_if_eq (tgt := 941) hx hb dL_law_936 (by decide) ⟨by decide, by decide⟩ (fun c_2 => ?_) (fun c_2 => absurd c_2 (by decide))
      refine lv_goto (tgt := 1638) hx hb dL_law_941 (by decide) ?_
      refine W.widen (k := cells + 100) (n := slots + 1000) (by show cells + 1 ≤ cells + 100; omega) (by show slots + 6 ≤ slots + 1000; omega) ?_
      exact kk _ _ _ _ _ (LwS.mk hV2 hC hM ho) hB (lv_sub hl [2, 3, 4, 5, 6] rfl)
    · exact (cl_stateOf_0_1 cA cB).elim
  · have hM := hM.frL hFl.L
    have ho := hFl.J ho
    show W _ _ _ _ _ _ _ _ _ _ _ _ _ _ _ (F0 m 899 ls [.int (iI 1)])
    refine lv_istore (lv' := [(5, .int (iI 1)), (4, .int (iI ((6 * i : Nat) : Int))), (0, .ref b), (1, .ref x), (2, .ref xm), (3, .ref oa)]) hx hb dL_law_899 hl (by decide) rfl (fun ls hl => ?_)
    refine lv_aload_n hx hb dL_law_901 rfl (lv_at hl 4 rfl) ?_
    refine lv_aload_n hx hb dL_law_902 rfl (lv_at hl 2 rfl) ?_
    refine lv_iload hx hb dL_law_903 (lv_at hl 1 rfl) ?_
    refine j_iconst hx hb dL_law_905 ?_
    refine j_iadd hx hb dL_law_906 ?_
    refine j_topE (show (((6 * i : Nat) : Int) + 1) = ((6 * i + 1 : Nat) : Int) by omega) ?_
    refine m_sld hx hb hX hbl hB (n := 6 * i + 1) (by omega) hL dL_law_907 ?_
    refine m_run (va_runV (As := [.int (iI ((xs (6 * i + 1)).toInt))]) (rest := []) ⟨hx, hb, hml, hown, hts⟩ (k_X4_stateOf (l := l) hM hI (iI_rg _)) (cwV 1 hts gL_law_X4_stateOf rfl rfl rfl (by decide +kernel) ⟨by decide, by decide⟩) ⟨Kp.blind _ _ _ _ _, m_recv hK hB (ci := 4) rfl hM.1, fun U hU hW => hK.pass hB U hU hW⟩ rfl rfl hl.1 rfl (lv_room (Nat.le_of_ble_eq_true rfl)) dL_law_908 ⟨(by show cells + 1 ≤ 632940; omega), (by show slots + 6 ≤ 7197285; omega)⟩) hB (fun v u H locs hp hB => ?_)
    rcases hp with ⟨cB, rfl, hM, hFm⟩ | ⟨cB, rfl, hM, hFm⟩
    · exact (cl_stateOf_1_0 cA cB).elim
    · have hC := hC.fr hFm
      have ho := hFm.J ho
      have hV2 := hV
      show W _ _ _ _ _ _ _ _ _ _ _ _ _ _ _ (F0 m 911 ls [.int (iI 0)])
      refine lv_istore (lv' := [(6, .int (iI 0)), (5, .int (iI 1)), (4, .int (iI ((6 * i : Nat) : Int))), (0, .ref b), (1, .ref x), (2, .ref xm), (3, .ref oa)]) hx hb dL_law_911 hl (by decide) rfl (fun ls hl => ?_)
      refine lv_aload_n hx hb dL_law_913 rfl (lv_at hl 5 rfl) ?_
      refine m_run (va_runV (As := []) (rest := []) ⟨hx, hb, hml, hown, hts⟩ (k_X4_thrown (l := l) hM hV2.ib) (cwV 0 hts gL_law_X4_thrown rfl rfl rfl (by decide +kernel) ⟨by decide, by decide⟩) ⟨Kp.blind _ _ _ _ _, m_recv hK hB (ci := 4) rfl hM.1, fun U hU hW => hK.pass hB U hU hW⟩ rfl rfl hl.1 rfl (lv_room (Nat.le_of_ble_eq_true rfl)) dL_law_914 ⟨(by show cells + 1 ≤ 632940; omega), (by show slots + 6 ≤ 7197285; omega)⟩) hB (fun v u H locs hp hB => ?_)
      obtain ⟨rfl, rfl⟩ := hp
      show W _ _ _ _ _ _ _ _ _ _ _ _ _ _ _ (F0 m 917 ls [.int (iI 1)])
      refine lv_iload hx hb dL_law_917 (lv_at hl 1 rfl) ?_
      refine j_icmp_eq (tgt := 924) hx hb dL_law_919 (by decide) ⟨by decide, by decide⟩ ⟨by decide, by decide⟩ (fun _ => ?_) (fun w => absurd rfl w)
      refine lv_iload hx hb dL_law_924 (lv_at hl 1 rfl) ?_
      refine j_if_ne (tgt := 941) hx hb dL_law_926 (by decide) ⟨by decide, by decide⟩ (fun c_3 => ?_) (fun c_3 => absurd c_3 (by decide))
      refine lv_goto (tgt := 1638) hx hb dL_law_941 (by decide) ?_
      refine W.widen (k := cells + 100) (n := slots + 1000) (by show cells + 1 ≤ cells + 100; omega) (by show slots + 6 ≤ slots + 1000; omega) ?_
      exact kk _ _ _ _ _ (LwS.mk hV2 hC hM ho) hB (lv_sub hl [2, 3, 4, 5, 6] rfl)

