set_option maxHeartbeats 4000000 in
set_option maxRecDepth 100000 in
theorem ld_sp {l : Launch} (hfl : l.stackTraces = false) {D : va_G} {cI cP cR cJ : ClassId} {p : Program} {e : Env} {s : State} {m : MethodId} {below : List Frame} {meth : Method} {c : Code} {b L : Nat} {xs : Nat → Int32} (hL : L ≤ 260) (hx : p.tables.exec = Jvm.exec) (hb : c.code = cL_law) (hml : c.maxLocals = 20) (hown : s.vm.findClass RL = some m.cls) (hts : ∀ w ∈ wsL_law, w.before #[Value.ref b] s = true) (hX : va_X b L xs s s.heap) (hbl : b < s.heap.size) (hK : Kb D s.heap.size (tyL cI cP cR cJ) s) {x ka tu ni yn : Nat} {rem st tn : Int} {rn dn : Nat} {x9 pt ot : Int} {σ : Sg} {h0 : Hp} {H : Heap} {locs : List Loc} (hS : LwP cI cP cR x ka σ ni rem st h0) (hB : Bk D s.heap.size s.heap h0 H locs) (fy : yn ≤ 268435455) (ft : tu ≤ 240) (ftn : 0 ≤ tn ∧ tn ≤ 240) (fp : 0 ≤ pt ∧ pt ≤ σ 9 0 + 1) (fo : 0 ≤ ot ∧ ot ≤ σ 9 0 + 1) (fr : rn ≤ ni)  {cells slots : Nat} (hc : cells + 60 ≤ 758523) (hs : slots + 400 ≤ 6826128) {Q : State → Prop} {ls : Array Slot} (hl : lv_has ls 20 [(0, .ref b), (1, .ref x), (2, .ref ka), (3, .int (iI (ni : Int))), (4, .int (iI rem)), (5, .int (iI st)), (6, .int (iI 1)), (7, .int (iI tn)), (8, .int (iI (tu : Int))), (9, .int (iI x9)), (10, .int (iI (yn : Int))), (11, .int (iI (dn : Int))), (12, .int (iI (σ 9 0))), (13, .int (iI pt)), (14, .int (iI ot)), (15, .int (iI (rn : Int))), (16, .int (iI (nTb σ)))]) (kk : ∀ (σ2 : Sg) (n2 : Nat) (r2 s2 : Int) (h2 : Hp) (H2 : Heap) (locs2 : List Loc) (ls2 : Array Slot), LwP cI cP cR x ka σ2 n2 r2 s2 h2 → Bk D s.heap.size s.heap h2 H2 locs2 → lv_has ls2 20 [(0, .ref b), (1, .ref x), (2, .ref ka), (3, .int (iI (n2 : Int))), (4, .int (iI r2)), (5, .int (iI s2)), (6, .int (iI 1)), (7, .int (iI tn)), (8, .int (iI (tu : Int))), (10, .int (iI (yn : Int)))] → W p l e room_1 s m #[Value.ref b] below meth c H2 locs2 (cells + 60) (slots + 400) Q (F0 m 1129 ls2 [])) : W p l e room_1 s m #[Value.ref b] below meth c H locs cells slots Q (F0 m 486 ls []) := by
  obtain ⟨hV, ⟨xp, xr, pa, ra, hC⟩, ⟨f, hk, hkf⟩, hni, hn64, hlv, hst⟩ := hS
  have hI := hV.ib
  have hnp := hI.hnp
  have hnpI := hI.npI
  have hnl := nLv_rg hI
  have htb := nTb_rg hI
  have hst1 := hI.2.2.1
  refine lv_iload hx hb dL_law_486 (lv_at hl 10 rfl) ?_
  refine j_bipush hx hb dL_law_488 (by decide) ?_
  refine j_shrT (n := 9) hx hb ⟨by omega, by omega⟩ (by decide) dL_law_490 (fun w_1 hw_1 kw_1 => ?_)
  refine j_sipush hx hb dL_law_491 (by decide) ?_
  refine j_remT hx hb ⟨by omega, by omega⟩ ⟨by omega, by omega⟩ dL_law_494 (fun w_2 hw_2 kw_2 => ?_)
  refine lv_istore (lv' := [(17, .int (iI w_2)), (0, .ref b), (1, .ref x), (2, .ref ka), (3, .int (iI (ni : Int))), (4, .int (iI rem)), (5, .int (iI st)), (6, .int (iI 1)), (7, .int (iI tn)), (8, .int (iI (tu : Int))), (9, .int (iI x9)), (10, .int (iI (yn : Int))), (11, .int (iI (dn : Int))), (12, .int (iI (σ 9 0))), (13, .int (iI pt)), (14, .int (iI ot)), (15, .int (iI (rn : Int))), (16, .int (iI (nTb σ)))]) hx hb dL_law_495 hl (by decide) rfl (fun ls hl => ?_)
  refine lv_aload_n hx hb dL_law_497 rfl (lv_at hl 2 rfl) ?_
  refine lv_iload hx hb dL_law_498 (lv_at hl 14 rfl) ?_
  refine lv_iload hx hb dL_law_500 (lv_at hl 0 rfl) ?_
  refine m_run (vx_runSW (As := [.ref x, .int (iI pt), .int (iI w_2)]) (rest := []) ⟨hx, hb, hml, hown, hts⟩ (k_L_splits (l := l) hfl hC hV (n := pt) (ky := w_2) ⟨by omega, by omega⟩ ⟨by omega, by omega⟩) (vx_cwSW 3 hts gL_law_L_splits rfl rfl rfl (by decide +kernel) ⟨by decide, by decide⟩) ⟨Kp.blind _ _ _ _ _, fun U hU hW => hK.pass hB U hU hW⟩ rfl rfl hl.1 rfl (lv_room (Nat.le_of_ble_eq_true rfl)) dL_law_502 ⟨(by show cells + 0 + 10 ≤ 758523; omega), (by show slots + 0 + 60 ≤ 6826128; omega)⟩) hB (fun v u H locs hp hB => ?_)
  rcases hp with ⟨r, rfl, hr, hC, hFm⟩ | ⟨σ2, rfl, ⟨⟨hV, i1, i2, i6, i9, i10, i11, i0⟩, i7, i8a, i8b⟩, ⟨xp, xr, pa, ra, hC⟩, hFm⟩
  · have hk := hFm.I hk
    show W _ _ _ _ _ _ _ _ _ _ _ _ _ _ _ (F0 m 505 ls [.int (iI r)])
    refine lv_istore (lv' := [(18, .int (iI r)), (17, .int (iI w_2)), (0, .ref b), (1, .ref x), (2, .ref ka), (3, .int (iI (ni : Int))), (4, .int (iI rem)), (5, .int (iI st)), (6, .int (iI 1)), (7, .int (iI tn)), (8, .int (iI (tu : Int))), (9, .int (iI x9)), (10, .int (iI (yn : Int))), (11, .int (iI (dn : Int))), (12, .int (iI (σ 9 0))), (13, .int (iI pt)), (14, .int (iI ot)), (15, .int (iI (rn : Int))), (16, .int (iI (nTb σ)))]) hx hb dL_law_505 hl (by decide) rfl (fun ls hl => ?_)
    refine lv_iload hx hb dL_law_507 (lv_at hl 0 rfl) ?_
    refine j_if_ge (tgt := 529) hx hb dL_law_509 (by decide) ⟨by omega, by omega⟩ (fun c_3 => False.elim (by omega)) (fun c_3 => ?_)
    refine lv_aload_n hx hb dL_law_512 rfl (lv_at hl 3 rfl) ?_
    refine m_run (va_runV (As := []) (rest := []) ⟨hx, hb, hml, hown, hts⟩ (k_X3_parts (l := l) hC hI) (cwV 0 hts gL_law_X3_parts rfl rfl rfl (by decide +kernel) ⟨by decide, by decide⟩) ⟨Kp.blind _ _ _ _ _, m_recv hK hB (ci := 3) rfl hC.tb, fun U hU hW => hK.pass hB U hU hW⟩ rfl rfl hl.1 rfl (lv_room (Nat.le_of_ble_eq_true rfl)) dL_law_513 ⟨(by show cells + 10 + 0 ≤ 758523; omega), (by show slots + 60 + 0 ≤ 6826128; omega)⟩) hB (fun v u H locs hp hB => ?_)
    obtain ⟨rfl, hC, hFm⟩ := hp
    have hk := hFm.I hk
    show W _ _ _ _ _ _ _ _ _ _ _ _ _ _ _ (F0 m 516 ls [.int (iI (σ 9 0))])
    refine lv_iload hx hb dL_law_516 (lv_at hl 14 rfl) ?_
    refine j_icmp_ne (tgt := 525) hx hb dL_law_518 (by decide) ⟨by omega, by omega⟩ ⟨by omega, by omega⟩ (fun c_4 => False.elim (by omega)) (fun c_4 => ?_)
    refine j_iconst hx hb dL_law_521 ?_
    refine lv_goto (tgt := 576) hx hb dL_law_522 (by decide) ?_
    refine lv_istore (lv' := [(6, .int (iI 1)), (18, .int (iI r)), (17, .int (iI w_2)), (0, .ref b), (1, .ref x), (2, .ref ka), (3, .int (iI (ni : Int))), (4, .int (iI rem)), (5, .int (iI st)), (7, .int (iI tn)), (8, .int (iI (tu : Int))), (9, .int (iI x9)), (10, .int (iI (yn : Int))), (11, .int (iI (dn : Int))), (12, .int (iI (σ 9 0))), (13, .int (iI pt)), (14, .int (iI ot)), (15, .int (iI (rn : Int))), (16, .int (iI (nTb σ)))]) hx hb dL_law_576 hl (by decide) rfl (fun ls hl => ?_)
    refine lv_goto (tgt := 1129) hx hb dL_law_578 (by decide) ?_
    refine W.widen (k := cells + 60) (n := slots + 400) (by show cells + 10 ≤ cells + 60; omega) (by show slots + 60 ≤ slots + 400; omega) ?_
    exact kk σ ni rem st _ _ _ _ ⟨hV, hC.x, ⟨_, hk, hkf⟩, by omega, by omega, by omega, by omega⟩ hB (lv_sub hl [3, 4, 5, 6, 7, 8, 0, 9, 10, 12] rfl)
  · have hk := hFm.I hk
    have hkf := i6.kf hkf
    have hI := hV.ib
    have hnp := hI.hnp
    have hnpI := hI.npI
    have htb2 := nTb_rg hI
    have hst2 := hI.2.2.1
    show W _ _ _ _ _ _ _ _ _ _ _ _ _ _ _ (F0 m 505 ls [.int (iI (σ 9 0 + 1))])
    refine lv_istore (lv' := [(18, .int (iI (σ 9 0 + 1))), (17, .int (iI w_2)), (0, .ref b), (1, .ref x), (2, .ref ka), (3, .int (iI (ni : Int))), (4, .int (iI rem)), (5, .int (iI st)), (6, .int (iI 1)), (7, .int (iI tn)), (8, .int (iI (tu : Int))), (9, .int (iI x9)), (10, .int (iI (yn : Int))), (11, .int (iI (dn : Int))), (12, .int (iI (σ 9 0))), (13, .int (iI pt)), (14, .int (iI ot)), (15, .int (iI (rn : Int))), (16, .int (iI (nTb σ)))]) hx hb dL_law_505 hl (by decide) rfl (fun ls hl => ?_)
    refine lv_iload hx hb dL_law_507 (lv_at hl 0 rfl) ?_
    refine j_if_ge (tgt := 529) hx hb dL_law_509 (by decide) ⟨by omega, by omega⟩ (fun c_5 => ?_) (fun c_5 => False.elim (by omega))
    refine lv_iload hx hb dL_law_529 (lv_at hl 0 rfl) ?_
    refine lv_iload hx hb dL_law_531 (lv_at hl 14 rfl) ?_
    refine j_iconst hx hb dL_law_533 ?_
    refine j_iadd hx hb dL_law_534 ?_
    refine j_icmp_ne (tgt := 575) hx hb dL_law_535 (by decide) ⟨by omega, by omega⟩ ⟨by omega, by omega⟩ (fun c_6 => False.elim (by omega)) (fun c_6 => ?_)
    refine lv_aload_n hx hb dL_law_538 rfl (lv_at hl 3 rfl) ?_
    refine lv_iload hx hb dL_law_539 (lv_at hl 1 rfl) ?_
    refine m_runX (vx_runV (As := [.int (iI w_2)]) (rest := []) ⟨hx, hb, hml, hown, hts⟩ (k_X3_partOf (l := l) hfl hC hI (ky := w_2) ⟨by omega, by omega⟩) (cwV 1 hts gL_law_X3_partOf rfl rfl rfl (by decide +kernel) ⟨by decide, by decide⟩) ⟨Kp.blind _ _ _ _ _, m_recv hK hB (ci := 3) rfl hC.tb, fun U hU hW => hK.pass hB U hU hW⟩ rfl rfl hl.1 rfl (lv_room (Nat.le_of_ble_eq_true rfl)) dL_law_541 ⟨(by show cells + 10 + 1 ≤ 758523; omega), (by show slots + 60 + 6 ≤ 6826128; omega)⟩) hB (fun E u H locs q9 ce hp hB hc9 hv9 hk9 => absurd ⟨by omega, by omega⟩ hp.1.2) (fun v u H locs hp hB => ?_)
    obtain ⟨⟨-, rfl⟩, hC, hFm⟩ := hp
    have hk := hFm.I hk
    show W _ _ _ _ _ _ _ _ _ _ _ _ _ _ _ (F0 m 544 ls [.int (iI ((pw σ2 w_2 : Nat) : Int))])
    refine lv_iload hx hb dL_law_544 (lv_at hl 0 rfl) ?_
    refine j_icmp_ne (tgt := 575) hx hb dL_law_546 (by decide) ⟨by omega, by omega⟩ ⟨by omega, by omega⟩ (fun c_7 => False.elim (by omega)) (fun c_7 => ?_)
    refine lv_aload_n hx hb dL_law_549 rfl (lv_at hl 3 rfl) ?_
    refine lv_iload hx hb dL_law_550 (lv_at hl 1 rfl) ?_
    refine j_iconst hx hb dL_law_552 ?_
    refine j_isub hx hb dL_law_553 ?_
    refine m_runX (vx_runV (As := [.int (iI (w_2 - 1))]) (rest := []) ⟨hx, hb, hml, hown, hts⟩ (k_X3_partOf (l := l) hfl hC hI (ky := (w_2 - 1)) ⟨by omega, by omega⟩) (cwV 1 hts gL_law_X3_partOf rfl rfl rfl (by decide +kernel) ⟨by decide, by decide⟩) ⟨Kp.blind _ _ _ _ _, m_recv hK hB (ci := 3) rfl hC.tb, fun U hU hW => hK.pass hB U hU hW⟩ rfl rfl hl.1 rfl (lv_room (Nat.le_of_ble_eq_true rfl)) dL_law_554 ⟨(by show cells + 11 + 1 ≤ 758523; omega), (by show slots + 66 + 6 ≤ 6826128; omega)⟩) hB (fun E u H locs q9 ce hp hB hc9 hv9 hk9 => absurd ⟨by omega, by omega⟩ hp.1.2) (fun v u H locs hp hB => ?_)
    obtain ⟨⟨-, rfl⟩, hC, hFm⟩ := hp
    have hk := hFm.I hk
    show W _ _ _ _ _ _ _ _ _ _ _ _ _ _ _ (F0 m 557 ls [.int (iI ((pw σ2 (w_2 - 1) : Nat) : Int))])
    refine lv_iload hx hb dL_law_557 (lv_at hl 15 rfl) ?_
    refine j_icmp_ne (tgt := 575) hx hb dL_law_559 (by decide) ⟨by omega, by omega⟩ ⟨by omega, by omega⟩ (fun c_8 => False.elim (by omega)) (fun c_8 => ?_)
    refine lv_aload_n hx hb dL_law_562 rfl (lv_at hl 3 rfl) ?_
    refine m_run (va_runV (As := []) (rest := []) ⟨hx, hb, hml, hown, hts⟩ (k_X3_rows (l := l) hC hI) (cwV 0 hts gL_law_X3_rows rfl rfl rfl (by decide +kernel) ⟨by decide, by decide⟩) ⟨Kp.blind _ _ _ _ _, m_recv hK hB (ci := 3) rfl hC.tb, fun U hU hW => hK.pass hB U hU hW⟩ rfl rfl hl.1 rfl (lv_room (Nat.le_of_ble_eq_true rfl)) dL_law_563 ⟨(by show cells + 12 + 0 ≤ 758523; omega), (by show slots + 72 + 0 ≤ 6826128; omega)⟩) hB (fun v u H locs hp hB => ?_)
    obtain ⟨rfl, hC, hFm⟩ := hp
    have hk := hFm.I hk
    show W _ _ _ _ _ _ _ _ _ _ _ _ _ _ _ (F0 m 566 ls [.int (iI (nTb σ2))])
    refine lv_iload hx hb dL_law_566 (lv_at hl 18 rfl) ?_
    refine j_icmp_ne (tgt := 575) hx hb dL_law_568 (by decide) ⟨by omega, by omega⟩ ⟨by omega, by omega⟩ (fun c_9 => False.elim (by omega)) (fun c_9 => ?_)
    refine j_iconst hx hb dL_law_571 ?_
    refine lv_goto (tgt := 576) hx hb dL_law_572 (by decide) ?_
    refine lv_istore (lv' := [(6, .int (iI 1)), (18, .int (iI (σ 9 0 + 1))), (17, .int (iI w_2)), (0, .ref b), (1, .ref x), (2, .ref ka), (3, .int (iI (ni : Int))), (4, .int (iI rem)), (5, .int (iI st)), (7, .int (iI tn)), (8, .int (iI (tu : Int))), (9, .int (iI x9)), (10, .int (iI (yn : Int))), (11, .int (iI (dn : Int))), (12, .int (iI (σ 9 0))), (13, .int (iI pt)), (14, .int (iI ot)), (15, .int (iI (rn : Int))), (16, .int (iI (nTb σ)))]) hx hb dL_law_576 hl (by decide) rfl (fun ls hl => ?_)
    refine lv_goto (tgt := 1129) hx hb dL_law_578 (by decide) ?_
    refine W.widen (k := cells + 60) (n := slots + 400) (by show cells + 12 ≤ cells + 60; omega) (by show slots + 72 ≤ slots + 400; omega) ?_
    exact kk σ2 ni rem st _ _ _ _ ⟨hV, hC.x, ⟨_, hk, hkf⟩, by omega, by omega, by omega, by omega⟩ hB (lv_sub hl [3, 4, 5, 6, 7, 8, 0, 9, 10, 12] rfl)

set_option maxHeartbeats 4000000 in
set_option maxRecDepth 100000 in
theorem ld_mg {l : Launch} (hfl : l.stackTraces = false) {D : va_G} {cI cP cR cJ : ClassId} {p : Program} {e : Env} {s : State} {m : MethodId} {below : List Frame} {meth : Method} {c : Code} {b L : Nat} {xs : Nat → Int32} (hL : L ≤ 260) (hx : p.tables.exec = Jvm.exec) (hb : c.code = cL_law) (hml : c.maxLocals = 20) (hown : s.vm.findClass RL = some m.cls) (hts : ∀ w ∈ wsL_law, w.before #[Value.ref b] s = true) (hX : va_X b L xs s s.heap) (hbl : b < s.heap.size) (hK : Kb D s.heap.size (tyL cI cP cR cJ) s) {x ka tu ni yn : Nat} {rem st tn : Int} {rn dn : Nat} {x9 pt ot : Int} {σ : Sg} {h0 : Hp} {H : Heap} {locs : List Loc} (hS : LwP cI cP cR x ka σ ni rem st h0) (hB : Bk D s.heap.size s.heap h0 H locs) (fy : yn ≤ 268435455) (ft : tu ≤ 240) (ftn : 0 ≤ tn ∧ tn ≤ 240) (fp : 0 ≤ pt ∧ pt ≤ σ 9 0 + 1) (fo : 0 ≤ ot ∧ ot ≤ σ 9 0 + 1) (fr : rn ≤ ni)  {cells slots : Nat} (hc : cells + 60 ≤ 758523) (hs : slots + 400 ≤ 6826128) {Q : State → Prop} {ls : Array Slot} (hl : lv_has ls 20 [(0, .ref b), (1, .ref x), (2, .ref ka), (3, .int (iI (ni : Int))), (4, .int (iI rem)), (5, .int (iI st)), (6, .int (iI 1)), (7, .int (iI tn)), (8, .int (iI (tu : Int))), (9, .int (iI x9)), (10, .int (iI (yn : Int))), (11, .int (iI (dn : Int))), (12, .int (iI (σ 9 0))), (13, .int (iI pt)), (14, .int (iI ot)), (15, .int (iI (rn : Int))), (16, .int (iI (nTb σ)))]) (kk : ∀ (σ2 : Sg) (n2 : Nat) (r2 s2 : Int) (h2 : Hp) (H2 : Heap) (locs2 : List Loc) (ls2 : Array Slot), LwP cI cP cR x ka σ2 n2 r2 s2 h2 → Bk D s.heap.size s.heap h2 H2 locs2 → lv_has ls2 20 [(0, .ref b), (1, .ref x), (2, .ref ka), (3, .int (iI (n2 : Int))), (4, .int (iI r2)), (5, .int (iI s2)), (6, .int (iI 1)), (7, .int (iI tn)), (8, .int (iI (tu : Int))), (10, .int (iI (yn : Int)))] → W p l e room_1 s m #[Value.ref b] below meth c H2 locs2 (cells + 60) (slots + 400) Q (F0 m 1129 ls2 [])) : W p l e room_1 s m #[Value.ref b] below meth c H locs cells slots Q (F0 m 588 ls []) := by
  obtain ⟨hV, ⟨xp, xr, pa, ra, hC⟩, ⟨f, hk, hkf⟩, hni, hn64, hlv, hst⟩ := hS
  have hI := hV.ib
  have hnp := hI.hnp
  have hnpI := hI.npI
  have hnl := nLv_rg hI
  have htb := nTb_rg hI
  have hst1 := hI.2.2.1
  refine lv_aload_n hx hb dL_law_588 rfl (lv_at hl 1 rfl) ?_
  refine lv_iload hx hb dL_law_589 (lv_at hl 13 rfl) ?_
  refine lv_iload hx hb dL_law_591 (lv_at hl 14 rfl) ?_
  refine m_run (vx_runSW (As := [.ref x, .int (iI pt), .int (iI ot)]) (rest := []) ⟨hx, hb, hml, hown, hts⟩ (k_L_merges (l := l) hfl hC hV (n := pt) (n2 := ot) ⟨by omega, by omega⟩ ⟨by omega, by omega⟩) (vx_cwSW 3 hts gL_law_L_merges rfl rfl rfl (by decide +kernel) ⟨by decide, by decide⟩) ⟨Kp.blind _ _ _ _ _, fun U hU hW => hK.pass hB U hU hW⟩ rfl rfl hl.1 rfl (lv_room (Nat.le_of_ble_eq_true rfl)) dL_law_593 ⟨(by show cells + 0 + 9 ≤ 758523; omega), (by show slots + 0 + 54 ≤ 6826128; omega)⟩) hB (fun v u H locs hp hB => ?_)
  rcases hp with ⟨r, rfl, hr, hC, hFm⟩ | ⟨r, σ2, rfl, hr, ⟨hV, i1, i2, i6, i9, i10, i11, i7, i8⟩, ⟨xp, xr, pa, ra, hC⟩, hFm⟩
  · have hk := hFm.I hk
    show W _ _ _ _ _ _ _ _ _ _ _ _ _ _ _ (F0 m 596 ls [.int (iI r)])
    refine lv_istore (lv' := [(17, .int (iI r)), (0, .ref b), (1, .ref x), (2, .ref ka), (3, .int (iI (ni : Int))), (4, .int (iI rem)), (5, .int (iI st)), (6, .int (iI 1)), (7, .int (iI tn)), (8, .int (iI (tu : Int))), (9, .int (iI x9)), (10, .int (iI (yn : Int))), (11, .int (iI (dn : Int))), (12, .int (iI (σ 9 0))), (13, .int (iI pt)), (14, .int (iI ot)), (15, .int (iI (rn : Int))), (16, .int (iI (nTb σ)))]) hx hb dL_law_596 hl (by decide) rfl (fun ls hl => ?_)
    refine lv_iload hx hb dL_law_598 (lv_at hl 0 rfl) ?_
    refine j_if_lt (tgt := 640) hx hb dL_law_600 (by decide) ⟨by omega, by omega⟩ (fun c_1 => ?_) (fun c_1 => False.elim (by omega))
    refine j_iconst hx hb dL_law_640 ?_
    refine lv_goto (tgt := 645) hx hb dL_law_641 (by decide) ?_
    refine lv_istore (lv' := [(6, .int (iI 1)), (17, .int (iI r)), (0, .ref b), (1, .ref x), (2, .ref ka), (3, .int (iI (ni : Int))), (4, .int (iI rem)), (5, .int (iI st)), (7, .int (iI tn)), (8, .int (iI (tu : Int))), (9, .int (iI x9)), (10, .int (iI (yn : Int))), (11, .int (iI (dn : Int))), (12, .int (iI (σ 9 0))), (13, .int (iI pt)), (14, .int (iI ot)), (15, .int (iI (rn : Int))), (16, .int (iI (nTb σ)))]) hx hb dL_law_645 hl (by decide) rfl (fun ls hl => ?_)
    refine lv_goto (tgt := 1129) hx hb dL_law_647 (by decide) ?_
    refine W.widen (k := cells + 60) (n := slots + 400) (by show cells + 9 ≤ cells + 60; omega) (by show slots + 54 ≤ slots + 400; omega) ?_
    exact kk σ ni rem st _ _ _ _ ⟨hV, hC.x, ⟨_, hk, hkf⟩, by omega, by omega, by omega, by omega⟩ hB (lv_sub hl [2, 3, 4, 5, 6, 7, 0, 8, 9, 11] rfl)
  · have hk := hFm.I hk
    have hkf := i6.kf hkf
    have hI := hV.ib
    have hnp := hI.hnp
    have hnpI := hI.npI
    have htb2 := nTb_rg hI
    have hst2 := hI.2.2.1
    show W _ _ _ _ _ _ _ _ _ _ _ _ _ _ _ (F0 m 596 ls [.int (iI r)])
    refine lv_istore (lv' := [(17, .int (iI r)), (0, .ref b), (1, .ref x), (2, .ref ka), (3, .int (iI (ni : Int))), (4, .int (iI rem)), (5, .int (iI st)), (6, .int (iI 1)), (7, .int (iI tn)), (8, .int (iI (tu : Int))), (9, .int (iI x9)), (10, .int (iI (yn : Int))), (11, .int (iI (dn : Int))), (12, .int (iI (σ 9 0))), (13, .int (iI pt)), (14, .int (iI ot)), (15, .int (iI (rn : Int))), (16, .int (iI (nTb σ)))]) hx hb dL_law_596 hl (by decide) rfl (fun ls hl => ?_)
    refine lv_iload hx hb dL_law_598 (lv_at hl 0 rfl) ?_
    refine j_if_lt (tgt := 640) hx hb dL_law_600 (by decide) ⟨by omega, by omega⟩ (fun c_2 => False.elim (by omega)) (fun c_2 => ?_)
    refine lv_aload_n hx hb dL_law_603 rfl (lv_at hl 2 rfl) ?_
    refine lv_iload hx hb dL_law_604 (lv_at hl 15 rfl) ?_
    refine m_runX (vx_runV (As := [.int (iI ot)]) (rest := []) ⟨hx, hb, hml, hown, hts⟩ (k_X3_stateOf (l := l) hfl hC hI (n := ot) ⟨by omega, by omega⟩) (cwV 1 hts gL_law_X3_stateOf rfl rfl rfl (by decide +kernel) ⟨by decide, by decide⟩) ⟨Kp.blind _ _ _ _ _, m_recv hK hB (ci := 3) rfl hC.tb, fun U hU hW => hK.pass hB U hU hW⟩ rfl rfl hl.1 rfl (lv_room (Nat.le_of_ble_eq_true rfl)) dL_law_606 ⟨(by show cells + 9 + 1 ≤ 758523; omega), (by show slots + 54 + 6 ≤ 6826128; omega)⟩) hB (fun E u H locs q9 ce hp hB hc9 hv9 hk9 => absurd ⟨by omega, by omega⟩ hp.1.2) (fun v u H locs hp hB => ?_)
    obtain ⟨⟨-, rfl⟩, hC, hFm⟩ := hp
    have hk := hFm.I hk
    show W _ _ _ _ _ _ _ _ _ _ _ _ _ _ _ (F0 m 609 ls [.int (iI (σ2 4 ot.toNat))])
    refine j_iconst hx hb dL_law_609 ?_
    refine j_icmp_ne (tgt := 644) hx hb dL_law_610 (by decide) ⟨by omega, by omega⟩ ⟨by decide, by decide⟩ (fun c_3 => False.elim (by omega)) (fun c_3 => ?_)
    refine lv_aload_n hx hb dL_law_613 rfl (lv_at hl 2 rfl) ?_
    refine lv_iload hx hb dL_law_614 (lv_at hl 14 rfl) ?_
    refine m_runX (vx_runV (As := [.int (iI pt)]) (rest := []) ⟨hx, hb, hml, hown, hts⟩ (k_X3_stateOf (l := l) hfl hC hI (n := pt) ⟨by omega, by omega⟩) (cwV 1 hts gL_law_X3_stateOf rfl rfl rfl (by decide +kernel) ⟨by decide, by decide⟩) ⟨Kp.blind _ _ _ _ _, m_recv hK hB (ci := 3) rfl hC.tb, fun U hU hW => hK.pass hB U hU hW⟩ rfl rfl hl.1 rfl (lv_room (Nat.le_of_ble_eq_true rfl)) dL_law_616 ⟨(by show cells + 10 + 1 ≤ 758523; omega), (by show slots + 60 + 6 ≤ 6826128; omega)⟩) hB (fun E u H locs q9 ce hp hB hc9 hv9 hk9 => absurd ⟨by omega, by omega⟩ hp.1.2) (fun v u H locs hp hB => ?_)
    obtain ⟨⟨-, rfl⟩, hC, hFm⟩ := hp
    have hk := hFm.I hk
    show W _ _ _ _ _ _ _ _ _ _ _ _ _ _ _ (F0 m 619 ls [.int (iI (σ2 4 pt.toNat))])
    refine j_if_ne (tgt := 644) hx hb dL_law_619 (by decide) ⟨by omega, by omega⟩ (fun c_4 => False.elim (by omega)) (fun c_4 => ?_)
    refine lv_aload_n hx hb dL_law_622 rfl (lv_at hl 2 rfl) ?_
    refine m_run (va_runV (As := []) (rest := []) ⟨hx, hb, hml, hown, hts⟩ (k_X3_rows (l := l) hC hI) (cwV 0 hts gL_law_X3_rows rfl rfl rfl (by decide +kernel) ⟨by decide, by decide⟩) ⟨Kp.blind _ _ _ _ _, m_recv hK hB (ci := 3) rfl hC.tb, fun U hU hW => hK.pass hB U hU hW⟩ rfl rfl hl.1 rfl (lv_room (Nat.le_of_ble_eq_true rfl)) dL_law_623 ⟨(by show cells + 11 + 0 ≤ 758523; omega), (by show slots + 66 + 0 ≤ 6826128; omega)⟩) hB (fun v u H locs hp hB => ?_)
    obtain ⟨rfl, hC, hFm⟩ := hp
    have hk := hFm.I hk
    show W _ _ _ _ _ _ _ _ _ _ _ _ _ _ _ (F0 m 626 ls [.int (iI (nTb σ2))])
    refine lv_iload hx hb dL_law_626 (lv_at hl 17 rfl) ?_
    refine j_icmp_ne (tgt := 644) hx hb dL_law_628 (by decide) ⟨by omega, by omega⟩ ⟨by omega, by omega⟩ (fun c_5 => False.elim (by omega)) (fun c_5 => ?_)
    refine lv_aload_n hx hb dL_law_631 rfl (lv_at hl 2 rfl) ?_
    refine m_run (va_runV (As := []) (rest := []) ⟨hx, hb, hml, hown, hts⟩ (k_X3_parts (l := l) hC hI) (cwV 0 hts gL_law_X3_parts rfl rfl rfl (by decide +kernel) ⟨by decide, by decide⟩) ⟨Kp.blind _ _ _ _ _, m_recv hK hB (ci := 3) rfl hC.tb, fun U hU hW => hK.pass hB U hU hW⟩ rfl rfl hl.1 rfl (lv_room (Nat.le_of_ble_eq_true rfl)) dL_law_632 ⟨(by show cells + 11 + 0 ≤ 758523; omega), (by show slots + 66 + 0 ≤ 6826128; omega)⟩) hB (fun v u H locs hp hB => ?_)
    obtain ⟨rfl, hC, hFm⟩ := hp
    have hk := hFm.I hk
    show W _ _ _ _ _ _ _ _ _ _ _ _ _ _ _ (F0 m 635 ls [.int (iI (σ2 9 0))])
    refine lv_iload hx hb dL_law_635 (lv_at hl 13 rfl) ?_
    refine j_icmp_ne (tgt := 644) hx hb dL_law_637 (by decide) ⟨by omega, by omega⟩ ⟨by omega, by omega⟩ (fun c_6 => False.elim (by omega)) (fun c_6 => ?_)
    refine j_iconst hx hb dL_law_640 ?_
    refine lv_goto (tgt := 645) hx hb dL_law_641 (by decide) ?_
    refine lv_istore (lv' := [(6, .int (iI 1)), (17, .int (iI r)), (0, .ref b), (1, .ref x), (2, .ref ka), (3, .int (iI (ni : Int))), (4, .int (iI rem)), (5, .int (iI st)), (7, .int (iI tn)), (8, .int (iI (tu : Int))), (9, .int (iI x9)), (10, .int (iI (yn : Int))), (11, .int (iI (dn : Int))), (12, .int (iI (σ 9 0))), (13, .int (iI pt)), (14, .int (iI ot)), (15, .int (iI (rn : Int))), (16, .int (iI (nTb σ)))]) hx hb dL_law_645 hl (by decide) rfl (fun ls hl => ?_)
    refine lv_goto (tgt := 1129) hx hb dL_law_647 (by decide) ?_
    refine W.widen (k := cells + 60) (n := slots + 400) (by show cells + 11 ≤ cells + 60; omega) (by show slots + 66 ≤ slots + 400; omega) ?_
    exact kk σ2 ni rem st _ _ _ _ ⟨hV, hC.x, ⟨_, hk, hkf⟩, by omega, by omega, by omega, by omega⟩ hB (lv_sub hl [2, 3, 4, 5, 6, 7, 0, 8, 9, 11] rfl)

set_option maxHeartbeats 4000000 in
set_option maxRecDepth 100000 in
theorem ld_xc {l : Launch} (hfl : l.stackTraces = false) {D : va_G} {cI cP cR cJ : ClassId} {p : Program} {e : Env} {s : State} {m : MethodId} {below : List Frame} {meth : Method} {c : Code} {b L : Nat} {xs : Nat → Int32} (hL : L ≤ 260) (hx : p.tables.exec = Jvm.exec) (hb : c.code = cL_law) (hml : c.maxLocals = 20) (hown : s.vm.findClass RL = some m.cls) (hts : ∀ w ∈ wsL_law, w.before #[Value.ref b] s = true) (hX : va_X b L xs s s.heap) (hbl : b < s.heap.size) (hK : Kb D s.heap.size (tyL cI cP cR cJ) s) {x ka tu ni yn : Nat} {rem st tn : Int} {rn dn : Nat} {x9 pt ot : Int} {σ : Sg} {h0 : Hp} {H : Heap} {locs : List Loc} (hS : LwP cI cP cR x ka σ ni rem st h0) (hB : Bk D s.heap.size s.heap h0 H locs) (fy : yn ≤ 268435455) (ft : tu ≤ 240) (ftn : 0 ≤ tn ∧ tn ≤ 240) (fp : 0 ≤ pt ∧ pt ≤ σ 9 0 + 1) (fo : 0 ≤ ot ∧ ot ≤ σ 9 0 + 1) (fr : rn ≤ ni)  {cells slots : Nat} (hc : cells + 60 ≤ 758523) (hs : slots + 400 ≤ 6826128) {Q : State → Prop} {ls : Array Slot} (hl : lv_has ls 20 [(0, .ref b), (1, .ref x), (2, .ref ka), (3, .int (iI (ni : Int))), (4, .int (iI rem)), (5, .int (iI st)), (6, .int (iI 1)), (7, .int (iI tn)), (8, .int (iI (tu : Int))), (9, .int (iI x9)), (10, .int (iI (yn : Int))), (11, .int (iI (dn : Int))), (12, .int (iI (σ 9 0))), (13, .int (iI pt)), (14, .int (iI ot)), (15, .int (iI (rn : Int))), (16, .int (iI (nTb σ)))]) (kk : ∀ (σ2 : Sg) (n2 : Nat) (r2 s2 : Int) (h2 : Hp) (H2 : Heap) (locs2 : List Loc) (ls2 : Array Slot), LwP cI cP cR x ka σ2 n2 r2 s2 h2 → Bk D s.heap.size s.heap h2 H2 locs2 → lv_has ls2 20 [(0, .ref b), (1, .ref x), (2, .ref ka), (3, .int (iI (n2 : Int))), (4, .int (iI r2)), (5, .int (iI s2)), (6, .int (iI 1)), (7, .int (iI tn)), (8, .int (iI (tu : Int))), (10, .int (iI (yn : Int)))] → W p l e room_1 s m #[Value.ref b] below meth c H2 locs2 (cells + 60) (slots + 400) Q (F0 m 1129 ls2 [])) : W p l e room_1 s m #[Value.ref b] below meth c H locs cells slots Q (F0 m 657 ls []) := by
  obtain ⟨hV, ⟨xp, xr, pa, ra, hC⟩, ⟨f, hk, hkf⟩, hni, hn64, hlv, hst⟩ := hS
  have hI := hV.ib
  have hnp := hI.hnp
  have hnpI := hI.npI
  have hnl := nLv_rg hI
  have htb := nTb_rg hI
  have hst1 := hI.2.2.1
  refine lv_aload_n hx hb dL_law_657 rfl (lv_at hl 1 rfl) ?_
  refine lv_iload hx hb dL_law_658 (lv_at hl 13 rfl) ?_
  refine lv_iload hx hb dL_law_660 (lv_at hl 14 rfl) ?_
  refine m_run (vx_runSW (As := [.ref x, .int (iI pt), .int (iI ot)]) (rest := []) ⟨hx, hb, hml, hown, hts⟩ (k_L_exchanges (l := l) hfl hC hV (n := pt) (n2 := ot) ⟨by omega, by omega⟩ ⟨by omega, by omega⟩) (vx_cwSW 3 hts gL_law_L_exchanges rfl rfl rfl (by decide +kernel) ⟨by decide, by decide⟩) ⟨Kp.blind _ _ _ _ _, fun U hU hW => hK.pass hB U hU hW⟩ rfl rfl hl.1 rfl (lv_room (Nat.le_of_ble_eq_true rfl)) dL_law_662 ⟨(by show cells + 0 + 10 ≤ 758523; omega), (by show slots + 0 + 60 ≤ 6826128; omega)⟩) hB (fun v u H locs hp hB => ?_)
  rcases hp with ⟨r, rfl, hr, hxn, hC, hFm⟩ | ⟨r, rfl, hr, hxc, hC, hFm⟩
  · have hk := hFm.I hk
    show W _ _ _ _ _ _ _ _ _ _ _ _ _ _ _ (F0 m 665 ls [.int (iI r)])
    refine lv_istore (lv' := [(17, .int (iI r)), (0, .ref b), (1, .ref x), (2, .ref ka), (3, .int (iI (ni : Int))), (4, .int (iI rem)), (5, .int (iI st)), (6, .int (iI 1)), (7, .int (iI tn)), (8, .int (iI (tu : Int))), (9, .int (iI x9)), (10, .int (iI (yn : Int))), (11, .int (iI (dn : Int))), (12, .int (iI (σ 9 0))), (13, .int (iI pt)), (14, .int (iI ot)), (15, .int (iI (rn : Int))), (16, .int (iI (nTb σ)))]) hx hb dL_law_665 hl (by decide) rfl (fun ls hl => ?_)
    refine lv_iload hx hb dL_law_667 (lv_at hl 0 rfl) ?_
    refine j_if_lt (tgt := 718) hx hb dL_law_669 (by decide) ⟨by omega, by omega⟩ (fun c_1 => ?_) (fun c_1 => False.elim (by omega))
    refine j_iconst hx hb dL_law_718 ?_
    refine lv_goto (tgt := 723) hx hb dL_law_719 (by decide) ?_
    refine lv_istore (lv' := [(6, .int (iI 1)), (17, .int (iI r)), (0, .ref b), (1, .ref x), (2, .ref ka), (3, .int (iI (ni : Int))), (4, .int (iI rem)), (5, .int (iI st)), (7, .int (iI tn)), (8, .int (iI (tu : Int))), (9, .int (iI x9)), (10, .int (iI (yn : Int))), (11, .int (iI (dn : Int))), (12, .int (iI (σ 9 0))), (13, .int (iI pt)), (14, .int (iI ot)), (15, .int (iI (rn : Int))), (16, .int (iI (nTb σ)))]) hx hb dL_law_723 hl (by decide) rfl (fun ls hl => ?_)
    refine lv_iload hx hb dL_law_725 (lv_at hl 7 rfl) ?_
    refine j_if_ne (tgt := 735) hx hb dL_law_727 (by decide) ⟨by omega, by omega⟩ (fun c_2 => ?_) (fun c_2 => ?_)
    · refine j_iconst hx hb dL_law_735 ?_
      refine lv_goto (tgt := 740) hx hb dL_law_736 (by decide) ?_
      refine lv_istore (lv' := [(5, .int (iI 1)), (6, .int (iI 1)), (17, .int (iI r)), (0, .ref b), (1, .ref x), (2, .ref ka), (3, .int (iI (ni : Int))), (4, .int (iI rem)), (7, .int (iI tn)), (8, .int (iI (tu : Int))), (9, .int (iI x9)), (10, .int (iI (yn : Int))), (11, .int (iI (dn : Int))), (12, .int (iI (σ 9 0))), (13, .int (iI pt)), (14, .int (iI ot)), (15, .int (iI (rn : Int))), (16, .int (iI (nTb σ)))]) hx hb dL_law_740 hl (by decide) rfl (fun ls hl => ?_)
      refine lv_goto (tgt := 1129) hx hb dL_law_742 (by decide) ?_
      refine W.widen (k := cells + 60) (n := slots + 400) (by show cells + 10 ≤ cells + 60; omega) (by show slots + 60 ≤ slots + 400; omega) ?_
      exact kk σ ni rem 1 _ _ _ _ ⟨hV, hC.x, ⟨_, hk, hkf⟩, by omega, by omega, by omega, by omega⟩ hB (lv_sub hl [3, 4, 5, 6, 7, 0, 1, 8, 9, 11] rfl)
    · refine lv_iload hx hb dL_law_730 (lv_at hl 1 rfl) ?_
      refine j_if_lt (tgt := 739) hx hb dL_law_732 (by decide) ⟨by omega, by omega⟩ (fun c_3 => ?_) (fun c_3 => False.elim (by omega))
      refine j_iconst hx hb dL_law_739 ?_
      refine lv_istore (lv' := [(5, .int (iI 0)), (6, .int (iI 1)), (17, .int (iI r)), (0, .ref b), (1, .ref x), (2, .ref ka), (3, .int (iI (ni : Int))), (4, .int (iI rem)), (7, .int (iI tn)), (8, .int (iI (tu : Int))), (9, .int (iI x9)), (10, .int (iI (yn : Int))), (11, .int (iI (dn : Int))), (12, .int (iI (σ 9 0))), (13, .int (iI pt)), (14, .int (iI ot)), (15, .int (iI (rn : Int))), (16, .int (iI (nTb σ)))]) hx hb dL_law_740 hl (by decide) rfl (fun ls hl => ?_)
      refine lv_goto (tgt := 1129) hx hb dL_law_742 (by decide) ?_
      refine W.widen (k := cells + 60) (n := slots + 400) (by show cells + 10 ≤ cells + 60; omega) (by show slots + 60 ≤ slots + 400; omega) ?_
      exact kk σ ni rem 0 _ _ _ _ ⟨hV, hC.x, ⟨_, hk, hkf⟩, by omega, by omega, by omega, by omega⟩ hB (lv_sub hl [3, 4, 5, 6, 7, 0, 1, 8, 9, 11] rfl)
  · have hk := hFm.I hk
    have hV0 := hV
    obtain ⟨j1, j2, j3, j4, j5, j6, j7, j8, j9⟩ := xc_ok hV hxc
    obtain ⟨σ2, eσ2⟩ : ∃ σ2, σ2 = xsS σ pt ot := ⟨_, rfl⟩
    rw [← eσ2] at hC j1 j2 j3 j4 j5 j6 j7 j8 j9
    have hV := j1
    have hI := hV.ib
    have hnp := hI.hnp
    have hnpI := hI.npI
    have htb2 := nTb_rg hI
    have hst2 := hI.2.2.1
    have hkf := j3.kf hkf
    show W _ _ _ _ _ _ _ _ _ _ _ _ _ _ _ (F0 m 665 ls [.int (iI r)])
    refine lv_istore (lv' := [(17, .int (iI r)), (0, .ref b), (1, .ref x), (2, .ref ka), (3, .int (iI (ni : Int))), (4, .int (iI rem)), (5, .int (iI st)), (6, .int (iI 1)), (7, .int (iI tn)), (8, .int (iI (tu : Int))), (9, .int (iI x9)), (10, .int (iI (yn : Int))), (11, .int (iI (dn : Int))), (12, .int (iI (σ 9 0))), (13, .int (iI pt)), (14, .int (iI ot)), (15, .int (iI (rn : Int))), (16, .int (iI (nTb σ)))]) hx hb dL_law_665 hl (by decide) rfl (fun ls hl => ?_)
    refine lv_iload hx hb dL_law_667 (lv_at hl 0 rfl) ?_
    refine j_if_lt (tgt := 718) hx hb dL_law_669 (by decide) ⟨by omega, by omega⟩ (fun c_4 => False.elim (by omega)) (fun c_4 => ?_)
    refine lv_aload_n hx hb dL_law_672 rfl (lv_at hl 2 rfl) ?_
    refine lv_iload hx hb dL_law_673 (lv_at hl 14 rfl) ?_
    refine m_runX (vx_runV (As := [.int (iI pt)]) (rest := []) ⟨hx, hb, hml, hown, hts⟩ (k_X3_stateOf (l := l) hfl hC hI (n := pt) ⟨by omega, by omega⟩) (cwV 1 hts gL_law_X3_stateOf rfl rfl rfl (by decide +kernel) ⟨by decide, by decide⟩) ⟨Kp.blind _ _ _ _ _, m_recv hK hB (ci := 3) rfl hC.tb, fun U hU hW => hK.pass hB U hU hW⟩ rfl rfl hl.1 rfl (lv_room (Nat.le_of_ble_eq_true rfl)) dL_law_675 ⟨(by show cells + 10 + 1 ≤ 758523; omega), (by show slots + 60 + 6 ≤ 6826128; omega)⟩) hB (fun E u H locs q9 ce hp hB hc9 hv9 hk9 => absurd ⟨by omega, by omega⟩ hp.1.2) (fun v u H locs hp hB => ?_)
    obtain ⟨⟨-, rfl⟩, hC, hFm⟩ := hp
    have hk := hFm.I hk
    show W _ _ _ _ _ _ _ _ _ _ _ _ _ _ _ (F0 m 678 ls [.int (iI (σ2 4 pt.toNat))])
    refine j_if_ne (tgt := 722) hx hb dL_law_678 (by decide) ⟨by omega, by omega⟩ (fun c_5 => False.elim (by omega)) (fun c_5 => ?_)
    refine lv_aload_n hx hb dL_law_681 rfl (lv_at hl 2 rfl) ?_
    refine lv_iload hx hb dL_law_682 (lv_at hl 15 rfl) ?_
    refine m_runX (vx_runV (As := [.int (iI ot)]) (rest := []) ⟨hx, hb, hml, hown, hts⟩ (k_X3_stateOf (l := l) hfl hC hI (n := ot) ⟨by omega, by omega⟩) (cwV 1 hts gL_law_X3_stateOf rfl rfl rfl (by decide +kernel) ⟨by decide, by decide⟩) ⟨Kp.blind _ _ _ _ _, m_recv hK hB (ci := 3) rfl hC.tb, fun U hU hW => hK.pass hB U hU hW⟩ rfl rfl hl.1 rfl (lv_room (Nat.le_of_ble_eq_true rfl)) dL_law_684 ⟨(by show cells + 11 + 1 ≤ 758523; omega), (by show slots + 66 + 6 ≤ 6826128; omega)⟩) hB (fun E u H locs q9 ce hp hB hc9 hv9 hk9 => absurd ⟨by omega, by omega⟩ hp.1.2) (fun v u H locs hp hB => ?_)
    obtain ⟨⟨-, rfl⟩, hC, hFm⟩ := hp
    have hk := hFm.I hk
    show W _ _ _ _ _ _ _ _ _ _ _ _ _ _ _ (F0 m 687 ls [.int (iI (σ2 4 ot.toNat))])
    refine j_iconst hx hb dL_law_687 ?_
    refine j_icmp_ne (tgt := 722) hx hb dL_law_688 (by decide) ⟨by omega, by omega⟩ ⟨by decide, by decide⟩ (fun c_6 => False.elim (by omega)) (fun c_6 => ?_)
    refine lv_aload_n hx hb dL_law_691 rfl (lv_at hl 2 rfl) ?_
    refine m_run (va_runV (As := []) (rest := []) ⟨hx, hb, hml, hown, hts⟩ (k_X3_isStale (l := l) hC hI) (cwV 0 hts gL_law_X3_isStale rfl rfl rfl (by decide +kernel) ⟨by decide, by decide⟩) ⟨Kp.blind _ _ _ _ _, m_recv hK hB (ci := 3) rfl hC.tb, fun U hU hW => hK.pass hB U hU hW⟩ rfl rfl hl.1 rfl (lv_room (Nat.le_of_ble_eq_true rfl)) dL_law_692 ⟨(by show cells + 12 + 0 ≤ 758523; omega), (by show slots + 72 + 0 ≤ 6826128; omega)⟩) hB (fun v u H locs hp hB => ?_)
    obtain ⟨rfl, hC, hFm⟩ := hp
    have hk := hFm.I hk
    show W _ _ _ _ _ _ _ _ _ _ _ _ _ _ _ (F0 m 695 ls [.int (iI (σ2 11 0))])
    refine j_if_eq (tgt := 722) hx hb dL_law_695 (by decide) ⟨by omega, by omega⟩ (fun c_7 => False.elim (by omega)) (fun c_7 => ?_)
    refine lv_aload_n hx hb dL_law_698 rfl (lv_at hl 2 rfl) ?_
    refine lv_iload hx hb dL_law_699 (lv_at hl 14 rfl) ?_
    refine lv_iload hx hb dL_law_701 (lv_at hl 15 rfl) ?_
    refine m_run (vx_runSW (As := [.ref x, .int (iI pt), .int (iI ot)]) (rest := []) ⟨hx, hb, hml, hown, hts⟩ (k_L_exchanges (l := l) hfl hC hV (n := pt) (n2 := ot) ⟨by omega, by omega⟩ ⟨by omega, by omega⟩) (vx_cwSW 3 hts gL_law_L_exchanges rfl rfl rfl (by decide +kernel) ⟨by decide, by decide⟩) ⟨Kp.blind _ _ _ _ _, fun U hU hW => hK.pass hB U hU hW⟩ rfl rfl hl.1 rfl (lv_room (Nat.le_of_ble_eq_true rfl)) dL_law_703 ⟨(by show cells + 12 + 10 ≤ 758523; omega), (by show slots + 72 + 60 ≤ 6826128; omega)⟩) hB (fun v u H locs hp hB => ?_)
    rcases hp with ⟨r2, rfl, hr2, hxn, hC, hFm⟩ | ⟨r2, rfl, hr2, -, hC, hFm⟩
    · exact absurd j2 hxn
    · have hk := hFm.I hk
      obtain ⟨m1, m2, m3, m4, m5, m6, m7, m8, m9⟩ := xc_ok hV j2
      have q := xc2_ok hV0 hxc
      rw [← eσ2] at q
      obtain ⟨σ3, eσ3⟩ : ∃ σ3, σ3 = xsS σ2 pt ot := ⟨_, rfl⟩
      rw [← eσ3] at hC m1 m3 m4 m5 m6 m7 q
      have hV := m1
      have hI := hV.ib
      have hnp := hI.hnp
      have hnpI := hI.npI
      have htb2 := nTb_rg hI
      have hst2 := hI.2.2.1
      have hkf := m3.kf hkf
      show W _ _ _ _ _ _ _ _ _ _ _ _ _ _ _ (F0 m 706 ls [.int (iI r2)])
      refine j_if_lt (tgt := 722) hx hb dL_law_706 (by decide) ⟨by omega, by omega⟩ (fun c_8 => False.elim (by omega)) (fun c_8 => ?_)
      refine lv_aload_n hx hb dL_law_709 rfl (lv_at hl 2 rfl) ?_
      refine m_run (va_runV (As := []) (rest := []) ⟨hx, hb, hml, hown, hts⟩ (k_X3_rows (l := l) hC hI) (cwV 0 hts gL_law_X3_rows rfl rfl rfl (by decide +kernel) ⟨by decide, by decide⟩) ⟨Kp.blind _ _ _ _ _, m_recv hK hB (ci := 3) rfl hC.tb, fun U hU hW => hK.pass hB U hU hW⟩ rfl rfl hl.1 rfl (lv_room (Nat.le_of_ble_eq_true rfl)) dL_law_710 ⟨(by show cells + 22 + 0 ≤ 758523; omega), (by show slots + 132 + 0 ≤ 6826128; omega)⟩) hB (fun v u H locs hp hB => ?_)
      obtain ⟨rfl, hC, hFm⟩ := hp
      have hk := hFm.I hk
      show W _ _ _ _ _ _ _ _ _ _ _ _ _ _ _ (F0 m 713 ls [.int (iI (nTb σ3))])
      refine lv_iload hx hb dL_law_713 (lv_at hl 17 rfl) ?_
      refine j_icmp_ne (tgt := 722) hx hb dL_law_715 (by decide) ⟨by omega, by omega⟩ ⟨by omega, by omega⟩ (fun c_9 => False.elim (by omega)) (fun c_9 => ?_)
      refine j_iconst hx hb dL_law_718 ?_
      refine lv_goto (tgt := 723) hx hb dL_law_719 (by decide) ?_
      refine lv_istore (lv' := [(6, .int (iI 1)), (17, .int (iI r)), (0, .ref b), (1, .ref x), (2, .ref ka), (3, .int (iI (ni : Int))), (4, .int (iI rem)), (5, .int (iI st)), (7, .int (iI tn)), (8, .int (iI (tu : Int))), (9, .int (iI x9)), (10, .int (iI (yn : Int))), (11, .int (iI (dn : Int))), (12, .int (iI (σ 9 0))), (13, .int (iI pt)), (14, .int (iI ot)), (15, .int (iI (rn : Int))), (16, .int (iI (nTb σ)))]) hx hb dL_law_723 hl (by decide) rfl (fun ls hl => ?_)
      refine lv_iload hx hb dL_law_725 (lv_at hl 7 rfl) ?_
      refine j_if_ne (tgt := 735) hx hb dL_law_727 (by decide) ⟨by omega, by omega⟩ (fun c_10 => ?_) (fun c_10 => ?_)
      · refine j_iconst hx hb dL_law_735 ?_
        refine lv_goto (tgt := 740) hx hb dL_law_736 (by decide) ?_
        refine lv_istore (lv' := [(5, .int (iI 1)), (6, .int (iI 1)), (17, .int (iI r)), (0, .ref b), (1, .ref x), (2, .ref ka), (3, .int (iI (ni : Int))), (4, .int (iI rem)), (7, .int (iI tn)), (8, .int (iI (tu : Int))), (9, .int (iI x9)), (10, .int (iI (yn : Int))), (11, .int (iI (dn : Int))), (12, .int (iI (σ 9 0))), (13, .int (iI pt)), (14, .int (iI ot)), (15, .int (iI (rn : Int))), (16, .int (iI (nTb σ)))]) hx hb dL_law_740 hl (by decide) rfl (fun ls hl => ?_)
        refine lv_goto (tgt := 1129) hx hb dL_law_742 (by decide) ?_
        refine W.widen (k := cells + 60) (n := slots + 400) (by show cells + 22 ≤ cells + 60; omega) (by show slots + 132 ≤ slots + 400; omega) ?_
        exact kk σ3 ni rem 1 _ _ _ _ ⟨hV, hC.x, ⟨_, hk, hkf⟩, by omega, by omega, by omega, by omega⟩ hB (lv_sub hl [3, 4, 5, 6, 7, 0, 1, 8, 9, 11] rfl)
      · refine lv_iload hx hb dL_law_730 (lv_at hl 1 rfl) ?_
        refine j_if_lt (tgt := 739) hx hb dL_law_732 (by decide) ⟨by omega, by omega⟩ (fun c_11 => False.elim (by omega)) (fun c_11 => ?_)
        refine j_iconst hx hb dL_law_735 ?_
        refine lv_goto (tgt := 740) hx hb dL_law_736 (by decide) ?_
        refine lv_istore (lv' := [(5, .int (iI 1)), (6, .int (iI 1)), (17, .int (iI r)), (0, .ref b), (1, .ref x), (2, .ref ka), (3, .int (iI (ni : Int))), (4, .int (iI rem)), (7, .int (iI tn)), (8, .int (iI (tu : Int))), (9, .int (iI x9)), (10, .int (iI (yn : Int))), (11, .int (iI (dn : Int))), (12, .int (iI (σ 9 0))), (13, .int (iI pt)), (14, .int (iI ot)), (15, .int (iI (rn : Int))), (16, .int (iI (nTb σ)))]) hx hb dL_law_740 hl (by decide) rfl (fun ls hl => ?_)
        refine lv_goto (tgt := 1129) hx hb dL_law_742 (by decide) ?_
        refine W.widen (k := cells + 60) (n := slots + 400) (by show cells + 22 ≤ cells + 60; omega) (by show slots + 132 ≤ slots + 400; omega) ?_
        exact kk σ3 ni rem 1 _ _ _ _ ⟨hV, hC.x, ⟨_, hk, hkf⟩, by omega, by omega, by omega, by omega⟩ hB (lv_sub hl [3, 4, 5, 6, 7, 0, 1, 8, 9, 11] rfl)

set_option maxHeartbeats 4000000 in
set_option maxRecDepth 100000 in
theorem ld_tn {l : Launch} (hfl : l.stackTraces = false) {D : va_G} {cI cP cR cJ : ClassId} {p : Program} {e : Env} {s : State} {m : MethodId} {below : List Frame} {meth : Method} {c : Code} {b L : Nat} {xs : Nat → Int32} (hL : L ≤ 260) (hx : p.tables.exec = Jvm.exec) (hb : c.code = cL_law) (hml : c.maxLocals = 20) (hown : s.vm.findClass RL = some m.cls) (hts : ∀ w ∈ wsL_law, w.before #[Value.ref b] s = true) (hX : va_X b L xs s s.heap) (hbl : b < s.heap.size) (hK : Kb D s.heap.size (tyL cI cP cR cJ) s) {x ka tu ni yn : Nat} {rem st tn : Int} {rn dn : Nat} {x9 pt ot : Int} {σ : Sg} {h0 : Hp} {H : Heap} {locs : List Loc} (hS : LwP cI cP cR x ka σ ni rem st h0) (hB : Bk D s.heap.size s.heap h0 H locs) (fy : yn ≤ 268435455) (ft : tu ≤ 240) (ftn : 0 ≤ tn ∧ tn ≤ 240) (fp : 0 ≤ pt ∧ pt ≤ σ 9 0 + 1) (fo : 0 ≤ ot ∧ ot ≤ σ 9 0 + 1) (fr : rn ≤ ni)  {cells slots : Nat} (hc : cells + 60 ≤ 758523) (hs : slots + 400 ≤ 6826128) {Q : State → Prop} {ls : Array Slot} (hl : lv_has ls 20 [(0, .ref b), (1, .ref x), (2, .ref ka), (3, .int (iI (ni : Int))), (4, .int (iI rem)), (5, .int (iI st)), (6, .int (iI 1)), (7, .int (iI tn)), (8, .int (iI (tu : Int))), (9, .int (iI x9)), (10, .int (iI (yn : Int))), (11, .int (iI (dn : Int))), (12, .int (iI (σ 9 0))), (13, .int (iI pt)), (14, .int (iI ot)), (15, .int (iI (rn : Int))), (16, .int (iI (nTb σ)))]) (kk : ∀ (σ2 : Sg) (n2 : Nat) (r2 s2 : Int) (h2 : Hp) (H2 : Heap) (locs2 : List Loc) (ls2 : Array Slot), LwP cI cP cR x ka σ2 n2 r2 s2 h2 → Bk D s.heap.size s.heap h2 H2 locs2 → lv_has ls2 20 [(0, .ref b), (1, .ref x), (2, .ref ka), (3, .int (iI (n2 : Int))), (4, .int (iI r2)), (5, .int (iI s2)), (6, .int (iI 1)), (7, .int (iI tn)), (8, .int (iI (tu : Int))), (10, .int (iI (yn : Int)))] → W p l e room_1 s m #[Value.ref b] below meth c H2 locs2 (cells + 60) (slots + 400) Q (F0 m 1129 ls2 [])) : W p l e room_1 s m #[Value.ref b] below meth c H locs cells slots Q (F0 m 752 ls []) := by
  obtain ⟨hV, ⟨xp, xr, pa, ra, hC⟩, ⟨f, hk, hkf⟩, hni, hn64, hlv, hst⟩ := hS
  have hI := hV.ib
  have hnp := hI.hnp
  have hnpI := hI.npI
  have hnl := nLv_rg hI
  have htb := nTb_rg hI
  have hst1 := hI.2.2.1
  refine lv_iload hx hb dL_law_752 (lv_at hl 10 rfl) ?_
  refine j_bipush hx hb dL_law_754 (by decide) ?_
  refine j_shrT (n := 9) hx hb ⟨by omega, by omega⟩ (by decide) dL_law_756 (fun w_1 hw_1 kw_1 => ?_)
  refine j_iconst hx hb dL_law_757 ?_
  refine j_mask (n := 1) hx hb dL_law_758 (fun w_2 hw_2 => ?_)
  refine j_iconst hx hb dL_law_759 ?_
  refine j_icmp_ne (tgt := 767) hx hb dL_law_760 (by decide) ⟨by omega, by omega⟩ ⟨by decide, by decide⟩ (fun c_3 => ?_) (fun c_3 => ?_)
  · refine j_iconst hx hb dL_law_767 ?_
    refine lv_istore (lv' := [(17, .int (iI 0)), (0, .ref b), (1, .ref x), (2, .ref ka), (3, .int (iI (ni : Int))), (4, .int (iI rem)), (5, .int (iI st)), (6, .int (iI 1)), (7, .int (iI tn)), (8, .int (iI (tu : Int))), (9, .int (iI x9)), (10, .int (iI (yn : Int))), (11, .int (iI (dn : Int))), (12, .int (iI (σ 9 0))), (13, .int (iI pt)), (14, .int (iI ot)), (15, .int (iI (rn : Int))), (16, .int (iI (nTb σ)))]) hx hb dL_law_768 hl (by decide) rfl (fun ls hl => ?_)
    refine lv_aload_n hx hb dL_law_770 rfl (lv_at hl 2 rfl) ?_
    refine lv_iload hx hb dL_law_771 (lv_at hl 0 rfl) ?_
    refine lv_iload hx hb dL_law_773 (lv_at hl 14 rfl) ?_
    refine m_run (vx_runSW (As := [.ref x, .int (iI 0), .int (iI pt)]) (rest := []) ⟨hx, hb, hml, hown, hts⟩ (k_L_turns (l := l) hfl hC hV (cv := 0) (n := pt) (by omega) ⟨by omega, by omega⟩) (vx_cwSW 3 hts gL_law_L_turns rfl rfl rfl (by decide +kernel) ⟨by decide, by decide⟩) ⟨Kp.blind _ _ _ _ _, fun U hU hW => hK.pass hB U hU hW⟩ rfl rfl hl.1 rfl (lv_room (Nat.le_of_ble_eq_true rfl)) dL_law_775 ⟨(by show cells + 0 + 10 ≤ 758523; omega), (by show slots + 0 + 60 ≤ 6826128; omega)⟩) hB (fun v u H locs hp hB => ?_)
    rcases hp with ⟨r, rfl, hr, hC, hFm⟩ | ⟨r, σ2, rfl, ⟨hV, i1, i6, i9, i10, i11, i7, hr, i2, i3⟩, ⟨xp, xr, pa, ra, hC⟩, hFm⟩
    · have hk := hFm.I hk
      show W _ _ _ _ _ _ _ _ _ _ _ _ _ _ _ (F0 m 778 ls [.int (iI r)])
      refine lv_istore (lv' := [(18, .int (iI r)), (17, .int (iI 0)), (0, .ref b), (1, .ref x), (2, .ref ka), (3, .int (iI (ni : Int))), (4, .int (iI rem)), (5, .int (iI st)), (6, .int (iI 1)), (7, .int (iI tn)), (8, .int (iI (tu : Int))), (9, .int (iI x9)), (10, .int (iI (yn : Int))), (11, .int (iI (dn : Int))), (12, .int (iI (σ 9 0))), (13, .int (iI pt)), (14, .int (iI ot)), (15, .int (iI (rn : Int))), (16, .int (iI (nTb σ)))]) hx hb dL_law_778 hl (by decide) rfl (fun ls hl => ?_)
      refine lv_iload hx hb dL_law_780 (lv_at hl 0 rfl) ?_
      refine j_if_lt (tgt := 834) hx hb dL_law_782 (by decide) ⟨by omega, by omega⟩ (fun c_4 => ?_) (fun c_4 => False.elim (by omega))
      refine j_iconst hx hb dL_law_834 ?_
      refine lv_goto (tgt := 839) hx hb dL_law_835 (by decide) ?_
      refine lv_istore (lv' := [(6, .int (iI 1)), (18, .int (iI r)), (17, .int (iI 0)), (0, .ref b), (1, .ref x), (2, .ref ka), (3, .int (iI (ni : Int))), (4, .int (iI rem)), (5, .int (iI st)), (7, .int (iI tn)), (8, .int (iI (tu : Int))), (9, .int (iI x9)), (10, .int (iI (yn : Int))), (11, .int (iI (dn : Int))), (12, .int (iI (σ 9 0))), (13, .int (iI pt)), (14, .int (iI ot)), (15, .int (iI (rn : Int))), (16, .int (iI (nTb σ)))]) hx hb dL_law_839 hl (by decide) rfl (fun ls hl => ?_)
      refine lv_iload hx hb dL_law_841 (lv_at hl 8 rfl) ?_
      refine j_if_ne (tgt := 851) hx hb dL_law_843 (by decide) ⟨by omega, by omega⟩ (fun c_5 => ?_) (fun c_5 => ?_)
      · refine j_iconst hx hb dL_law_851 ?_
        refine lv_goto (tgt := 856) hx hb dL_law_852 (by decide) ?_
        refine lv_istore (lv' := [(5, .int (iI 1)), (6, .int (iI 1)), (18, .int (iI r)), (17, .int (iI 0)), (0, .ref b), (1, .ref x), (2, .ref ka), (3, .int (iI (ni : Int))), (4, .int (iI rem)), (7, .int (iI tn)), (8, .int (iI (tu : Int))), (9, .int (iI x9)), (10, .int (iI (yn : Int))), (11, .int (iI (dn : Int))), (12, .int (iI (σ 9 0))), (13, .int (iI pt)), (14, .int (iI ot)), (15, .int (iI (rn : Int))), (16, .int (iI (nTb σ)))]) hx hb dL_law_856 hl (by decide) rfl (fun ls hl => ?_)
        refine lv_goto (tgt := 1129) hx hb dL_law_858 (by decide) ?_
        refine W.widen (k := cells + 60) (n := slots + 400) (by show cells + 10 ≤ cells + 60; omega) (by show slots + 60 ≤ slots + 400; omega) ?_
        exact kk σ ni rem 1 _ _ _ _ ⟨hV, hC.x, ⟨_, hk, hkf⟩, by omega, by omega, by omega, by omega⟩ hB (lv_sub hl [4, 5, 6, 7, 8, 0, 1, 9, 10, 12] rfl)
      · refine lv_iload hx hb dL_law_846 (lv_at hl 1 rfl) ?_
        refine j_if_lt (tgt := 855) hx hb dL_law_848 (by decide) ⟨by omega, by omega⟩ (fun c_6 => ?_) (fun c_6 => False.elim (by omega))
        refine j_iconst hx hb dL_law_855 ?_
        refine lv_istore (lv' := [(5, .int (iI 0)), (6, .int (iI 1)), (18, .int (iI r)), (17, .int (iI 0)), (0, .ref b), (1, .ref x), (2, .ref ka), (3, .int (iI (ni : Int))), (4, .int (iI rem)), (7, .int (iI tn)), (8, .int (iI (tu : Int))), (9, .int (iI x9)), (10, .int (iI (yn : Int))), (11, .int (iI (dn : Int))), (12, .int (iI (σ 9 0))), (13, .int (iI pt)), (14, .int (iI ot)), (15, .int (iI (rn : Int))), (16, .int (iI (nTb σ)))]) hx hb dL_law_856 hl (by decide) rfl (fun ls hl => ?_)
        refine lv_goto (tgt := 1129) hx hb dL_law_858 (by decide) ?_
        refine W.widen (k := cells + 60) (n := slots + 400) (by show cells + 10 ≤ cells + 60; omega) (by show slots + 60 ≤ slots + 400; omega) ?_
        exact kk σ ni rem 0 _ _ _ _ ⟨hV, hC.x, ⟨_, hk, hkf⟩, by omega, by omega, by omega, by omega⟩ hB (lv_sub hl [4, 5, 6, 7, 8, 0, 1, 9, 10, 12] rfl)
    · have hk := hFm.I hk
      have hkf := i6.kf hkf
      have i4 := i2 rfl
      have hI := hV.ib
      have hnp := hI.hnp
      have hnpI := hI.npI
      have htb2 := nTb_rg hI
      have hst2 := hI.2.2.1
      show W _ _ _ _ _ _ _ _ _ _ _ _ _ _ _ (F0 m 778 ls [.int (iI r)])
      refine lv_istore (lv' := [(18, .int (iI r)), (17, .int (iI 0)), (0, .ref b), (1, .ref x), (2, .ref ka), (3, .int (iI (ni : Int))), (4, .int (iI rem)), (5, .int (iI st)), (6, .int (iI 1)), (7, .int (iI tn)), (8, .int (iI (tu : Int))), (9, .int (iI x9)), (10, .int (iI (yn : Int))), (11, .int (iI (dn : Int))), (12, .int (iI (σ 9 0))), (13, .int (iI pt)), (14, .int (iI ot)), (15, .int (iI (rn : Int))), (16, .int (iI (nTb σ)))]) hx hb dL_law_778 hl (by decide) rfl (fun ls hl => ?_)
      refine lv_iload hx hb dL_law_780 (lv_at hl 0 rfl) ?_
      refine j_if_lt (tgt := 834) hx hb dL_law_782 (by decide) ⟨by omega, by omega⟩ (fun c_7 => False.elim (by omega)) (fun c_7 => ?_)
      refine lv_aload_n hx hb dL_law_785 rfl (lv_at hl 3 rfl) ?_
      refine m_run (va_runV (As := []) (rest := []) ⟨hx, hb, hml, hown, hts⟩ (k_X3_isStale (l := l) hC hI) (cwV 0 hts gL_law_X3_isStale rfl rfl rfl (by decide +kernel) ⟨by decide, by decide⟩) ⟨Kp.blind _ _ _ _ _, m_recv hK hB (ci := 3) rfl hC.tb, fun U hU hW => hK.pass hB U hU hW⟩ rfl rfl hl.1 rfl (lv_room (Nat.le_of_ble_eq_true rfl)) dL_law_786 ⟨(by show cells + 10 + 0 ≤ 758523; omega), (by show slots + 60 + 0 ≤ 6826128; omega)⟩) hB (fun v u H locs hp hB => ?_)
      obtain ⟨rfl, hC, hFm⟩ := hp
      have hk := hFm.I hk
      show W _ _ _ _ _ _ _ _ _ _ _ _ _ _ _ (F0 m 789 ls [.int (iI (σ2 11 0))])
      refine j_if_eq (tgt := 838) hx hb dL_law_789 (by decide) ⟨by omega, by omega⟩ (fun c_8 => False.elim (by omega)) (fun c_8 => ?_)
      refine lv_aload_n hx hb dL_law_792 rfl (lv_at hl 3 rfl) ?_
      refine m_run (va_runV (As := []) (rest := []) ⟨hx, hb, hml, hown, hts⟩ (k_X3_rows (l := l) hC hI) (cwV 0 hts gL_law_X3_rows rfl rfl rfl (by decide +kernel) ⟨by decide, by decide⟩) ⟨Kp.blind _ _ _ _ _, m_recv hK hB (ci := 3) rfl hC.tb, fun U hU hW => hK.pass hB U hU hW⟩ rfl rfl hl.1 rfl (lv_room (Nat.le_of_ble_eq_true rfl)) dL_law_793 ⟨(by show cells + 10 + 0 ≤ 758523; omega), (by show slots + 60 + 0 ≤ 6826128; omega)⟩) hB (fun v u H locs hp hB => ?_)
      obtain ⟨rfl, hC, hFm⟩ := hp
      have hk := hFm.I hk
      show W _ _ _ _ _ _ _ _ _ _ _ _ _ _ _ (F0 m 796 ls [.int (iI (nTb σ2))])
      refine lv_iload hx hb dL_law_796 (lv_at hl 18 rfl) ?_
      refine lv_iload hx hb dL_law_798 (lv_at hl 1 rfl) ?_
      refine j_if_eq (tgt := 808) hx hb dL_law_800 (by decide) ⟨by decide, by decide⟩ (fun c_9 => ?_) (fun c_9 => False.elim (by omega))
      refine lv_iload hx hb dL_law_808 (lv_at hl 0 rfl) ?_
      refine j_ineg hx hb dL_law_810 ?_
      refine j_iadd hx hb dL_law_811 ?_
      refine j_icmp_ne (tgt := 838) hx hb dL_law_812 (by decide) ⟨by omega, by omega⟩ ⟨by omega, by omega⟩ (fun c_10 => False.elim (by omega)) (fun c_10 => ?_)
      refine lv_aload_n hx hb dL_law_815 rfl (lv_at hl 3 rfl) ?_
      refine lv_iload hx hb dL_law_816 (lv_at hl 15 rfl) ?_
      refine m_runX (vx_runV (As := [.int (iI pt)]) (rest := []) ⟨hx, hb, hml, hown, hts⟩ (k_X3_stateOf (l := l) hfl hC hI (n := pt) ⟨by omega, by omega⟩) (cwV 1 hts gL_law_X3_stateOf rfl rfl rfl (by decide +kernel) ⟨by decide, by decide⟩) ⟨Kp.blind _ _ _ _ _, m_recv hK hB (ci := 3) rfl hC.tb, fun U hU hW => hK.pass hB U hU hW⟩ rfl rfl hl.1 rfl (lv_room (Nat.le_of_ble_eq_true rfl)) dL_law_818 ⟨(by show cells + 10 + 1 ≤ 758523; omega), (by show slots + 60 + 6 ≤ 6826128; omega)⟩) hB (fun E u H locs q9 ce hp hB hc9 hv9 hk9 => absurd ⟨by omega, by omega⟩ hp.1.2) (fun v u H locs hp hB => ?_)
      obtain ⟨⟨-, rfl⟩, hC, hFm⟩ := hp
      have hk := hFm.I hk
      show W _ _ _ _ _ _ _ _ _ _ _ _ _ _ _ (F0 m 821 ls [.int (iI (σ2 4 pt.toNat))])
      refine lv_iload hx hb dL_law_821 (lv_at hl 1 rfl) ?_
      refine j_if_eq (tgt := 830) hx hb dL_law_823 (by decide) ⟨by decide, by decide⟩ (fun c_11 => ?_) (fun c_11 => False.elim (by omega))
      refine j_iconst hx hb dL_law_830 ?_
      refine j_icmp_ne (tgt := 838) hx hb dL_law_831 (by decide) ⟨by omega, by omega⟩ ⟨by decide, by decide⟩ (fun c_12 => False.elim (by omega)) (fun c_12 => ?_)
      refine j_iconst hx hb dL_law_834 ?_
      refine lv_goto (tgt := 839) hx hb dL_law_835 (by decide) ?_
      refine lv_istore (lv' := [(6, .int (iI 1)), (18, .int (iI r)), (17, .int (iI 0)), (0, .ref b), (1, .ref x), (2, .ref ka), (3, .int (iI (ni : Int))), (4, .int (iI rem)), (5, .int (iI st)), (7, .int (iI tn)), (8, .int (iI (tu : Int))), (9, .int (iI x9)), (10, .int (iI (yn : Int))), (11, .int (iI (dn : Int))), (12, .int (iI (σ 9 0))), (13, .int (iI pt)), (14, .int (iI ot)), (15, .int (iI (rn : Int))), (16, .int (iI (nTb σ)))]) hx hb dL_law_839 hl (by decide) rfl (fun ls hl => ?_)
      refine lv_iload hx hb dL_law_841 (lv_at hl 8 rfl) ?_
      refine j_if_ne (tgt := 851) hx hb dL_law_843 (by decide) ⟨by omega, by omega⟩ (fun c_13 => ?_) (fun c_13 => ?_)
      · refine j_iconst hx hb dL_law_851 ?_
        refine lv_goto (tgt := 856) hx hb dL_law_852 (by decide) ?_
        refine lv_istore (lv' := [(5, .int (iI 1)), (6, .int (iI 1)), (18, .int (iI r)), (17, .int (iI 0)), (0, .ref b), (1, .ref x), (2, .ref ka), (3, .int (iI (ni : Int))), (4, .int (iI rem)), (7, .int (iI tn)), (8, .int (iI (tu : Int))), (9, .int (iI x9)), (10, .int (iI (yn : Int))), (11, .int (iI (dn : Int))), (12, .int (iI (σ 9 0))), (13, .int (iI pt)), (14, .int (iI ot)), (15, .int (iI (rn : Int))), (16, .int (iI (nTb σ)))]) hx hb dL_law_856 hl (by decide) rfl (fun ls hl => ?_)
        refine lv_goto (tgt := 1129) hx hb dL_law_858 (by decide) ?_
        refine W.widen (k := cells + 60) (n := slots + 400) (by show cells + 11 ≤ cells + 60; omega) (by show slots + 66 ≤ slots + 400; omega) ?_
        exact kk σ2 ni rem 1 _ _ _ _ ⟨hV, hC.x, ⟨_, hk, hkf⟩, by omega, by omega, by omega, by omega⟩ hB (lv_sub hl [4, 5, 6, 7, 8, 0, 1, 9, 10, 12] rfl)
      · refine lv_iload hx hb dL_law_846 (lv_at hl 1 rfl) ?_
        refine j_if_lt (tgt := 855) hx hb dL_law_848 (by decide) ⟨by omega, by omega⟩ (fun c_14 => False.elim (by omega)) (fun c_14 => ?_)
        refine j_iconst hx hb dL_law_851 ?_
        refine lv_goto (tgt := 856) hx hb dL_law_852 (by decide) ?_
        refine lv_istore (lv' := [(5, .int (iI 1)), (6, .int (iI 1)), (18, .int (iI r)), (17, .int (iI 0)), (0, .ref b), (1, .ref x), (2, .ref ka), (3, .int (iI (ni : Int))), (4, .int (iI rem)), (7, .int (iI tn)), (8, .int (iI (tu : Int))), (9, .int (iI x9)), (10, .int (iI (yn : Int))), (11, .int (iI (dn : Int))), (12, .int (iI (σ 9 0))), (13, .int (iI pt)), (14, .int (iI ot)), (15, .int (iI (rn : Int))), (16, .int (iI (nTb σ)))]) hx hb dL_law_856 hl (by decide) rfl (fun ls hl => ?_)
        refine lv_goto (tgt := 1129) hx hb dL_law_858 (by decide) ?_
        refine W.widen (k := cells + 60) (n := slots + 400) (by show cells + 11 ≤ cells + 60; omega) (by show slots + 66 ≤ slots + 400; omega) ?_
        exact kk σ2 ni rem 1 _ _ _ _ ⟨hV, hC.x, ⟨_, hk, hkf⟩, by omega, by omega, by omega, by omega⟩ hB (lv_sub hl [4, 5, 6, 7, 8, 0, 1, 9, 10, 12] rfl)
  · refine j_iconst hx hb dL_law_763 ?_
    refine lv_goto (tgt := 768) hx hb dL_law_764 (by decide) ?_
    refine lv_istore (lv' := [(17, .int (iI 1)), (0, .ref b), (1, .ref x), (2, .ref ka), (3, .int (iI (ni : Int))), (4, .int (iI rem)), (5, .int (iI st)), (6, .int (iI 1)), (7, .int (iI tn)), (8, .int (iI (tu : Int))), (9, .int (iI x9)), (10, .int (iI (yn : Int))), (11, .int (iI (dn : Int))), (12, .int (iI (σ 9 0))), (13, .int (iI pt)), (14, .int (iI ot)), (15, .int (iI (rn : Int))), (16, .int (iI (nTb σ)))]) hx hb dL_law_768 hl (by decide) rfl (fun ls hl => ?_)
    refine lv_aload_n hx hb dL_law_770 rfl (lv_at hl 2 rfl) ?_
    refine lv_iload hx hb dL_law_771 (lv_at hl 0 rfl) ?_
    refine lv_iload hx hb dL_law_773 (lv_at hl 14 rfl) ?_
    refine m_run (vx_runSW (As := [.ref x, .int (iI 1), .int (iI pt)]) (rest := []) ⟨hx, hb, hml, hown, hts⟩ (k_L_turns (l := l) hfl hC hV (cv := 1) (n := pt) (by omega) ⟨by omega, by omega⟩) (vx_cwSW 3 hts gL_law_L_turns rfl rfl rfl (by decide +kernel) ⟨by decide, by decide⟩) ⟨Kp.blind _ _ _ _ _, fun U hU hW => hK.pass hB U hU hW⟩ rfl rfl hl.1 rfl (lv_room (Nat.le_of_ble_eq_true rfl)) dL_law_775 ⟨(by show cells + 0 + 10 ≤ 758523; omega), (by show slots + 0 + 60 ≤ 6826128; omega)⟩) hB (fun v u H locs hp hB => ?_)
    rcases hp with ⟨r, rfl, hr, hC, hFm⟩ | ⟨r, σ2, rfl, ⟨hV, i1, i6, i9, i10, i11, i7, hr, i2, i3⟩, ⟨xp, xr, pa, ra, hC⟩, hFm⟩
    · have hk := hFm.I hk
      show W _ _ _ _ _ _ _ _ _ _ _ _ _ _ _ (F0 m 778 ls [.int (iI r)])
      refine lv_istore (lv' := [(18, .int (iI r)), (17, .int (iI 1)), (0, .ref b), (1, .ref x), (2, .ref ka), (3, .int (iI (ni : Int))), (4, .int (iI rem)), (5, .int (iI st)), (6, .int (iI 1)), (7, .int (iI tn)), (8, .int (iI (tu : Int))), (9, .int (iI x9)), (10, .int (iI (yn : Int))), (11, .int (iI (dn : Int))), (12, .int (iI (σ 9 0))), (13, .int (iI pt)), (14, .int (iI ot)), (15, .int (iI (rn : Int))), (16, .int (iI (nTb σ)))]) hx hb dL_law_778 hl (by decide) rfl (fun ls hl => ?_)
      refine lv_iload hx hb dL_law_780 (lv_at hl 0 rfl) ?_
      refine j_if_lt (tgt := 834) hx hb dL_law_782 (by decide) ⟨by omega, by omega⟩ (fun c_15 => ?_) (fun c_15 => False.elim (by omega))
      refine j_iconst hx hb dL_law_834 ?_
      refine lv_goto (tgt := 839) hx hb dL_law_835 (by decide) ?_
      refine lv_istore (lv' := [(6, .int (iI 1)), (18, .int (iI r)), (17, .int (iI 1)), (0, .ref b), (1, .ref x), (2, .ref ka), (3, .int (iI (ni : Int))), (4, .int (iI rem)), (5, .int (iI st)), (7, .int (iI tn)), (8, .int (iI (tu : Int))), (9, .int (iI x9)), (10, .int (iI (yn : Int))), (11, .int (iI (dn : Int))), (12, .int (iI (σ 9 0))), (13, .int (iI pt)), (14, .int (iI ot)), (15, .int (iI (rn : Int))), (16, .int (iI (nTb σ)))]) hx hb dL_law_839 hl (by decide) rfl (fun ls hl => ?_)
      refine lv_iload hx hb dL_law_841 (lv_at hl 8 rfl) ?_
      refine j_if_ne (tgt := 851) hx hb dL_law_843 (by decide) ⟨by omega, by omega⟩ (fun c_16 => ?_) (fun c_16 => ?_)
      · refine j_iconst hx hb dL_law_851 ?_
        refine lv_goto (tgt := 856) hx hb dL_law_852 (by decide) ?_
        refine lv_istore (lv' := [(5, .int (iI 1)), (6, .int (iI 1)), (18, .int (iI r)), (17, .int (iI 1)), (0, .ref b), (1, .ref x), (2, .ref ka), (3, .int (iI (ni : Int))), (4, .int (iI rem)), (7, .int (iI tn)), (8, .int (iI (tu : Int))), (9, .int (iI x9)), (10, .int (iI (yn : Int))), (11, .int (iI (dn : Int))), (12, .int (iI (σ 9 0))), (13, .int (iI pt)), (14, .int (iI ot)), (15, .int (iI (rn : Int))), (16, .int (iI (nTb σ)))]) hx hb dL_law_856 hl (by decide) rfl (fun ls hl => ?_)
        refine lv_goto (tgt := 1129) hx hb dL_law_858 (by decide) ?_
        refine W.widen (k := cells + 60) (n := slots + 400) (by show cells + 10 ≤ cells + 60; omega) (by show slots + 60 ≤ slots + 400; omega) ?_
        exact kk σ ni rem 1 _ _ _ _ ⟨hV, hC.x, ⟨_, hk, hkf⟩, by omega, by omega, by omega, by omega⟩ hB (lv_sub hl [4, 5, 6, 7, 8, 0, 1, 9, 10, 12] rfl)
      · refine lv_iload hx hb dL_law_846 (lv_at hl 1 rfl) ?_
        refine j_if_lt (tgt := 855) hx hb dL_law_848 (by decide) ⟨by omega, by omega⟩ (fun c_17 => ?_) (fun c_17 => False.elim (by omega))
        refine j_iconst hx hb dL_law_855 ?_
        refine lv_istore (lv' := [(5, .int (iI 0)), (6, .int (iI 1)), (18, .int (iI r)), (17, .int (iI 1)), (0, .ref b), (1, .ref x), (2, .ref ka), (3, .int (iI (ni : Int))), (4, .int (iI rem)), (7, .int (iI tn)), (8, .int (iI (tu : Int))), (9, .int (iI x9)), (10, .int (iI (yn : Int))), (11, .int (iI (dn : Int))), (12, .int (iI (σ 9 0))), (13, .int (iI pt)), (14, .int (iI ot)), (15, .int (iI (rn : Int))), (16, .int (iI (nTb σ)))]) hx hb dL_law_856 hl (by decide) rfl (fun ls hl => ?_)
        refine lv_goto (tgt := 1129) hx hb dL_law_858 (by decide) ?_
        refine W.widen (k := cells + 60) (n := slots + 400) (by show cells + 10 ≤ cells + 60; omega) (by show slots + 60 ≤ slots + 400; omega) ?_
        exact kk σ ni rem 0 _ _ _ _ ⟨hV, hC.x, ⟨_, hk, hkf⟩, by omega, by omega, by omega, by omega⟩ hB (lv_sub hl [4, 5, 6, 7, 8, 0, 1, 9, 10, 12] rfl)
    · have hk := hFm.I hk
      have hkf := i6.kf hkf
      have i4 := i3 (by decide)
      have hI := hV.ib
      have hnp := hI.hnp
      have hnpI := hI.npI
      have htb2 := nTb_rg hI
      have hst2 := hI.2.2.1
      show W _ _ _ _ _ _ _ _ _ _ _ _ _ _ _ (F0 m 778 ls [.int (iI r)])
      refine lv_istore (lv' := [(18, .int (iI r)), (17, .int (iI 1)), (0, .ref b), (1, .ref x), (2, .ref ka), (3, .int (iI (ni : Int))), (4, .int (iI rem)), (5, .int (iI st)), (6, .int (iI 1)), (7, .int (iI tn)), (8, .int (iI (tu : Int))), (9, .int (iI x9)), (10, .int (iI (yn : Int))), (11, .int (iI (dn : Int))), (12, .int (iI (σ 9 0))), (13, .int (iI pt)), (14, .int (iI ot)), (15, .int (iI (rn : Int))), (16, .int (iI (nTb σ)))]) hx hb dL_law_778 hl (by decide) rfl (fun ls hl => ?_)
      refine lv_iload hx hb dL_law_780 (lv_at hl 0 rfl) ?_
      refine j_if_lt (tgt := 834) hx hb dL_law_782 (by decide) ⟨by omega, by omega⟩ (fun c_18 => False.elim (by omega)) (fun c_18 => ?_)
      refine lv_aload_n hx hb dL_law_785 rfl (lv_at hl 3 rfl) ?_
      refine m_run (va_runV (As := []) (rest := []) ⟨hx, hb, hml, hown, hts⟩ (k_X3_isStale (l := l) hC hI) (cwV 0 hts gL_law_X3_isStale rfl rfl rfl (by decide +kernel) ⟨by decide, by decide⟩) ⟨Kp.blind _ _ _ _ _, m_recv hK hB (ci := 3) rfl hC.tb, fun U hU hW => hK.pass hB U hU hW⟩ rfl rfl hl.1 rfl (lv_room (Nat.le_of_ble_eq_true rfl)) dL_law_786 ⟨(by show cells + 10 + 0 ≤ 758523; omega), (by show slots + 60 + 0 ≤ 6826128; omega)⟩) hB (fun v u H locs hp hB => ?_)
      obtain ⟨rfl, hC, hFm⟩ := hp
      have hk := hFm.I hk
      show W _ _ _ _ _ _ _ _ _ _ _ _ _ _ _ (F0 m 789 ls [.int (iI (σ2 11 0))])
      refine j_if_eq (tgt := 838) hx hb dL_law_789 (by decide) ⟨by omega, by omega⟩ (fun c_19 => False.elim (by omega)) (fun c_19 => ?_)
      refine lv_aload_n hx hb dL_law_792 rfl (lv_at hl 3 rfl) ?_
      refine m_run (va_runV (As := []) (rest := []) ⟨hx, hb, hml, hown, hts⟩ (k_X3_rows (l := l) hC hI) (cwV 0 hts gL_law_X3_rows rfl rfl rfl (by decide +kernel) ⟨by decide, by decide⟩) ⟨Kp.blind _ _ _ _ _, m_recv hK hB (ci := 3) rfl hC.tb, fun U hU hW => hK.pass hB U hU hW⟩ rfl rfl hl.1 rfl (lv_room (Nat.le_of_ble_eq_true rfl)) dL_law_793 ⟨(by show cells + 10 + 0 ≤ 758523; omega), (by show slots + 60 + 0 ≤ 6826128; omega)⟩) hB (fun v u H locs hp hB => ?_)
      obtain ⟨rfl, hC, hFm⟩ := hp
      have hk := hFm.I hk
      show W _ _ _ _ _ _ _ _ _ _ _ _ _ _ _ (F0 m 796 ls [.int (iI (nTb σ2))])
      refine lv_iload hx hb dL_law_796 (lv_at hl 18 rfl) ?_
      refine lv_iload hx hb dL_law_798 (lv_at hl 1 rfl) ?_
      refine j_if_eq (tgt := 808) hx hb dL_law_800 (by decide) ⟨by decide, by decide⟩ (fun c_20 => False.elim (by omega)) (fun c_20 => ?_)
      refine lv_iload hx hb dL_law_803 (lv_at hl 0 rfl) ?_
      refine lv_goto (tgt := 811) hx hb dL_law_805 (by decide) ?_
      refine j_iadd hx hb dL_law_811 ?_
      refine j_icmp_ne (tgt := 838) hx hb dL_law_812 (by decide) ⟨by omega, by omega⟩ ⟨by omega, by omega⟩ (fun c_21 => False.elim (by omega)) (fun c_21 => ?_)
      refine lv_aload_n hx hb dL_law_815 rfl (lv_at hl 3 rfl) ?_
      refine lv_iload hx hb dL_law_816 (lv_at hl 15 rfl) ?_
      refine m_runX (vx_runV (As := [.int (iI pt)]) (rest := []) ⟨hx, hb, hml, hown, hts⟩ (k_X3_stateOf (l := l) hfl hC hI (n := pt) ⟨by omega, by omega⟩) (cwV 1 hts gL_law_X3_stateOf rfl rfl rfl (by decide +kernel) ⟨by decide, by decide⟩) ⟨Kp.blind _ _ _ _ _, m_recv hK hB (ci := 3) rfl hC.tb, fun U hU hW => hK.pass hB U hU hW⟩ rfl rfl hl.1 rfl (lv_room (Nat.le_of_ble_eq_true rfl)) dL_law_818 ⟨(by show cells + 10 + 1 ≤ 758523; omega), (by show slots + 60 + 6 ≤ 6826128; omega)⟩) hB (fun E u H locs q9 ce hp hB hc9 hv9 hk9 => absurd ⟨by omega, by omega⟩ hp.1.2) (fun v u H locs hp hB => ?_)
      obtain ⟨⟨-, rfl⟩, hC, hFm⟩ := hp
      have hk := hFm.I hk
      show W _ _ _ _ _ _ _ _ _ _ _ _ _ _ _ (F0 m 821 ls [.int (iI (σ2 4 pt.toNat))])
      refine lv_iload hx hb dL_law_821 (lv_at hl 1 rfl) ?_
      refine j_if_eq (tgt := 830) hx hb dL_law_823 (by decide) ⟨by decide, by decide⟩ (fun c_22 => False.elim (by omega)) (fun c_22 => ?_)
      refine j_iconst hx hb dL_law_826 ?_
      refine lv_goto (tgt := 831) hx hb dL_law_827 (by decide) ?_
      refine j_icmp_ne (tgt := 838) hx hb dL_law_831 (by decide) ⟨by omega, by omega⟩ ⟨by decide, by decide⟩ (fun c_23 => False.elim (by omega)) (fun c_23 => ?_)
      refine j_iconst hx hb dL_law_834 ?_
      refine lv_goto (tgt := 839) hx hb dL_law_835 (by decide) ?_
      refine lv_istore (lv' := [(6, .int (iI 1)), (18, .int (iI r)), (17, .int (iI 1)), (0, .ref b), (1, .ref x), (2, .ref ka), (3, .int (iI (ni : Int))), (4, .int (iI rem)), (5, .int (iI st)), (7, .int (iI tn)), (8, .int (iI (tu : Int))), (9, .int (iI x9)), (10, .int (iI (yn : Int))), (11, .int (iI (dn : Int))), (12, .int (iI (σ 9 0))), (13, .int (iI pt)), (14, .int (iI ot)), (15, .int (iI (rn : Int))), (16, .int (iI (nTb σ)))]) hx hb dL_law_839 hl (by decide) rfl (fun ls hl => ?_)
      refine lv_iload hx hb dL_law_841 (lv_at hl 8 rfl) ?_
      refine j_if_ne (tgt := 851) hx hb dL_law_843 (by decide) ⟨by omega, by omega⟩ (fun c_24 => ?_) (fun c_24 => ?_)
      · refine j_iconst hx hb dL_law_851 ?_
        refine lv_goto (tgt := 856) hx hb dL_law_852 (by decide) ?_
        refine lv_istore (lv' := [(5, .int (iI 1)), (6, .int (iI 1)), (18, .int (iI r)), (17, .int (iI 1)), (0, .ref b), (1, .ref x), (2, .ref ka), (3, .int (iI (ni : Int))), (4, .int (iI rem)), (7, .int (iI tn)), (8, .int (iI (tu : Int))), (9, .int (iI x9)), (10, .int (iI (yn : Int))), (11, .int (iI (dn : Int))), (12, .int (iI (σ 9 0))), (13, .int (iI pt)), (14, .int (iI ot)), (15, .int (iI (rn : Int))), (16, .int (iI (nTb σ)))]) hx hb dL_law_856 hl (by decide) rfl (fun ls hl => ?_)
        refine lv_goto (tgt := 1129) hx hb dL_law_858 (by decide) ?_
        refine W.widen (k := cells + 60) (n := slots + 400) (by show cells + 11 ≤ cells + 60; omega) (by show slots + 66 ≤ slots + 400; omega) ?_
        exact kk σ2 ni rem 1 _ _ _ _ ⟨hV, hC.x, ⟨_, hk, hkf⟩, by omega, by omega, by omega, by omega⟩ hB (lv_sub hl [4, 5, 6, 7, 8, 0, 1, 9, 10, 12] rfl)
      · refine lv_iload hx hb dL_law_846 (lv_at hl 1 rfl) ?_
        refine j_if_lt (tgt := 855) hx hb dL_law_848 (by decide) ⟨by omega, by omega⟩ (fun c_25 => False.elim (by omega)) (fun c_25 => ?_)
        refine j_iconst hx hb dL_law_851 ?_
        refine lv_goto (tgt := 856) hx hb dL_law_852 (by decide) ?_
        refine lv_istore (lv' := [(5, .int (iI 1)), (6, .int (iI 1)), (18, .int (iI r)), (17, .int (iI 1)), (0, .ref b), (1, .ref x), (2, .ref ka), (3, .int (iI (ni : Int))), (4, .int (iI rem)), (7, .int (iI tn)), (8, .int (iI (tu : Int))), (9, .int (iI x9)), (10, .int (iI (yn : Int))), (11, .int (iI (dn : Int))), (12, .int (iI (σ 9 0))), (13, .int (iI pt)), (14, .int (iI ot)), (15, .int (iI (rn : Int))), (16, .int (iI (nTb σ)))]) hx hb dL_law_856 hl (by decide) rfl (fun ls hl => ?_)
        refine lv_goto (tgt := 1129) hx hb dL_law_858 (by decide) ?_
        refine W.widen (k := cells + 60) (n := slots + 400) (by show cells + 11 ≤ cells + 60; omega) (by show slots + 66 ≤ slots + 400; omega) ?_
        exact kk σ2 ni rem 1 _ _ _ _ ⟨hV, hC.x, ⟨_, hk, hkf⟩, by omega, by omega, by omega, by omega⟩ hB (lv_sub hl [4, 5, 6, 7, 8, 0, 1, 9, 10, 12] rfl)

