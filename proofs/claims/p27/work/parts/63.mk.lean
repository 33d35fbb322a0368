set_option maxHeartbeats 4000000 in
set_option maxRecDepth 100000 in
theorem ld_mk {l : Launch} (hfl : l.stackTraces = false) {D : va_G} {cI cP cR cJ : ClassId} {p : Program} {e : Env} {s : State} {m : MethodId} {below : List Frame} {meth : Method} {c : Code} {b L : Nat} {xs : Nat → Int32} (hL : L ≤ 260) (hx : p.tables.exec = Jvm.exec) (hb : c.code = cL_law) (hml : c.maxLocals = 20) (hown : s.vm.findClass RL = some m.cls) (hts : ∀ w ∈ wsL_law, w.before #[Value.ref b] s = true) (hX : va_X b L xs s s.heap) (hbl : b < s.heap.size) (hK : Kb D s.heap.size (tyL cI cP cR cJ) s) {x ka tu ni yn : Nat} {rem st tn : Int} {rn dn : Nat} {x9 pt ot : Int} {σ : Sg} {h0 : Hp} {H : Heap} {locs : List Loc} (hS : LwP cI cP cR x ka σ ni rem st h0) (hB : Bk D s.heap.size s.heap h0 H locs) (fy : yn ≤ 268435455) (ft : tu ≤ 240) (ftn : 0 ≤ tn ∧ tn ≤ 240) (fp : 0 ≤ pt ∧ pt ≤ σ 9 0 + 1) (fo : 0 ≤ ot ∧ ot ≤ σ 9 0 + 1) (fr : rn ≤ ni)  {cells slots : Nat} (hc : cells + 60 ≤ 758523) (hs : slots + 400 ≤ 6826128) {Q : State → Prop} {ls : Array Slot} (hl : lv_has ls 20 [(0, .ref b), (1, .ref x), (2, .ref ka), (3, .int (iI (ni : Int))), (4, .int (iI rem)), (5, .int (iI st)), (6, .int (iI 1)), (7, .int (iI tn)), (8, .int (iI (tu : Int))), (9, .int (iI x9)), (10, .int (iI (yn : Int))), (11, .int (iI (dn : Int))), (12, .int (iI (σ 9 0))), (13, .int (iI pt)), (14, .int (iI ot)), (15, .int (iI (rn : Int))), (16, .int (iI (nTb σ)))]) (kk : ∀ (σ2 : Sg) (n2 : Nat) (r2 s2 : Int) (h2 : Hp) (H2 : Heap) (locs2 : List Loc) (ls2 : Array Slot), LwP cI cP cR x ka σ2 n2 r2 s2 h2 → Bk D s.heap.size s.heap h2 H2 locs2 → lv_has ls2 20 [(0, .ref b), (1, .ref x), (2, .ref ka), (3, .int (iI (n2 : Int))), (4, .int (iI r2)), (5, .int (iI s2)), (6, .int (iI 1)), (7, .int (iI tn)), (8, .int (iI (tu : Int))), (10, .int (iI (yn : Int)))] → W p l e room_1 s m #[Value.ref b] below meth c H2 locs2 (cells + 60) (slots + 400) Q (F0 m 1129 ls2 [])) : W p l e room_1 s m #[Value.ref b] below meth c H locs cells slots Q (F0 m 302 ls []) := by
  obtain ⟨hV, ⟨xp, xr, pa, ra, hC⟩, ⟨f, hk, hkf⟩, hni, hn64, hlv, hst⟩ := hS
  have hI := hV.ib
  have hnp := hI.hnp
  have hnpI := hI.npI
  have hnl := nLv_rg hI
  have htb := nTb_rg hI
  have hst1 := hI.2.2.1
  refine j_bipush hx hb dL_law_302 (by decide) ?_
  refine lv_iload hx hb dL_law_304 (lv_at hl 10 rfl) ?_
  refine j_iconst hx hb dL_law_306 ?_
  refine j_shrT (n := 3) hx hb ⟨by omega, by omega⟩ (by decide) dL_law_307 (fun w_1 hw_1 kw_1 => ?_)
  refine j_bipush hx hb dL_law_308 (by decide) ?_
  refine j_remT hx hb ⟨by omega, by omega⟩ ⟨by omega, by omega⟩ dL_law_310 (fun w_2 hw_2 kw_2 => ?_)
  refine j_imul hx hb dL_law_311 ?_
  refine lv_istore (lv' := [(17, .int (iI (10 * w_2))), (0, .ref b), (1, .ref x), (2, .ref ka), (3, .int (iI (ni : Int))), (4, .int (iI rem)), (5, .int (iI st)), (6, .int (iI 1)), (7, .int (iI tn)), (8, .int (iI (tu : Int))), (9, .int (iI x9)), (10, .int (iI (yn : Int))), (11, .int (iI (dn : Int))), (12, .int (iI (σ 9 0))), (13, .int (iI pt)), (14, .int (iI ot)), (15, .int (iI (rn : Int))), (16, .int (iI (nTb σ)))]) hx hb dL_law_312 hl (by decide) rfl (fun ls hl => ?_)
  refine lv_iload hx hb dL_law_314 (lv_at hl 11 rfl) ?_
  refine j_bipush hx hb dL_law_316 (by decide) ?_
  refine j_shrT (n := 15) hx hb ⟨by omega, by omega⟩ (by decide) dL_law_318 (fun w_3 hw_3 kw_3 => ?_)
  refine j_iconst hx hb dL_law_319 ?_
  refine j_remT hx hb ⟨by omega, by omega⟩ ⟨by omega, by omega⟩ dL_law_320 (fun w_4 hw_4 kw_4 => ?_)
  refine lv_istore (lv' := [(18, .int (iI w_4)), (17, .int (iI (10 * w_2))), (0, .ref b), (1, .ref x), (2, .ref ka), (3, .int (iI (ni : Int))), (4, .int (iI rem)), (5, .int (iI st)), (6, .int (iI 1)), (7, .int (iI tn)), (8, .int (iI (tu : Int))), (9, .int (iI x9)), (10, .int (iI (yn : Int))), (11, .int (iI (dn : Int))), (12, .int (iI (σ 9 0))), (13, .int (iI pt)), (14, .int (iI ot)), (15, .int (iI (rn : Int))), (16, .int (iI (nTb σ)))]) hx hb dL_law_321 hl (by decide) rfl (fun ls hl => ?_)
  refine lv_aload_n hx hb dL_law_323 rfl (lv_at hl 3 rfl) ?_
  refine lv_iload hx hb dL_law_324 (lv_at hl 12 rfl) ?_
  refine j_iconst hx hb dL_law_326 ?_
  refine j_iand hx hb (by omega) (by decide) dL_law_327 ?_
  show W _ _ _ _ _ _ _ _ _ _ _ _ _ _ _ (F0 m 328 ls [.int (iI ((yn &&& 3 : Nat) : Int)), .ref x])
  have ha3 : yn &&& 3 ≤ 3 := Nat.and_le_right
  refine j_if_le (tgt := 335) hx hb dL_law_328 (by decide) ⟨by omega, by omega⟩ (fun c_5 => ?_) (fun c_5 => ?_)
  · refine j_iconst hx hb dL_law_335 ?_
    refine lv_iload hx hb dL_law_336 (lv_at hl 1 rfl) ?_
    refine lv_iload hx hb dL_law_338 (lv_at hl 1 rfl) ?_
    refine j_iconst hx hb dL_law_340 ?_
    refine j_iadd hx hb dL_law_341 ?_
    refine lv_iload hx hb dL_law_342 (lv_at hl 12 rfl) ?_
    refine j_bipush hx hb dL_law_344 (by decide) ?_
    refine j_shrT (n := 9) hx hb ⟨by omega, by omega⟩ (by decide) dL_law_346 (fun w_6 hw_6 kw_6 => ?_)
    refine j_bipush hx hb dL_law_347 (by decide) ?_
    refine j_remT hx hb ⟨by omega, by omega⟩ ⟨by omega, by omega⟩ dL_law_349 (fun w_7 hw_7 kw_7 => ?_)
    refine j_iadd hx hb dL_law_350 ?_
    refine lv_iload hx hb dL_law_351 (lv_at hl 0 rfl) ?_
    refine lv_iload hx hb dL_law_353 (lv_at hl 0 rfl) ?_
    refine j_if_ne (tgt := 362) hx hb dL_law_355 (by decide) ⟨by omega, by omega⟩ (fun c_8 => ?_) (fun c_8 => ?_)
    · refine lv_iload hx hb dL_law_362 (lv_at hl 0 rfl) ?_
      refine j_iconst hx hb dL_law_364 ?_
      refine j_icmp_ne (tgt := 382) hx hb dL_law_365 (by decide) ⟨by omega, by omega⟩ ⟨by decide, by decide⟩ (fun c_9 => ?_) (fun c_9 => ?_)
      · refine j_iconst hx hb dL_law_382 ?_
        refine lv_iload hx hb dL_law_383 (lv_at hl 12 rfl) ?_
        refine j_bipush hx hb dL_law_385 (by decide) ?_
        refine j_shrT (n := 17) hx hb ⟨by omega, by omega⟩ (by decide) dL_law_387 (fun w_10 hw_10 kw_10 => ?_)
        refine j_iconst hx hb dL_law_388 ?_
        refine j_remT hx hb ⟨by omega, by omega⟩ ⟨by omega, by omega⟩ dL_law_389 (fun w_11 hw_11 kw_11 => ?_)
        refine j_iadd hx hb dL_law_390 ?_
        refine m_run (vx_runSW (As := [.ref x, .int (iI 0), .int (iI (10 * w_2)), .int (iI (((10 * w_2) + 1) + w_7)), .int (iI w_4), .int (iI (1 + w_11))]) (rest := []) ⟨hx, hb, hml, hown, hts⟩ (k_L_makes (l := l) hfl hC hV (cv := 0) (f := (10 * w_2)) (t := (((10 * w_2) + 1) + w_7)) (k := w_4) (d := (1 + w_11)) (by omega) (by unfold okR; omega) (by unfold okK; omega)) (vx_cwSW 6 hts gL_law_L_makes rfl rfl rfl (by decide +kernel) ⟨by decide, by decide⟩) ⟨Kp.blind _ _ _ _ _, fun U hU hW => hK.pass hB U hU hW⟩ rfl rfl hl.1 rfl (lv_room (Nat.le_of_ble_eq_true rfl)) dL_law_391 ⟨(by show cells + 0 + 13 ≤ 758523; omega), (by show slots + 0 + 78 ≤ 6826128; omega)⟩) hB (fun v u H locs hp hB => ?_)
        rcases hp with ⟨rfl, hC, hFm⟩ | ⟨r, σ2, rfl, hr, hcv, ⟨hV, i1, i2, i6, i9, i10, i11, i0⟩, ⟨xp, xr, pa, ra, hC⟩, hFm⟩
        · have hk := hFm.I hk
          show W _ _ _ _ _ _ _ _ _ _ _ _ _ _ _ (F0 m 394 ls [.int (iI (-3))])
          refine lv_istore (lv' := [(19, .int (iI (-3))), (18, .int (iI w_4)), (17, .int (iI (10 * w_2))), (0, .ref b), (1, .ref x), (2, .ref ka), (3, .int (iI (ni : Int))), (4, .int (iI rem)), (5, .int (iI st)), (6, .int (iI 1)), (7, .int (iI tn)), (8, .int (iI (tu : Int))), (9, .int (iI x9)), (10, .int (iI (yn : Int))), (11, .int (iI (dn : Int))), (12, .int (iI (σ 9 0))), (13, .int (iI pt)), (14, .int (iI ot)), (15, .int (iI (rn : Int))), (16, .int (iI (nTb σ)))]) hx hb dL_law_394 hl (by decide) rfl (fun ls hl => ?_)
          refine lv_iload hx hb dL_law_396 (lv_at hl 0 rfl) ?_
          refine j_bipush hx hb dL_law_398 (by decide) ?_
          refine j_icmp_ne (tgt := 420) hx hb dL_law_400 (by decide) ⟨by decide, by decide⟩ ⟨by decide, by decide⟩ (fun c_12 => False.elim (by omega)) (fun c_12 => ?_)
          refine lv_aload_n hx hb dL_law_403 rfl (lv_at hl 4 rfl) ?_
          refine m_run (va_runV (As := []) (rest := []) ⟨hx, hb, hml, hown, hts⟩ (k_X3_parts (l := l) hC hI) (cwV 0 hts gL_law_X3_parts rfl rfl rfl (by decide +kernel) ⟨by decide, by decide⟩) ⟨Kp.blind _ _ _ _ _, m_recv hK hB (ci := 3) rfl hC.tb, fun U hU hW => hK.pass hB U hU hW⟩ rfl rfl hl.1 rfl (lv_room (Nat.le_of_ble_eq_true rfl)) dL_law_404 ⟨(by show cells + 13 + 0 ≤ 758523; omega), (by show slots + 78 + 0 ≤ 6826128; omega)⟩) hB (fun v u H locs hp hB => ?_)
          obtain ⟨rfl, hC, hFm⟩ := hp
          have hk := hFm.I hk
          show W _ _ _ _ _ _ _ _ _ _ _ _ _ _ _ (F0 m 407 ls [.int (iI (σ 9 0))])
          refine lv_iload hx hb dL_law_407 (lv_at hl 15 rfl) ?_
          refine j_icmp_ne (tgt := 416) hx hb dL_law_409 (by decide) ⟨by omega, by omega⟩ ⟨by omega, by omega⟩ (fun c_13 => False.elim (by omega)) (fun c_13 => ?_)
          refine j_iconst hx hb dL_law_412 ?_
          refine lv_goto (tgt := 474) hx hb dL_law_413 (by decide) ?_
          refine lv_istore (lv' := [(6, .int (iI 1)), (19, .int (iI (-3))), (18, .int (iI w_4)), (17, .int (iI (10 * w_2))), (0, .ref b), (1, .ref x), (2, .ref ka), (3, .int (iI (ni : Int))), (4, .int (iI rem)), (5, .int (iI st)), (7, .int (iI tn)), (8, .int (iI (tu : Int))), (9, .int (iI x9)), (10, .int (iI (yn : Int))), (11, .int (iI (dn : Int))), (12, .int (iI (σ 9 0))), (13, .int (iI pt)), (14, .int (iI ot)), (15, .int (iI (rn : Int))), (16, .int (iI (nTb σ)))]) hx hb dL_law_474 hl (by decide) rfl (fun ls hl => ?_)
          refine lv_goto (tgt := 1129) hx hb dL_law_476 (by decide) ?_
          refine W.widen (k := cells + 60) (n := slots + 400) (by show cells + 13 ≤ cells + 60; omega) (by show slots + 78 ≤ slots + 400; omega) ?_
          exact kk σ ni rem st _ _ _ _ ⟨hV, hC.x, ⟨_, hk, hkf⟩, by omega, by omega, by omega, by omega⟩ hB (lv_sub hl [4, 5, 6, 7, 8, 9, 0, 10, 11, 13] rfl)
        · have hk := hFm.I hk
          have hkf := i6.kf hkf
          have hI := hV.ib
          have hnp := hI.hnp
          have hnpI := hI.npI
          have htb2 := nTb_rg hI
          have hst2 := hI.2.2.1
          show W _ _ _ _ _ _ _ _ _ _ _ _ _ _ _ (F0 m 394 ls [.int (iI r)])
          have hr2 := hcv rfl
          refine lv_istore (lv' := [(19, .int (iI r)), (18, .int (iI w_4)), (17, .int (iI (10 * w_2))), (0, .ref b), (1, .ref x), (2, .ref ka), (3, .int (iI (ni : Int))), (4, .int (iI rem)), (5, .int (iI st)), (6, .int (iI 1)), (7, .int (iI tn)), (8, .int (iI (tu : Int))), (9, .int (iI x9)), (10, .int (iI (yn : Int))), (11, .int (iI (dn : Int))), (12, .int (iI (σ 9 0))), (13, .int (iI pt)), (14, .int (iI ot)), (15, .int (iI (rn : Int))), (16, .int (iI (nTb σ)))]) hx hb dL_law_394 hl (by decide) rfl (fun ls hl => ?_)
          refine lv_iload hx hb dL_law_396 (lv_at hl 0 rfl) ?_
          refine j_bipush hx hb dL_law_398 (by decide) ?_
          refine j_icmp_ne (tgt := 420) hx hb dL_law_400 (by decide) ⟨by omega, by omega⟩ ⟨by decide, by decide⟩ (fun c_14 => ?_) (fun c_14 => False.elim (by omega))
          refine lv_aload_n hx hb dL_law_420 rfl (lv_at hl 4 rfl) ?_
          refine m_run (va_runV (As := []) (rest := []) ⟨hx, hb, hml, hown, hts⟩ (k_X3_parts (l := l) hC hI) (cwV 0 hts gL_law_X3_parts rfl rfl rfl (by decide +kernel) ⟨by decide, by decide⟩) ⟨Kp.blind _ _ _ _ _, m_recv hK hB (ci := 3) rfl hC.tb, fun U hU hW => hK.pass hB U hU hW⟩ rfl rfl hl.1 rfl (lv_room (Nat.le_of_ble_eq_true rfl)) dL_law_421 ⟨(by show cells + 13 + 0 ≤ 758523; omega), (by show slots + 78 + 0 ≤ 6826128; omega)⟩) hB (fun v u H locs hp hB => ?_)
          obtain ⟨rfl, hC, hFm⟩ := hp
          have hk := hFm.I hk
          show W _ _ _ _ _ _ _ _ _ _ _ _ _ _ _ (F0 m 424 ls [.int (iI (σ2 9 0))])
          refine lv_iload hx hb dL_law_424 (lv_at hl 15 rfl) ?_
          refine j_iconst hx hb dL_law_426 ?_
          refine j_iadd hx hb dL_law_427 ?_
          refine j_icmp_ne (tgt := 473) hx hb dL_law_428 (by decide) ⟨by omega, by omega⟩ ⟨by omega, by omega⟩ (fun c_15 => False.elim (by omega)) (fun c_15 => ?_)
          refine lv_aload_n hx hb dL_law_431 rfl (lv_at hl 4 rfl) ?_
          refine lv_iload hx hb dL_law_432 (lv_at hl 2 rfl) ?_
          refine m_runX (vx_runV (As := [.int (iI (10 * w_2))]) (rest := []) ⟨hx, hb, hml, hown, hts⟩ (k_X3_partOf (l := l) hfl hC hI (ky := (10 * w_2)) ⟨by omega, by omega⟩) (cwV 1 hts gL_law_X3_partOf rfl rfl rfl (by decide +kernel) ⟨by decide, by decide⟩) ⟨Kp.blind _ _ _ _ _, m_recv hK hB (ci := 3) rfl hC.tb, fun U hU hW => hK.pass hB U hU hW⟩ rfl rfl hl.1 rfl (lv_room (Nat.le_of_ble_eq_true rfl)) dL_law_434 ⟨(by show cells + 13 + 1 ≤ 758523; omega), (by show slots + 78 + 6 ≤ 6826128; omega)⟩) hB (fun E u H locs q9 ce hp hB hc9 hv9 hk9 => absurd ⟨by omega, by omega⟩ hp.1.2) (fun v u H locs hp hB => ?_)
          obtain ⟨⟨-, rfl⟩, hC, hFm⟩ := hp
          have hk := hFm.I hk
          show W _ _ _ _ _ _ _ _ _ _ _ _ _ _ _ (F0 m 437 ls [.int (iI ((pw σ2 (10 * w_2) : Nat) : Int))])
          refine lv_iload hx hb dL_law_437 (lv_at hl 15 rfl) ?_
          refine j_iconst hx hb dL_law_439 ?_
          refine j_iadd hx hb dL_law_440 ?_
          refine j_icmp_ne (tgt := 473) hx hb dL_law_441 (by decide) ⟨by omega, by omega⟩ ⟨by omega, by omega⟩ (fun c_16 => False.elim (by omega)) (fun c_16 => ?_)
          refine lv_aload_n hx hb dL_law_444 rfl (lv_at hl 4 rfl) ?_
          refine m_run (va_runV (As := []) (rest := []) ⟨hx, hb, hml, hown, hts⟩ (k_X3_rows (l := l) hC hI) (cwV 0 hts gL_law_X3_rows rfl rfl rfl (by decide +kernel) ⟨by decide, by decide⟩) ⟨Kp.blind _ _ _ _ _, m_recv hK hB (ci := 3) rfl hC.tb, fun U hU hW => hK.pass hB U hU hW⟩ rfl rfl hl.1 rfl (lv_room (Nat.le_of_ble_eq_true rfl)) dL_law_445 ⟨(by show cells + 14 + 0 ≤ 758523; omega), (by show slots + 84 + 0 ≤ 6826128; omega)⟩) hB (fun v u H locs hp hB => ?_)
          obtain ⟨rfl, hC, hFm⟩ := hp
          have hk := hFm.I hk
          show W _ _ _ _ _ _ _ _ _ _ _ _ _ _ _ (F0 m 448 ls [.int (iI (nTb σ2))])
          refine lv_iload hx hb dL_law_448 (lv_at hl 19 rfl) ?_
          refine j_icmp_ne (tgt := 473) hx hb dL_law_450 (by decide) ⟨by omega, by omega⟩ ⟨by omega, by omega⟩ (fun c_17 => False.elim (by omega)) (fun c_17 => ?_)
          refine lv_iload hx hb dL_law_453 (lv_at hl 13 rfl) ?_
          refine j_iconst hx hb dL_law_455 ?_
          refine j_iand hx hb (by omega) (by decide) dL_law_456 ?_
          show W _ _ _ _ _ _ _ _ _ _ _ _ _ _ _ (F0 m 457 ls [.int (iI ((yn &&& 3 : Nat) : Int))])
          have ha3 : yn &&& 3 ≤ 3 := Nat.and_le_right
          refine j_if_gt (tgt := 469) hx hb dL_law_457 (by decide) ⟨by omega, by omega⟩ (fun c_18 => False.elim (by omega)) (fun c_18 => ?_)
          refine lv_iload hx hb dL_law_460 (lv_at hl 0 rfl) ?_
          refine lv_iload hx hb dL_law_462 (lv_at hl 15 rfl) ?_
          refine j_iconst hx hb dL_law_464 ?_
          refine j_iadd hx hb dL_law_465 ?_
          refine j_icmp_ne (tgt := 473) hx hb dL_law_466 (by decide) ⟨by omega, by omega⟩ ⟨by omega, by omega⟩ (fun c_19 => False.elim (by omega)) (fun c_19 => ?_)
          refine j_iconst hx hb dL_law_469 ?_
          refine lv_goto (tgt := 474) hx hb dL_law_470 (by decide) ?_
          refine lv_istore (lv' := [(6, .int (iI 1)), (19, .int (iI r)), (18, .int (iI w_4)), (17, .int (iI (10 * w_2))), (0, .ref b), (1, .ref x), (2, .ref ka), (3, .int (iI (ni : Int))), (4, .int (iI rem)), (5, .int (iI st)), (7, .int (iI tn)), (8, .int (iI (tu : Int))), (9, .int (iI x9)), (10, .int (iI (yn : Int))), (11, .int (iI (dn : Int))), (12, .int (iI (σ 9 0))), (13, .int (iI pt)), (14, .int (iI ot)), (15, .int (iI (rn : Int))), (16, .int (iI (nTb σ)))]) hx hb dL_law_474 hl (by decide) rfl (fun ls hl => ?_)
          refine lv_goto (tgt := 1129) hx hb dL_law_476 (by decide) ?_
          refine W.widen (k := cells + 60) (n := slots + 400) (by show cells + 14 ≤ cells + 60; omega) (by show slots + 84 ≤ slots + 400; omega) ?_
          exact kk σ2 ni rem st _ _ _ _ ⟨hV, hC.x, ⟨_, hk, hkf⟩, by omega, by omega, by omega, by omega⟩ hB (lv_sub hl [4, 5, 6, 7, 8, 9, 0, 10, 11, 13] rfl)
      · refine j_iconst hx hb dL_law_368 ?_
        refine lv_iload hx hb dL_law_369 (lv_at hl 12 rfl) ?_
        refine j_bipush hx hb dL_law_371 (by decide) ?_
        refine j_shrT (n := 17) hx hb ⟨by omega, by omega⟩ (by decide) dL_law_373 (fun w_20 hw_20 kw_20 => ?_)
        refine j_sipush hx hb dL_law_374 (by decide) ?_
        refine j_remT hx hb ⟨by omega, by omega⟩ ⟨by omega, by omega⟩ dL_law_377 (fun w_21 hw_21 kw_21 => ?_)
        refine j_iadd hx hb dL_law_378 ?_
        refine lv_goto (tgt := 391) hx hb dL_law_379 (by decide) ?_
        refine m_run (vx_runSW (As := [.ref x, .int (iI 0), .int (iI (10 * w_2)), .int (iI (((10 * w_2) + 1) + w_7)), .int (iI w_4), .int (iI (1 + w_21))]) (rest := []) ⟨hx, hb, hml, hown, hts⟩ (k_L_makes (l := l) hfl hC hV (cv := 0) (f := (10 * w_2)) (t := (((10 * w_2) + 1) + w_7)) (k := w_4) (d := (1 + w_21)) (by omega) (by unfold okR; omega) (by unfold okK; omega)) (vx_cwSW 6 hts gL_law_L_makes rfl rfl rfl (by decide +kernel) ⟨by decide, by decide⟩) ⟨Kp.blind _ _ _ _ _, fun U hU hW => hK.pass hB U hU hW⟩ rfl rfl hl.1 rfl (lv_room (Nat.le_of_ble_eq_true rfl)) dL_law_391 ⟨(by show cells + 0 + 13 ≤ 758523; omega), (by show slots + 0 + 78 ≤ 6826128; omega)⟩) hB (fun v u H locs hp hB => ?_)
        rcases hp with ⟨rfl, hC, hFm⟩ | ⟨r, σ2, rfl, hr, hcv, ⟨hV, i1, i2, i6, i9, i10, i11, i0⟩, ⟨xp, xr, pa, ra, hC⟩, hFm⟩
        · have hk := hFm.I hk
          show W _ _ _ _ _ _ _ _ _ _ _ _ _ _ _ (F0 m 394 ls [.int (iI (-3))])
          refine lv_istore (lv' := [(19, .int (iI (-3))), (18, .int (iI w_4)), (17, .int (iI (10 * w_2))), (0, .ref b), (1, .ref x), (2, .ref ka), (3, .int (iI (ni : Int))), (4, .int (iI rem)), (5, .int (iI st)), (6, .int (iI 1)), (7, .int (iI tn)), (8, .int (iI (tu : Int))), (9, .int (iI x9)), (10, .int (iI (yn : Int))), (11, .int (iI (dn : Int))), (12, .int (iI (σ 9 0))), (13, .int (iI pt)), (14, .int (iI ot)), (15, .int (iI (rn : Int))), (16, .int (iI (nTb σ)))]) hx hb dL_law_394 hl (by decide) rfl (fun ls hl => ?_)
          refine lv_iload hx hb dL_law_396 (lv_at hl 0 rfl) ?_
          refine j_bipush hx hb dL_law_398 (by decide) ?_
          refine j_icmp_ne (tgt := 420) hx hb dL_law_400 (by decide) ⟨by decide, by decide⟩ ⟨by decide, by decide⟩ (fun c_22 => False.elim (by omega)) (fun c_22 => ?_)
          refine lv_aload_n hx hb dL_law_403 rfl (lv_at hl 4 rfl) ?_
          refine m_run (va_runV (As := []) (rest := []) ⟨hx, hb, hml, hown, hts⟩ (k_X3_parts (l := l) hC hI) (cwV 0 hts gL_law_X3_parts rfl rfl rfl (by decide +kernel) ⟨by decide, by decide⟩) ⟨Kp.blind _ _ _ _ _, m_recv hK hB (ci := 3) rfl hC.tb, fun U hU hW => hK.pass hB U hU hW⟩ rfl rfl hl.1 rfl (lv_room (Nat.le_of_ble_eq_true rfl)) dL_law_404 ⟨(by show cells + 13 + 0 ≤ 758523; omega), (by show slots + 78 + 0 ≤ 6826128; omega)⟩) hB (fun v u H locs hp hB => ?_)
          obtain ⟨rfl, hC, hFm⟩ := hp
          have hk := hFm.I hk
          show W _ _ _ _ _ _ _ _ _ _ _ _ _ _ _ (F0 m 407 ls [.int (iI (σ 9 0))])
          refine lv_iload hx hb dL_law_407 (lv_at hl 15 rfl) ?_
          refine j_icmp_ne (tgt := 416) hx hb dL_law_409 (by decide) ⟨by omega, by omega⟩ ⟨by omega, by omega⟩ (fun c_23 => False.elim (by omega)) (fun c_23 => ?_)
          refine j_iconst hx hb dL_law_412 ?_
          refine lv_goto (tgt := 474) hx hb dL_law_413 (by decide) ?_
          refine lv_istore (lv' := [(6, .int (iI 1)), (19, .int (iI (-3))), (18, .int (iI w_4)), (17, .int (iI (10 * w_2))), (0, .ref b), (1, .ref x), (2, .ref ka), (3, .int (iI (ni : Int))), (4, .int (iI rem)), (5, .int (iI st)), (7, .int (iI tn)), (8, .int (iI (tu : Int))), (9, .int (iI x9)), (10, .int (iI (yn : Int))), (11, .int (iI (dn : Int))), (12, .int (iI (σ 9 0))), (13, .int (iI pt)), (14, .int (iI ot)), (15, .int (iI (rn : Int))), (16, .int (iI (nTb σ)))]) hx hb dL_law_474 hl (by decide) rfl (fun ls hl => ?_)
          refine lv_goto (tgt := 1129) hx hb dL_law_476 (by decide) ?_
          refine W.widen (k := cells + 60) (n := slots + 400) (by show cells + 13 ≤ cells + 60; omega) (by show slots + 78 ≤ slots + 400; omega) ?_
          exact kk σ ni rem st _ _ _ _ ⟨hV, hC.x, ⟨_, hk, hkf⟩, by omega, by omega, by omega, by omega⟩ hB (lv_sub hl [4, 5, 6, 7, 8, 9, 0, 10, 11, 13] rfl)
        · have hk := hFm.I hk
          have hkf := i6.kf hkf
          have hI := hV.ib
          have hnp := hI.hnp
          have hnpI := hI.npI
          have htb2 := nTb_rg hI
          have hst2 := hI.2.2.1
          show W _ _ _ _ _ _ _ _ _ _ _ _ _ _ _ (F0 m 394 ls [.int (iI r)])
          have hr2 := hcv rfl
          refine lv_istore (lv' := [(19, .int (iI r)), (18, .int (iI w_4)), (17, .int (iI (10 * w_2))), (0, .ref b), (1, .ref x), (2, .ref ka), (3, .int (iI (ni : Int))), (4, .int (iI rem)), (5, .int (iI st)), (6, .int (iI 1)), (7, .int (iI tn)), (8, .int (iI (tu : Int))), (9, .int (iI x9)), (10, .int (iI (yn : Int))), (11, .int (iI (dn : Int))), (12, .int (iI (σ 9 0))), (13, .int (iI pt)), (14, .int (iI ot)), (15, .int (iI (rn : Int))), (16, .int (iI (nTb σ)))]) hx hb dL_law_394 hl (by decide) rfl (fun ls hl => ?_)
          refine lv_iload hx hb dL_law_396 (lv_at hl 0 rfl) ?_
          refine j_bipush hx hb dL_law_398 (by decide) ?_
          refine j_icmp_ne (tgt := 420) hx hb dL_law_400 (by decide) ⟨by omega, by omega⟩ ⟨by decide, by decide⟩ (fun c_24 => ?_) (fun c_24 => False.elim (by omega))
          refine lv_aload_n hx hb dL_law_420 rfl (lv_at hl 4 rfl) ?_
          refine m_run (va_runV (As := []) (rest := []) ⟨hx, hb, hml, hown, hts⟩ (k_X3_parts (l := l) hC hI) (cwV 0 hts gL_law_X3_parts rfl rfl rfl (by decide +kernel) ⟨by decide, by decide⟩) ⟨Kp.blind _ _ _ _ _, m_recv hK hB (ci := 3) rfl hC.tb, fun U hU hW => hK.pass hB U hU hW⟩ rfl rfl hl.1 rfl (lv_room (Nat.le_of_ble_eq_true rfl)) dL_law_421 ⟨(by show cells + 13 + 0 ≤ 758523; omega), (by show slots + 78 + 0 ≤ 6826128; omega)⟩) hB (fun v u H locs hp hB => ?_)
          obtain ⟨rfl, hC, hFm⟩ := hp
          have hk := hFm.I hk
          show W _ _ _ _ _ _ _ _ _ _ _ _ _ _ _ (F0 m 424 ls [.int (iI (σ2 9 0))])
          refine lv_iload hx hb dL_law_424 (lv_at hl 15 rfl) ?_
          refine j_iconst hx hb dL_law_426 ?_
          refine j_iadd hx hb dL_law_427 ?_
          refine j_icmp_ne (tgt := 473) hx hb dL_law_428 (by decide) ⟨by omega, by omega⟩ ⟨by omega, by omega⟩ (fun c_25 => False.elim (by omega)) (fun c_25 => ?_)
          refine lv_aload_n hx hb dL_law_431 rfl (lv_at hl 4 rfl) ?_
          refine lv_iload hx hb dL_law_432 (lv_at hl 2 rfl) ?_
          refine m_runX (vx_runV (As := [.int (iI (10 * w_2))]) (rest := []) ⟨hx, hb, hml, hown, hts⟩ (k_X3_partOf (l := l) hfl hC hI (ky := (10 * w_2)) ⟨by omega, by omega⟩) (cwV 1 hts gL_law_X3_partOf rfl rfl rfl (by decide +kernel) ⟨by decide, by decide⟩) ⟨Kp.blind _ _ _ _ _, m_recv hK hB (ci := 3) rfl hC.tb, fun U hU hW => hK.pass hB U hU hW⟩ rfl rfl hl.1 rfl (lv_room (Nat.le_of_ble_eq_true rfl)) dL_law_434 ⟨(by show cells + 13 + 1 ≤ 758523; omega), (by show slots + 78 + 6 ≤ 6826128; omega)⟩) hB (fun E u H locs q9 ce hp hB hc9 hv9 hk9 => absurd ⟨by omega, by omega⟩ hp.1.2) (fun v u H locs hp hB => ?_)
          obtain ⟨⟨-, rfl⟩, hC, hFm⟩ := hp
          have hk := hFm.I hk
          show W _ _ _ _ _ _ _ _ _ _ _ _ _ _ _ (F0 m 437 ls [.int (iI ((pw σ2 (10 * w_2) : Nat) : Int))])
          refine lv_iload hx hb dL_law_437 (lv_at hl 15 rfl) ?_
          refine j_iconst hx hb dL_law_439 ?_
          refine j_iadd hx hb dL_law_440 ?_
          refine j_icmp_ne (tgt := 473) hx hb dL_law_441 (by decide) ⟨by omega, by omega⟩ ⟨by omega, by omega⟩ (fun c_26 => False.elim (by omega)) (fun c_26 => ?_)
          refine lv_aload_n hx hb dL_law_444 rfl (lv_at hl 4 rfl) ?_
          refine m_run (va_runV (As := []) (rest := []) ⟨hx, hb, hml, hown, hts⟩ (k_X3_rows (l := l) hC hI) (cwV 0 hts gL_law_X3_rows rfl rfl rfl (by decide +kernel) ⟨by decide, by decide⟩) ⟨Kp.blind _ _ _ _ _, m_recv hK hB (ci := 3) rfl hC.tb, fun U hU hW => hK.pass hB U hU hW⟩ rfl rfl hl.1 rfl (lv_room (Nat.le_of_ble_eq_true rfl)) dL_law_445 ⟨(by show cells + 14 + 0 ≤ 758523; omega), (by show slots + 84 + 0 ≤ 6826128; omega)⟩) hB (fun v u H locs hp hB => ?_)
          obtain ⟨rfl, hC, hFm⟩ := hp
          have hk := hFm.I hk
          show W _ _ _ _ _ _ _ _ _ _ _ _ _ _ _ (F0 m 448 ls [.int (iI (nTb σ2))])
          refine lv_iload hx hb dL_law_448 (lv_at hl 19 rfl) ?_
          refine j_icmp_ne (tgt := 473) hx hb dL_law_450 (by decide) ⟨by omega, by omega⟩ ⟨by omega, by omega⟩ (fun c_27 => False.elim (by omega)) (fun c_27 => ?_)
          refine lv_iload hx hb dL_law_453 (lv_at hl 13 rfl) ?_
          refine j_iconst hx hb dL_law_455 ?_
          refine j_iand hx hb (by omega) (by decide) dL_law_456 ?_
          show W _ _ _ _ _ _ _ _ _ _ _ _ _ _ _ (F0 m 457 ls [.int (iI ((yn &&& 3 : Nat) : Int))])
          have ha3 : yn &&& 3 ≤ 3 := Nat.and_le_right
          refine j_if_gt (tgt := 469) hx hb dL_law_457 (by decide) ⟨by omega, by omega⟩ (fun c_28 => False.elim (by omega)) (fun c_28 => ?_)
          refine lv_iload hx hb dL_law_460 (lv_at hl 0 rfl) ?_
          refine lv_iload hx hb dL_law_462 (lv_at hl 15 rfl) ?_
          refine j_iconst hx hb dL_law_464 ?_
          refine j_iadd hx hb dL_law_465 ?_
          refine j_icmp_ne (tgt := 473) hx hb dL_law_466 (by decide) ⟨by omega, by omega⟩ ⟨by omega, by omega⟩ (fun c_29 => False.elim (by omega)) (fun c_29 => ?_)
          refine j_iconst hx hb dL_law_469 ?_
          refine lv_goto (tgt := 474) hx hb dL_law_470 (by decide) ?_
          refine lv_istore (lv' := [(6, .int (iI 1)), (19, .int (iI r)), (18, .int (iI w_4)), (17, .int (iI (10 * w_2))), (0, .ref b), (1, .ref x), (2, .ref ka), (3, .int (iI (ni : Int))), (4, .int (iI rem)), (5, .int (iI st)), (7, .int (iI tn)), (8, .int (iI (tu : Int))), (9, .int (iI x9)), (10, .int (iI (yn : Int))), (11, .int (iI (dn : Int))), (12, .int (iI (σ 9 0))), (13, .int (iI pt)), (14, .int (iI ot)), (15, .int (iI (rn : Int))), (16, .int (iI (nTb σ)))]) hx hb dL_law_474 hl (by decide) rfl (fun ls hl => ?_)
          refine lv_goto (tgt := 1129) hx hb dL_law_476 (by decide) ?_
          refine W.widen (k := cells + 60) (n := slots + 400) (by show cells + 14 ≤ cells + 60; omega) (by show slots + 84 ≤ slots + 400; omega) ?_
          exact kk σ2 ni rem st _ _ _ _ ⟨hV, hC.x, ⟨_, hk, hkf⟩, by omega, by omega, by omega, by omega⟩ hB (lv_sub hl [4, 5, 6, 7, 8, 9, 0, 10, 11, 13] rfl)
    · refine j_iconst hx hb dL_law_358 ?_
      refine lv_goto (tgt := 391) hx hb dL_law_359 (by decide) ?_
      refine m_run (vx_runSW (As := [.ref x, .int (iI 0), .int (iI (10 * w_2)), .int (iI (((10 * w_2) + 1) + w_7)), .int (iI w_4), .int (iI 0)]) (rest := []) ⟨hx, hb, hml, hown, hts⟩ (k_L_makes (l := l) hfl hC hV (cv := 0) (f := (10 * w_2)) (t := (((10 * w_2) + 1) + w_7)) (k := w_4) (d := 0) (by omega) (by unfold okR; omega) (by unfold okK; omega)) (vx_cwSW 6 hts gL_law_L_makes rfl rfl rfl (by decide +kernel) ⟨by decide, by decide⟩) ⟨Kp.blind _ _ _ _ _, fun U hU hW => hK.pass hB U hU hW⟩ rfl rfl hl.1 rfl (lv_room (Nat.le_of_ble_eq_true rfl)) dL_law_391 ⟨(by show cells + 0 + 13 ≤ 758523; omega), (by show slots + 0 + 78 ≤ 6826128; omega)⟩) hB (fun v u H locs hp hB => ?_)
      rcases hp with ⟨rfl, hC, hFm⟩ | ⟨r, σ2, rfl, hr, hcv, ⟨hV, i1, i2, i6, i9, i10, i11, i0⟩, ⟨xp, xr, pa, ra, hC⟩, hFm⟩
      · have hk := hFm.I hk
        show W _ _ _ _ _ _ _ _ _ _ _ _ _ _ _ (F0 m 394 ls [.int (iI (-3))])
        refine lv_istore (lv' := [(19, .int (iI (-3))), (18, .int (iI w_4)), (17, .int (iI (10 * w_2))), (0, .ref b), (1, .ref x), (2, .ref ka), (3, .int (iI (ni : Int))), (4, .int (iI rem)), (5, .int (iI st)), (6, .int (iI 1)), (7, .int (iI tn)), (8, .int (iI (tu : Int))), (9, .int (iI x9)), (10, .int (iI (yn : Int))), (11, .int (iI (dn : Int))), (12, .int (iI (σ 9 0))), (13, .int (iI pt)), (14, .int (iI ot)), (15, .int (iI (rn : Int))), (16, .int (iI (nTb σ)))]) hx hb dL_law_394 hl (by decide) rfl (fun ls hl => ?_)
        refine lv_iload hx hb dL_law_396 (lv_at hl 0 rfl) ?_
        refine j_bipush hx hb dL_law_398 (by decide) ?_
        refine j_icmp_ne (tgt := 420) hx hb dL_law_400 (by decide) ⟨by decide, by decide⟩ ⟨by decide, by decide⟩ (fun c_30 => False.elim (by omega)) (fun c_30 => ?_)
        refine lv_aload_n hx hb dL_law_403 rfl (lv_at hl 4 rfl) ?_
        refine m_run (va_runV (As := []) (rest := []) ⟨hx, hb, hml, hown, hts⟩ (k_X3_parts (l := l) hC hI) (cwV 0 hts gL_law_X3_parts rfl rfl rfl (by decide +kernel) ⟨by decide, by decide⟩) ⟨Kp.blind _ _ _ _ _, m_recv hK hB (ci := 3) rfl hC.tb, fun U hU hW => hK.pass hB U hU hW⟩ rfl rfl hl.1 rfl (lv_room (Nat.le_of_ble_eq_true rfl)) dL_law_404 ⟨(by show cells + 13 + 0 ≤ 758523; omega), (by show slots + 78 + 0 ≤ 6826128; omega)⟩) hB (fun v u H locs hp hB => ?_)
        obtain ⟨rfl, hC, hFm⟩ := hp
        have hk := hFm.I hk
        show W _ _ _ _ _ _ _ _ _ _ _ _ _ _ _ (F0 m 407 ls [.int (iI (σ 9 0))])
        refine lv_iload hx hb dL_law_407 (lv_at hl 15 rfl) ?_
        refine j_icmp_ne (tgt := 416) hx hb dL_law_409 (by decide) ⟨by omega, by omega⟩ ⟨by omega, by omega⟩ (fun c_31 => False.elim (by omega)) (fun c_31 => ?_)
        refine j_iconst hx hb dL_law_412 ?_
        refine lv_goto (tgt := 474) hx hb dL_law_413 (by decide) ?_
        refine lv_istore (lv' := [(6, .int (iI 1)), (19, .int (iI (-3))), (18, .int (iI w_4)), (17, .int (iI (10 * w_2))), (0, .ref b), (1, .ref x), (2, .ref ka), (3, .int (iI (ni : Int))), (4, .int (iI rem)), (5, .int (iI st)), (7, .int (iI tn)), (8, .int (iI (tu : Int))), (9, .int (iI x9)), (10, .int (iI (yn : Int))), (11, .int (iI (dn : Int))), (12, .int (iI (σ 9 0))), (13, .int (iI pt)), (14, .int (iI ot)), (15, .int (iI (rn : Int))), (16, .int (iI (nTb σ)))]) hx hb dL_law_474 hl (by decide) rfl (fun ls hl => ?_)
        refine lv_goto (tgt := 1129) hx hb dL_law_476 (by decide) ?_
        refine W.widen (k := cells + 60) (n := slots + 400) (by show cells + 13 ≤ cells + 60; omega) (by show slots + 78 ≤ slots + 400; omega) ?_
        exact kk σ ni rem st _ _ _ _ ⟨hV, hC.x, ⟨_, hk, hkf⟩, by omega, by omega, by omega, by omega⟩ hB (lv_sub hl [4, 5, 6, 7, 8, 9, 0, 10, 11, 13] rfl)
      · have hk := hFm.I hk
        have hkf := i6.kf hkf
        have hI := hV.ib
        have hnp := hI.hnp
        have hnpI := hI.npI
        have htb2 := nTb_rg hI
        have hst2 := hI.2.2.1
        show W _ _ _ _ _ _ _ _ _ _ _ _ _ _ _ (F0 m 394 ls [.int (iI r)])
        have hr2 := hcv rfl
        refine lv_istore (lv' := [(19, .int (iI r)), (18, .int (iI w_4)), (17, .int (iI (10 * w_2))), (0, .ref b), (1, .ref x), (2, .ref ka), (3, .int (iI (ni : Int))), (4, .int (iI rem)), (5, .int (iI st)), (6, .int (iI 1)), (7, .int (iI tn)), (8, .int (iI (tu : Int))), (9, .int (iI x9)), (10, .int (iI (yn : Int))), (11, .int (iI (dn : Int))), (12, .int (iI (σ 9 0))), (13, .int (iI pt)), (14, .int (iI ot)), (15, .int (iI (rn : Int))), (16, .int (iI (nTb σ)))]) hx hb dL_law_394 hl (by decide) rfl (fun ls hl => ?_)
        refine lv_iload hx hb dL_law_396 (lv_at hl 0 rfl) ?_
        refine j_bipush hx hb dL_law_398 (by decide) ?_
        refine j_icmp_ne (tgt := 420) hx hb dL_law_400 (by decide) ⟨by omega, by omega⟩ ⟨by decide, by decide⟩ (fun c_32 => ?_) (fun c_32 => False.elim (by omega))
        refine lv_aload_n hx hb dL_law_420 rfl (lv_at hl 4 rfl) ?_
        refine m_run (va_runV (As := []) (rest := []) ⟨hx, hb, hml, hown, hts⟩ (k_X3_parts (l := l) hC hI) (cwV 0 hts gL_law_X3_parts rfl rfl rfl (by decide +kernel) ⟨by decide, by decide⟩) ⟨Kp.blind _ _ _ _ _, m_recv hK hB (ci := 3) rfl hC.tb, fun U hU hW => hK.pass hB U hU hW⟩ rfl rfl hl.1 rfl (lv_room (Nat.le_of_ble_eq_true rfl)) dL_law_421 ⟨(by show cells + 13 + 0 ≤ 758523; omega), (by show slots + 78 + 0 ≤ 6826128; omega)⟩) hB (fun v u H locs hp hB => ?_)
        obtain ⟨rfl, hC, hFm⟩ := hp
        have hk := hFm.I hk
        show W _ _ _ _ _ _ _ _ _ _ _ _ _ _ _ (F0 m 424 ls [.int (iI (σ2 9 0))])
        refine lv_iload hx hb dL_law_424 (lv_at hl 15 rfl) ?_
        refine j_iconst hx hb dL_law_426 ?_
        refine j_iadd hx hb dL_law_427 ?_
        refine j_icmp_ne (tgt := 473) hx hb dL_law_428 (by decide) ⟨by omega, by omega⟩ ⟨by omega, by omega⟩ (fun c_33 => False.elim (by omega)) (fun c_33 => ?_)
        refine lv_aload_n hx hb dL_law_431 rfl (lv_at hl 4 rfl) ?_
        refine lv_iload hx hb dL_law_432 (lv_at hl 2 rfl) ?_
        refine m_runX (vx_runV (As := [.int (iI (10 * w_2))]) (rest := []) ⟨hx, hb, hml, hown, hts⟩ (k_X3_partOf (l := l) hfl hC hI (ky := (10 * w_2)) ⟨by omega, by omega⟩) (cwV 1 hts gL_law_X3_partOf rfl rfl rfl (by decide +kernel) ⟨by decide, by decide⟩) ⟨Kp.blind _ _ _ _ _, m_recv hK hB (ci := 3) rfl hC.tb, fun U hU hW => hK.pass hB U hU hW⟩ rfl rfl hl.1 rfl (lv_room (Nat.le_of_ble_eq_true rfl)) dL_law_434 ⟨(by show cells + 13 + 1 ≤ 758523; omega), (by show slots + 78 + 6 ≤ 6826128; omega)⟩) hB (fun E u H locs q9 ce hp hB hc9 hv9 hk9 => absurd ⟨by omega, by omega⟩ hp.1.2) (fun v u H locs hp hB => ?_)
        obtain ⟨⟨-, rfl⟩, hC, hFm⟩ := hp
        have hk := hFm.I hk
        show W _ _ _ _ _ _ _ _ _ _ _ _ _ _ _ (F0 m 437 ls [.int (iI ((pw σ2 (10 * w_2) : Nat) : Int))])
        refine lv_iload hx hb dL_law_437 (lv_at hl 15 rfl) ?_
        refine j_iconst hx hb dL_law_439 ?_
        refine j_iadd hx hb dL_law_440 ?_
        refine j_icmp_ne (tgt := 473) hx hb dL_law_441 (by decide) ⟨by omega, by omega⟩ ⟨by omega, by omega⟩ (fun c_34 => False.elim (by omega)) (fun c_34 => ?_)
        refine lv_aload_n hx hb dL_law_444 rfl (lv_at hl 4 rfl) ?_
        refine m_run (va_runV (As := []) (rest := []) ⟨hx, hb, hml, hown, hts⟩ (k_X3_rows (l := l) hC hI) (cwV 0 hts gL_law_X3_rows rfl rfl rfl (by decide +kernel) ⟨by decide, by decide⟩) ⟨Kp.blind _ _ _ _ _, m_recv hK hB (ci := 3) rfl hC.tb, fun U hU hW => hK.pass hB U hU hW⟩ rfl rfl hl.1 rfl (lv_room (Nat.le_of_ble_eq_true rfl)) dL_law_445 ⟨(by show cells + 14 + 0 ≤ 758523; omega), (by show slots + 84 + 0 ≤ 6826128; omega)⟩) hB (fun v u H locs hp hB => ?_)
        obtain ⟨rfl, hC, hFm⟩ := hp
        have hk := hFm.I hk
        show W _ _ _ _ _ _ _ _ _ _ _ _ _ _ _ (F0 m 448 ls [.int (iI (nTb σ2))])
        refine lv_iload hx hb dL_law_448 (lv_at hl 19 rfl) ?_
        refine j_icmp_ne (tgt := 473) hx hb dL_law_450 (by decide) ⟨by omega, by omega⟩ ⟨by omega, by omega⟩ (fun c_35 => False.elim (by omega)) (fun c_35 => ?_)
        refine lv_iload hx hb dL_law_453 (lv_at hl 13 rfl) ?_
        refine j_iconst hx hb dL_law_455 ?_
        refine j_iand hx hb (by omega) (by decide) dL_law_456 ?_
        show W _ _ _ _ _ _ _ _ _ _ _ _ _ _ _ (F0 m 457 ls [.int (iI ((yn &&& 3 : Nat) : Int))])
        have ha3 : yn &&& 3 ≤ 3 := Nat.and_le_right
        refine j_if_gt (tgt := 469) hx hb dL_law_457 (by decide) ⟨by omega, by omega⟩ (fun c_36 => False.elim (by omega)) (fun c_36 => ?_)
        refine lv_iload hx hb dL_law_460 (lv_at hl 0 rfl) ?_
        refine lv_iload hx hb dL_law_462 (lv_at hl 15 rfl) ?_
        refine j_iconst hx hb dL_law_464 ?_
        refine j_iadd hx hb dL_law_465 ?_
        refine j_icmp_ne (tgt := 473) hx hb dL_law_466 (by decide) ⟨by omega, by omega⟩ ⟨by omega, by omega⟩ (fun c_37 => False.elim (by omega)) (fun c_37 => ?_)
        refine j_iconst hx hb dL_law_469 ?_
        refine lv_goto (tgt := 474) hx hb dL_law_470 (by decide) ?_
        refine lv_istore (lv' := [(6, .int (iI 1)), (19, .int (iI r)), (18, .int (iI w_4)), (17, .int (iI (10 * w_2))), (0, .ref b), (1, .ref x), (2, .ref ka), (3, .int (iI (ni : Int))), (4, .int (iI rem)), (5, .int (iI st)), (7, .int (iI tn)), (8, .int (iI (tu : Int))), (9, .int (iI x9)), (10, .int (iI (yn : Int))), (11, .int (iI (dn : Int))), (12, .int (iI (σ 9 0))), (13, .int (iI pt)), (14, .int (iI ot)), (15, .int (iI (rn : Int))), (16, .int (iI (nTb σ)))]) hx hb dL_law_474 hl (by decide) rfl (fun ls hl => ?_)
        refine lv_goto (tgt := 1129) hx hb dL_law_476 (by decide) ?_
        refine W.widen (k := cells + 60) (n := slots + 400) (by show cells + 14 ≤ cells + 60; omega) (by show slots + 84 ≤ slots + 400; omega) ?_
        exact kk σ2 ni rem st _ _ _ _ ⟨hV, hC.x, ⟨_, hk, hkf⟩, by omega, by omega, by omega, by omega⟩ hB (lv_sub hl [4, 5, 6, 7, 8, 9, 0, 10, 11, 13] rfl)
  · refine j_iconst hx hb dL_law_331 ?_
    refine lv_goto (tgt := 336) hx hb dL_law_332 (by decide) ?_
    refine lv_iload hx hb dL_law_336 (lv_at hl 1 rfl) ?_
    refine lv_iload hx hb dL_law_338 (lv_at hl 1 rfl) ?_
    refine j_iconst hx hb dL_law_340 ?_
    refine j_iadd hx hb dL_law_341 ?_
    refine lv_iload hx hb dL_law_342 (lv_at hl 12 rfl) ?_
    refine j_bipush hx hb dL_law_344 (by decide) ?_
    refine j_shrT (n := 9) hx hb ⟨by omega, by omega⟩ (by decide) dL_law_346 (fun w_38 hw_38 kw_38 => ?_)
    refine j_bipush hx hb dL_law_347 (by decide) ?_
    refine j_remT hx hb ⟨by omega, by omega⟩ ⟨by omega, by omega⟩ dL_law_349 (fun w_39 hw_39 kw_39 => ?_)
    refine j_iadd hx hb dL_law_350 ?_
    refine lv_iload hx hb dL_law_351 (lv_at hl 0 rfl) ?_
    refine lv_iload hx hb dL_law_353 (lv_at hl 0 rfl) ?_
    refine j_if_ne (tgt := 362) hx hb dL_law_355 (by decide) ⟨by omega, by omega⟩ (fun c_40 => ?_) (fun c_40 => ?_)
    · refine lv_iload hx hb dL_law_362 (lv_at hl 0 rfl) ?_
      refine j_iconst hx hb dL_law_364 ?_
      refine j_icmp_ne (tgt := 382) hx hb dL_law_365 (by decide) ⟨by omega, by omega⟩ ⟨by decide, by decide⟩ (fun c_41 => ?_) (fun c_41 => ?_)
      · refine j_iconst hx hb dL_law_382 ?_
        refine lv_iload hx hb dL_law_383 (lv_at hl 12 rfl) ?_
        refine j_bipush hx hb dL_law_385 (by decide) ?_
        refine j_shrT (n := 17) hx hb ⟨by omega, by omega⟩ (by decide) dL_law_387 (fun w_42 hw_42 kw_42 => ?_)
        refine j_iconst hx hb dL_law_388 ?_
        refine j_remT hx hb ⟨by omega, by omega⟩ ⟨by omega, by omega⟩ dL_law_389 (fun w_43 hw_43 kw_43 => ?_)
        refine j_iadd hx hb dL_law_390 ?_
        refine m_run (vx_runSW (As := [.ref x, .int (iI 1), .int (iI (10 * w_2)), .int (iI (((10 * w_2) + 1) + w_39)), .int (iI w_4), .int (iI (1 + w_43))]) (rest := []) ⟨hx, hb, hml, hown, hts⟩ (k_L_makes (l := l) hfl hC hV (cv := 1) (f := (10 * w_2)) (t := (((10 * w_2) + 1) + w_39)) (k := w_4) (d := (1 + w_43)) (by omega) (by unfold okR; omega) (by unfold okK; omega)) (vx_cwSW 6 hts gL_law_L_makes rfl rfl rfl (by decide +kernel) ⟨by decide, by decide⟩) ⟨Kp.blind _ _ _ _ _, fun U hU hW => hK.pass hB U hU hW⟩ rfl rfl hl.1 rfl (lv_room (Nat.le_of_ble_eq_true rfl)) dL_law_391 ⟨(by show cells + 0 + 13 ≤ 758523; omega), (by show slots + 0 + 78 ≤ 6826128; omega)⟩) hB (fun v u H locs hp hB => ?_)
        rcases hp with ⟨rfl, hC, hFm⟩ | ⟨r, σ2, rfl, hr, hcv, ⟨hV, i1, i2, i6, i9, i10, i11, i0⟩, ⟨xp, xr, pa, ra, hC⟩, hFm⟩
        · have hk := hFm.I hk
          show W _ _ _ _ _ _ _ _ _ _ _ _ _ _ _ (F0 m 394 ls [.int (iI (-3))])
          refine lv_istore (lv' := [(19, .int (iI (-3))), (18, .int (iI w_4)), (17, .int (iI (10 * w_2))), (0, .ref b), (1, .ref x), (2, .ref ka), (3, .int (iI (ni : Int))), (4, .int (iI rem)), (5, .int (iI st)), (6, .int (iI 1)), (7, .int (iI tn)), (8, .int (iI (tu : Int))), (9, .int (iI x9)), (10, .int (iI (yn : Int))), (11, .int (iI (dn : Int))), (12, .int (iI (σ 9 0))), (13, .int (iI pt)), (14, .int (iI ot)), (15, .int (iI (rn : Int))), (16, .int (iI (nTb σ)))]) hx hb dL_law_394 hl (by decide) rfl (fun ls hl => ?_)
          refine lv_iload hx hb dL_law_396 (lv_at hl 0 rfl) ?_
          refine j_bipush hx hb dL_law_398 (by decide) ?_
          refine j_icmp_ne (tgt := 420) hx hb dL_law_400 (by decide) ⟨by decide, by decide⟩ ⟨by decide, by decide⟩ (fun c_44 => False.elim (by omega)) (fun c_44 => ?_)
          refine lv_aload_n hx hb dL_law_403 rfl (lv_at hl 4 rfl) ?_
          refine m_run (va_runV (As := []) (rest := []) ⟨hx, hb, hml, hown, hts⟩ (k_X3_parts (l := l) hC hI) (cwV 0 hts gL_law_X3_parts rfl rfl rfl (by decide +kernel) ⟨by decide, by decide⟩) ⟨Kp.blind _ _ _ _ _, m_recv hK hB (ci := 3) rfl hC.tb, fun U hU hW => hK.pass hB U hU hW⟩ rfl rfl hl.1 rfl (lv_room (Nat.le_of_ble_eq_true rfl)) dL_law_404 ⟨(by show cells + 13 + 0 ≤ 758523; omega), (by show slots + 78 + 0 ≤ 6826128; omega)⟩) hB (fun v u H locs hp hB => ?_)
          obtain ⟨rfl, hC, hFm⟩ := hp
          have hk := hFm.I hk
          show W _ _ _ _ _ _ _ _ _ _ _ _ _ _ _ (F0 m 407 ls [.int (iI (σ 9 0))])
          refine lv_iload hx hb dL_law_407 (lv_at hl 15 rfl) ?_
          refine j_icmp_ne (tgt := 416) hx hb dL_law_409 (by decide) ⟨by omega, by omega⟩ ⟨by omega, by omega⟩ (fun c_45 => False.elim (by omega)) (fun c_45 => ?_)
          refine j_iconst hx hb dL_law_412 ?_
          refine lv_goto (tgt := 474) hx hb dL_law_413 (by decide) ?_
          refine lv_istore (lv' := [(6, .int (iI 1)), (19, .int (iI (-3))), (18, .int (iI w_4)), (17, .int (iI (10 * w_2))), (0, .ref b), (1, .ref x), (2, .ref ka), (3, .int (iI (ni : Int))), (4, .int (iI rem)), (5, .int (iI st)), (7, .int (iI tn)), (8, .int (iI (tu : Int))), (9, .int (iI x9)), (10, .int (iI (yn : Int))), (11, .int (iI (dn : Int))), (12, .int (iI (σ 9 0))), (13, .int (iI pt)), (14, .int (iI ot)), (15, .int (iI (rn : Int))), (16, .int (iI (nTb σ)))]) hx hb dL_law_474 hl (by decide) rfl (fun ls hl => ?_)
          refine lv_goto (tgt := 1129) hx hb dL_law_476 (by decide) ?_
          refine W.widen (k := cells + 60) (n := slots + 400) (by show cells + 13 ≤ cells + 60; omega) (by show slots + 78 ≤ slots + 400; omega) ?_
          exact kk σ ni rem st _ _ _ _ ⟨hV, hC.x, ⟨_, hk, hkf⟩, by omega, by omega, by omega, by omega⟩ hB (lv_sub hl [4, 5, 6, 7, 8, 9, 0, 10, 11, 13] rfl)
        · have hk := hFm.I hk
          have hkf := i6.kf hkf
          have hI := hV.ib
          have hnp := hI.hnp
          have hnpI := hI.npI
          have htb2 := nTb_rg hI
          have hst2 := hI.2.2.1
          show W _ _ _ _ _ _ _ _ _ _ _ _ _ _ _ (F0 m 394 ls [.int (iI r)])
          refine lv_istore (lv' := [(19, .int (iI r)), (18, .int (iI w_4)), (17, .int (iI (10 * w_2))), (0, .ref b), (1, .ref x), (2, .ref ka), (3, .int (iI (ni : Int))), (4, .int (iI rem)), (5, .int (iI st)), (6, .int (iI 1)), (7, .int (iI tn)), (8, .int (iI (tu : Int))), (9, .int (iI x9)), (10, .int (iI (yn : Int))), (11, .int (iI (dn : Int))), (12, .int (iI (σ 9 0))), (13, .int (iI pt)), (14, .int (iI ot)), (15, .int (iI (rn : Int))), (16, .int (iI (nTb σ)))]) hx hb dL_law_394 hl (by decide) rfl (fun ls hl => ?_)
          refine lv_iload hx hb dL_law_396 (lv_at hl 0 rfl) ?_
          refine j_bipush hx hb dL_law_398 (by decide) ?_
          refine j_icmp_ne (tgt := 420) hx hb dL_law_400 (by decide) ⟨by omega, by omega⟩ ⟨by decide, by decide⟩ (fun c_46 => ?_) (fun c_46 => False.elim (by omega))
          refine lv_aload_n hx hb dL_law_420 rfl (lv_at hl 4 rfl) ?_
          refine m_run (va_runV (As := []) (rest := []) ⟨hx, hb, hml, hown, hts⟩ (k_X3_parts (l := l) hC hI) (cwV 0 hts gL_law_X3_parts rfl rfl rfl (by decide +kernel) ⟨by decide, by decide⟩) ⟨Kp.blind _ _ _ _ _, m_recv hK hB (ci := 3) rfl hC.tb, fun U hU hW => hK.pass hB U hU hW⟩ rfl rfl hl.1 rfl (lv_room (Nat.le_of_ble_eq_true rfl)) dL_law_421 ⟨(by show cells + 13 + 0 ≤ 758523; omega), (by show slots + 78 + 0 ≤ 6826128; omega)⟩) hB (fun v u H locs hp hB => ?_)
          obtain ⟨rfl, hC, hFm⟩ := hp
          have hk := hFm.I hk
          show W _ _ _ _ _ _ _ _ _ _ _ _ _ _ _ (F0 m 424 ls [.int (iI (σ2 9 0))])
          refine lv_iload hx hb dL_law_424 (lv_at hl 15 rfl) ?_
          refine j_iconst hx hb dL_law_426 ?_
          refine j_iadd hx hb dL_law_427 ?_
          refine j_icmp_ne (tgt := 473) hx hb dL_law_428 (by decide) ⟨by omega, by omega⟩ ⟨by omega, by omega⟩ (fun c_47 => False.elim (by omega)) (fun c_47 => ?_)
          refine lv_aload_n hx hb dL_law_431 rfl (lv_at hl 4 rfl) ?_
          refine lv_iload hx hb dL_law_432 (lv_at hl 2 rfl) ?_
          refine m_runX (vx_runV (As := [.int (iI (10 * w_2))]) (rest := []) ⟨hx, hb, hml, hown, hts⟩ (k_X3_partOf (l := l) hfl hC hI (ky := (10 * w_2)) ⟨by omega, by omega⟩) (cwV 1 hts gL_law_X3_partOf rfl rfl rfl (by decide +kernel) ⟨by decide, by decide⟩) ⟨Kp.blind _ _ _ _ _, m_recv hK hB (ci := 3) rfl hC.tb, fun U hU hW => hK.pass hB U hU hW⟩ rfl rfl hl.1 rfl (lv_room (Nat.le_of_ble_eq_true rfl)) dL_law_434 ⟨(by show cells + 13 + 1 ≤ 758523; omega), (by show slots + 78 + 6 ≤ 6826128; omega)⟩) hB (fun E u H locs q9 ce hp hB hc9 hv9 hk9 => absurd ⟨by omega, by omega⟩ hp.1.2) (fun v u H locs hp hB => ?_)
          obtain ⟨⟨-, rfl⟩, hC, hFm⟩ := hp
          have hk := hFm.I hk
          show W _ _ _ _ _ _ _ _ _ _ _ _ _ _ _ (F0 m 437 ls [.int (iI ((pw σ2 (10 * w_2) : Nat) : Int))])
          refine lv_iload hx hb dL_law_437 (lv_at hl 15 rfl) ?_
          refine j_iconst hx hb dL_law_439 ?_
          refine j_iadd hx hb dL_law_440 ?_
          refine j_icmp_ne (tgt := 473) hx hb dL_law_441 (by decide) ⟨by omega, by omega⟩ ⟨by omega, by omega⟩ (fun c_48 => False.elim (by omega)) (fun c_48 => ?_)
          refine lv_aload_n hx hb dL_law_444 rfl (lv_at hl 4 rfl) ?_
          refine m_run (va_runV (As := []) (rest := []) ⟨hx, hb, hml, hown, hts⟩ (k_X3_rows (l := l) hC hI) (cwV 0 hts gL_law_X3_rows rfl rfl rfl (by decide +kernel) ⟨by decide, by decide⟩) ⟨Kp.blind _ _ _ _ _, m_recv hK hB (ci := 3) rfl hC.tb, fun U hU hW => hK.pass hB U hU hW⟩ rfl rfl hl.1 rfl (lv_room (Nat.le_of_ble_eq_true rfl)) dL_law_445 ⟨(by show cells + 14 + 0 ≤ 758523; omega), (by show slots + 84 + 0 ≤ 6826128; omega)⟩) hB (fun v u H locs hp hB => ?_)
          obtain ⟨rfl, hC, hFm⟩ := hp
          have hk := hFm.I hk
          show W _ _ _ _ _ _ _ _ _ _ _ _ _ _ _ (F0 m 448 ls [.int (iI (nTb σ2))])
          refine lv_iload hx hb dL_law_448 (lv_at hl 19 rfl) ?_
          refine j_icmp_ne (tgt := 473) hx hb dL_law_450 (by decide) ⟨by omega, by omega⟩ ⟨by omega, by omega⟩ (fun c_49 => False.elim (by omega)) (fun c_49 => ?_)
          refine lv_iload hx hb dL_law_453 (lv_at hl 13 rfl) ?_
          refine j_iconst hx hb dL_law_455 ?_
          refine j_iand hx hb (by omega) (by decide) dL_law_456 ?_
          show W _ _ _ _ _ _ _ _ _ _ _ _ _ _ _ (F0 m 457 ls [.int (iI ((yn &&& 3 : Nat) : Int))])
          have ha3 : yn &&& 3 ≤ 3 := Nat.and_le_right
          refine j_if_gt (tgt := 469) hx hb dL_law_457 (by decide) ⟨by omega, by omega⟩ (fun c_50 => ?_) (fun c_50 => False.elim (by omega))
          refine j_iconst hx hb dL_law_469 ?_
          refine lv_goto (tgt := 474) hx hb dL_law_470 (by decide) ?_
          refine lv_istore (lv' := [(6, .int (iI 1)), (19, .int (iI r)), (18, .int (iI w_4)), (17, .int (iI (10 * w_2))), (0, .ref b), (1, .ref x), (2, .ref ka), (3, .int (iI (ni : Int))), (4, .int (iI rem)), (5, .int (iI st)), (7, .int (iI tn)), (8, .int (iI (tu : Int))), (9, .int (iI x9)), (10, .int (iI (yn : Int))), (11, .int (iI (dn : Int))), (12, .int (iI (σ 9 0))), (13, .int (iI pt)), (14, .int (iI ot)), (15, .int (iI (rn : Int))), (16, .int (iI (nTb σ)))]) hx hb dL_law_474 hl (by decide) rfl (fun ls hl => ?_)
          refine lv_goto (tgt := 1129) hx hb dL_law_476 (by decide) ?_
          refine W.widen (k := cells + 60) (n := slots + 400) (by show cells + 14 ≤ cells + 60; omega) (by show slots + 84 ≤ slots + 400; omega) ?_
          exact kk σ2 ni rem st _ _ _ _ ⟨hV, hC.x, ⟨_, hk, hkf⟩, by omega, by omega, by omega, by omega⟩ hB (lv_sub hl [4, 5, 6, 7, 8, 9, 0, 10, 11, 13] rfl)
      · refine j_iconst hx hb dL_law_368 ?_
        refine lv_iload hx hb dL_law_369 (lv_at hl 12 rfl) ?_
        refine j_bipush hx hb dL_law_371 (by decide) ?_
        refine j_shrT (n := 17) hx hb ⟨by omega, by omega⟩ (by decide) dL_law_373 (fun w_51 hw_51 kw_51 => ?_)
        refine j_sipush hx hb dL_law_374 (by decide) ?_
        refine j_remT hx hb ⟨by omega, by omega⟩ ⟨by omega, by omega⟩ dL_law_377 (fun w_52 hw_52 kw_52 => ?_)
        refine j_iadd hx hb dL_law_378 ?_
        refine lv_goto (tgt := 391) hx hb dL_law_379 (by decide) ?_
        refine m_run (vx_runSW (As := [.ref x, .int (iI 1), .int (iI (10 * w_2)), .int (iI (((10 * w_2) + 1) + w_39)), .int (iI w_4), .int (iI (1 + w_52))]) (rest := []) ⟨hx, hb, hml, hown, hts⟩ (k_L_makes (l := l) hfl hC hV (cv := 1) (f := (10 * w_2)) (t := (((10 * w_2) + 1) + w_39)) (k := w_4) (d := (1 + w_52)) (by omega) (by unfold okR; omega) (by unfold okK; omega)) (vx_cwSW 6 hts gL_law_L_makes rfl rfl rfl (by decide +kernel) ⟨by decide, by decide⟩) ⟨Kp.blind _ _ _ _ _, fun U hU hW => hK.pass hB U hU hW⟩ rfl rfl hl.1 rfl (lv_room (Nat.le_of_ble_eq_true rfl)) dL_law_391 ⟨(by show cells + 0 + 13 ≤ 758523; omega), (by show slots + 0 + 78 ≤ 6826128; omega)⟩) hB (fun v u H locs hp hB => ?_)
        rcases hp with ⟨rfl, hC, hFm⟩ | ⟨r, σ2, rfl, hr, hcv, ⟨hV, i1, i2, i6, i9, i10, i11, i0⟩, ⟨xp, xr, pa, ra, hC⟩, hFm⟩
        · have hk := hFm.I hk
          show W _ _ _ _ _ _ _ _ _ _ _ _ _ _ _ (F0 m 394 ls [.int (iI (-3))])
          refine lv_istore (lv' := [(19, .int (iI (-3))), (18, .int (iI w_4)), (17, .int (iI (10 * w_2))), (0, .ref b), (1, .ref x), (2, .ref ka), (3, .int (iI (ni : Int))), (4, .int (iI rem)), (5, .int (iI st)), (6, .int (iI 1)), (7, .int (iI tn)), (8, .int (iI (tu : Int))), (9, .int (iI x9)), (10, .int (iI (yn : Int))), (11, .int (iI (dn : Int))), (12, .int (iI (σ 9 0))), (13, .int (iI pt)), (14, .int (iI ot)), (15, .int (iI (rn : Int))), (16, .int (iI (nTb σ)))]) hx hb dL_law_394 hl (by decide) rfl (fun ls hl => ?_)
          refine lv_iload hx hb dL_law_396 (lv_at hl 0 rfl) ?_
          refine j_bipush hx hb dL_law_398 (by decide) ?_
          refine j_icmp_ne (tgt := 420) hx hb dL_law_400 (by decide) ⟨by decide, by decide⟩ ⟨by decide, by decide⟩ (fun c_53 => False.elim (by omega)) (fun c_53 => ?_)
          refine lv_aload_n hx hb dL_law_403 rfl (lv_at hl 4 rfl) ?_
          refine m_run (va_runV (As := []) (rest := []) ⟨hx, hb, hml, hown, hts⟩ (k_X3_parts (l := l) hC hI) (cwV 0 hts gL_law_X3_parts rfl rfl rfl (by decide +kernel) ⟨by decide, by decide⟩) ⟨Kp.blind _ _ _ _ _, m_recv hK hB (ci := 3) rfl hC.tb, fun U hU hW => hK.pass hB U hU hW⟩ rfl rfl hl.1 rfl (lv_room (Nat.le_of_ble_eq_true rfl)) dL_law_404 ⟨(by show cells + 13 + 0 ≤ 758523; omega), (by show slots + 78 + 0 ≤ 6826128; omega)⟩) hB (fun v u H locs hp hB => ?_)
          obtain ⟨rfl, hC, hFm⟩ := hp
          have hk := hFm.I hk
          show W _ _ _ _ _ _ _ _ _ _ _ _ _ _ _ (F0 m 407 ls [.int (iI (σ 9 0))])
          refine lv_iload hx hb dL_law_407 (lv_at hl 15 rfl) ?_
          refine j_icmp_ne (tgt := 416) hx hb dL_law_409 (by decide) ⟨by omega, by omega⟩ ⟨by omega, by omega⟩ (fun c_54 => False.elim (by omega)) (fun c_54 => ?_)
          refine j_iconst hx hb dL_law_412 ?_
          refine lv_goto (tgt := 474) hx hb dL_law_413 (by decide) ?_
          refine lv_istore (lv' := [(6, .int (iI 1)), (19, .int (iI (-3))), (18, .int (iI w_4)), (17, .int (iI (10 * w_2))), (0, .ref b), (1, .ref x), (2, .ref ka), (3, .int (iI (ni : Int))), (4, .int (iI rem)), (5, .int (iI st)), (7, .int (iI tn)), (8, .int (iI (tu : Int))), (9, .int (iI x9)), (10, .int (iI (yn : Int))), (11, .int (iI (dn : Int))), (12, .int (iI (σ 9 0))), (13, .int (iI pt)), (14, .int (iI ot)), (15, .int (iI (rn : Int))), (16, .int (iI (nTb σ)))]) hx hb dL_law_474 hl (by decide) rfl (fun ls hl => ?_)
          refine lv_goto (tgt := 1129) hx hb dL_law_476 (by decide) ?_
          refine W.widen (k := cells + 60) (n := slots + 400) (by show cells + 13 ≤ cells + 60; omega) (by show slots + 78 ≤ slots + 400; omega) ?_
          exact kk σ ni rem st _ _ _ _ ⟨hV, hC.x, ⟨_, hk, hkf⟩, by omega, by omega, by omega, by omega⟩ hB (lv_sub hl [4, 5, 6, 7, 8, 9, 0, 10, 11, 13] rfl)
        · have hk := hFm.I hk
          have hkf := i6.kf hkf
          have hI := hV.ib
          have hnp := hI.hnp
          have hnpI := hI.npI
          have htb2 := nTb_rg hI
          have hst2 := hI.2.2.1
          show W _ _ _ _ _ _ _ _ _ _ _ _ _ _ _ (F0 m 394 ls [.int (iI r)])
          refine lv_istore (lv' := [(19, .int (iI r)), (18, .int (iI w_4)), (17, .int (iI (10 * w_2))), (0, .ref b), (1, .ref x), (2, .ref ka), (3, .int (iI (ni : Int))), (4, .int (iI rem)), (5, .int (iI st)), (6, .int (iI 1)), (7, .int (iI tn)), (8, .int (iI (tu : Int))), (9, .int (iI x9)), (10, .int (iI (yn : Int))), (11, .int (iI (dn : Int))), (12, .int (iI (σ 9 0))), (13, .int (iI pt)), (14, .int (iI ot)), (15, .int (iI (rn : Int))), (16, .int (iI (nTb σ)))]) hx hb dL_law_394 hl (by decide) rfl (fun ls hl => ?_)
          refine lv_iload hx hb dL_law_396 (lv_at hl 0 rfl) ?_
          refine j_bipush hx hb dL_law_398 (by decide) ?_
          refine j_icmp_ne (tgt := 420) hx hb dL_law_400 (by decide) ⟨by omega, by omega⟩ ⟨by decide, by decide⟩ (fun c_55 => ?_) (fun c_55 => False.elim (by omega))
          refine lv_aload_n hx hb dL_law_420 rfl (lv_at hl 4 rfl) ?_
          refine m_run (va_runV (As := []) (rest := []) ⟨hx, hb, hml, hown, hts⟩ (k_X3_parts (l := l) hC hI) (cwV 0 hts gL_law_X3_parts rfl rfl rfl (by decide +kernel) ⟨by decide, by decide⟩) ⟨Kp.blind _ _ _ _ _, m_recv hK hB (ci := 3) rfl hC.tb, fun U hU hW => hK.pass hB U hU hW⟩ rfl rfl hl.1 rfl (lv_room (Nat.le_of_ble_eq_true rfl)) dL_law_421 ⟨(by show cells + 13 + 0 ≤ 758523; omega), (by show slots + 78 + 0 ≤ 6826128; omega)⟩) hB (fun v u H locs hp hB => ?_)
          obtain ⟨rfl, hC, hFm⟩ := hp
          have hk := hFm.I hk
          show W _ _ _ _ _ _ _ _ _ _ _ _ _ _ _ (F0 m 424 ls [.int (iI (σ2 9 0))])
          refine lv_iload hx hb dL_law_424 (lv_at hl 15 rfl) ?_
          refine j_iconst hx hb dL_law_426 ?_
          refine j_iadd hx hb dL_law_427 ?_
          refine j_icmp_ne (tgt := 473) hx hb dL_law_428 (by decide) ⟨by omega, by omega⟩ ⟨by omega, by omega⟩ (fun c_56 => False.elim (by omega)) (fun c_56 => ?_)
          refine lv_aload_n hx hb dL_law_431 rfl (lv_at hl 4 rfl) ?_
          refine lv_iload hx hb dL_law_432 (lv_at hl 2 rfl) ?_
          refine m_runX (vx_runV (As := [.int (iI (10 * w_2))]) (rest := []) ⟨hx, hb, hml, hown, hts⟩ (k_X3_partOf (l := l) hfl hC hI (ky := (10 * w_2)) ⟨by omega, by omega⟩) (cwV 1 hts gL_law_X3_partOf rfl rfl rfl (by decide +kernel) ⟨by decide, by decide⟩) ⟨Kp.blind _ _ _ _ _, m_recv hK hB (ci := 3) rfl hC.tb, fun U hU hW => hK.pass hB U hU hW⟩ rfl rfl hl.1 rfl (lv_room (Nat.le_of_ble_eq_true rfl)) dL_law_434 ⟨(by show cells + 13 + 1 ≤ 758523; omega), (by show slots + 78 + 6 ≤ 6826128; omega)⟩) hB (fun E u H locs q9 ce hp hB hc9 hv9 hk9 => absurd ⟨by omega, by omega⟩ hp.1.2) (fun v u H locs hp hB => ?_)
          obtain ⟨⟨-, rfl⟩, hC, hFm⟩ := hp
          have hk := hFm.I hk
          show W _ _ _ _ _ _ _ _ _ _ _ _ _ _ _ (F0 m 437 ls [.int (iI ((pw σ2 (10 * w_2) : Nat) : Int))])
          refine lv_iload hx hb dL_law_437 (lv_at hl 15 rfl) ?_
          refine j_iconst hx hb dL_law_439 ?_
          refine j_iadd hx hb dL_law_440 ?_
          refine j_icmp_ne (tgt := 473) hx hb dL_law_441 (by decide) ⟨by omega, by omega⟩ ⟨by omega, by omega⟩ (fun c_57 => False.elim (by omega)) (fun c_57 => ?_)
          refine lv_aload_n hx hb dL_law_444 rfl (lv_at hl 4 rfl) ?_
          refine m_run (va_runV (As := []) (rest := []) ⟨hx, hb, hml, hown, hts⟩ (k_X3_rows (l := l) hC hI) (cwV 0 hts gL_law_X3_rows rfl rfl rfl (by decide +kernel) ⟨by decide, by decide⟩) ⟨Kp.blind _ _ _ _ _, m_recv hK hB (ci := 3) rfl hC.tb, fun U hU hW => hK.pass hB U hU hW⟩ rfl rfl hl.1 rfl (lv_room (Nat.le_of_ble_eq_true rfl)) dL_law_445 ⟨(by show cells + 14 + 0 ≤ 758523; omega), (by show slots + 84 + 0 ≤ 6826128; omega)⟩) hB (fun v u H locs hp hB => ?_)
          obtain ⟨rfl, hC, hFm⟩ := hp
          have hk := hFm.I hk
          show W _ _ _ _ _ _ _ _ _ _ _ _ _ _ _ (F0 m 448 ls [.int (iI (nTb σ2))])
          refine lv_iload hx hb dL_law_448 (lv_at hl 19 rfl) ?_
          refine j_icmp_ne (tgt := 473) hx hb dL_law_450 (by decide) ⟨by omega, by omega⟩ ⟨by omega, by omega⟩ (fun c_58 => False.elim (by omega)) (fun c_58 => ?_)
          refine lv_iload hx hb dL_law_453 (lv_at hl 13 rfl) ?_
          refine j_iconst hx hb dL_law_455 ?_
          refine j_iand hx hb (by omega) (by decide) dL_law_456 ?_
          show W _ _ _ _ _ _ _ _ _ _ _ _ _ _ _ (F0 m 457 ls [.int (iI ((yn &&& 3 : Nat) : Int))])
          have ha3 : yn &&& 3 ≤ 3 := Nat.and_le_right
          refine j_if_gt (tgt := 469) hx hb dL_law_457 (by decide) ⟨by omega, by omega⟩ (fun c_59 => ?_) (fun c_59 => False.elim (by omega))
          refine j_iconst hx hb dL_law_469 ?_
          refine lv_goto (tgt := 474) hx hb dL_law_470 (by decide) ?_
          refine lv_istore (lv' := [(6, .int (iI 1)), (19, .int (iI r)), (18, .int (iI w_4)), (17, .int (iI (10 * w_2))), (0, .ref b), (1, .ref x), (2, .ref ka), (3, .int (iI (ni : Int))), (4, .int (iI rem)), (5, .int (iI st)), (7, .int (iI tn)), (8, .int (iI (tu : Int))), (9, .int (iI x9)), (10, .int (iI (yn : Int))), (11, .int (iI (dn : Int))), (12, .int (iI (σ 9 0))), (13, .int (iI pt)), (14, .int (iI ot)), (15, .int (iI (rn : Int))), (16, .int (iI (nTb σ)))]) hx hb dL_law_474 hl (by decide) rfl (fun ls hl => ?_)
          refine lv_goto (tgt := 1129) hx hb dL_law_476 (by decide) ?_
          refine W.widen (k := cells + 60) (n := slots + 400) (by show cells + 14 ≤ cells + 60; omega) (by show slots + 84 ≤ slots + 400; omega) ?_
          exact kk σ2 ni rem st _ _ _ _ ⟨hV, hC.x, ⟨_, hk, hkf⟩, by omega, by omega, by omega, by omega⟩ hB (lv_sub hl [4, 5, 6, 7, 8, 9, 0, 10, 11, 13] rfl)
    · refine j_iconst hx hb dL_law_358 ?_
      refine lv_goto (tgt := 391) hx hb dL_law_359 (by decide) ?_
      refine m_run (vx_runSW (As := [.ref x, .int (iI 1), .int (iI (10 * w_2)), .int (iI (((10 * w_2) + 1) + w_39)), .int (iI w_4), .int (iI 0)]) (rest := []) ⟨hx, hb, hml, hown, hts⟩ (k_L_makes (l := l) hfl hC hV (cv := 1) (f := (10 * w_2)) (t := (((10 * w_2) + 1) + w_39)) (k := w_4) (d := 0) (by omega) (by unfold okR; omega) (by unfold okK; omega)) (vx_cwSW 6 hts gL_law_L_makes rfl rfl rfl (by decide +kernel) ⟨by decide, by decide⟩) ⟨Kp.blind _ _ _ _ _, fun U hU hW => hK.pass hB U hU hW⟩ rfl rfl hl.1 rfl (lv_room (Nat.le_of_ble_eq_true rfl)) dL_law_391 ⟨(by show cells + 0 + 13 ≤ 758523; omega), (by show slots + 0 + 78 ≤ 6826128; omega)⟩) hB (fun v u H locs hp hB => ?_)
      rcases hp with ⟨rfl, hC, hFm⟩ | ⟨r, σ2, rfl, hr, hcv, ⟨hV, i1, i2, i6, i9, i10, i11, i0⟩, ⟨xp, xr, pa, ra, hC⟩, hFm⟩
      · have hk := hFm.I hk
        show W _ _ _ _ _ _ _ _ _ _ _ _ _ _ _ (F0 m 394 ls [.int (iI (-3))])
        refine lv_istore (lv' := [(19, .int (iI (-3))), (18, .int (iI w_4)), (17, .int (iI (10 * w_2))), (0, .ref b), (1, .ref x), (2, .ref ka), (3, .int (iI (ni : Int))), (4, .int (iI rem)), (5, .int (iI st)), (6, .int (iI 1)), (7, .int (iI tn)), (8, .int (iI (tu : Int))), (9, .int (iI x9)), (10, .int (iI (yn : Int))), (11, .int (iI (dn : Int))), (12, .int (iI (σ 9 0))), (13, .int (iI pt)), (14, .int (iI ot)), (15, .int (iI (rn : Int))), (16, .int (iI (nTb σ)))]) hx hb dL_law_394 hl (by decide) rfl (fun ls hl => ?_)
        refine lv_iload hx hb dL_law_396 (lv_at hl 0 rfl) ?_
        refine j_bipush hx hb dL_law_398 (by decide) ?_
        refine j_icmp_ne (tgt := 420) hx hb dL_law_400 (by decide) ⟨by decide, by decide⟩ ⟨by decide, by decide⟩ (fun c_60 => False.elim (by omega)) (fun c_60 => ?_)
        refine lv_aload_n hx hb dL_law_403 rfl (lv_at hl 4 rfl) ?_
        refine m_run (va_runV (As := []) (rest := []) ⟨hx, hb, hml, hown, hts⟩ (k_X3_parts (l := l) hC hI) (cwV 0 hts gL_law_X3_parts rfl rfl rfl (by decide +kernel) ⟨by decide, by decide⟩) ⟨Kp.blind _ _ _ _ _, m_recv hK hB (ci := 3) rfl hC.tb, fun U hU hW => hK.pass hB U hU hW⟩ rfl rfl hl.1 rfl (lv_room (Nat.le_of_ble_eq_true rfl)) dL_law_404 ⟨(by show cells + 13 + 0 ≤ 758523; omega), (by show slots + 78 + 0 ≤ 6826128; omega)⟩) hB (fun v u H locs hp hB => ?_)
        obtain ⟨rfl, hC, hFm⟩ := hp
        have hk := hFm.I hk
        show W _ _ _ _ _ _ _ _ _ _ _ _ _ _ _ (F0 m 407 ls [.int (iI (σ 9 0))])
        refine lv_iload hx hb dL_law_407 (lv_at hl 15 rfl) ?_
        refine j_icmp_ne (tgt := 416) hx hb dL_law_409 (by decide) ⟨by omega, by omega⟩ ⟨by omega, by omega⟩ (fun c_61 => False.elim (by omega)) (fun c_61 => ?_)
        refine j_iconst hx hb dL_law_412 ?_
        refine lv_goto (tgt := 474) hx hb dL_law_413 (by decide) ?_
        refine lv_istore (lv' := [(6, .int (iI 1)), (19, .int (iI (-3))), (18, .int (iI w_4)), (17, .int (iI (10 * w_2))), (0, .ref b), (1, .ref x), (2, .ref ka), (3, .int (iI (ni : Int))), (4, .int (iI rem)), (5, .int (iI st)), (7, .int (iI tn)), (8, .int (iI (tu : Int))), (9, .int (iI x9)), (10, .int (iI (yn : Int))), (11, .int (iI (dn : Int))), (12, .int (iI (σ 9 0))), (13, .int (iI pt)), (14, .int (iI ot)), (15, .int (iI (rn : Int))), (16, .int (iI (nTb σ)))]) hx hb dL_law_474 hl (by decide) rfl (fun ls hl => ?_)
        refine lv_goto (tgt := 1129) hx hb dL_law_476 (by decide) ?_
        refine W.widen (k := cells + 60) (n := slots + 400) (by show cells + 13 ≤ cells + 60; omega) (by show slots + 78 ≤ slots + 400; omega) ?_
        exact kk σ ni rem st _ _ _ _ ⟨hV, hC.x, ⟨_, hk, hkf⟩, by omega, by omega, by omega, by omega⟩ hB (lv_sub hl [4, 5, 6, 7, 8, 9, 0, 10, 11, 13] rfl)
      · have hk := hFm.I hk
        have hkf := i6.kf hkf
        have hI := hV.ib
        have hnp := hI.hnp
        have hnpI := hI.npI
        have htb2 := nTb_rg hI
        have hst2 := hI.2.2.1
        show W _ _ _ _ _ _ _ _ _ _ _ _ _ _ _ (F0 m 394 ls [.int (iI r)])
        refine lv_istore (lv' := [(19, .int (iI r)), (18, .int (iI w_4)), (17, .int (iI (10 * w_2))), (0, .ref b), (1, .ref x), (2, .ref ka), (3, .int (iI (ni : Int))), (4, .int (iI rem)), (5, .int (iI st)), (6, .int (iI 1)), (7, .int (iI tn)), (8, .int (iI (tu : Int))), (9, .int (iI x9)), (10, .int (iI (yn : Int))), (11, .int (iI (dn : Int))), (12, .int (iI (σ 9 0))), (13, .int (iI pt)), (14, .int (iI ot)), (15, .int (iI (rn : Int))), (16, .int (iI (nTb σ)))]) hx hb dL_law_394 hl (by decide) rfl (fun ls hl => ?_)
        refine lv_iload hx hb dL_law_396 (lv_at hl 0 rfl) ?_
        refine j_bipush hx hb dL_law_398 (by decide) ?_
        refine j_icmp_ne (tgt := 420) hx hb dL_law_400 (by decide) ⟨by omega, by omega⟩ ⟨by decide, by decide⟩ (fun c_62 => ?_) (fun c_62 => False.elim (by omega))
        refine lv_aload_n hx hb dL_law_420 rfl (lv_at hl 4 rfl) ?_
        refine m_run (va_runV (As := []) (rest := []) ⟨hx, hb, hml, hown, hts⟩ (k_X3_parts (l := l) hC hI) (cwV 0 hts gL_law_X3_parts rfl rfl rfl (by decide +kernel) ⟨by decide, by decide⟩) ⟨Kp.blind _ _ _ _ _, m_recv hK hB (ci := 3) rfl hC.tb, fun U hU hW => hK.pass hB U hU hW⟩ rfl rfl hl.1 rfl (lv_room (Nat.le_of_ble_eq_true rfl)) dL_law_421 ⟨(by show cells + 13 + 0 ≤ 758523; omega), (by show slots + 78 + 0 ≤ 6826128; omega)⟩) hB (fun v u H locs hp hB => ?_)
        obtain ⟨rfl, hC, hFm⟩ := hp
        have hk := hFm.I hk
        show W _ _ _ _ _ _ _ _ _ _ _ _ _ _ _ (F0 m 424 ls [.int (iI (σ2 9 0))])
        refine lv_iload hx hb dL_law_424 (lv_at hl 15 rfl) ?_
        refine j_iconst hx hb dL_law_426 ?_
        refine j_iadd hx hb dL_law_427 ?_
        refine j_icmp_ne (tgt := 473) hx hb dL_law_428 (by decide) ⟨by omega, by omega⟩ ⟨by omega, by omega⟩ (fun c_63 => False.elim (by omega)) (fun c_63 => ?_)
        refine lv_aload_n hx hb dL_law_431 rfl (lv_at hl 4 rfl) ?_
        refine lv_iload hx hb dL_law_432 (lv_at hl 2 rfl) ?_
        refine m_runX (vx_runV (As := [.int (iI (10 * w_2))]) (rest := []) ⟨hx, hb, hml, hown, hts⟩ (k_X3_partOf (l := l) hfl hC hI (ky := (10 * w_2)) ⟨by omega, by omega⟩) (cwV 1 hts gL_law_X3_partOf rfl rfl rfl (by decide +kernel) ⟨by decide, by decide⟩) ⟨Kp.blind _ _ _ _ _, m_recv hK hB (ci := 3) rfl hC.tb, fun U hU hW => hK.pass hB U hU hW⟩ rfl rfl hl.1 rfl (lv_room (Nat.le_of_ble_eq_true rfl)) dL_law_434 ⟨(by show cells + 13 + 1 ≤ 758523; omega), (by show slots + 78 + 6 ≤ 6826128; omega)⟩) hB (fun E u H locs q9 ce hp hB hc9 hv9 hk9 => absurd ⟨by omega, by omega⟩ hp.1.2) (fun v u H locs hp hB => ?_)
        obtain ⟨⟨-, rfl⟩, hC, hFm⟩ := hp
        have hk := hFm.I hk
        show W _ _ _ _ _ _ _ _ _ _ _ _ _ _ _ (F0 m 437 ls [.int (iI ((pw σ2 (10 * w_2) : Nat) : Int))])
        refine lv_iload hx hb dL_law_437 (lv_at hl 15 rfl) ?_
        refine j_iconst hx hb dL_law_439 ?_
        refine j_iadd hx hb dL_law_440 ?_
        refine j_icmp_ne (tgt := 473) hx hb dL_law_441 (by decide) ⟨by omega, by omega⟩ ⟨by omega, by omega⟩ (fun c_64 => False.elim (by omega)) (fun c_64 => ?_)
        refine lv_aload_n hx hb dL_law_444 rfl (lv_at hl 4 rfl) ?_
        refine m_run (va_runV (As := []) (rest := []) ⟨hx, hb, hml, hown, hts⟩ (k_X3_rows (l := l) hC hI) (cwV 0 hts gL_law_X3_rows rfl rfl rfl (by decide +kernel) ⟨by decide, by decide⟩) ⟨Kp.blind _ _ _ _ _, m_recv hK hB (ci := 3) rfl hC.tb, fun U hU hW => hK.pass hB U hU hW⟩ rfl rfl hl.1 rfl (lv_room (Nat.le_of_ble_eq_true rfl)) dL_law_445 ⟨(by show cells + 14 + 0 ≤ 758523; omega), (by show slots + 84 + 0 ≤ 6826128; omega)⟩) hB (fun v u H locs hp hB => ?_)
        obtain ⟨rfl, hC, hFm⟩ := hp
        have hk := hFm.I hk
        show W _ _ _ _ _ _ _ _ _ _ _ _ _ _ _ (F0 m 448 ls [.int (iI (nTb σ2))])
        refine lv_iload hx hb dL_law_448 (lv_at hl 19 rfl) ?_
        refine j_icmp_ne (tgt := 473) hx hb dL_law_450 (by decide) ⟨by omega, by omega⟩ ⟨by omega, by omega⟩ (fun c_65 => False.elim (by omega)) (fun c_65 => ?_)
        refine lv_iload hx hb dL_law_453 (lv_at hl 13 rfl) ?_
        refine j_iconst hx hb dL_law_455 ?_
        refine j_iand hx hb (by omega) (by decide) dL_law_456 ?_
        show W _ _ _ _ _ _ _ _ _ _ _ _ _ _ _ (F0 m 457 ls [.int (iI ((yn &&& 3 : Nat) : Int))])
        have ha3 : yn &&& 3 ≤ 3 := Nat.and_le_right
        refine j_if_gt (tgt := 469) hx hb dL_law_457 (by decide) ⟨by omega, by omega⟩ (fun c_66 => ?_) (fun c_66 => False.elim (by omega))
        refine j_iconst hx hb dL_law_469 ?_
        refine lv_goto (tgt := 474) hx hb dL_law_470 (by decide) ?_
        refine lv_istore (lv' := [(6, .int (iI 1)), (19, .int (iI r)), (18, .int (iI w_4)), (17, .int (iI (10 * w_2))), (0, .ref b), (1, .ref x), (2, .ref ka), (3, .int (iI (ni : Int))), (4, .int (iI rem)), (5, .int (iI st)), (7, .int (iI tn)), (8, .int (iI (tu : Int))), (9, .int (iI x9)), (10, .int (iI (yn : Int))), (11, .int (iI (dn : Int))), (12, .int (iI (σ 9 0))), (13, .int (iI pt)), (14, .int (iI ot)), (15, .int (iI (rn : Int))), (16, .int (iI (nTb σ)))]) hx hb dL_law_474 hl (by decide) rfl (fun ls hl => ?_)
        refine lv_goto (tgt := 1129) hx hb dL_law_476 (by decide) ?_
        refine W.widen (k := cells + 60) (n := slots + 400) (by show cells + 14 ≤ cells + 60; omega) (by show slots + 84 ≤ slots + 400; omega) ?_
        exact kk σ2 ni rem st _ _ _ _ ⟨hV, hC.x, ⟨_, hk, hkf⟩, by omega, by omega, by omega, by omega⟩ hB (lv_sub hl [4, 5, 6, 7, 8, 9, 0, 10, 11, 13] rfl)

