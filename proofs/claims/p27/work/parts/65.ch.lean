set_option maxHeartbeats 4000000 in
set_option maxRecDepth 100000 in
theorem ld_ch {l : Launch} (hfl : l.stackTraces = false) {D : va_G} {cI cP cR cJ : ClassId} {p : Program} {e : Env} {s : State} {m : MethodId} {below : List Frame} {meth : Method} {c : Code} {b L : Nat} {xs : Nat → Int32} (hL : L ≤ 260) (hx : p.tables.exec = Jvm.exec) (hb : c.code = cL_law) (hml : c.maxLocals = 20) (hown : s.vm.findClass RL = some m.cls) (hts : ∀ w ∈ wsL_law, w.before #[Value.ref b] s = true) (hX : va_X b L xs s s.heap) (hbl : b < s.heap.size) (hK : Kb D s.heap.size (tyL cI cP cR cJ) s) {x ka tu ni yn : Nat} {rem st tn : Int} {rn dn : Nat} {x9 pt ot : Int} {σ : Sg} {h0 : Hp} {H : Heap} {locs : List Loc} (hS : LwP cI cP cR x ka σ ni rem st h0) (hB : Bk D s.heap.size s.heap h0 H locs) (fy : yn ≤ 268435455) (ft : tu ≤ 240) (ftn : 0 ≤ tn ∧ tn ≤ 240) (fp : 0 ≤ pt ∧ pt ≤ σ 9 0 + 1) (fo : 0 ≤ ot ∧ ot ≤ σ 9 0 + 1) (fr : rn ≤ ni)  {cells slots : Nat} (hc : cells + 60 ≤ 758523) (hs : slots + 400 ≤ 6826128) {Q : State → Prop} {ls : Array Slot} (hl : lv_has ls 20 [(0, .ref b), (1, .ref x), (2, .ref ka), (3, .int (iI (ni : Int))), (4, .int (iI rem)), (5, .int (iI st)), (6, .int (iI 1)), (7, .int (iI tn)), (8, .int (iI (tu : Int))), (9, .int (iI x9)), (10, .int (iI (yn : Int))), (11, .int (iI (dn : Int))), (12, .int (iI (σ 9 0))), (13, .int (iI pt)), (14, .int (iI ot)), (15, .int (iI (rn : Int))), (16, .int (iI (nTb σ)))]) (kk : ∀ (σ2 : Sg) (n2 : Nat) (r2 s2 : Int) (h2 : Hp) (H2 : Heap) (locs2 : List Loc) (ls2 : Array Slot), LwP cI cP cR x ka σ2 n2 r2 s2 h2 → Bk D s.heap.size s.heap h2 H2 locs2 → lv_has ls2 20 [(0, .ref b), (1, .ref x), (2, .ref ka), (3, .int (iI (n2 : Int))), (4, .int (iI r2)), (5, .int (iI s2)), (6, .int (iI 1)), (7, .int (iI tn)), (8, .int (iI (tu : Int))), (10, .int (iI (yn : Int)))] → W p l e room_1 s m #[Value.ref b] below meth c H2 locs2 (cells + 60) (slots + 400) Q (F0 m 1129 ls2 [])) : W p l e room_1 s m #[Value.ref b] below meth c H locs cells slots Q (F0 m 868 ls []) := by
  obtain ⟨hV, ⟨xp, xr, pa, ra, hC⟩, ⟨f, hk, hkf⟩, hni, hn64, hlv, hst⟩ := hS
  have hI := hV.ib
  have hnp := hI.hnp
  have hnpI := hI.npI
  have hnl := nLv_rg hI
  have htb := nTb_rg hI
  have hst1 := hI.2.2.1
  refine j_bipush hx hb dL_law_868 (by decide) ?_
  refine lv_iload hx hb dL_law_870 (lv_at hl 10 rfl) ?_
  refine j_bipush hx hb dL_law_872 (by decide) ?_
  refine j_shrT (n := 6) hx hb ⟨by omega, by omega⟩ (by decide) dL_law_874 (fun w_1 hw_1 kw_1 => ?_)
  refine j_bipush hx hb dL_law_875 (by decide) ?_
  refine j_remT hx hb ⟨by omega, by omega⟩ ⟨by omega, by omega⟩ dL_law_877 (fun w_2 hw_2 kw_2 => ?_)
  refine j_imul hx hb dL_law_878 ?_
  refine lv_istore (lv' := [(17, .int (iI (10 * w_2))), (0, .ref b), (1, .ref x), (2, .ref ka), (3, .int (iI (ni : Int))), (4, .int (iI rem)), (5, .int (iI st)), (6, .int (iI 1)), (7, .int (iI tn)), (8, .int (iI (tu : Int))), (9, .int (iI x9)), (10, .int (iI (yn : Int))), (11, .int (iI (dn : Int))), (12, .int (iI (σ 9 0))), (13, .int (iI pt)), (14, .int (iI ot)), (15, .int (iI (rn : Int))), (16, .int (iI (nTb σ)))]) hx hb dL_law_879 hl (by decide) rfl (fun ls hl => ?_)
  refine lv_aload_n hx hb dL_law_881 rfl (lv_at hl 2 rfl) ?_
  refine lv_iload hx hb dL_law_882 (lv_at hl 16 rfl) ?_
  refine m_run (vx_runSW (As := [.ref x, .int (iI (rn : Int))]) (rest := []) ⟨hx, hb, hml, hown, hts⟩ (k_L_leaf (l := l) hfl hC hV (n := (rn : Int)) ⟨by omega, by omega⟩) (vx_cwSW 2 hts gL_law_L_leaf rfl rfl rfl (by decide +kernel) ⟨by decide, by decide⟩) ⟨Kp.blind _ _ _ _ _, fun U hU hW => hK.pass hB U hU hW⟩ rfl rfl hl.1 rfl (lv_room (Nat.le_of_ble_eq_true rfl)) dL_law_884 ⟨(by show cells + 0 + 1 ≤ 758523; omega), (by show slots + 0 + 6 ≤ 6826128; omega)⟩) hB (fun v u H locs hp hB => ?_)
  rcases hp with ⟨rfl, hR0, hC, hFm⟩ | ⟨rfl, hR0, hC, hFm⟩
  · have hk := hFm.I hk
    show W _ _ _ _ _ _ _ _ _ _ _ _ _ _ _ (F0 m 887 ls [.int (iI (-1))])
    refine lv_istore (lv' := [(18, .int (iI (-1))), (17, .int (iI (10 * w_2))), (0, .ref b), (1, .ref x), (2, .ref ka), (3, .int (iI (ni : Int))), (4, .int (iI rem)), (5, .int (iI st)), (6, .int (iI 1)), (7, .int (iI tn)), (8, .int (iI (tu : Int))), (9, .int (iI x9)), (10, .int (iI (yn : Int))), (11, .int (iI (dn : Int))), (12, .int (iI (σ 9 0))), (13, .int (iI pt)), (14, .int (iI ot)), (15, .int (iI (rn : Int))), (16, .int (iI (nTb σ)))]) hx hb dL_law_887 hl (by decide) rfl (fun ls hl => ?_)
    refine lv_aload_n hx hb dL_law_889 rfl (lv_at hl 3 rfl) ?_
    refine lv_iload hx hb dL_law_890 (lv_at hl 17 rfl) ?_
    refine lv_iload hx hb dL_law_892 (lv_at hl 1 rfl) ?_
    refine lv_iload hx hb dL_law_894 (lv_at hl 12 rfl) ?_
    refine j_bipush hx hb dL_law_896 (by decide) ?_
    refine j_shrT (n := 12) hx hb ⟨by omega, by omega⟩ (by decide) dL_law_898 (fun w_3 hw_3 kw_3 => ?_)
    refine j_bipush hx hb dL_law_899 (by decide) ?_
    refine j_remT hx hb ⟨by omega, by omega⟩ ⟨by omega, by omega⟩ dL_law_901 (fun w_4 hw_4 kw_4 => ?_)
    refine m_run (vx_runSW (As := [.ref x, .int (iI (rn : Int)), .int (iI (10 * w_2)), .int (iI w_4)]) (rest := []) ⟨hx, hb, hml, hown, hts⟩ (k_L_changes (l := l) hfl hC hV (n := (rn : Int)) (ky := (10 * w_2)) (sr := w_4) ⟨by omega, by omega⟩ ⟨⟨by omega, by omega⟩, by omega, by omega⟩) (vx_cwSW 4 hts gL_law_L_changes rfl rfl rfl (by decide +kernel) ⟨by decide, by decide⟩) ⟨Kp.blind _ _ _ _ _, fun U hU hW => hK.pass hB U hU hW⟩ rfl rfl hl.1 rfl (lv_room (Nat.le_of_ble_eq_true rfl)) dL_law_902 ⟨(by show cells + 1 + 4 ≤ 758523; omega), (by show slots + 6 + 24 ≤ 6826128; omega)⟩) hB (fun v u H locs hp hB => ?_)
    rcases hp with ⟨r, rfl, hr, hC, hFm⟩ | ⟨r, σ2, rfl, ⟨hV, i1, i9, i10, i11, i4, i5, i6, i7, i8⟩, ⟨xp, xr, pa, ra, hC⟩, hFm⟩
    · have hk := hFm.I hk
      show W _ _ _ _ _ _ _ _ _ _ _ _ _ _ _ (F0 m 905 ls [.int (iI r)])
      refine lv_istore (lv' := [(19, .int (iI r)), (18, .int (iI (-1))), (17, .int (iI (10 * w_2))), (0, .ref b), (1, .ref x), (2, .ref ka), (3, .int (iI (ni : Int))), (4, .int (iI rem)), (5, .int (iI st)), (6, .int (iI 1)), (7, .int (iI tn)), (8, .int (iI (tu : Int))), (9, .int (iI x9)), (10, .int (iI (yn : Int))), (11, .int (iI (dn : Int))), (12, .int (iI (σ 9 0))), (13, .int (iI pt)), (14, .int (iI ot)), (15, .int (iI (rn : Int))), (16, .int (iI (nTb σ)))]) hx hb dL_law_905 hl (by decide) rfl (fun ls hl => ?_)
      refine lv_iload hx hb dL_law_907 (lv_at hl 0 rfl) ?_
      refine j_if_ge (tgt := 931) hx hb dL_law_909 (by decide) ⟨by omega, by omega⟩ (fun c_5 => False.elim (by omega)) (fun c_5 => ?_)
      refine lv_aload_n hx hb dL_law_912 rfl (lv_at hl 4 rfl) ?_
      refine lv_iload hx hb dL_law_913 (lv_at hl 18 rfl) ?_
      refine m_run (vx_runSW (As := [.ref x, .int (iI (rn : Int))]) (rest := []) ⟨hx, hb, hml, hown, hts⟩ (k_L_leaf (l := l) hfl hC hV (n := (rn : Int)) ⟨by omega, by omega⟩) (vx_cwSW 2 hts gL_law_L_leaf rfl rfl rfl (by decide +kernel) ⟨by decide, by decide⟩) ⟨Kp.blind _ _ _ _ _, fun U hU hW => hK.pass hB U hU hW⟩ rfl rfl hl.1 rfl (lv_room (Nat.le_of_ble_eq_true rfl)) dL_law_915 ⟨(by show cells + 5 + 1 ≤ 758523; omega), (by show slots + 30 + 6 ≤ 6826128; omega)⟩) hB (fun v u H locs hp hB => ?_)
      rcases hp with ⟨rfl, hR1, hC, hFm⟩ | ⟨rfl, hR1, hC, hFm⟩
      · have hk := hFm.I hk
        show W _ _ _ _ _ _ _ _ _ _ _ _ _ _ _ (F0 m 918 ls [.int (iI (-1))])
        refine lv_iload hx hb dL_law_918 (lv_at hl 1 rfl) ?_
        refine j_icmp_ne (tgt := 927) hx hb dL_law_920 (by decide) ⟨by decide, by decide⟩ ⟨by decide, by decide⟩ (fun c_6 => False.elim (by omega)) (fun c_6 => ?_)
        refine j_iconst hx hb dL_law_923 ?_
        refine lv_goto (tgt := 984) hx hb dL_law_924 (by decide) ?_
        refine lv_istore (lv' := [(6, .int (iI 1)), (19, .int (iI r)), (18, .int (iI (-1))), (17, .int (iI (10 * w_2))), (0, .ref b), (1, .ref x), (2, .ref ka), (3, .int (iI (ni : Int))), (4, .int (iI rem)), (5, .int (iI st)), (7, .int (iI tn)), (8, .int (iI (tu : Int))), (9, .int (iI x9)), (10, .int (iI (yn : Int))), (11, .int (iI (dn : Int))), (12, .int (iI (σ 9 0))), (13, .int (iI pt)), (14, .int (iI ot)), (15, .int (iI (rn : Int))), (16, .int (iI (nTb σ)))]) hx hb dL_law_984 hl (by decide) rfl (fun ls hl => ?_)
        refine lv_aload_n hx hb dL_law_986 rfl (lv_at hl 6 rfl) ?_
        refine lv_iload hx hb dL_law_987 (lv_at hl 1 rfl) ?_
        refine j_if_ge (tgt := 996) hx hb dL_law_989 (by decide) ⟨by omega, by omega⟩ (fun c_7 => False.elim (by omega)) (fun c_7 => ?_)
        refine j_iconst hx hb dL_law_992 ?_
        refine lv_goto (tgt := 998) hx hb dL_law_993 (by decide) ?_
        refine lv_iload hx hb dL_law_998 (lv_at hl 1 rfl) ?_
        refine j_if_ge (tgt := 1009) hx hb dL_law_1000 (by decide) ⟨by omega, by omega⟩ (fun c_8 => False.elim (by omega)) (fun c_8 => ?_)
        refine lv_aload_n hx hb dL_law_1003 rfl (lv_at hl 6 rfl) ?_
        refine j_iconst hx hb dL_law_1004 ?_
        refine m_kld hx hb hK hB hk (n := 0) (by omega) dL_law_1005 ?_
        refine lv_goto (tgt := 1011) hx hb dL_law_1006 (by decide) ?_
        refine m_kst hx hb hK hB hk (n := 0) (v := (f 0).toInt) (by omega) dL_law_1011 (fun H locs hB => ?_)
        have hC := hC.outI (f' := upd f 0 (iI ((f 0).toInt))) hk
        obtain ⟨u, eu⟩ : ∃ u2 : Hp, u2 = hup u ka (arI cI 64 (upd f 0 (iI ((f 0).toInt)))) := ⟨_, rfl⟩
        rw [← eu] at hB hC
        have hk : u ka = some (arI cI 64 (upd f 0 (iI ((f 0).toInt)))) := by rw [eu]; exact hup_s _ _ _
        rw [upd_id] at hk
        refine lv_goto (tgt := 1129) hx hb dL_law_1012 (by decide) ?_
        refine W.widen (k := cells + 60) (n := slots + 400) (by show cells + 6 ≤ cells + 60; omega) (by show slots + 36 ≤ slots + 400; omega) ?_
        exact kk σ ni rem st _ _ _ _ ⟨hV, hC.x, ⟨_, hk, hkf⟩, by omega, by omega, by omega, by omega⟩ hB (lv_sub hl [4, 5, 6, 7, 8, 9, 0, 10, 11, 13] rfl)
      · exact absurd hR1 hR0
    · exact absurd i4 hR0
  · have hk := hFm.I hk
    obtain ⟨a1, a2, a3, a4, a5, a6, -, -⟩ := plc_at hV hR0
    show W _ _ _ _ _ _ _ _ _ _ _ _ _ _ _ (F0 m 887 ls [.int (iI (plc σ (rn : Int)))])
    refine lv_istore (lv' := [(18, .int (iI (plc σ (rn : Int)))), (17, .int (iI (10 * w_2))), (0, .ref b), (1, .ref x), (2, .ref ka), (3, .int (iI (ni : Int))), (4, .int (iI rem)), (5, .int (iI st)), (6, .int (iI 1)), (7, .int (iI tn)), (8, .int (iI (tu : Int))), (9, .int (iI x9)), (10, .int (iI (yn : Int))), (11, .int (iI (dn : Int))), (12, .int (iI (σ 9 0))), (13, .int (iI pt)), (14, .int (iI ot)), (15, .int (iI (rn : Int))), (16, .int (iI (nTb σ)))]) hx hb dL_law_887 hl (by decide) rfl (fun ls hl => ?_)
    refine lv_aload_n hx hb dL_law_889 rfl (lv_at hl 3 rfl) ?_
    refine lv_iload hx hb dL_law_890 (lv_at hl 17 rfl) ?_
    refine lv_iload hx hb dL_law_892 (lv_at hl 1 rfl) ?_
    refine lv_iload hx hb dL_law_894 (lv_at hl 12 rfl) ?_
    refine j_bipush hx hb dL_law_896 (by decide) ?_
    refine j_shrT (n := 12) hx hb ⟨by omega, by omega⟩ (by decide) dL_law_898 (fun w_9 hw_9 kw_9 => ?_)
    refine j_bipush hx hb dL_law_899 (by decide) ?_
    refine j_remT hx hb ⟨by omega, by omega⟩ ⟨by omega, by omega⟩ dL_law_901 (fun w_10 hw_10 kw_10 => ?_)
    refine m_run (vx_runSW (As := [.ref x, .int (iI (rn : Int)), .int (iI (10 * w_2)), .int (iI w_10)]) (rest := []) ⟨hx, hb, hml, hown, hts⟩ (k_L_changes (l := l) hfl hC hV (n := (rn : Int)) (ky := (10 * w_2)) (sr := w_10) ⟨by omega, by omega⟩ ⟨⟨by omega, by omega⟩, by omega, by omega⟩) (vx_cwSW 4 hts gL_law_L_changes rfl rfl rfl (by decide +kernel) ⟨by decide, by decide⟩) ⟨Kp.blind _ _ _ _ _, fun U hU hW => hK.pass hB U hU hW⟩ rfl rfl hl.1 rfl (lv_room (Nat.le_of_ble_eq_true rfl)) dL_law_902 ⟨(by show cells + 1 + 4 ≤ 758523; omega), (by show slots + 6 + 24 ≤ 6826128; omega)⟩) hB (fun v u H locs hp hB => ?_)
    rcases hp with ⟨r, rfl, hr, hC, hFm⟩ | ⟨r, σ2, rfl, ⟨hV, i1, i9, i10, i11, i4, i5, i6, i7, i8⟩, ⟨xp, xr, pa, ra, hC⟩, hFm⟩
    · have hk := hFm.I hk
      show W _ _ _ _ _ _ _ _ _ _ _ _ _ _ _ (F0 m 905 ls [.int (iI r)])
      refine lv_istore (lv' := [(19, .int (iI r)), (18, .int (iI (plc σ (rn : Int)))), (17, .int (iI (10 * w_2))), (0, .ref b), (1, .ref x), (2, .ref ka), (3, .int (iI (ni : Int))), (4, .int (iI rem)), (5, .int (iI st)), (6, .int (iI 1)), (7, .int (iI tn)), (8, .int (iI (tu : Int))), (9, .int (iI x9)), (10, .int (iI (yn : Int))), (11, .int (iI (dn : Int))), (12, .int (iI (σ 9 0))), (13, .int (iI pt)), (14, .int (iI ot)), (15, .int (iI (rn : Int))), (16, .int (iI (nTb σ)))]) hx hb dL_law_905 hl (by decide) rfl (fun ls hl => ?_)
      refine lv_iload hx hb dL_law_907 (lv_at hl 0 rfl) ?_
      refine j_if_ge (tgt := 931) hx hb dL_law_909 (by decide) ⟨by omega, by omega⟩ (fun c_11 => False.elim (by omega)) (fun c_11 => ?_)
      refine lv_aload_n hx hb dL_law_912 rfl (lv_at hl 4 rfl) ?_
      refine lv_iload hx hb dL_law_913 (lv_at hl 18 rfl) ?_
      refine m_run (vx_runSW (As := [.ref x, .int (iI (rn : Int))]) (rest := []) ⟨hx, hb, hml, hown, hts⟩ (k_L_leaf (l := l) hfl hC hV (n := (rn : Int)) ⟨by omega, by omega⟩) (vx_cwSW 2 hts gL_law_L_leaf rfl rfl rfl (by decide +kernel) ⟨by decide, by decide⟩) ⟨Kp.blind _ _ _ _ _, fun U hU hW => hK.pass hB U hU hW⟩ rfl rfl hl.1 rfl (lv_room (Nat.le_of_ble_eq_true rfl)) dL_law_915 ⟨(by show cells + 5 + 1 ≤ 758523; omega), (by show slots + 30 + 6 ≤ 6826128; omega)⟩) hB (fun v u H locs hp hB => ?_)
      rcases hp with ⟨rfl, hR1, hC, hFm⟩ | ⟨rfl, hR1, hC, hFm⟩
      · exact absurd hR0 hR1
      · have hk := hFm.I hk
        obtain ⟨a1, a2, a3, a4, a5, a6, -, -⟩ := plc_at hV hR1
        show W _ _ _ _ _ _ _ _ _ _ _ _ _ _ _ (F0 m 918 ls [.int (iI (plc σ (rn : Int)))])
        refine lv_iload hx hb dL_law_918 (lv_at hl 1 rfl) ?_
        refine j_icmp_ne (tgt := 927) hx hb dL_law_920 (by decide) ⟨by omega, by omega⟩ ⟨by omega, by omega⟩ (fun c_12 => False.elim (by omega)) (fun c_12 => ?_)
        refine j_iconst hx hb dL_law_923 ?_
        refine lv_goto (tgt := 984) hx hb dL_law_924 (by decide) ?_
        refine lv_istore (lv' := [(6, .int (iI 1)), (19, .int (iI r)), (18, .int (iI (plc σ (rn : Int)))), (17, .int (iI (10 * w_2))), (0, .ref b), (1, .ref x), (2, .ref ka), (3, .int (iI (ni : Int))), (4, .int (iI rem)), (5, .int (iI st)), (7, .int (iI tn)), (8, .int (iI (tu : Int))), (9, .int (iI x9)), (10, .int (iI (yn : Int))), (11, .int (iI (dn : Int))), (12, .int (iI (σ 9 0))), (13, .int (iI pt)), (14, .int (iI ot)), (15, .int (iI (rn : Int))), (16, .int (iI (nTb σ)))]) hx hb dL_law_984 hl (by decide) rfl (fun ls hl => ?_)
        refine lv_aload_n hx hb dL_law_986 rfl (lv_at hl 6 rfl) ?_
        refine lv_iload hx hb dL_law_987 (lv_at hl 1 rfl) ?_
        refine j_if_ge (tgt := 996) hx hb dL_law_989 (by decide) ⟨by omega, by omega⟩ (fun c_13 => False.elim (by omega)) (fun c_13 => ?_)
        refine j_iconst hx hb dL_law_992 ?_
        refine lv_goto (tgt := 998) hx hb dL_law_993 (by decide) ?_
        refine lv_iload hx hb dL_law_998 (lv_at hl 1 rfl) ?_
        refine j_if_ge (tgt := 1009) hx hb dL_law_1000 (by decide) ⟨by omega, by omega⟩ (fun c_14 => False.elim (by omega)) (fun c_14 => ?_)
        refine lv_aload_n hx hb dL_law_1003 rfl (lv_at hl 6 rfl) ?_
        refine j_iconst hx hb dL_law_1004 ?_
        refine m_kld hx hb hK hB hk (n := 0) (by omega) dL_law_1005 ?_
        refine lv_goto (tgt := 1011) hx hb dL_law_1006 (by decide) ?_
        refine m_kst hx hb hK hB hk (n := 0) (v := (f 0).toInt) (by omega) dL_law_1011 (fun H locs hB => ?_)
        have hC := hC.outI (f' := upd f 0 (iI ((f 0).toInt))) hk
        obtain ⟨u, eu⟩ : ∃ u2 : Hp, u2 = hup u ka (arI cI 64 (upd f 0 (iI ((f 0).toInt)))) := ⟨_, rfl⟩
        rw [← eu] at hB hC
        have hk : u ka = some (arI cI 64 (upd f 0 (iI ((f 0).toInt)))) := by rw [eu]; exact hup_s _ _ _
        rw [upd_id] at hk
        refine lv_goto (tgt := 1129) hx hb dL_law_1012 (by decide) ?_
        refine W.widen (k := cells + 60) (n := slots + 400) (by show cells + 6 ≤ cells + 60; omega) (by show slots + 36 ≤ slots + 400; omega) ?_
        exact kk σ ni rem st _ _ _ _ ⟨hV, hC.x, ⟨_, hk, hkf⟩, by omega, by omega, by omega, by omega⟩ hB (lv_sub hl [4, 5, 6, 7, 8, 9, 0, 10, 11, 13] rfl)
    · have hk := hFm.I hk
      have hb1 : r = 1 ↔ plc σ2 (rn : Int) ≠ plc σ (rn : Int) := by rw [i8]; exact b2_iff _
      have hb2 : r = 0 ∨ r = 1 := by rw [i8]; exact b2_01 _
      have hrl := isR_t i4
      have hI := hV.ib
      have hnp := hI.hnp
      have hnpI := hI.npI
      have htb2 := nTb_rg hI
      have hst2 := hI.2.2.1
      show W _ _ _ _ _ _ _ _ _ _ _ _ _ _ _ (F0 m 905 ls [.int (iI r)])
      refine lv_istore (lv' := [(19, .int (iI r)), (18, .int (iI (plc σ (rn : Int)))), (17, .int (iI (10 * w_2))), (0, .ref b), (1, .ref x), (2, .ref ka), (3, .int (iI (ni : Int))), (4, .int (iI rem)), (5, .int (iI st)), (6, .int (iI 1)), (7, .int (iI tn)), (8, .int (iI (tu : Int))), (9, .int (iI x9)), (10, .int (iI (yn : Int))), (11, .int (iI (dn : Int))), (12, .int (iI (σ 9 0))), (13, .int (iI pt)), (14, .int (iI ot)), (15, .int (iI (rn : Int))), (16, .int (iI (nTb σ)))]) hx hb dL_law_905 hl (by decide) rfl (fun ls hl => ?_)
      refine lv_iload hx hb dL_law_907 (lv_at hl 0 rfl) ?_
      refine j_if_ge (tgt := 931) hx hb dL_law_909 (by decide) ⟨by omega, by omega⟩ (fun c_15 => ?_) (fun c_15 => False.elim (by omega))
      refine lv_iload hx hb dL_law_931 (lv_at hl 0 rfl) ?_
      refine j_iconst hx hb dL_law_933 ?_
      refine j_icmp_ne (tgt := 941) hx hb dL_law_934 (by decide) ⟨by omega, by omega⟩ ⟨by decide, by decide⟩ (fun c_16 => ?_) (fun c_16 => ?_)
      · refine j_iconst hx hb dL_law_941 ?_
        refine lv_aload_n hx hb dL_law_942 rfl (lv_at hl 4 rfl) ?_
        refine lv_iload hx hb dL_law_943 (lv_at hl 18 rfl) ?_
        refine m_run (vx_runSW (As := [.ref x, .int (iI (rn : Int))]) (rest := [.int (iI 0)]) ⟨hx, hb, hml, hown, hts⟩ (k_L_leaf (l := l) hfl hC hV (n := (rn : Int)) ⟨by omega, by omega⟩) (vx_cwSW 2 hts gL_law_L_leaf rfl rfl rfl (by decide +kernel) ⟨by decide, by decide⟩) ⟨Kp.blind _ _ _ _ _, fun U hU hW => hK.pass hB U hU hW⟩ rfl rfl hl.1 rfl (lv_room (Nat.le_of_ble_eq_true rfl)) dL_law_945 ⟨(by show cells + 5 + 1 ≤ 758523; omega), (by show slots + 30 + 6 ≤ 6826128; omega)⟩) hB (fun v u H locs hp hB => ?_)
        rcases hp with ⟨rfl, hR1, hC, hFm⟩ | ⟨rfl, hR1, hC, hFm⟩
        · exact absurd i5 hR1
        · have hk := hFm.I hk
          obtain ⟨a1, a2, a3, a4, a5, a6, -, -⟩ := plc_at hV hR1
          show W _ _ _ _ _ _ _ _ _ _ _ _ _ _ _ (F0 m 948 ls [.int (iI (plc σ2 (rn : Int))), .int (iI 0)])
          refine lv_iload hx hb dL_law_948 (lv_at hl 1 rfl) ?_
          refine j_icmp_eq (tgt := 957) hx hb dL_law_950 (by decide) ⟨by omega, by omega⟩ ⟨by omega, by omega⟩ (fun c_17 => ?_) (fun c_17 => False.elim (by omega))
          refine j_iconst hx hb dL_law_957 ?_
          refine j_icmp_ne (tgt := 983) hx hb dL_law_958 (by decide) ⟨by decide, by decide⟩ ⟨by decide, by decide⟩ (fun c_18 => False.elim (by omega)) (fun c_18 => ?_)
          refine lv_aload_n hx hb dL_law_961 rfl (lv_at hl 4 rfl) ?_
          refine lv_iload hx hb dL_law_962 (lv_at hl 2 rfl) ?_
          refine m_runX (vx_runV (As := [.int (iI (10 * w_2))]) (rest := []) ⟨hx, hb, hml, hown, hts⟩ (k_X3_partOf (l := l) hfl hC hI (ky := (10 * w_2)) ⟨by omega, by omega⟩) (cwV 1 hts gL_law_X3_partOf rfl rfl rfl (by decide +kernel) ⟨by decide, by decide⟩) ⟨Kp.blind _ _ _ _ _, m_recv hK hB (ci := 3) rfl hC.tb, fun U hU hW => hK.pass hB U hU hW⟩ rfl rfl hl.1 rfl (lv_room (Nat.le_of_ble_eq_true rfl)) dL_law_964 ⟨(by show cells + 6 + 1 ≤ 758523; omega), (by show slots + 36 + 6 ≤ 6826128; omega)⟩) hB (fun E u H locs q9 ce hp hB hc9 hv9 hk9 => absurd ⟨by omega, by omega⟩ hp.1.2) (fun v u H locs hp hB => ?_)
          obtain ⟨⟨-, rfl⟩, hC, hFm⟩ := hp
          have hk := hFm.I hk
          show W _ _ _ _ _ _ _ _ _ _ _ _ _ _ _ (F0 m 967 ls [.int (iI ((pw σ2 (10 * w_2) : Nat) : Int))])
          refine lv_aload_n hx hb dL_law_967 rfl (lv_at hl 4 rfl) ?_
          refine lv_iload hx hb dL_law_968 (lv_at hl 18 rfl) ?_
          refine m_run (vx_runSW (As := [.ref x, .int (iI (rn : Int))]) (rest := [.int (iI ((pw σ2 (10 * w_2) : Nat) : Int))]) ⟨hx, hb, hml, hown, hts⟩ (k_L_leaf (l := l) hfl hC hV (n := (rn : Int)) ⟨by omega, by omega⟩) (vx_cwSW 2 hts gL_law_L_leaf rfl rfl rfl (by decide +kernel) ⟨by decide, by decide⟩) ⟨Kp.blind _ _ _ _ _, fun U hU hW => hK.pass hB U hU hW⟩ rfl rfl hl.1 rfl (lv_room (Nat.le_of_ble_eq_true rfl)) dL_law_970 ⟨(by show cells + 7 + 1 ≤ 758523; omega), (by show slots + 42 + 6 ≤ 6826128; omega)⟩) hB (fun v u H locs hp hB => ?_)
          rcases hp with ⟨rfl, hR2, hC, hFm⟩ | ⟨rfl, hR2, hC, hFm⟩
          · exact absurd hR1 hR2
          · have hk := hFm.I hk
            obtain ⟨a1, a2, a3, a4, a5, a6, -, -⟩ := plc_at hV hR2
            show W _ _ _ _ _ _ _ _ _ _ _ _ _ _ _ (F0 m 973 ls [.int (iI (plc σ2 (rn : Int))), .int (iI ((pw σ2 (10 * w_2) : Nat) : Int))])
            refine j_bipush hx hb dL_law_973 (by decide) ?_
            refine j_idiv hx hb ⟨by omega, by omega⟩ ⟨by decide, by decide⟩ dL_law_975 ?_
            refine j_icmp_ne (tgt := 983) hx hb dL_law_976 (by decide) ⟨by omega, by omega⟩ ⟨by omega, by omega⟩ (fun c_19 => False.elim (by omega)) (fun c_19 => ?_)
            refine j_iconst hx hb dL_law_979 ?_
            refine lv_goto (tgt := 984) hx hb dL_law_980 (by decide) ?_
            refine lv_istore (lv' := [(6, .int (iI 1)), (19, .int (iI r)), (18, .int (iI (plc σ (rn : Int)))), (17, .int (iI (10 * w_2))), (0, .ref b), (1, .ref x), (2, .ref ka), (3, .int (iI (ni : Int))), (4, .int (iI rem)), (5, .int (iI st)), (7, .int (iI tn)), (8, .int (iI (tu : Int))), (9, .int (iI x9)), (10, .int (iI (yn : Int))), (11, .int (iI (dn : Int))), (12, .int (iI (σ 9 0))), (13, .int (iI pt)), (14, .int (iI ot)), (15, .int (iI (rn : Int))), (16, .int (iI (nTb σ)))]) hx hb dL_law_984 hl (by decide) rfl (fun ls hl => ?_)
            refine lv_aload_n hx hb dL_law_986 rfl (lv_at hl 6 rfl) ?_
            refine lv_iload hx hb dL_law_987 (lv_at hl 1 rfl) ?_
            refine j_if_ge (tgt := 996) hx hb dL_law_989 (by decide) ⟨by omega, by omega⟩ (fun c_20 => ?_) (fun c_20 => False.elim (by omega))
            refine lv_iload hx hb dL_law_996 (lv_at hl 18 rfl) ?_
            refine lv_iload hx hb dL_law_998 (lv_at hl 1 rfl) ?_
            refine j_if_ge (tgt := 1009) hx hb dL_law_1000 (by decide) ⟨by omega, by omega⟩ (fun c_21 => ?_) (fun c_21 => False.elim (by omega))
            refine lv_iload hx hb dL_law_1009 (lv_at hl 3 rfl) ?_
            refine m_kst hx hb hK hB hk (n := rn) (v := (10 * w_2)) (by omega) dL_law_1011 (fun H locs hB => ?_)
            have hC := hC.outI (f' := upd f rn (iI (10 * w_2))) hk
            obtain ⟨u, eu⟩ : ∃ u2 : Hp, u2 = hup u ka (arI cI 64 (upd f rn (iI (10 * w_2)))) := ⟨_, rfl⟩
            rw [← eu] at hB hC
            have hk : u ka = some (arI cI 64 (upd f rn (iI (10 * w_2)))) := by rw [eu]; exact hup_s _ _ _
            have hkf : ∀ j, live σ2 j → upd f rn (iI (10 * w_2)) j = iI (σ2 6 j) := Cg_kf i6 hkf
            refine lv_goto (tgt := 1129) hx hb dL_law_1012 (by decide) ?_
            refine W.widen (k := cells + 60) (n := slots + 400) (by show cells + 8 ≤ cells + 60; omega) (by show slots + 48 ≤ slots + 400; omega) ?_
            exact kk σ2 ni rem st _ _ _ _ ⟨hV, hC.x, ⟨_, hk, hkf⟩, by omega, by omega, by omega, by omega⟩ hB (lv_sub hl [4, 5, 6, 7, 8, 9, 0, 10, 11, 13] rfl)
      · refine j_iconst hx hb dL_law_937 ?_
        refine lv_goto (tgt := 942) hx hb dL_law_938 (by decide) ?_
        refine lv_aload_n hx hb dL_law_942 rfl (lv_at hl 4 rfl) ?_
        refine lv_iload hx hb dL_law_943 (lv_at hl 18 rfl) ?_
        refine m_run (vx_runSW (As := [.ref x, .int (iI (rn : Int))]) (rest := [.int (iI 1)]) ⟨hx, hb, hml, hown, hts⟩ (k_L_leaf (l := l) hfl hC hV (n := (rn : Int)) ⟨by omega, by omega⟩) (vx_cwSW 2 hts gL_law_L_leaf rfl rfl rfl (by decide +kernel) ⟨by decide, by decide⟩) ⟨Kp.blind _ _ _ _ _, fun U hU hW => hK.pass hB U hU hW⟩ rfl rfl hl.1 rfl (lv_room (Nat.le_of_ble_eq_true rfl)) dL_law_945 ⟨(by show cells + 5 + 1 ≤ 758523; omega), (by show slots + 30 + 6 ≤ 6826128; omega)⟩) hB (fun v u H locs hp hB => ?_)
        rcases hp with ⟨rfl, hR1, hC, hFm⟩ | ⟨rfl, hR1, hC, hFm⟩
        · exact absurd i5 hR1
        · have hk := hFm.I hk
          obtain ⟨a1, a2, a3, a4, a5, a6, -, -⟩ := plc_at hV hR1
          show W _ _ _ _ _ _ _ _ _ _ _ _ _ _ _ (F0 m 948 ls [.int (iI (plc σ2 (rn : Int))), .int (iI 1)])
          refine lv_iload hx hb dL_law_948 (lv_at hl 1 rfl) ?_
          refine j_icmp_eq (tgt := 957) hx hb dL_law_950 (by decide) ⟨by omega, by omega⟩ ⟨by omega, by omega⟩ (fun c_22 => False.elim (by omega)) (fun c_22 => ?_)
          refine j_iconst hx hb dL_law_953 ?_
          refine lv_goto (tgt := 958) hx hb dL_law_954 (by decide) ?_
          refine j_icmp_ne (tgt := 983) hx hb dL_law_958 (by decide) ⟨by decide, by decide⟩ ⟨by decide, by decide⟩ (fun c_23 => False.elim (by omega)) (fun c_23 => ?_)
          refine lv_aload_n hx hb dL_law_961 rfl (lv_at hl 4 rfl) ?_
          refine lv_iload hx hb dL_law_962 (lv_at hl 2 rfl) ?_
          refine m_runX (vx_runV (As := [.int (iI (10 * w_2))]) (rest := []) ⟨hx, hb, hml, hown, hts⟩ (k_X3_partOf (l := l) hfl hC hI (ky := (10 * w_2)) ⟨by omega, by omega⟩) (cwV 1 hts gL_law_X3_partOf rfl rfl rfl (by decide +kernel) ⟨by decide, by decide⟩) ⟨Kp.blind _ _ _ _ _, m_recv hK hB (ci := 3) rfl hC.tb, fun U hU hW => hK.pass hB U hU hW⟩ rfl rfl hl.1 rfl (lv_room (Nat.le_of_ble_eq_true rfl)) dL_law_964 ⟨(by show cells + 6 + 1 ≤ 758523; omega), (by show slots + 36 + 6 ≤ 6826128; omega)⟩) hB (fun E u H locs q9 ce hp hB hc9 hv9 hk9 => absurd ⟨by omega, by omega⟩ hp.1.2) (fun v u H locs hp hB => ?_)
          obtain ⟨⟨-, rfl⟩, hC, hFm⟩ := hp
          have hk := hFm.I hk
          show W _ _ _ _ _ _ _ _ _ _ _ _ _ _ _ (F0 m 967 ls [.int (iI ((pw σ2 (10 * w_2) : Nat) : Int))])
          refine lv_aload_n hx hb dL_law_967 rfl (lv_at hl 4 rfl) ?_
          refine lv_iload hx hb dL_law_968 (lv_at hl 18 rfl) ?_
          refine m_run (vx_runSW (As := [.ref x, .int (iI (rn : Int))]) (rest := [.int (iI ((pw σ2 (10 * w_2) : Nat) : Int))]) ⟨hx, hb, hml, hown, hts⟩ (k_L_leaf (l := l) hfl hC hV (n := (rn : Int)) ⟨by omega, by omega⟩) (vx_cwSW 2 hts gL_law_L_leaf rfl rfl rfl (by decide +kernel) ⟨by decide, by decide⟩) ⟨Kp.blind _ _ _ _ _, fun U hU hW => hK.pass hB U hU hW⟩ rfl rfl hl.1 rfl (lv_room (Nat.le_of_ble_eq_true rfl)) dL_law_970 ⟨(by show cells + 7 + 1 ≤ 758523; omega), (by show slots + 42 + 6 ≤ 6826128; omega)⟩) hB (fun v u H locs hp hB => ?_)
          rcases hp with ⟨rfl, hR2, hC, hFm⟩ | ⟨rfl, hR2, hC, hFm⟩
          · exact absurd hR1 hR2
          · have hk := hFm.I hk
            obtain ⟨a1, a2, a3, a4, a5, a6, -, -⟩ := plc_at hV hR2
            show W _ _ _ _ _ _ _ _ _ _ _ _ _ _ _ (F0 m 973 ls [.int (iI (plc σ2 (rn : Int))), .int (iI ((pw σ2 (10 * w_2) : Nat) : Int))])
            refine j_bipush hx hb dL_law_973 (by decide) ?_
            refine j_idiv hx hb ⟨by omega, by omega⟩ ⟨by decide, by decide⟩ dL_law_975 ?_
            refine j_icmp_ne (tgt := 983) hx hb dL_law_976 (by decide) ⟨by omega, by omega⟩ ⟨by omega, by omega⟩ (fun c_24 => False.elim (by omega)) (fun c_24 => ?_)
            refine j_iconst hx hb dL_law_979 ?_
            refine lv_goto (tgt := 984) hx hb dL_law_980 (by decide) ?_
            refine lv_istore (lv' := [(6, .int (iI 1)), (19, .int (iI r)), (18, .int (iI (plc σ (rn : Int)))), (17, .int (iI (10 * w_2))), (0, .ref b), (1, .ref x), (2, .ref ka), (3, .int (iI (ni : Int))), (4, .int (iI rem)), (5, .int (iI st)), (7, .int (iI tn)), (8, .int (iI (tu : Int))), (9, .int (iI x9)), (10, .int (iI (yn : Int))), (11, .int (iI (dn : Int))), (12, .int (iI (σ 9 0))), (13, .int (iI pt)), (14, .int (iI ot)), (15, .int (iI (rn : Int))), (16, .int (iI (nTb σ)))]) hx hb dL_law_984 hl (by decide) rfl (fun ls hl => ?_)
            refine lv_aload_n hx hb dL_law_986 rfl (lv_at hl 6 rfl) ?_
            refine lv_iload hx hb dL_law_987 (lv_at hl 1 rfl) ?_
            refine j_if_ge (tgt := 996) hx hb dL_law_989 (by decide) ⟨by omega, by omega⟩ (fun c_25 => ?_) (fun c_25 => False.elim (by omega))
            refine lv_iload hx hb dL_law_996 (lv_at hl 18 rfl) ?_
            refine lv_iload hx hb dL_law_998 (lv_at hl 1 rfl) ?_
            refine j_if_ge (tgt := 1009) hx hb dL_law_1000 (by decide) ⟨by omega, by omega⟩ (fun c_26 => ?_) (fun c_26 => False.elim (by omega))
            refine lv_iload hx hb dL_law_1009 (lv_at hl 3 rfl) ?_
            refine m_kst hx hb hK hB hk (n := rn) (v := (10 * w_2)) (by omega) dL_law_1011 (fun H locs hB => ?_)
            have hC := hC.outI (f' := upd f rn (iI (10 * w_2))) hk
            obtain ⟨u, eu⟩ : ∃ u2 : Hp, u2 = hup u ka (arI cI 64 (upd f rn (iI (10 * w_2)))) := ⟨_, rfl⟩
            rw [← eu] at hB hC
            have hk : u ka = some (arI cI 64 (upd f rn (iI (10 * w_2)))) := by rw [eu]; exact hup_s _ _ _
            have hkf : ∀ j, live σ2 j → upd f rn (iI (10 * w_2)) j = iI (σ2 6 j) := Cg_kf i6 hkf
            refine lv_goto (tgt := 1129) hx hb dL_law_1012 (by decide) ?_
            refine W.widen (k := cells + 60) (n := slots + 400) (by show cells + 8 ≤ cells + 60; omega) (by show slots + 48 ≤ slots + 400; omega) ?_
            exact kk σ2 ni rem st _ _ _ _ ⟨hV, hC.x, ⟨_, hk, hkf⟩, by omega, by omega, by omega, by omega⟩ hB (lv_sub hl [4, 5, 6, 7, 8, 9, 0, 10, 11, 13] rfl)

set_option maxHeartbeats 4000000 in
set_option maxRecDepth 100000 in
theorem ld_rm {l : Launch} (hfl : l.stackTraces = false) {D : va_G} {cI cP cR cJ : ClassId} {p : Program} {e : Env} {s : State} {m : MethodId} {below : List Frame} {meth : Method} {c : Code} {b L : Nat} {xs : Nat → Int32} (hL : L ≤ 260) (hx : p.tables.exec = Jvm.exec) (hb : c.code = cL_law) (hml : c.maxLocals = 20) (hown : s.vm.findClass RL = some m.cls) (hts : ∀ w ∈ wsL_law, w.before #[Value.ref b] s = true) (hX : va_X b L xs s s.heap) (hbl : b < s.heap.size) (hK : Kb D s.heap.size (tyL cI cP cR cJ) s) {x ka tu ni yn : Nat} {rem st tn : Int} {rn dn : Nat} {x9 pt ot : Int} {σ : Sg} {h0 : Hp} {H : Heap} {locs : List Loc} (hS : LwP cI cP cR x ka σ ni rem st h0) (hB : Bk D s.heap.size s.heap h0 H locs) (fy : yn ≤ 268435455) (ft : tu ≤ 240) (ftn : 0 ≤ tn ∧ tn ≤ 240) (fp : 0 ≤ pt ∧ pt ≤ σ 9 0 + 1) (fo : 0 ≤ ot ∧ ot ≤ σ 9 0 + 1) (fr : rn ≤ ni)  {cells slots : Nat} (hc : cells + 60 ≤ 758523) (hs : slots + 400 ≤ 6826128) {Q : State → Prop} {ls : Array Slot} (hl : lv_has ls 20 [(0, .ref b), (1, .ref x), (2, .ref ka), (3, .int (iI (ni : Int))), (4, .int (iI rem)), (5, .int (iI st)), (6, .int (iI 1)), (7, .int (iI tn)), (8, .int (iI (tu : Int))), (9, .int (iI x9)), (10, .int (iI (yn : Int))), (11, .int (iI (dn : Int))), (12, .int (iI (σ 9 0))), (13, .int (iI pt)), (14, .int (iI ot)), (15, .int (iI (rn : Int))), (16, .int (iI (nTb σ)))]) (kk : ∀ (σ2 : Sg) (n2 : Nat) (r2 s2 : Int) (h2 : Hp) (H2 : Heap) (locs2 : List Loc) (ls2 : Array Slot), LwP cI cP cR x ka σ2 n2 r2 s2 h2 → Bk D s.heap.size s.heap h2 H2 locs2 → lv_has ls2 20 [(0, .ref b), (1, .ref x), (2, .ref ka), (3, .int (iI (n2 : Int))), (4, .int (iI r2)), (5, .int (iI s2)), (6, .int (iI 1)), (7, .int (iI tn)), (8, .int (iI (tu : Int))), (10, .int (iI (yn : Int)))] → W p l e room_1 s m #[Value.ref b] below meth c H2 locs2 (cells + 60) (slots + 400) Q (F0 m 1129 ls2 [])) : W p l e room_1 s m #[Value.ref b] below meth c H locs cells slots Q (F0 m 1022 ls []) := by
  obtain ⟨hV, ⟨xp, xr, pa, ra, hC⟩, ⟨f, hk, hkf⟩, hni, hn64, hlv, hst⟩ := hS
  have hI := hV.ib
  have hnp := hI.hnp
  have hnpI := hI.npI
  have hnl := nLv_rg hI
  have htb := nTb_rg hI
  have hst1 := hI.2.2.1
  refine lv_aload_n hx hb dL_law_1022 rfl (lv_at hl 1 rfl) ?_
  refine lv_iload hx hb dL_law_1023 (lv_at hl 15 rfl) ?_
  refine m_run (vx_runSW (As := [.ref x, .int (iI (rn : Int))]) (rest := []) ⟨hx, hb, hml, hown, hts⟩ (k_L_leaf (l := l) hfl hC hV (n := (rn : Int)) ⟨by omega, by omega⟩) (vx_cwSW 2 hts gL_law_L_leaf rfl rfl rfl (by decide +kernel) ⟨by decide, by decide⟩) ⟨Kp.blind _ _ _ _ _, fun U hU hW => hK.pass hB U hU hW⟩ rfl rfl hl.1 rfl (lv_room (Nat.le_of_ble_eq_true rfl)) dL_law_1025 ⟨(by show cells + 0 + 1 ≤ 758523; omega), (by show slots + 0 + 6 ≤ 6826128; omega)⟩) hB (fun v u H locs hp hB => ?_)
  rcases hp with ⟨rfl, hR0, hC, hFm⟩ | ⟨rfl, hR0, hC, hFm⟩
  · have hk := hFm.I hk
    show W _ _ _ _ _ _ _ _ _ _ _ _ _ _ _ (F0 m 1028 ls [.int (iI (-1))])
    refine lv_istore (lv' := [(17, .int (iI (-1))), (0, .ref b), (1, .ref x), (2, .ref ka), (3, .int (iI (ni : Int))), (4, .int (iI rem)), (5, .int (iI st)), (6, .int (iI 1)), (7, .int (iI tn)), (8, .int (iI (tu : Int))), (9, .int (iI x9)), (10, .int (iI (yn : Int))), (11, .int (iI (dn : Int))), (12, .int (iI (σ 9 0))), (13, .int (iI pt)), (14, .int (iI ot)), (15, .int (iI (rn : Int))), (16, .int (iI (nTb σ)))]) hx hb dL_law_1028 hl (by decide) rfl (fun ls hl => ?_)
    refine lv_aload_n hx hb dL_law_1030 rfl (lv_at hl 2 rfl) ?_
    refine lv_iload hx hb dL_law_1031 (lv_at hl 16 rfl) ?_
    refine m_run (vx_runSW (As := [.ref x, .int (iI (rn : Int))]) (rest := []) ⟨hx, hb, hml, hown, hts⟩ (k_L_removes (l := l) hfl hC hV (n := (rn : Int)) ⟨by omega, by omega⟩) (vx_cwSW 2 hts gL_law_L_removes rfl rfl rfl (by decide +kernel) ⟨by decide, by decide⟩) ⟨Kp.blind _ _ _ _ _, fun U hU hW => hK.pass hB U hU hW⟩ rfl rfl hl.1 rfl (lv_room (Nat.le_of_ble_eq_true rfl)) dL_law_1033 ⟨(by show cells + 1 + 1 ≤ 758523; omega), (by show slots + 6 + 6 ≤ 6826128; omega)⟩) hB (fun v u H locs hp hB => ?_)
    rcases hp with ⟨rfl, hRm, hC, hFm⟩ | ⟨r, σ2, rfl, ⟨hV, i1, i6, i9, i10, i11, i4, i5, hr⟩, ⟨xp, xr, pa, ra, hC⟩, hFm⟩
    · have hk := hFm.I hk
      show W _ _ _ _ _ _ _ _ _ _ _ _ _ _ _ (F0 m 1036 ls [.int (iI (-1))])
      refine lv_istore (lv' := [(18, .int (iI (-1))), (17, .int (iI (-1))), (0, .ref b), (1, .ref x), (2, .ref ka), (3, .int (iI (ni : Int))), (4, .int (iI rem)), (5, .int (iI st)), (6, .int (iI 1)), (7, .int (iI tn)), (8, .int (iI (tu : Int))), (9, .int (iI x9)), (10, .int (iI (yn : Int))), (11, .int (iI (dn : Int))), (12, .int (iI (σ 9 0))), (13, .int (iI pt)), (14, .int (iI ot)), (15, .int (iI (rn : Int))), (16, .int (iI (nTb σ)))]) hx hb dL_law_1036 hl (by decide) rfl (fun ls hl => ?_)
      refine lv_iload hx hb dL_law_1038 (lv_at hl 0 rfl) ?_
      refine j_if_lt (tgt := 1047) hx hb dL_law_1040 (by decide) ⟨by decide, by decide⟩ (fun c_1 => ?_) (fun c_1 => False.elim (by omega))
      refine j_iconst hx hb dL_law_1047 ?_
      refine lv_iload hx hb dL_law_1048 (lv_at hl 1 rfl) ?_
      refine j_if_lt (tgt := 1057) hx hb dL_law_1050 (by decide) ⟨by decide, by decide⟩ (fun c_2 => ?_) (fun c_2 => False.elim (by omega))
      refine j_iconst hx hb dL_law_1057 ?_
      refine j_icmp_ne (tgt := 1075) hx hb dL_law_1058 (by decide) ⟨by decide, by decide⟩ ⟨by decide, by decide⟩ (fun c_3 => False.elim (by omega)) (fun c_3 => ?_)
      refine lv_aload_n hx hb dL_law_1061 rfl (lv_at hl 3 rfl) ?_
      refine lv_iload hx hb dL_law_1062 (lv_at hl 17 rfl) ?_
      refine m_run (vx_runSW (As := [.ref x, .int (iI (rn : Int))]) (rest := []) ⟨hx, hb, hml, hown, hts⟩ (k_L_leaf (l := l) hfl hC hV (n := (rn : Int)) ⟨by omega, by omega⟩) (vx_cwSW 2 hts gL_law_L_leaf rfl rfl rfl (by decide +kernel) ⟨by decide, by decide⟩) ⟨Kp.blind _ _ _ _ _, fun U hU hW => hK.pass hB U hU hW⟩ rfl rfl hl.1 rfl (lv_room (Nat.le_of_ble_eq_true rfl)) dL_law_1064 ⟨(by show cells + 2 + 1 ≤ 758523; omega), (by show slots + 12 + 6 ≤ 6826128; omega)⟩) hB (fun v u H locs hp hB => ?_)
      rcases hp with ⟨rfl, hR1, hC, hFm⟩ | ⟨rfl, hR1, hC, hFm⟩
      · have hk := hFm.I hk
        show W _ _ _ _ _ _ _ _ _ _ _ _ _ _ _ (F0 m 1067 ls [.int (iI (-1))])
        refine j_iconst hx hb dL_law_1067 ?_
        refine j_icmp_ne (tgt := 1075) hx hb dL_law_1068 (by decide) ⟨by decide, by decide⟩ ⟨by decide, by decide⟩ (fun c_4 => False.elim (by omega)) (fun c_4 => ?_)
        refine j_iconst hx hb dL_law_1071 ?_
        refine lv_goto (tgt := 1076) hx hb dL_law_1072 (by decide) ?_
        refine lv_istore (lv' := [(6, .int (iI 1)), (18, .int (iI (-1))), (17, .int (iI (-1))), (0, .ref b), (1, .ref x), (2, .ref ka), (3, .int (iI (ni : Int))), (4, .int (iI rem)), (5, .int (iI st)), (7, .int (iI tn)), (8, .int (iI (tu : Int))), (9, .int (iI x9)), (10, .int (iI (yn : Int))), (11, .int (iI (dn : Int))), (12, .int (iI (σ 9 0))), (13, .int (iI pt)), (14, .int (iI ot)), (15, .int (iI (rn : Int))), (16, .int (iI (nTb σ)))]) hx hb dL_law_1076 hl (by decide) rfl (fun ls hl => ?_)
        refine lv_iload hx hb dL_law_1078 (lv_at hl 7 rfl) ?_
        refine lv_iload hx hb dL_law_1080 (lv_at hl 1 rfl) ?_
        refine j_if_lt (tgt := 1089) hx hb dL_law_1082 (by decide) ⟨by decide, by decide⟩ (fun c_5 => ?_) (fun c_5 => False.elim (by omega))
        refine j_iconst hx hb dL_law_1089 ?_
        refine j_iadd hx hb dL_law_1090 ?_
        refine lv_istore (lv' := [(4, .int (iI (rem + 0))), (6, .int (iI 1)), (18, .int (iI (-1))), (17, .int (iI (-1))), (0, .ref b), (1, .ref x), (2, .ref ka), (3, .int (iI (ni : Int))), (5, .int (iI st)), (7, .int (iI tn)), (8, .int (iI (tu : Int))), (9, .int (iI x9)), (10, .int (iI (yn : Int))), (11, .int (iI (dn : Int))), (12, .int (iI (σ 9 0))), (13, .int (iI pt)), (14, .int (iI ot)), (15, .int (iI (rn : Int))), (16, .int (iI (nTb σ)))]) hx hb dL_law_1091 hl (by decide) rfl (fun ls hl => ?_)
        refine lv_goto (tgt := 1129) hx hb dL_law_1093 (by decide) ?_
        refine W.widen (k := cells + 60) (n := slots + 400) (by show cells + 3 ≤ cells + 60; omega) (by show slots + 18 ≤ slots + 400; omega) ?_
        exact kk σ ni (rem + 0) st _ _ _ _ ⟨hV, hC.x, ⟨_, hk, hkf⟩, by omega, by omega, by omega, by omega⟩ hB (lv_sub hl [4, 5, 6, 7, 0, 8, 1, 9, 10, 12] rfl)
      · exact absurd hR1 hR0
    · exact absurd i4 hR0
  · have hk := hFm.I hk
    obtain ⟨a1, a2, a3, a4, a5, a6, -, -⟩ := plc_at hV hR0
    show W _ _ _ _ _ _ _ _ _ _ _ _ _ _ _ (F0 m 1028 ls [.int (iI (plc σ (rn : Int)))])
    refine lv_istore (lv' := [(17, .int (iI (plc σ (rn : Int)))), (0, .ref b), (1, .ref x), (2, .ref ka), (3, .int (iI (ni : Int))), (4, .int (iI rem)), (5, .int (iI st)), (6, .int (iI 1)), (7, .int (iI tn)), (8, .int (iI (tu : Int))), (9, .int (iI x9)), (10, .int (iI (yn : Int))), (11, .int (iI (dn : Int))), (12, .int (iI (σ 9 0))), (13, .int (iI pt)), (14, .int (iI ot)), (15, .int (iI (rn : Int))), (16, .int (iI (nTb σ)))]) hx hb dL_law_1028 hl (by decide) rfl (fun ls hl => ?_)
    refine lv_aload_n hx hb dL_law_1030 rfl (lv_at hl 2 rfl) ?_
    refine lv_iload hx hb dL_law_1031 (lv_at hl 16 rfl) ?_
    refine m_run (vx_runSW (As := [.ref x, .int (iI (rn : Int))]) (rest := []) ⟨hx, hb, hml, hown, hts⟩ (k_L_removes (l := l) hfl hC hV (n := (rn : Int)) ⟨by omega, by omega⟩) (vx_cwSW 2 hts gL_law_L_removes rfl rfl rfl (by decide +kernel) ⟨by decide, by decide⟩) ⟨Kp.blind _ _ _ _ _, fun U hU hW => hK.pass hB U hU hW⟩ rfl rfl hl.1 rfl (lv_room (Nat.le_of_ble_eq_true rfl)) dL_law_1033 ⟨(by show cells + 1 + 1 ≤ 758523; omega), (by show slots + 6 + 6 ≤ 6826128; omega)⟩) hB (fun v u H locs hp hB => ?_)
    rcases hp with ⟨rfl, hRm, hC, hFm⟩ | ⟨r, σ2, rfl, ⟨hV, i1, i6, i9, i10, i11, i4, i5, hr⟩, ⟨xp, xr, pa, ra, hC⟩, hFm⟩
    · exact absurd hR0 hRm
    · have hk := hFm.I hk
      have hkf := i6.kf hkf
      have hI := hV.ib
      have hnp := hI.hnp
      have hnpI := hI.npI
      have htb2 := nTb_rg hI
      have hst2 := hI.2.2.1
      show W _ _ _ _ _ _ _ _ _ _ _ _ _ _ _ (F0 m 1036 ls [.int (iI r)])
      refine lv_istore (lv' := [(18, .int (iI r)), (17, .int (iI (plc σ (rn : Int)))), (0, .ref b), (1, .ref x), (2, .ref ka), (3, .int (iI (ni : Int))), (4, .int (iI rem)), (5, .int (iI st)), (6, .int (iI 1)), (7, .int (iI tn)), (8, .int (iI (tu : Int))), (9, .int (iI x9)), (10, .int (iI (yn : Int))), (11, .int (iI (dn : Int))), (12, .int (iI (σ 9 0))), (13, .int (iI pt)), (14, .int (iI ot)), (15, .int (iI (rn : Int))), (16, .int (iI (nTb σ)))]) hx hb dL_law_1036 hl (by decide) rfl (fun ls hl => ?_)
      refine lv_iload hx hb dL_law_1038 (lv_at hl 0 rfl) ?_
      refine j_if_lt (tgt := 1047) hx hb dL_law_1040 (by decide) ⟨by omega, by omega⟩ (fun c_6 => False.elim (by omega)) (fun c_6 => ?_)
      refine j_iconst hx hb dL_law_1043 ?_
      refine lv_goto (tgt := 1048) hx hb dL_law_1044 (by decide) ?_
      refine lv_iload hx hb dL_law_1048 (lv_at hl 1 rfl) ?_
      refine j_if_lt (tgt := 1057) hx hb dL_law_1050 (by decide) ⟨by omega, by omega⟩ (fun c_7 => ?_) (fun c_7 => ?_)
      · refine j_iconst hx hb dL_law_1057 ?_
        refine j_icmp_ne (tgt := 1075) hx hb dL_law_1058 (by decide) ⟨by decide, by decide⟩ ⟨by decide, by decide⟩ (fun c_8 => False.elim (by omega)) (fun c_8 => ?_)
        refine lv_aload_n hx hb dL_law_1061 rfl (lv_at hl 3 rfl) ?_
        refine lv_iload hx hb dL_law_1062 (lv_at hl 17 rfl) ?_
        refine m_run (vx_runSW (As := [.ref x, .int (iI (rn : Int))]) (rest := []) ⟨hx, hb, hml, hown, hts⟩ (k_L_leaf (l := l) hfl hC hV (n := (rn : Int)) ⟨by omega, by omega⟩) (vx_cwSW 2 hts gL_law_L_leaf rfl rfl rfl (by decide +kernel) ⟨by decide, by decide⟩) ⟨Kp.blind _ _ _ _ _, fun U hU hW => hK.pass hB U hU hW⟩ rfl rfl hl.1 rfl (lv_room (Nat.le_of_ble_eq_true rfl)) dL_law_1064 ⟨(by show cells + 2 + 1 ≤ 758523; omega), (by show slots + 12 + 6 ≤ 6826128; omega)⟩) hB (fun v u H locs hp hB => ?_)
        rcases hp with ⟨rfl, hR1, hC, hFm⟩ | ⟨rfl, hR1, hC, hFm⟩
        · have hk := hFm.I hk
          show W _ _ _ _ _ _ _ _ _ _ _ _ _ _ _ (F0 m 1067 ls [.int (iI (-1))])
          refine j_iconst hx hb dL_law_1067 ?_
          refine j_icmp_ne (tgt := 1075) hx hb dL_law_1068 (by decide) ⟨by decide, by decide⟩ ⟨by decide, by decide⟩ (fun c_9 => False.elim (by omega)) (fun c_9 => ?_)
          refine j_iconst hx hb dL_law_1071 ?_
          refine lv_goto (tgt := 1076) hx hb dL_law_1072 (by decide) ?_
          refine lv_istore (lv' := [(6, .int (iI 1)), (18, .int (iI r)), (17, .int (iI (plc σ (rn : Int)))), (0, .ref b), (1, .ref x), (2, .ref ka), (3, .int (iI (ni : Int))), (4, .int (iI rem)), (5, .int (iI st)), (7, .int (iI tn)), (8, .int (iI (tu : Int))), (9, .int (iI x9)), (10, .int (iI (yn : Int))), (11, .int (iI (dn : Int))), (12, .int (iI (σ 9 0))), (13, .int (iI pt)), (14, .int (iI ot)), (15, .int (iI (rn : Int))), (16, .int (iI (nTb σ)))]) hx hb dL_law_1076 hl (by decide) rfl (fun ls hl => ?_)
          refine lv_iload hx hb dL_law_1078 (lv_at hl 7 rfl) ?_
          refine lv_iload hx hb dL_law_1080 (lv_at hl 1 rfl) ?_
          refine j_if_lt (tgt := 1089) hx hb dL_law_1082 (by decide) ⟨by omega, by omega⟩ (fun c_10 => False.elim (by omega)) (fun c_10 => ?_)
          refine j_iconst hx hb dL_law_1085 ?_
          refine lv_goto (tgt := 1090) hx hb dL_law_1086 (by decide) ?_
          refine j_iadd hx hb dL_law_1090 ?_
          refine lv_istore (lv' := [(4, .int (iI (rem + 1))), (6, .int (iI 1)), (18, .int (iI r)), (17, .int (iI (plc σ (rn : Int)))), (0, .ref b), (1, .ref x), (2, .ref ka), (3, .int (iI (ni : Int))), (5, .int (iI st)), (7, .int (iI tn)), (8, .int (iI (tu : Int))), (9, .int (iI x9)), (10, .int (iI (yn : Int))), (11, .int (iI (dn : Int))), (12, .int (iI (σ 9 0))), (13, .int (iI pt)), (14, .int (iI ot)), (15, .int (iI (rn : Int))), (16, .int (iI (nTb σ)))]) hx hb dL_law_1091 hl (by decide) rfl (fun ls hl => ?_)
          refine lv_goto (tgt := 1129) hx hb dL_law_1093 (by decide) ?_
          refine W.widen (k := cells + 60) (n := slots + 400) (by show cells + 3 ≤ cells + 60; omega) (by show slots + 18 ≤ slots + 400; omega) ?_
          exact kk σ2 ni (rem + 1) st _ _ _ _ ⟨hV, hC.x, ⟨_, hk, hkf⟩, by omega, by omega, by omega, by omega⟩ hB (lv_sub hl [4, 5, 6, 7, 0, 8, 1, 9, 10, 12] rfl)
        · exact absurd hR1 i5
      · refine j_iconst hx hb dL_law_1053 ?_
        refine lv_goto (tgt := 1058) hx hb dL_law_1054 (by decide) ?_
        refine j_icmp_ne (tgt := 1075) hx hb dL_law_1058 (by decide) ⟨by decide, by decide⟩ ⟨by decide, by decide⟩ (fun c_11 => False.elim (by omega)) (fun c_11 => ?_)
        refine lv_aload_n hx hb dL_law_1061 rfl (lv_at hl 3 rfl) ?_
        refine lv_iload hx hb dL_law_1062 (lv_at hl 17 rfl) ?_
        refine m_run (vx_runSW (As := [.ref x, .int (iI (rn : Int))]) (rest := []) ⟨hx, hb, hml, hown, hts⟩ (k_L_leaf (l := l) hfl hC hV (n := (rn : Int)) ⟨by omega, by omega⟩) (vx_cwSW 2 hts gL_law_L_leaf rfl rfl rfl (by decide +kernel) ⟨by decide, by decide⟩) ⟨Kp.blind _ _ _ _ _, fun U hU hW => hK.pass hB U hU hW⟩ rfl rfl hl.1 rfl (lv_room (Nat.le_of_ble_eq_true rfl)) dL_law_1064 ⟨(by show cells + 2 + 1 ≤ 758523; omega), (by show slots + 12 + 6 ≤ 6826128; omega)⟩) hB (fun v u H locs hp hB => ?_)
        rcases hp with ⟨rfl, hR1, hC, hFm⟩ | ⟨rfl, hR1, hC, hFm⟩
        · have hk := hFm.I hk
          show W _ _ _ _ _ _ _ _ _ _ _ _ _ _ _ (F0 m 1067 ls [.int (iI (-1))])
          refine j_iconst hx hb dL_law_1067 ?_
          refine j_icmp_ne (tgt := 1075) hx hb dL_law_1068 (by decide) ⟨by decide, by decide⟩ ⟨by decide, by decide⟩ (fun c_12 => False.elim (by omega)) (fun c_12 => ?_)
          refine j_iconst hx hb dL_law_1071 ?_
          refine lv_goto (tgt := 1076) hx hb dL_law_1072 (by decide) ?_
          refine lv_istore (lv' := [(6, .int (iI 1)), (18, .int (iI r)), (17, .int (iI (plc σ (rn : Int)))), (0, .ref b), (1, .ref x), (2, .ref ka), (3, .int (iI (ni : Int))), (4, .int (iI rem)), (5, .int (iI st)), (7, .int (iI tn)), (8, .int (iI (tu : Int))), (9, .int (iI x9)), (10, .int (iI (yn : Int))), (11, .int (iI (dn : Int))), (12, .int (iI (σ 9 0))), (13, .int (iI pt)), (14, .int (iI ot)), (15, .int (iI (rn : Int))), (16, .int (iI (nTb σ)))]) hx hb dL_law_1076 hl (by decide) rfl (fun ls hl => ?_)
          refine lv_iload hx hb dL_law_1078 (lv_at hl 7 rfl) ?_
          refine lv_iload hx hb dL_law_1080 (lv_at hl 1 rfl) ?_
          refine j_if_lt (tgt := 1089) hx hb dL_law_1082 (by decide) ⟨by omega, by omega⟩ (fun c_13 => False.elim (by omega)) (fun c_13 => ?_)
          refine j_iconst hx hb dL_law_1085 ?_
          refine lv_goto (tgt := 1090) hx hb dL_law_1086 (by decide) ?_
          refine j_iadd hx hb dL_law_1090 ?_
          refine lv_istore (lv' := [(4, .int (iI (rem + 1))), (6, .int (iI 1)), (18, .int (iI r)), (17, .int (iI (plc σ (rn : Int)))), (0, .ref b), (1, .ref x), (2, .ref ka), (3, .int (iI (ni : Int))), (5, .int (iI st)), (7, .int (iI tn)), (8, .int (iI (tu : Int))), (9, .int (iI x9)), (10, .int (iI (yn : Int))), (11, .int (iI (dn : Int))), (12, .int (iI (σ 9 0))), (13, .int (iI pt)), (14, .int (iI ot)), (15, .int (iI (rn : Int))), (16, .int (iI (nTb σ)))]) hx hb dL_law_1091 hl (by decide) rfl (fun ls hl => ?_)
          refine lv_goto (tgt := 1129) hx hb dL_law_1093 (by decide) ?_
          refine W.widen (k := cells + 60) (n := slots + 400) (by show cells + 3 ≤ cells + 60; omega) (by show slots + 18 ≤ slots + 400; omega) ?_
          exact kk σ2 ni (rem + 1) st _ _ _ _ ⟨hV, hC.x, ⟨_, hk, hkf⟩, by omega, by omega, by omega, by omega⟩ hB (lv_sub hl [4, 5, 6, 7, 0, 8, 1, 9, 10, 12] rfl)
        · exact absurd hR1 i5

set_option maxHeartbeats 4000000 in
set_option maxRecDepth 100000 in
theorem ld_bi {l : Launch} (hfl : l.stackTraces = false) {D : va_G} {cI cP cR cJ : ClassId} {p : Program} {e : Env} {s : State} {m : MethodId} {below : List Frame} {meth : Method} {c : Code} {b L : Nat} {xs : Nat → Int32} (hL : L ≤ 260) (hx : p.tables.exec = Jvm.exec) (hb : c.code = cL_law) (hml : c.maxLocals = 20) (hown : s.vm.findClass RL = some m.cls) (hts : ∀ w ∈ wsL_law, w.before #[Value.ref b] s = true) (hX : va_X b L xs s s.heap) (hbl : b < s.heap.size) (hK : Kb D s.heap.size (tyL cI cP cR cJ) s) {x ka tu ni yn : Nat} {rem st tn : Int} {rn dn : Nat} {x9 pt ot : Int} {σ : Sg} {h0 : Hp} {H : Heap} {locs : List Loc} (hS : LwP cI cP cR x ka σ ni rem st h0) (hB : Bk D s.heap.size s.heap h0 H locs) (fy : yn ≤ 268435455) (ft : tu ≤ 240) (ftn : 0 ≤ tn ∧ tn ≤ 240) (fp : 0 ≤ pt ∧ pt ≤ σ 9 0 + 1) (fo : 0 ≤ ot ∧ ot ≤ σ 9 0 + 1) (fr : rn ≤ ni)  {cells slots : Nat} (hc : cells + 60 ≤ 758523) (hs : slots + 400 ≤ 6826128) {Q : State → Prop} {ls : Array Slot} (hl : lv_has ls 20 [(0, .ref b), (1, .ref x), (2, .ref ka), (3, .int (iI (ni : Int))), (4, .int (iI rem)), (5, .int (iI st)), (6, .int (iI 1)), (7, .int (iI tn)), (8, .int (iI (tu : Int))), (9, .int (iI x9)), (10, .int (iI (yn : Int))), (11, .int (iI (dn : Int))), (12, .int (iI (σ 9 0))), (13, .int (iI pt)), (14, .int (iI ot)), (15, .int (iI (rn : Int))), (16, .int (iI (nTb σ)))]) (kk : ∀ (σ2 : Sg) (n2 : Nat) (r2 s2 : Int) (h2 : Hp) (H2 : Heap) (locs2 : List Loc) (ls2 : Array Slot), LwP cI cP cR x ka σ2 n2 r2 s2 h2 → Bk D s.heap.size s.heap h2 H2 locs2 → lv_has ls2 20 [(0, .ref b), (1, .ref x), (2, .ref ka), (3, .int (iI (n2 : Int))), (4, .int (iI r2)), (5, .int (iI s2)), (6, .int (iI 1)), (7, .int (iI tn)), (8, .int (iI (tu : Int))), (10, .int (iI (yn : Int)))] → W p l e room_1 s m #[Value.ref b] below meth c H2 locs2 (cells + 60) (slots + 400) Q (F0 m 1129 ls2 [])) : W p l e room_1 s m #[Value.ref b] below meth c H locs cells slots Q (F0 m 1103 ls []) := by
  obtain ⟨hV, ⟨xp, xr, pa, ra, hC⟩, ⟨f, hk, hkf⟩, hni, hn64, hlv, hst⟩ := hS
  have hI := hV.ib
  have hnp := hI.hnp
  have hnpI := hI.npI
  have hnl := nLv_rg hI
  have htb := nTb_rg hI
  have hst1 := hI.2.2.1
  refine lv_aload_n hx hb dL_law_1103 rfl (lv_at hl 1 rfl) ?_
  refine m_run (va_runV (As := []) (rest := []) ⟨hx, hb, hml, hown, hts⟩ (k_X3_buildIndex (l := l) hC hI) (cwV 0 hts gL_law_X3_buildIndex rfl rfl rfl (by decide +kernel) ⟨by decide, by decide⟩) ⟨Kp.blind _ _ _ _ _, m_recv hK hB (ci := 3) rfl hC.tb, fun U hU hW => hK.pass hB U hU hW⟩ rfl rfl hl.1 rfl (lv_room (Nat.le_of_ble_eq_true rfl)) dL_law_1104 ⟨(by show cells + 0 + 0 ≤ 758523; omega), (by show slots + 0 + 0 ≤ 6826128; omega)⟩) hB (fun v u H locs hp hB => ?_)
  obtain ⟨rfl, hC, hFm⟩ := hp
  have hk := hFm.I hk
  have hV := hV.stale (v := 0) (by omega)
  obtain ⟨i1, i2, i6⟩ := bi_f (σ := σ)
  have i9 : upS σ 11 0 0 9 0 = σ 9 0 := upS_g (by decide)
  have i10 : upS σ 11 0 0 10 0 = σ 10 0 := upS_g (by decide)
  have i11 : upS σ 11 0 0 11 0 = 0 := upS_s _ _ _ _
  have hkf := i6.kf hkf
  obtain ⟨σ2, eσ2⟩ : ∃ σ2, σ2 = upS σ 11 0 0 := ⟨_, rfl⟩
  have en : cnt (fun j => live (upS σ 11 0 0) j ∧ (upS σ 11 0 0) 4 (pn (upS σ 11 0 0) j) = 0) (nrN (upS σ 11 0 0)) = nTb (upS σ 11 0 0) := rfl
  rw [en]
  rw [← eσ2] at hC hV i1 i2 i9 i10 i11 hkf ⊢
  have hI := hV.ib
  have hnp := hI.hnp
  have hnpI := hI.npI
  have htb2 := nTb_rg hI
  have hst2 := hI.2.2.1
  show W _ _ _ _ _ _ _ _ _ _ _ _ _ _ _ (F0 m 1107 ls [.int (iI (nTb σ2))])
  refine lv_iload hx hb dL_law_1107 (lv_at hl 16 rfl) ?_
  refine j_icmp_ne (tgt := 1123) hx hb dL_law_1109 (by decide) ⟨by omega, by omega⟩ ⟨by omega, by omega⟩ (fun c_1 => False.elim (by omega)) (fun c_1 => ?_)
  refine lv_aload_n hx hb dL_law_1112 rfl (lv_at hl 1 rfl) ?_
  refine m_run (va_runV (As := []) (rest := []) ⟨hx, hb, hml, hown, hts⟩ (k_X3_isStale (l := l) hC hI) (cwV 0 hts gL_law_X3_isStale rfl rfl rfl (by decide +kernel) ⟨by decide, by decide⟩) ⟨Kp.blind _ _ _ _ _, m_recv hK hB (ci := 3) rfl hC.tb, fun U hU hW => hK.pass hB U hU hW⟩ rfl rfl hl.1 rfl (lv_room (Nat.le_of_ble_eq_true rfl)) dL_law_1113 ⟨(by show cells + 0 + 0 ≤ 758523; omega), (by show slots + 0 + 0 ≤ 6826128; omega)⟩) hB (fun v u H locs hp hB => ?_)
  obtain ⟨rfl, hC, hFm⟩ := hp
  have hk := hFm.I hk
  show W _ _ _ _ _ _ _ _ _ _ _ _ _ _ _ (F0 m 1116 ls [.int (iI (σ2 11 0))])
  refine j_if_ne (tgt := 1123) hx hb dL_law_1116 (by decide) ⟨by omega, by omega⟩ (fun c_2 => False.elim (by omega)) (fun c_2 => ?_)
  refine j_iconst hx hb dL_law_1119 ?_
  refine lv_goto (tgt := 1124) hx hb dL_law_1120 (by decide) ?_
  refine lv_istore (lv' := [(6, .int (iI 1)), (0, .ref b), (1, .ref x), (2, .ref ka), (3, .int (iI (ni : Int))), (4, .int (iI rem)), (5, .int (iI st)), (7, .int (iI tn)), (8, .int (iI (tu : Int))), (9, .int (iI x9)), (10, .int (iI (yn : Int))), (11, .int (iI (dn : Int))), (12, .int (iI (σ 9 0))), (13, .int (iI pt)), (14, .int (iI ot)), (15, .int (iI (rn : Int))), (16, .int (iI (nTb σ)))]) hx hb dL_law_1124 hl (by decide) rfl (fun ls hl => ?_)
  refine j_iconst hx hb dL_law_1126 ?_
  refine lv_istore (lv' := [(5, .int (iI 0)), (6, .int (iI 1)), (0, .ref b), (1, .ref x), (2, .ref ka), (3, .int (iI (ni : Int))), (4, .int (iI rem)), (7, .int (iI tn)), (8, .int (iI (tu : Int))), (9, .int (iI x9)), (10, .int (iI (yn : Int))), (11, .int (iI (dn : Int))), (12, .int (iI (σ 9 0))), (13, .int (iI pt)), (14, .int (iI ot)), (15, .int (iI (rn : Int))), (16, .int (iI (nTb σ)))]) hx hb dL_law_1127 hl (by decide) rfl (fun ls hl => ?_)
  refine W.widen (k := cells + 60) (n := slots + 400) (by show cells + 0 ≤ cells + 60; omega) (by show slots + 0 ≤ slots + 400; omega) ?_
  exact kk σ2 ni rem 0 _ _ _ _ ⟨hV, hC.x, ⟨_, hk, hkf⟩, by omega, by omega, by omega, by omega⟩ hB (lv_sub hl [2, 3, 4, 5, 6, 0, 1, 7, 8, 10] rfl)

