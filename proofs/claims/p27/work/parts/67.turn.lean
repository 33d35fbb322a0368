theorem c99_in : Cond.constant RL 99 1290001 ∈ wsL_law := List.mem_append_left _ (List.mem_append_left _ (List.mem_append_left _ (show Cond.constant RL 99 1290001 ∈ wsL_law0 from List.mem_append_left _ (List.mem_append_left _ (List.mem_append_left _ (List.mem_append_left _ (List.mem_append_left _ (List.mem_append_left _ (List.mem_of_getElem? (i := 4) rfl)))))))))
theorem c100_in : Cond.constant RL 100 43003 ∈ wsL_law := List.mem_append_left _ (List.mem_append_left _ (List.mem_append_left _ (show Cond.constant RL 100 43003 ∈ wsL_law0 from List.mem_append_left _ (List.mem_append_left _ (List.mem_append_left _ (List.mem_append_left _ (List.mem_append_left _ (List.mem_append_left _ (List.mem_of_getElem? (i := 5) rfl)))))))))
theorem c101_in : Cond.constant RL 101 268435455 ∈ wsL_law := List.mem_append_left _ (List.mem_append_left _ (List.mem_append_left _ (show Cond.constant RL 101 268435455 ∈ wsL_law0 from List.mem_append_left _ (List.mem_append_left _ (List.mem_append_left _ (List.mem_append_left _ (List.mem_append_left _ (List.mem_append_left _ (List.mem_of_getElem? (i := 6) rfl)))))))))

set_option maxHeartbeats 4000000 in
set_option maxRecDepth 100000 in
theorem lt_turn {l : Launch} (hfl : l.stackTraces = false) {D : va_G} {cI cP cR cJ : ClassId} {p : Program} {e : Env} {s : State} {m : MethodId} {below : List Frame} {meth : Method} {c : Code} {b L : Nat} {xs : Nat → Int32} (hL : L ≤ 260) (hx : p.tables.exec = Jvm.exec) (hb : c.code = cL_law) (hml : c.maxLocals = 20) (hown : s.vm.findClass RL = some m.cls) (hts : ∀ w ∈ wsL_law, w.before #[Value.ref b] s = true) (hX : va_X b L xs s s.heap) (hbl : b < s.heap.size) (hK : Kb D s.heap.size (tyL cI cP cR cJ) s) {x ka tu ni : Nat} {rem st tn X : Int} {σ : Sg} {h0 : Hp} {H : Heap} {locs : List Loc} (hS : LwP cI cP cR x ka σ ni rem st h0) (hB : Bk D s.heap.size s.heap h0 H locs) (ft : tu ≤ 240) (ftn : 0 ≤ tn ∧ tn ≤ 240) {cells slots : Nat} (hc : cells + 1300 ≤ 758523) (hs : slots + 8000 ≤ 6826128) {Q : State → Prop} {ls : Array Slot} (hl : lv_has ls 20 [(0, .ref b), (1, .ref x), (2, .ref ka), (3, .int (iI (ni : Int))), (4, .int (iI rem)), (5, .int (iI st)), (6, .int (iI 1)), (7, .int (iI tn)), (8, .int (iI (tu : Int)))]) (kk : ∀ (σ2 : Sg) (n2 : Nat) (r2 s2 : Int) (h2 : Hp) (H2 : Heap) (locs2 : List Loc) (ls2 : Array Slot), LwP cI cP cR x ka σ2 n2 r2 s2 h2 → Bk D s.heap.size s.heap h2 H2 locs2 → lv_has ls2 20 [(0, .ref b), (1, .ref x), (2, .ref ka), (3, .int (iI (n2 : Int))), (4, .int (iI r2)), (5, .int (iI s2)), (6, .int (iI 1)), (7, .int (iI tn)), (8, .int (iI ((tu + 1 : Nat) : Int)))] → W p l e room_1 s m #[Value.ref b] below meth c H2 locs2 (cells + 1300) (slots + 8000) Q (F0 m 64 ls2 [])) : W p l e room_1 s m #[Value.ref b] below meth c H locs cells slots Q (F0 m 107 ls [.int (iI X)]) := by
  obtain ⟨hV, ⟨xp, xr, pa, ra, hC⟩, ⟨f, hk, hkf⟩, hni, hn64, hlv, hst⟩ := hS
  have hI := hV.ib
  have hnp := hI.hnp
  have hnpI := hI.npI
  have hnl := nLv_rg hI
  have htb := nTb_rg hI
  have hst1 := hI.2.2.1
  refine lv_istore (lv' := [(9, .int (iI X)), (0, .ref b), (1, .ref x), (2, .ref ka), (3, .int (iI (ni : Int))), (4, .int (iI rem)), (5, .int (iI st)), (6, .int (iI 1)), (7, .int (iI tn)), (8, .int (iI (tu : Int)))]) hx hb dL_law_107 hl (by decide) rfl (fun ls hl => ?_)
  refine lv_iload hx hb dL_law_109 (lv_at hl 0 rfl) ?_
  refine j_iconst hx hb dL_law_111 ?_
  refine lv_ishr hx hb dL_law_112 ?_
  refine j_ldc (v := 268435455) (n := 268435455) hx hb hown (hts _ c101_in) (by decide) dL_law_113 ?_
  refine j_mask (n := 268435455) hx hb dL_law_115 (fun yn fy => ?_)
  refine lv_istore (lv' := [(10, .int (iI (yn : Int))), (9, .int (iI X)), (0, .ref b), (1, .ref x), (2, .ref ka), (3, .int (iI (ni : Int))), (4, .int (iI rem)), (5, .int (iI st)), (6, .int (iI 1)), (7, .int (iI tn)), (8, .int (iI (tu : Int)))]) hx hb dL_law_116 hl (by decide) rfl (fun ls hl => ?_)
  refine lv_iload hx hb dL_law_118 (lv_at hl 1 rfl) ?_
  refine j_bipush hx hb dL_law_120 (by decide) ?_
  refine j_mask (n := 15) hx hb dL_law_122 (fun w_1 hw_1 => ?_)
  refine lv_istore (lv' := [(11, .int (iI (w_1 : Int))), (10, .int (iI (yn : Int))), (9, .int (iI X)), (0, .ref b), (1, .ref x), (2, .ref ka), (3, .int (iI (ni : Int))), (4, .int (iI rem)), (5, .int (iI st)), (6, .int (iI 1)), (7, .int (iI tn)), (8, .int (iI (tu : Int)))]) hx hb dL_law_123 hl (by decide) rfl (fun ls hl => ?_)
  refine lv_aload_n hx hb dL_law_125 rfl (lv_at hl 4 rfl) ?_
  refine m_run (va_runV (As := []) (rest := []) ⟨hx, hb, hml, hown, hts⟩ (k_X3_parts (l := l) hC hI) (cwV 0 hts gL_law_X3_parts rfl rfl rfl (by decide +kernel) ⟨by decide, by decide⟩) ⟨Kp.blind _ _ _ _ _, m_recv hK hB (ci := 3) rfl hC.tb, fun U hU hW => hK.pass hB U hU hW⟩ rfl rfl hl.1 rfl (lv_room (Nat.le_of_ble_eq_true rfl)) dL_law_126 ⟨(by show cells + 0 + 0 ≤ 758523; omega), (by show slots + 0 + 0 ≤ 6826128; omega)⟩) hB (fun v u H locs hp hB => ?_)
  obtain ⟨rfl, hC, hFm⟩ := hp
  have hk := hFm.I hk
  show W _ _ _ _ _ _ _ _ _ _ _ _ _ _ _ (F0 m 129 ls [.int (iI (σ 9 0))])
  refine lv_istore (lv' := [(12, .int (iI (σ 9 0))), (11, .int (iI (w_1 : Int))), (10, .int (iI (yn : Int))), (9, .int (iI X)), (0, .ref b), (1, .ref x), (2, .ref ka), (3, .int (iI (ni : Int))), (4, .int (iI rem)), (5, .int (iI st)), (6, .int (iI 1)), (7, .int (iI tn)), (8, .int (iI (tu : Int)))]) hx hb dL_law_129 hl (by decide) rfl (fun ls hl => ?_)
  refine lv_iload hx hb dL_law_131 (lv_at hl 2 rfl) ?_
  refine lv_iload hx hb dL_law_133 (lv_at hl 0 rfl) ?_
  refine j_iconst hx hb dL_law_135 ?_
  refine j_iadd hx hb dL_law_136 ?_
  refine j_remT hx hb ⟨by omega, by omega⟩ ⟨by omega, by omega⟩ dL_law_137 (fun w_2 hw_2 kw_2 => ?_)
  refine lv_istore (lv' := [(13, .int (iI w_2)), (12, .int (iI (σ 9 0))), (11, .int (iI (w_1 : Int))), (10, .int (iI (yn : Int))), (9, .int (iI X)), (0, .ref b), (1, .ref x), (2, .ref ka), (3, .int (iI (ni : Int))), (4, .int (iI rem)), (5, .int (iI st)), (6, .int (iI 1)), (7, .int (iI tn)), (8, .int (iI (tu : Int)))]) hx hb dL_law_138 hl (by decide) rfl (fun ls hl => ?_)
  refine lv_iload hx hb dL_law_140 (lv_at hl 3 rfl) ?_
  refine j_iconst hx hb dL_law_142 ?_
  refine j_shrT (n := 5) hx hb ⟨by omega, by omega⟩ (by decide) dL_law_143 (fun w_3 hw_3 kw_3 => ?_)
  refine lv_iload hx hb dL_law_144 (lv_at hl 1 rfl) ?_
  refine j_iconst hx hb dL_law_146 ?_
  refine j_iadd hx hb dL_law_147 ?_
  refine j_remT hx hb ⟨by omega, by omega⟩ ⟨by omega, by omega⟩ dL_law_148 (fun w_4 hw_4 kw_4 => ?_)
  refine lv_istore (lv' := [(14, .int (iI w_4)), (13, .int (iI w_2)), (12, .int (iI (σ 9 0))), (11, .int (iI (w_1 : Int))), (10, .int (iI (yn : Int))), (9, .int (iI X)), (0, .ref b), (1, .ref x), (2, .ref ka), (3, .int (iI (ni : Int))), (4, .int (iI rem)), (5, .int (iI st)), (6, .int (iI 1)), (7, .int (iI tn)), (8, .int (iI (tu : Int)))]) hx hb dL_law_149 hl (by decide) rfl (fun ls hl => ?_)
  refine lv_iload hx hb dL_law_151 (lv_at hl 4 rfl) ?_
  refine lv_iload_n hx hb dL_law_153 rfl (lv_at hl 9 rfl) ?_
  refine j_iconst hx hb dL_law_154 ?_
  refine j_iadd hx hb dL_law_155 ?_
  refine j_remT hx hb ⟨by omega, by omega⟩ ⟨by omega, by omega⟩ dL_law_156 (fun w_5 hw_5 kw_5 => ?_)
  obtain ⟨rn, ern⟩ : ∃ rn : Nat, w_5 = (rn : Int) := ⟨(w_5).toNat, by omega⟩
  refine j_topE ern ?_
  refine lv_istore (lv' := [(15, .int (iI (rn : Int))), (14, .int (iI w_4)), (13, .int (iI w_2)), (12, .int (iI (σ 9 0))), (11, .int (iI (w_1 : Int))), (10, .int (iI (yn : Int))), (9, .int (iI X)), (0, .ref b), (1, .ref x), (2, .ref ka), (3, .int (iI (ni : Int))), (4, .int (iI rem)), (5, .int (iI st)), (6, .int (iI 1)), (7, .int (iI tn)), (8, .int (iI (tu : Int)))]) hx hb dL_law_157 hl (by decide) rfl (fun ls hl => ?_)
  refine lv_aload_n hx hb dL_law_159 rfl (lv_at hl 8 rfl) ?_
  refine m_run (va_runV (As := []) (rest := []) ⟨hx, hb, hml, hown, hts⟩ (k_X3_rows (l := l) hC hI) (cwV 0 hts gL_law_X3_rows rfl rfl rfl (by decide +kernel) ⟨by decide, by decide⟩) ⟨Kp.blind _ _ _ _ _, m_recv hK hB (ci := 3) rfl hC.tb, fun U hU hW => hK.pass hB U hU hW⟩ rfl rfl hl.1 rfl (lv_room (Nat.le_of_ble_eq_true rfl)) dL_law_160 ⟨(by show cells + 0 + 0 ≤ 758523; omega), (by show slots + 0 + 0 ≤ 6826128; omega)⟩) hB (fun v u H locs hp hB => ?_)
  obtain ⟨rfl, hC, hFm⟩ := hp
  have hk := hFm.I hk
  show W _ _ _ _ _ _ _ _ _ _ _ _ _ _ _ (F0 m 163 ls [.int (iI (nTb σ))])
  refine lv_istore (lv' := [(16, .int (iI (nTb σ))), (15, .int (iI (rn : Int))), (14, .int (iI w_4)), (13, .int (iI w_2)), (12, .int (iI (σ 9 0))), (11, .int (iI (w_1 : Int))), (10, .int (iI (yn : Int))), (9, .int (iI X)), (0, .ref b), (1, .ref x), (2, .ref ka), (3, .int (iI (ni : Int))), (4, .int (iI rem)), (5, .int (iI st)), (6, .int (iI 1)), (7, .int (iI tn)), (8, .int (iI (tu : Int)))]) hx hb dL_law_163 hl (by decide) rfl (fun ls hl => ?_)
  refine lv_iload hx hb dL_law_165 (lv_at hl 5 rfl) ?_
  refine j_iconst hx hb dL_law_167 ?_
  refine j_icmp_ge (tgt := 295) hx hb dL_law_168 (by decide) ⟨by omega, by omega⟩ ⟨by decide, by decide⟩ (fun c_6 => ?_) (fun c_6 => ?_)
  · refine lv_iload hx hb dL_law_295 (lv_at hl 5 rfl) ?_
    refine j_bipush hx hb dL_law_297 (by decide) ?_
    refine j_icmp_ge (tgt := 479) hx hb dL_law_299 (by decide) ⟨by omega, by omega⟩ ⟨by decide, by decide⟩ (fun c_7 => ?_) (fun c_7 => ?_)
    · refine lv_iload hx hb dL_law_479 (lv_at hl 5 rfl) ?_
      refine j_bipush hx hb dL_law_481 (by decide) ?_
      refine j_icmp_ne (tgt := 581) hx hb dL_law_483 (by decide) ⟨by omega, by omega⟩ ⟨by decide, by decide⟩ (fun c_8 => ?_) (fun c_8 => ?_)
      · refine lv_iload hx hb dL_law_581 (lv_at hl 5 rfl) ?_
        refine j_bipush hx hb dL_law_583 (by decide) ?_
        refine j_icmp_ge (tgt := 650) hx hb dL_law_585 (by decide) ⟨by omega, by omega⟩ ⟨by decide, by decide⟩ (fun c_9 => ?_) (fun c_9 => ?_)
        · refine lv_iload hx hb dL_law_650 (lv_at hl 5 rfl) ?_
          refine j_bipush hx hb dL_law_652 (by decide) ?_
          refine j_icmp_ne (tgt := 745) hx hb dL_law_654 (by decide) ⟨by omega, by omega⟩ ⟨by decide, by decide⟩ (fun c_10 => ?_) (fun c_10 => ?_)
          · refine lv_iload hx hb dL_law_745 (lv_at hl 5 rfl) ?_
            refine j_bipush hx hb dL_law_747 (by decide) ?_
            refine j_icmp_ne (tgt := 861) hx hb dL_law_749 (by decide) ⟨by omega, by omega⟩ ⟨by decide, by decide⟩ (fun c_11 => ?_) (fun c_11 => ?_)
            · refine lv_iload hx hb dL_law_861 (lv_at hl 5 rfl) ?_
              refine j_bipush hx hb dL_law_863 (by decide) ?_
              refine j_icmp_ne (tgt := 1015) hx hb dL_law_865 (by decide) ⟨by omega, by omega⟩ ⟨by decide, by decide⟩ (fun c_12 => ?_) (fun c_12 => ?_)
              · refine lv_iload hx hb dL_law_1015 (lv_at hl 5 rfl) ?_
                refine j_bipush hx hb dL_law_1017 (by decide) ?_
                refine j_icmp_ne (tgt := 1096) hx hb dL_law_1019 (by decide) ⟨by omega, by omega⟩ ⟨by decide, by decide⟩ (fun c_13 => ?_) (fun c_13 => ?_)
                · refine lv_iload hx hb dL_law_1096 (lv_at hl 5 rfl) ?_
                  refine j_bipush hx hb dL_law_1098 (by decide) ?_
                  refine j_icmp_ne (tgt := 1129) hx hb dL_law_1100 (by decide) ⟨by omega, by omega⟩ ⟨by decide, by decide⟩ (fun c_14 => ?_) (fun c_14 => ?_)
                  · refine W.widen (k := cells + 60) (n := slots + 400) (by show cells + 0 ≤ cells + 60; omega) (by show slots + 0 ≤ slots + 400; omega) ?_
                    exact lt_tail hfl hL hx hb hml hown hts hX hbl hK ⟨hV, hC.x, ⟨_, hk, hkf⟩, hni, hn64, hlv, hst⟩ hB fy ft ftn (by omega) (by omega) (lv_sub hl [8, 9, 10, 11, 12, 13, 14, 15, 16, 6] rfl) kk
                  · refine W.widen (k := cells) (n := slots) (by show cells + 0 ≤ cells; omega) (by show slots + 0 ≤ slots; omega) ?_
                    exact ld_bi hfl hL hx hb hml hown hts hX hbl hK (rn := rn) ⟨hV, hC.x, ⟨_, hk, hkf⟩, hni, hn64, hlv, hst⟩ hB fy ft ftn ⟨by omega, by omega⟩ ⟨by omega, by omega⟩ (by omega) (by omega) (by omega) (lv_sub hl [8, 9, 10, 11, 12, 13, 14, 15, 16, 7, 6, 5, 4, 3, 2, 1, 0] rfl) (fun σ2 n2 r2 s2 h2 H2 locs2 ls2 a1 a2 a3 => lt_tail hfl hL hx hb hml hown hts hX hbl hK a1 a2 fy ft ftn (by omega) (by omega) a3 (fun σ3 n3 r3 s3 h3 H3 locs3 ls3 b1 b2 b3 => kk σ3 n3 r3 s3 h3 H3 locs3 ls3 b1 b2 b3))
                · refine W.widen (k := cells) (n := slots) (by show cells + 0 ≤ cells; omega) (by show slots + 0 ≤ slots; omega) ?_
                  exact ld_rm hfl hL hx hb hml hown hts hX hbl hK (rn := rn) ⟨hV, hC.x, ⟨_, hk, hkf⟩, hni, hn64, hlv, hst⟩ hB fy ft ftn ⟨by omega, by omega⟩ ⟨by omega, by omega⟩ (by omega) (by omega) (by omega) (lv_sub hl [8, 9, 10, 11, 12, 13, 14, 15, 16, 7, 6, 5, 4, 3, 2, 1, 0] rfl) (fun σ2 n2 r2 s2 h2 H2 locs2 ls2 a1 a2 a3 => lt_tail hfl hL hx hb hml hown hts hX hbl hK a1 a2 fy ft ftn (by omega) (by omega) a3 (fun σ3 n3 r3 s3 h3 H3 locs3 ls3 b1 b2 b3 => kk σ3 n3 r3 s3 h3 H3 locs3 ls3 b1 b2 b3))
              · refine W.widen (k := cells) (n := slots) (by show cells + 0 ≤ cells; omega) (by show slots + 0 ≤ slots; omega) ?_
                exact ld_ch hfl hL hx hb hml hown hts hX hbl hK (rn := rn) ⟨hV, hC.x, ⟨_, hk, hkf⟩, hni, hn64, hlv, hst⟩ hB fy ft ftn ⟨by omega, by omega⟩ ⟨by omega, by omega⟩ (by omega) (by omega) (by omega) (lv_sub hl [8, 9, 10, 11, 12, 13, 14, 15, 16, 7, 6, 5, 4, 3, 2, 1, 0] rfl) (fun σ2 n2 r2 s2 h2 H2 locs2 ls2 a1 a2 a3 => lt_tail hfl hL hx hb hml hown hts hX hbl hK a1 a2 fy ft ftn (by omega) (by omega) a3 (fun σ3 n3 r3 s3 h3 H3 locs3 ls3 b1 b2 b3 => kk σ3 n3 r3 s3 h3 H3 locs3 ls3 b1 b2 b3))
            · refine W.widen (k := cells) (n := slots) (by show cells + 0 ≤ cells; omega) (by show slots + 0 ≤ slots; omega) ?_
              exact ld_tn hfl hL hx hb hml hown hts hX hbl hK (rn := rn) ⟨hV, hC.x, ⟨_, hk, hkf⟩, hni, hn64, hlv, hst⟩ hB fy ft ftn ⟨by omega, by omega⟩ ⟨by omega, by omega⟩ (by omega) (by omega) (by omega) (lv_sub hl [8, 9, 10, 11, 12, 13, 14, 15, 16, 7, 6, 5, 4, 3, 2, 1, 0] rfl) (fun σ2 n2 r2 s2 h2 H2 locs2 ls2 a1 a2 a3 => lt_tail hfl hL hx hb hml hown hts hX hbl hK a1 a2 fy ft ftn (by omega) (by omega) a3 (fun σ3 n3 r3 s3 h3 H3 locs3 ls3 b1 b2 b3 => kk σ3 n3 r3 s3 h3 H3 locs3 ls3 b1 b2 b3))
          · refine W.widen (k := cells) (n := slots) (by show cells + 0 ≤ cells; omega) (by show slots + 0 ≤ slots; omega) ?_
            exact ld_xc hfl hL hx hb hml hown hts hX hbl hK (rn := rn) ⟨hV, hC.x, ⟨_, hk, hkf⟩, hni, hn64, hlv, hst⟩ hB fy ft ftn ⟨by omega, by omega⟩ ⟨by omega, by omega⟩ (by omega) (by omega) (by omega) (lv_sub hl [8, 9, 10, 11, 12, 13, 14, 15, 16, 7, 6, 5, 4, 3, 2, 1, 0] rfl) (fun σ2 n2 r2 s2 h2 H2 locs2 ls2 a1 a2 a3 => lt_tail hfl hL hx hb hml hown hts hX hbl hK a1 a2 fy ft ftn (by omega) (by omega) a3 (fun σ3 n3 r3 s3 h3 H3 locs3 ls3 b1 b2 b3 => kk σ3 n3 r3 s3 h3 H3 locs3 ls3 b1 b2 b3))
        · refine W.widen (k := cells) (n := slots) (by show cells + 0 ≤ cells; omega) (by show slots + 0 ≤ slots; omega) ?_
          exact ld_mg hfl hL hx hb hml hown hts hX hbl hK (rn := rn) ⟨hV, hC.x, ⟨_, hk, hkf⟩, hni, hn64, hlv, hst⟩ hB fy ft ftn ⟨by omega, by omega⟩ ⟨by omega, by omega⟩ (by omega) (by omega) (by omega) (lv_sub hl [8, 9, 10, 11, 12, 13, 14, 15, 16, 7, 6, 5, 4, 3, 2, 1, 0] rfl) (fun σ2 n2 r2 s2 h2 H2 locs2 ls2 a1 a2 a3 => lt_tail hfl hL hx hb hml hown hts hX hbl hK a1 a2 fy ft ftn (by omega) (by omega) a3 (fun σ3 n3 r3 s3 h3 H3 locs3 ls3 b1 b2 b3 => kk σ3 n3 r3 s3 h3 H3 locs3 ls3 b1 b2 b3))
      · refine W.widen (k := cells) (n := slots) (by show cells + 0 ≤ cells; omega) (by show slots + 0 ≤ slots; omega) ?_
        exact ld_sp hfl hL hx hb hml hown hts hX hbl hK (rn := rn) ⟨hV, hC.x, ⟨_, hk, hkf⟩, hni, hn64, hlv, hst⟩ hB fy ft ftn ⟨by omega, by omega⟩ ⟨by omega, by omega⟩ (by omega) (by omega) (by omega) (lv_sub hl [8, 9, 10, 11, 12, 13, 14, 15, 16, 7, 6, 5, 4, 3, 2, 1, 0] rfl) (fun σ2 n2 r2 s2 h2 H2 locs2 ls2 a1 a2 a3 => lt_tail hfl hL hx hb hml hown hts hX hbl hK a1 a2 fy ft ftn (by omega) (by omega) a3 (fun σ3 n3 r3 s3 h3 H3 locs3 ls3 b1 b2 b3 => kk σ3 n3 r3 s3 h3 H3 locs3 ls3 b1 b2 b3))
    · refine W.widen (k := cells) (n := slots) (by show cells + 0 ≤ cells; omega) (by show slots + 0 ≤ slots; omega) ?_
      exact ld_mk hfl hL hx hb hml hown hts hX hbl hK (rn := rn) ⟨hV, hC.x, ⟨_, hk, hkf⟩, hni, hn64, hlv, hst⟩ hB fy ft ftn ⟨by omega, by omega⟩ ⟨by omega, by omega⟩ (by omega) (by omega) (by omega) (lv_sub hl [8, 9, 10, 11, 12, 13, 14, 15, 16, 7, 6, 5, 4, 3, 2, 1, 0] rfl) (fun σ2 n2 r2 s2 h2 H2 locs2 ls2 a1 a2 a3 => lt_tail hfl hL hx hb hml hown hts hX hbl hK a1 a2 fy ft ftn (by omega) (by omega) a3 (fun σ3 n3 r3 s3 h3 H3 locs3 ls3 b1 b2 b3 => kk σ3 n3 r3 s3 h3 H3 locs3 ls3 b1 b2 b3))
  · refine lv_iload_n hx hb dL_law_171 rfl (lv_at hl 11 rfl) ?_
    refine j_bipush hx hb dL_law_172 (by decide) ?_
    refine j_icmp_ge (tgt := 295) hx hb dL_law_174 (by decide) ⟨by omega, by omega⟩ ⟨by decide, by decide⟩ (fun c_15 => ?_) (fun c_15 => ?_)
    · refine lv_iload hx hb dL_law_295 (lv_at hl 5 rfl) ?_
      refine j_bipush hx hb dL_law_297 (by decide) ?_
      refine j_icmp_ge (tgt := 479) hx hb dL_law_299 (by decide) ⟨by omega, by omega⟩ ⟨by decide, by decide⟩ (fun c_16 => ?_) (fun c_16 => ?_)
      · refine lv_iload hx hb dL_law_479 (lv_at hl 5 rfl) ?_
        refine j_bipush hx hb dL_law_481 (by decide) ?_
        refine j_icmp_ne (tgt := 581) hx hb dL_law_483 (by decide) ⟨by omega, by omega⟩ ⟨by decide, by decide⟩ (fun c_17 => ?_) (fun c_17 => ?_)
        · refine lv_iload hx hb dL_law_581 (lv_at hl 5 rfl) ?_
          refine j_bipush hx hb dL_law_583 (by decide) ?_
          refine j_icmp_ge (tgt := 650) hx hb dL_law_585 (by decide) ⟨by omega, by omega⟩ ⟨by decide, by decide⟩ (fun c_18 => ?_) (fun c_18 => ?_)
          · refine lv_iload hx hb dL_law_650 (lv_at hl 5 rfl) ?_
            refine j_bipush hx hb dL_law_652 (by decide) ?_
            refine j_icmp_ne (tgt := 745) hx hb dL_law_654 (by decide) ⟨by omega, by omega⟩ ⟨by decide, by decide⟩ (fun c_19 => ?_) (fun c_19 => ?_)
            · refine lv_iload hx hb dL_law_745 (lv_at hl 5 rfl) ?_
              refine j_bipush hx hb dL_law_747 (by decide) ?_
              refine j_icmp_ne (tgt := 861) hx hb dL_law_749 (by decide) ⟨by omega, by omega⟩ ⟨by decide, by decide⟩ (fun c_20 => ?_) (fun c_20 => ?_)
              · refine lv_iload hx hb dL_law_861 (lv_at hl 5 rfl) ?_
                refine j_bipush hx hb dL_law_863 (by decide) ?_
                refine j_icmp_ne (tgt := 1015) hx hb dL_law_865 (by decide) ⟨by omega, by omega⟩ ⟨by decide, by decide⟩ (fun c_21 => ?_) (fun c_21 => ?_)
                · refine lv_iload hx hb dL_law_1015 (lv_at hl 5 rfl) ?_
                  refine j_bipush hx hb dL_law_1017 (by decide) ?_
                  refine j_icmp_ne (tgt := 1096) hx hb dL_law_1019 (by decide) ⟨by omega, by omega⟩ ⟨by decide, by decide⟩ (fun c_22 => ?_) (fun c_22 => ?_)
                  · refine lv_iload hx hb dL_law_1096 (lv_at hl 5 rfl) ?_
                    refine j_bipush hx hb dL_law_1098 (by decide) ?_
                    refine j_icmp_ne (tgt := 1129) hx hb dL_law_1100 (by decide) ⟨by omega, by omega⟩ ⟨by decide, by decide⟩ (fun c_23 => ?_) (fun c_23 => ?_)
                    · refine W.widen (k := cells + 60) (n := slots + 400) (by show cells + 0 ≤ cells + 60; omega) (by show slots + 0 ≤ slots + 400; omega) ?_
                      exact lt_tail hfl hL hx hb hml hown hts hX hbl hK ⟨hV, hC.x, ⟨_, hk, hkf⟩, hni, hn64, hlv, hst⟩ hB fy ft ftn (by omega) (by omega) (lv_sub hl [8, 9, 10, 11, 12, 13, 14, 15, 16, 6] rfl) kk
                    · refine W.widen (k := cells) (n := slots) (by show cells + 0 ≤ cells; omega) (by show slots + 0 ≤ slots; omega) ?_
                      exact ld_bi hfl hL hx hb hml hown hts hX hbl hK (rn := rn) ⟨hV, hC.x, ⟨_, hk, hkf⟩, hni, hn64, hlv, hst⟩ hB fy ft ftn ⟨by omega, by omega⟩ ⟨by omega, by omega⟩ (by omega) (by omega) (by omega) (lv_sub hl [8, 9, 10, 11, 12, 13, 14, 15, 16, 7, 6, 5, 4, 3, 2, 1, 0] rfl) (fun σ2 n2 r2 s2 h2 H2 locs2 ls2 a1 a2 a3 => lt_tail hfl hL hx hb hml hown hts hX hbl hK a1 a2 fy ft ftn (by omega) (by omega) a3 (fun σ3 n3 r3 s3 h3 H3 locs3 ls3 b1 b2 b3 => kk σ3 n3 r3 s3 h3 H3 locs3 ls3 b1 b2 b3))
                  · refine W.widen (k := cells) (n := slots) (by show cells + 0 ≤ cells; omega) (by show slots + 0 ≤ slots; omega) ?_
                    exact ld_rm hfl hL hx hb hml hown hts hX hbl hK (rn := rn) ⟨hV, hC.x, ⟨_, hk, hkf⟩, hni, hn64, hlv, hst⟩ hB fy ft ftn ⟨by omega, by omega⟩ ⟨by omega, by omega⟩ (by omega) (by omega) (by omega) (lv_sub hl [8, 9, 10, 11, 12, 13, 14, 15, 16, 7, 6, 5, 4, 3, 2, 1, 0] rfl) (fun σ2 n2 r2 s2 h2 H2 locs2 ls2 a1 a2 a3 => lt_tail hfl hL hx hb hml hown hts hX hbl hK a1 a2 fy ft ftn (by omega) (by omega) a3 (fun σ3 n3 r3 s3 h3 H3 locs3 ls3 b1 b2 b3 => kk σ3 n3 r3 s3 h3 H3 locs3 ls3 b1 b2 b3))
                · refine W.widen (k := cells) (n := slots) (by show cells + 0 ≤ cells; omega) (by show slots + 0 ≤ slots; omega) ?_
                  exact ld_ch hfl hL hx hb hml hown hts hX hbl hK (rn := rn) ⟨hV, hC.x, ⟨_, hk, hkf⟩, hni, hn64, hlv, hst⟩ hB fy ft ftn ⟨by omega, by omega⟩ ⟨by omega, by omega⟩ (by omega) (by omega) (by omega) (lv_sub hl [8, 9, 10, 11, 12, 13, 14, 15, 16, 7, 6, 5, 4, 3, 2, 1, 0] rfl) (fun σ2 n2 r2 s2 h2 H2 locs2 ls2 a1 a2 a3 => lt_tail hfl hL hx hb hml hown hts hX hbl hK a1 a2 fy ft ftn (by omega) (by omega) a3 (fun σ3 n3 r3 s3 h3 H3 locs3 ls3 b1 b2 b3 => kk σ3 n3 r3 s3 h3 H3 locs3 ls3 b1 b2 b3))
              · refine W.widen (k := cells) (n := slots) (by show cells + 0 ≤ cells; omega) (by show slots + 0 ≤ slots; omega) ?_
                exact ld_tn hfl hL hx hb hml hown hts hX hbl hK (rn := rn) ⟨hV, hC.x, ⟨_, hk, hkf⟩, hni, hn64, hlv, hst⟩ hB fy ft ftn ⟨by omega, by omega⟩ ⟨by omega, by omega⟩ (by omega) (by omega) (by omega) (lv_sub hl [8, 9, 10, 11, 12, 13, 14, 15, 16, 7, 6, 5, 4, 3, 2, 1, 0] rfl) (fun σ2 n2 r2 s2 h2 H2 locs2 ls2 a1 a2 a3 => lt_tail hfl hL hx hb hml hown hts hX hbl hK a1 a2 fy ft ftn (by omega) (by omega) a3 (fun σ3 n3 r3 s3 h3 H3 locs3 ls3 b1 b2 b3 => kk σ3 n3 r3 s3 h3 H3 locs3 ls3 b1 b2 b3))
            · refine W.widen (k := cells) (n := slots) (by show cells + 0 ≤ cells; omega) (by show slots + 0 ≤ slots; omega) ?_
              exact ld_xc hfl hL hx hb hml hown hts hX hbl hK (rn := rn) ⟨hV, hC.x, ⟨_, hk, hkf⟩, hni, hn64, hlv, hst⟩ hB fy ft ftn ⟨by omega, by omega⟩ ⟨by omega, by omega⟩ (by omega) (by omega) (by omega) (lv_sub hl [8, 9, 10, 11, 12, 13, 14, 15, 16, 7, 6, 5, 4, 3, 2, 1, 0] rfl) (fun σ2 n2 r2 s2 h2 H2 locs2 ls2 a1 a2 a3 => lt_tail hfl hL hx hb hml hown hts hX hbl hK a1 a2 fy ft ftn (by omega) (by omega) a3 (fun σ3 n3 r3 s3 h3 H3 locs3 ls3 b1 b2 b3 => kk σ3 n3 r3 s3 h3 H3 locs3 ls3 b1 b2 b3))
          · refine W.widen (k := cells) (n := slots) (by show cells + 0 ≤ cells; omega) (by show slots + 0 ≤ slots; omega) ?_
            exact ld_mg hfl hL hx hb hml hown hts hX hbl hK (rn := rn) ⟨hV, hC.x, ⟨_, hk, hkf⟩, hni, hn64, hlv, hst⟩ hB fy ft ftn ⟨by omega, by omega⟩ ⟨by omega, by omega⟩ (by omega) (by omega) (by omega) (lv_sub hl [8, 9, 10, 11, 12, 13, 14, 15, 16, 7, 6, 5, 4, 3, 2, 1, 0] rfl) (fun σ2 n2 r2 s2 h2 H2 locs2 ls2 a1 a2 a3 => lt_tail hfl hL hx hb hml hown hts hX hbl hK a1 a2 fy ft ftn (by omega) (by omega) a3 (fun σ3 n3 r3 s3 h3 H3 locs3 ls3 b1 b2 b3 => kk σ3 n3 r3 s3 h3 H3 locs3 ls3 b1 b2 b3))
        · refine W.widen (k := cells) (n := slots) (by show cells + 0 ≤ cells; omega) (by show slots + 0 ≤ slots; omega) ?_
          exact ld_sp hfl hL hx hb hml hown hts hX hbl hK (rn := rn) ⟨hV, hC.x, ⟨_, hk, hkf⟩, hni, hn64, hlv, hst⟩ hB fy ft ftn ⟨by omega, by omega⟩ ⟨by omega, by omega⟩ (by omega) (by omega) (by omega) (lv_sub hl [8, 9, 10, 11, 12, 13, 14, 15, 16, 7, 6, 5, 4, 3, 2, 1, 0] rfl) (fun σ2 n2 r2 s2 h2 H2 locs2 ls2 a1 a2 a3 => lt_tail hfl hL hx hb hml hown hts hX hbl hK a1 a2 fy ft ftn (by omega) (by omega) a3 (fun σ3 n3 r3 s3 h3 H3 locs3 ls3 b1 b2 b3 => kk σ3 n3 r3 s3 h3 H3 locs3 ls3 b1 b2 b3))
      · refine W.widen (k := cells) (n := slots) (by show cells + 0 ≤ cells; omega) (by show slots + 0 ≤ slots; omega) ?_
        exact ld_mk hfl hL hx hb hml hown hts hX hbl hK (rn := rn) ⟨hV, hC.x, ⟨_, hk, hkf⟩, hni, hn64, hlv, hst⟩ hB fy ft ftn ⟨by omega, by omega⟩ ⟨by omega, by omega⟩ (by omega) (by omega) (by omega) (lv_sub hl [8, 9, 10, 11, 12, 13, 14, 15, 16, 7, 6, 5, 4, 3, 2, 1, 0] rfl) (fun σ2 n2 r2 s2 h2 H2 locs2 ls2 a1 a2 a3 => lt_tail hfl hL hx hb hml hown hts hX hbl hK a1 a2 fy ft ftn (by omega) (by omega) a3 (fun σ3 n3 r3 s3 h3 H3 locs3 ls3 b1 b2 b3 => kk σ3 n3 r3 s3 h3 H3 locs3 ls3 b1 b2 b3))
    · refine W.widen (k := cells) (n := slots) (by show cells + 0 ≤ cells; omega) (by show slots + 0 ≤ slots; omega) ?_
      exact ld_ins hfl hL hx hb hml hown hts hX hbl hK (rn := rn) ⟨hV, hC.x, ⟨_, hk, hkf⟩, hni, hn64, hlv, hst⟩ hB fy ft ftn ⟨by omega, by omega⟩ ⟨by omega, by omega⟩ (by omega) (by omega) (by omega) (by omega) (lv_sub hl [8, 9, 10, 11, 12, 13, 14, 15, 16, 7, 6, 5, 4, 3, 2, 1, 0] rfl) (fun σ2 n2 r2 s2 h2 H2 locs2 ls2 a1 a2 a3 => lt_tail hfl hL hx hb hml hown hts hX hbl hK a1 a2 fy ft ftn (by omega) (by omega) a3 (fun σ3 n3 r3 s3 h3 H3 locs3 ls3 b1 b2 b3 => kk σ3 n3 r3 s3 h3 H3 locs3 ls3 b1 b2 b3))

