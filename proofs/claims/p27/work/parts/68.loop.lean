set_option maxHeartbeats 4000000 in
set_option maxRecDepth 100000 in
theorem law_loop {l : Launch} (hfl : l.stackTraces = false) {D : va_G} {cI cP cR cJ : ClassId} {p : Program} {e : Env} {s : State} {m : MethodId} {below : List Frame} {meth : Method} {c : Code} {b L : Nat} {xs : Nat → Int32} (hL : L ≤ 260) (hx : p.tables.exec = Jvm.exec) (hb : c.code = cL_law) (hml : c.maxLocals = 20) (hown : s.vm.findClass RL = some m.cls) (hts : ∀ w ∈ wsL_law, w.before #[Value.ref b] s = true) (hX : va_X b L xs s s.heap) (hbl : b < s.heap.size) (hK : Kb D s.heap.size (tyL cI cP cR cJ) s) {x ka : Nat} {tn : Int} (ftn : 0 ≤ tn ∧ tn ≤ 240) {Q : State → Prop} (kk : ∀ (H2 : Heap) (locs2 : List Loc) (ls2 : Array Slot) (cells slots : Nat) (h2 : Hp), cells ≤ 758523 → slots ≤ 6826128 → Bk D s.heap.size s.heap h2 H2 locs2 → lv_has ls2 20 [(6, .int (iI 1))] → W p l e room_1 s m #[Value.ref b] below meth c H2 locs2 cells slots Q (F0 m 1247 ls2 [])) : ∀ (n tu : Nat), tu ≤ 240 → 240 < tu + n → ∀ (σ : Sg) (ni : Nat) (rem st : Int) (h0 : Hp) (H : Heap) (locs : List Loc) (ls : Array Slot), LwP cI cP cR x ka σ ni rem st h0 → Bk D s.heap.size s.heap h0 H locs → lv_has ls 20 [(0, .ref b), (1, .ref x), (2, .ref ka), (3, .int (iI (ni : Int))), (4, .int (iI rem)), (5, .int (iI st)), (6, .int (iI 1)), (7, .int (iI tn)), (8, .int (iI (tu : Int)))] → W p l e room_1 s m #[Value.ref b] below meth c H locs (300 + 1300 * tu) (2100 + 8000 * tu) Q (F0 m 64 ls []) := by
  intro n
  induction n with
  | zero =>
    intro tu h1 h2
    exact absurd h2 (by omega)
  | succ n ih =>
    intro tu hi hn σ ni rem st h0 H locs ls hS hB hl
    refine lv_iload hx hb dL_law_64 (lv_at hl 8 rfl) ?_
    refine lv_iload hx hb dL_law_66 (lv_at hl 7 rfl) ?_
    refine j_icmp_ge (tgt := 1247) hx hb dL_law_68 (by decide) ⟨by omega, by omega⟩ ⟨by omega, by omega⟩ (fun c_1 => ?_) (fun c_1 => ?_)
    · exact kk _ _ _ _ _ _ (by omega) (by omega) hB (lv_sub hl [6] rfl)
    · refine lv_iload hx hb dL_law_71 (lv_at hl 6 rfl) ?_
      refine j_if_eq (tgt := 1247) hx hb dL_law_73 (by decide) ⟨by decide, by decide⟩ (fun c_2 => False.elim (by omega)) (fun c_2 => ?_)
      refine lv_iload hx hb dL_law_76 (lv_at hl 8 rfl) ?_
      refine lv_aload_n hx hb dL_law_78 rfl (lv_at hl 0 rfl) ?_
      refine m_slen hx hb hX hbl hB dL_law_79 ?_
      refine j_icmp_ge (tgt := 90) hx hb dL_law_80 (by decide) ⟨by omega, by omega⟩ ⟨by omega, by omega⟩ (fun c_3 => ?_) (fun c_3 => ?_)
      · refine j_ldc (v := 1290001) (n := 1290001) hx hb hown (hts _ c99_in) (by decide) dL_law_90 ?_
        refine lv_iload hx hb dL_law_92 (lv_at hl 8 rfl) ?_
        refine j_imul hx hb dL_law_94 ?_
        refine lv_iload hx hb dL_law_95 (lv_at hl 8 rfl) ?_
        refine j_imul hx hb dL_law_97 ?_
        refine j_ldc (v := 43003) (n := 43003) hx hb hown (hts _ c100_in) (by decide) dL_law_98 ?_
        refine lv_iload hx hb dL_law_100 (lv_at hl 8 rfl) ?_
        refine j_imul hx hb dL_law_102 ?_
        refine j_iadd hx hb dL_law_103 ?_
        refine j_bipush hx hb dL_law_104 (by decide) ?_
        refine j_iadd hx hb dL_law_106 ?_
        refine lt_turn hfl hL hx hb hml hown hts hX hbl hK hS hB (by omega) ftn (by omega) (by omega) (lv_sub hl [0, 1, 2, 3, 4, 5, 6, 7, 8] rfl) (fun σ2 n2 r2 s2 h2 H2 locs2 ls2 a1 a2 a3 => ?_)
        rw [show 300 + 1300 * tu + 1300 = 300 + 1300 * (tu + 1) by omega, show 2100 + 8000 * tu + 8000 = 2100 + 8000 * (tu + 1) by omega]
        exact ih (tu + 1) (by omega) (by omega) σ2 n2 r2 s2 h2 H2 locs2 ls2 a1 a2 a3
      · refine lv_aload_n hx hb dL_law_83 rfl (lv_at hl 0 rfl) ?_
        refine lv_iload hx hb dL_law_84 (lv_at hl 8 rfl) ?_
        refine m_sld hx hb hX hbl hB (n := tu) (by omega) hL dL_law_86 ?_
        refine lv_goto (tgt := 107) hx hb dL_law_87 (by decide) ?_
        refine lt_turn hfl hL hx hb hml hown hts hX hbl hK hS hB (by omega) ftn (by omega) (by omega) (lv_sub hl [0, 1, 2, 3, 4, 5, 6, 7, 8] rfl) (fun σ2 n2 r2 s2 h2 H2 locs2 ls2 a1 a2 a3 => ?_)
        rw [show 300 + 1300 * tu + 1300 = 300 + 1300 * (tu + 1) by omega, show 2100 + 8000 * tu + 8000 = 2100 + 8000 * (tu + 1) by omega]
        exact ih (tu + 1) (by omega) (by omega) σ2 n2 r2 s2 h2 H2 locs2 ls2 a1 a2 a3

