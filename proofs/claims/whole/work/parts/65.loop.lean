/-! THE LAW'S LOOP: one turn by its case, then all turns -/
theorem and31 (x : Int32) : ∃ k : Nat, k < 32 ∧ x &&& iI 31 = iI (k : Int) := by
  have hx : x = iI ((x.toBitVec.toNat : Nat) : Int) := by
    rw [iI_nat]
    apply Int32.toBitVec.inj
    show x.toBitVec = BitVec.ofNat 32 x.toBitVec.toNat
    simp
  refine ⟨x.toBitVec.toNat &&& 31, Nat.lt_of_le_of_lt Nat.and_le_right (by decide), ?_⟩
  conv => lhs; rw [hx]
  exact iI_and (Int.natCast_nonneg _) (by decide)
set_option maxHeartbeats 4000000 in
set_option maxRecDepth 100000 in
theorem lc_all {l : Launch} (hfl : l.stackTraces = false) {D : va_G} {cI cP cR cJ : ClassId} {p : Program} {e : Env} {s : State} {m : MethodId} {below : List Frame} {meth : Method} {c : Code} {b L : Nat} {xs : Nat → Int32} (hL : L ≤ 3072) (hx : p.tables.exec = Jvm.exec) (hb : c.code = cL_law) (hml : c.maxLocals = 7) (hown : s.vm.findClass RL = some m.cls) (hts : ∀ w ∈ wsL_law, w.before #[Value.ref b] s = true) (hX : va_X b L xs s s.heap) (hbl : b < s.heap.size) (hK : Kb D s.heap.size (tyL cI cP cR cJ) s) {x xm oa i : Nat} (hi : 6 * i + 6 ≤ L) {cells slots : Nat} (hc : cells + 100 ≤ 632940) (hs : slots + 1000 ≤ 7197285) {σ : Sg} {h0 : Hp} {H : Heap} {locs : List Loc} (hS : LwS cI cP cR cJ x xm oa σ h0) (hB : Bk D s.heap.size s.heap h0 H locs) {ls : Array Slot} (hl : lv_has ls 7 [(4, .int (iI ((6 * i : Nat) : Int))), (0, .ref b), (1, .ref x), (2, .ref xm), (3, .ref oa)]) {Q : State → Prop} (kk : ∀ (σ2 : Sg) (h2 : Hp) (H2 : Heap) (locs2 : List Loc) (ls2 : Array Slot), LwS cI cP cR cJ x xm oa σ2 h2 → Bk D s.heap.size s.heap h2 H2 locs2 → lv_has ls2 7 [(4, .int (iI ((6 * i : Nat) : Int))), (0, .ref b), (1, .ref x), (2, .ref xm), (3, .ref oa)] → W p l e room_1 s m #[Value.ref b] below meth c H2 locs2 (cells + 100) (slots + 1000) Q (F0 m 1638 ls2 [])) {k : Nat} (hk : k < 32) : W p l e room_1 s m #[Value.ref b] below meth c H locs cells slots Q (F0 m 40 ls [.int (iI (k : Int))]) := by
  by_cases hk24 : 23 < k
  · refine lv_tableOut (tgt := 1638) hx hb dL_law_40 (Or.inr (by rw [iI_t ⟨by omega, by omega⟩]; omega)) (by decide) ?_
    refine W.widen (k := cells + 100) (n := slots + 1000) (Nat.le_add_right _ _) (Nat.le_add_right _ _) ?_
    exact kk _ _ _ _ _ hS hB hl
  · have hk2 : k = 0 ∨ k = 1 ∨ k = 2 ∨ k = 3 ∨ k = 4 ∨ k = 5 ∨ k = 6 ∨ k = 7 ∨ k = 8 ∨ k = 9 ∨ k = 10 ∨ k = 11 ∨ k = 12 ∨ k = 13 ∨ k = 14 ∨ k = 15 ∨ k = 16 ∨ k = 17 ∨ k = 18 ∨ k = 19 ∨ k = 20 ∨ k = 21 ∨ k = 22 ∨ k = 23 := by omega
    rcases hk2 with rfl | rfl | rfl | rfl | rfl | rfl | rfl | rfl | rfl | rfl | rfl | rfl | rfl | rfl | rfl | rfl | rfl | rfl | rfl | rfl | rfl | rfl | rfl | rfl
    · refine lv_tableIn (off := 112) (tgt := 152) hx hb dL_law_40 (by decide) (by decide) (by decide) (by decide) ?_
      exact lc_0 hfl hL hx hb hml hown hts hX hbl hK hi hc hs hS hB hl kk
    · refine lv_tableIn (off := 204) (tgt := 244) hx hb dL_law_40 (by decide) (by decide) (by decide) (by decide) ?_
      exact lc_1 hfl hL hx hb hml hown hts hX hbl hK hi hc hs hS hB hl kk
    · refine lv_tableIn (off := 296) (tgt := 336) hx hb dL_law_40 (by decide) (by decide) (by decide) (by decide) ?_
      exact lc_2 hfl hL hx hb hml hown hts hX hbl hK hi hc hs hS hB hl kk
    · refine lv_tableIn (off := 364) (tgt := 404) hx hb dL_law_40 (by decide) (by decide) (by decide) (by decide) ?_
      exact lc_3 hfl hL hx hb hml hown hts hX hbl hK hi hc hs hS hB hl kk
    · refine lv_tableIn (off := 432) (tgt := 472) hx hb dL_law_40 (by decide) (by decide) (by decide) (by decide) ?_
      exact lc_4 hfl hL hx hb hml hown hts hX hbl hK hi hc hs hS hB hl kk
    · refine lv_tableIn (off := 488) (tgt := 528) hx hb dL_law_40 (by decide) (by decide) (by decide) (by decide) ?_
      exact lc_5 hfl hL hx hb hml hown hts hX hbl hK hi hc hs hS hB hl kk
    · refine lv_tableIn (off := 544) (tgt := 584) hx hb dL_law_40 (by decide) (by decide) (by decide) (by decide) ?_
      exact lc_6 hfl hL hx hb hml hown hts hX hbl hK hi hc hs hS hB hl kk
    · refine lv_tableIn (off := 612) (tgt := 652) hx hb dL_law_40 (by decide) (by decide) (by decide) (by decide) ?_
      exact lc_7 hfl hL hx hb hml hown hts hX hbl hK hi hc hs hS hB hl kk
    · refine lv_tableIn (off := 692) (tgt := 732) hx hb dL_law_40 (by decide) (by decide) (by decide) (by decide) ?_
      exact lc_8 hfl hL hx hb hml hown hts hX hbl hK hi hc hs hS hB hl kk
    · refine lv_tableIn (off := 779) (tgt := 819) hx hb dL_law_40 (by decide) (by decide) (by decide) (by decide) ?_
      exact lc_9 hfl hL hx hb hml hown hts hX hbl hK hi hc hs hS hB hl kk
    · refine lv_tableIn (off := 835) (tgt := 875) hx hb dL_law_40 (by decide) (by decide) (by decide) (by decide) ?_
      exact lc_10 hfl hL hx hb hml hown hts hX hbl hK hi hc hs hS hB hl kk
    · refine lv_tableIn (off := 848) (tgt := 888) hx hb dL_law_40 (by decide) (by decide) (by decide) (by decide) ?_
      exact lc_11 hfl hL hx hb hml hown hts hX hbl hK hi hc hs hS hB hl kk
    · refine lv_tableIn (off := 904) (tgt := 944) hx hb dL_law_40 (by decide) (by decide) (by decide) (by decide) ?_
      exact lc_12 hfl hL hx hb hml hown hts hX hbl hK hi hc hs hS hB hl kk
    · refine lv_tableIn (off := 960) (tgt := 1000) hx hb dL_law_40 (by decide) (by decide) (by decide) (by decide) ?_
      exact lc_13 hfl hL hx hb hml hown hts hX hbl hK hi hc hs hS hB hl kk
    · refine lv_tableIn (off := 1016) (tgt := 1056) hx hb dL_law_40 (by decide) (by decide) (by decide) (by decide) ?_
      exact lc_14 hfl hL hx hb hml hown hts hX hbl hK hi hc hs hS hB hl kk
    · refine lv_tableIn (off := 1084) (tgt := 1124) hx hb dL_law_40 (by decide) (by decide) (by decide) (by decide) ?_
      exact lc_15 hfl hL hx hb hml hown hts hX hbl hK hi hc hs hS hB hl kk
    · refine lv_tableIn (off := 1097) (tgt := 1137) hx hb dL_law_40 (by decide) (by decide) (by decide) (by decide) ?_
      exact lc_16 hfl hL hx hb hml hown hts hX hbl hK hi hc hs hS hB hl kk
    · refine lv_tableIn (off := 1177) (tgt := 1217) hx hb dL_law_40 (by decide) (by decide) (by decide) (by decide) ?_
      exact lc_17 hfl hL hx hb hml hown hts hX hbl hK hi hc hs hS hB hl kk
    · refine lv_tableIn (off := 1257) (tgt := 1297) hx hb dL_law_40 (by decide) (by decide) (by decide) (by decide) ?_
      exact lc_18 hfl hL hx hb hml hown hts hX hbl hK hi hc hs hS hB hl kk
    · refine lv_tableIn (off := 1337) (tgt := 1377) hx hb dL_law_40 (by decide) (by decide) (by decide) (by decide) ?_
      exact lc_19 hfl hL hx hb hml hown hts hX hbl hK hi hc hs hS hB hl kk
    · refine lv_tableIn (off := 1448) (tgt := 1488) hx hb dL_law_40 (by decide) (by decide) (by decide) (by decide) ?_
      exact lc_20 hfl hL hx hb hml hown hts hX hbl hK hi hc hs hS hB hl kk
    · refine lv_tableIn (off := 1461) (tgt := 1501) hx hb dL_law_40 (by decide) (by decide) (by decide) (by decide) ?_
      exact lc_21 hfl hL hx hb hml hown hts hX hbl hK hi hc hs hS hB hl kk
    · refine lv_tableIn (off := 1474) (tgt := 1514) hx hb dL_law_40 (by decide) (by decide) (by decide) (by decide) ?_
      exact lc_22 hfl hL hx hb hml hown hts hX hbl hK hi hc hs hS hB hl kk
    · refine lv_tableIn (off := 1530) (tgt := 1570) hx hb dL_law_40 (by decide) (by decide) (by decide) (by decide) ?_
      exact lc_23 hfl hL hx hb hml hown hts hX hbl hK hi hc hs hS hB hl kk
set_option maxHeartbeats 4000000 in
set_option maxRecDepth 100000 in
theorem law_loop {l : Launch} (hfl : l.stackTraces = false) {D : va_G} {cI cP cR cJ : ClassId} {p : Program} {e : Env} {s : State} {m : MethodId} {below : List Frame} {meth : Method} {c : Code} {b L : Nat} {xs : Nat → Int32} (hL : L ≤ 3072) (hx : p.tables.exec = Jvm.exec) (hb : c.code = cL_law) (hml : c.maxLocals = 7) (hown : s.vm.findClass RL = some m.cls) (hts : ∀ w ∈ wsL_law, w.before #[Value.ref b] s = true) (hX : va_X b L xs s s.heap) (hbl : b < s.heap.size) (hK : Kb D s.heap.size (tyL cI cP cR cJ) s) {x xm oa : Nat} {Q : State → Prop} (kk : ∀ (H2 : Heap) (locs2 : List Loc) (ls2 : Array Slot) (cells slots : Nat) (h2 : Hp), cells ≤ 632940 → slots ≤ 7197285 → Bk D s.heap.size s.heap h2 H2 locs2 → W p l e room_1 s m #[Value.ref b] below meth c H2 locs2 cells slots Q (F0 m 1644 ls2 [])) : ∀ (n i : Nat), 6 * i ≤ L → L < 6 * i + 6 * n → ∀ (σ : Sg) (h0 : Hp) (H : Heap) (locs : List Loc) (ls : Array Slot), LwS cI cP cR cJ x xm oa σ h0 → Bk D s.heap.size s.heap h0 H locs → lv_has ls 7 [(4, .int (iI ((6 * i : Nat) : Int))), (0, .ref b), (1, .ref x), (2, .ref xm), (3, .ref oa)] → W p l e room_1 s m #[Value.ref b] below meth c H locs (15 + 100 * i) (2226 + 1000 * i) Q (F0 m 23 ls []) := by
  intro n
  induction n with
  | zero =>
    intro i h1 h2
    exact absurd h2 (by omega)
  | succ n ih =>
    intro i hi hn σ h0 H locs ls hS hB hl
    refine lv_iload hx hb dL_law_23 (lv_at hl 0 rfl) ?_
    refine lv_aload_n hx hb dL_law_25 rfl (lv_at hl 1 rfl) ?_
    refine m_slen hx hb hX hbl hB dL_law_26 ?_
    refine j_bipush hx hb dL_law_27 (by decide) ?_
    refine j_isub hx hb dL_law_29 ?_
    refine j_icmp_gt (tgt := 1644) hx hb dL_law_30 (by decide) ⟨by omega, by omega⟩ ⟨by omega, by omega⟩ (fun c_1 => ?_) (fun c_1 => ?_)
    · exact kk _ _ _ _ _ _ (by omega) (by omega) hB
    · have hi6 : 6 * i + 6 ≤ L := by omega
      refine lv_aload_n hx hb dL_law_33 rfl (lv_at hl 1 rfl) ?_
      refine lv_iload hx hb dL_law_34 (lv_at hl 0 rfl) ?_
      refine m_sld hx hb hX hbl hB (n := 6 * i) (by omega) hL dL_law_36 ?_
      refine j_bipush hx hb dL_law_37 (by decide) ?_
      refine lv_iand hx hb dL_law_39 ?_
      obtain ⟨k, hk, ek⟩ := and31 (iI (xs (6 * i)).toInt)
      rw [ek]
      refine lc_all hfl hL hx hb hml hown hts hX hbl hK hi6 (by omega) (by omega) hS hB hl (fun σ h0 H locs ls hS hB hl => ?_) hk
      refine j_iinc (k := 0) (lv' := [(4, .int (iI (((6 * i : Nat) : Int) + 6))), (0, .ref b), (1, .ref x), (2, .ref xm), (3, .ref oa)]) hx hb dL_law_1638 hl rfl (by decide) rfl (fun ls hl => ?_)
      refine lv_goto (tgt := 23) hx hb dL_law_1641 (by decide) ?_
      have e6 : ((6 * i : Nat) : Int) + 6 = ((6 * (i + 1) : Nat) : Int) := by omega
      have ec : 15 + 100 * i + 100 = 15 + 100 * (i + 1) := by omega
      have es : 2226 + 1000 * i + 1000 = 2226 + 1000 * (i + 1) := by omega
      rw [e6] at hl
      rw [ec, es]
      exact ih (i + 1) (by omega) (by omega) σ h0 H locs ls hS hB hl
