/-! p27: WHAT A DEED DOES to the counts, and to where a key lies -/
/-- who is there stays, with its key -/
def Kk (σ σ' : Sg) : Prop := ∀ j, live σ' j → live σ j ∧ σ' 6 j = σ 6 j
section Deeds
variable {σ : Sg}
theorem nr_c {σ' : Sg} (h10 : σ' 10 0 = σ 10 0) : nrN σ' = nrN σ := by unfold nrN; rw [h10]
theorem nLv_c {σ' : Sg} (h10 : σ' 10 0 = σ 10 0) (hl : ∀ j, live σ' j ↔ live σ j) : nLv σ' = nLv σ := by
  unfold nLv
  rw [nr_c h10]
  exact cnt_cong _ (fun j _ => hl j)
theorem nTb_c {σ' : Sg} (h10 : σ' 10 0 = σ 10 0) (hl : ∀ j, live σ' j ↔ live σ j) (h : ∀ j, live σ j → (σ' 4 (pn σ' j) = 0 ↔ σ 4 (pn σ j) = 0)) : nTb σ' = nTb σ := by
  unfold nTb
  rw [nr_c h10]
  exact cnt_cong _ (fun j _ => ⟨fun q => ⟨(hl j).mp q.1, (h j ((hl j).mp q.1)).mp q.2⟩, fun q => ⟨(hl j).mpr q.1, (h j q.1).mpr q.2⟩⟩)
theorem pw_u (h : Iv σ) {i : Nat} (h1 : 1 ≤ i) (hi : (i : Int) ≤ σ 9 0) (h4 : σ 4 i = 0) {k : Int} (hk : σ 0 i ≤ k ∧ k < σ 1 i) : pw σ k = i := by
  refine pw_at h.ib h1 hi (fun j hj j1 q => ?_) ⟨h4, hk⟩
  have := h.pd.2 j i j1 (by omega) h1 hi (by omega) q.1 h4
  omega
theorem pw_row (h : Iv σ) {j : Nat} (hl : live σ j) (h4 : σ 4 (pn σ j) = 0) : pw σ (σ 6 j) = pn σ j := by
  have r := h.rw_ j hl
  have hp := h.ib.pnI j hl
  by_cases q : pn σ j = 0
  · rw [q]
    exact pw_no h.ib (fun i _ i1 hi w => r.2.2 q i i1 hi w.1 w.2)
  · exact pw_u h (by omega) hp.2.1 h4 (r.2.1 (by omega))
theorem pw_4 (hI : Ib σ) (k : Int) : σ 4 (pw σ k) = 0 := by
  rcases pw_is hI k with ⟨q, -⟩ | q
  · rw [q]; exact hI.rest.2.2.2.2
  · exact q.2.2.1
/-! insert -/
theorem ins_nr (hI : Ib σ) {p ky sr vl : Int} : nrN (inS σ p ky sr vl) = nrN σ + 1 := by
  have := hI.hnr
  unfold nrN
  rw [inS_10]
  omega
theorem ins_cnt (hI : Ib σ) {p ky sr vl : Int} (hp : p ≠ -1) {A A' : Nat → Prop} (h : ∀ j, j < nrN σ → live σ j → (A' j ↔ A j)) (hN : A' (nrN σ)) : cnt (fun j => live (inS σ p ky sr vl) j ∧ A' j) (nrN (inS σ p ky sr vl)) = cnt (fun j => live σ j ∧ A j) (nrN σ) + 1 := by
  rw [ins_nr hI, cnt_t (P := fun j => live (inS σ p ky sr vl) j ∧ A' j) ⟨(inS_live hI hp).mpr (Or.inr rfl), hN⟩]
  congr 1
  refine cnt_cong _ (fun j hj => ⟨fun q => ?_, fun q => ⟨(inS_live hI hp).mpr (Or.inl q.1), (h j hj q.1).mpr q.2⟩⟩)
  have hl := ((inS_live hI hp).mp q.1).resolve_right (by omega)
  exact ⟨hl, (h j hj hl).mp q.2⟩
theorem ins_f (hI : Ib σ) {ky sr vl : Int} : nLv (inS σ ((pw σ ky : Nat) : Int) ky sr vl) = nLv σ + 1 ∧ nTb (inS σ ((pw σ ky : Nat) : Int) ky sr vl) = nTb σ + 1 ∧ nVl (inS σ ((pw σ ky : Nat) : Int) ky sr vl) vl = nVl σ vl + 1 := by
  have hp : ((pw σ ky : Nat) : Int) ≠ -1 := by omega
  have e4 : ∀ i, inS σ ((pw σ ky : Nat) : Int) ky sr vl 4 i = σ 4 i := fun i => inS_g (by omega) (by omega)
  have eN : pn (inS σ ((pw σ ky : Nat) : Int) ky sr vl) (nrN σ) = pw σ ky := by unfold pn; rw [inS_N.1]; exact Int.toNat_natCast _
  have eo : ∀ j, j < nrN σ → pn (inS σ ((pw σ ky : Nat) : Int) ky sr vl) j = pn σ j := fun j hj => by unfold pn; rw [inS_o (by omega) (by decide)]
  refine ⟨?_, ?_, ?_⟩
  · have := ins_cnt hI (p := ((pw σ ky : Nat) : Int)) (ky := ky) (sr := sr) (vl := vl) hp (A := fun _ => True) (A' := fun _ => True) (fun _ _ _ => Iff.rfl) trivial
    unfold nLv
    rw [cnt_cong (P := fun j => live (inS σ ((pw σ ky : Nat) : Int) ky sr vl) j) (nrN (inS σ ((pw σ ky : Nat) : Int) ky sr vl)) (P' := fun j => live (inS σ ((pw σ ky : Nat) : Int) ky sr vl) j ∧ True) (fun j _ => ⟨fun q => ⟨q, trivial⟩, fun q => q.1⟩), this]
    congr 1
    exact cnt_cong _ (fun j _ => ⟨fun q => q.1, fun q => ⟨q, trivial⟩⟩)
  · refine ins_cnt hI hp (fun j hj _ => by rw [e4, eo j hj]) ?_
    rw [e4, eN]; exact pw_4 hI ky
  · refine ins_cnt hI hp (fun j hj _ => by rw [e4, eo j hj, inS_o (by omega) (by decide)]) ?_
    rw [e4, eN]; exact ⟨pw_4 hI ky, inS_N.2.2.2⟩
theorem ins_k (hI : Ib σ) {p ky sr vl : Int} (hp : p ≠ -1) {j : Nat} (hl : live (inS σ p ky sr vl) j) : (live σ j ∧ j ≠ nrN σ ∧ inS σ p ky sr vl 6 j = σ 6 j) ∨ (j = nrN σ ∧ inS σ p ky sr vl 6 j = ky) := by
  by_cases q : j = nrN σ
  · exact Or.inr ⟨q, by rw [q]; exact inS_N.2.1⟩
  · exact Or.inl ⟨((inS_live hI hp).mp hl).resolve_right q, q, inS_o q (by decide)⟩
/-! makePart, carveOut -/
theorem mkp_f (h : Iv σ) {f t k d : Int} (hn : σ 9 0 < 15) (ok1 : okR f t) (ok2 : okK k d) (ho : ¬ ovl σ f t) (hr : ¬ inR σ f t) : nLv (mkP σ f t k d) = nLv σ ∧ nTb (mkP σ f t k d) = nTb σ ∧ pw (mkP σ f t k d) f = npN σ + 1 ∧ Kk σ (mkP σ f t k d) := by
  obtain ⟨n0, n1, n2, n3, n4⟩ := @mkP_N σ f t k d
  have hI := h.ib
  have hnp := hI.npI
  have h10 : mkP σ f t k d 10 0 = σ 10 0 := mkP_g (by decide) (by decide)
  refine ⟨nLv_c h10 (fun j => mkP_live), nTb_c h10 (fun j => mkP_live) (fun j hl => ?_), ?_, fun j hl => ⟨mkP_live.mp hl, mkP_g (by decide) (by decide)⟩⟩
  · rw [mkP_pn, mkP_old (by decide) (hI.pnI j hl).2.1 hI]
  · refine pw_u (h.mkp hn ok1 ok2 ho hr) (by omega) (by rw [mkP_9]; omega) n4 ?_
    rw [n0, n1]
    have := ok1.2.1
    omega
theorem carve_f (h : Iv σ) {f t k d : Int} (hn : σ 9 0 < 15) (ok1 : okR f t) (ok2 : okK k d) (ho : ¬ ovl σ f t) : nLv (mvS (mkP σ f t k d) 0 (npN σ + 1) 200) = nLv σ ∧ nTb (mvS (mkP σ f t k d) 0 (npN σ + 1) 200) = nTb σ ∧ pw (mvS (mkP σ f t k d) 0 (npN σ + 1) 200) f = npN σ + 1 ∧ Kk σ (mvS (mkP σ f t k d) 0 (npN σ + 1) 200) := by
  obtain ⟨n0, n1, n2, n3, n4⟩ := @mkP_N σ f t k d
  have hI := h.ib
  have hnp := hI.npI
  have hI2 := hI.mk (f := f) (t := t) hn ok1 ok2
  have hre := hI.rest
  have e : ∀ g i, g ≠ 5 → mvS (mkP σ f t k d) 0 (npN σ + 1) 200 g i = mkP σ f t k d g i := fun g i q => mvS_g q
  have h10 : mvS (mkP σ f t k d) 0 (npN σ + 1) 200 10 0 = σ 10 0 := by rw [e 10 0 (by decide)]; exact mkP_g (by decide) (by decide)
  have hl : ∀ j, live (mvS (mkP σ f t k d) 0 (npN σ + 1) 200) j ↔ live σ j := fun j => mvS_live.trans mkP_live
  refine ⟨nLv_c h10 hl, nTb_c h10 hl (fun j w => ?_), ?_, fun j w => ⟨(hl j).mp w, by rw [e 6 j (by decide)]; exact mkP_g (by decide) (by decide)⟩⟩
  · rw [e 4 _ (by decide)]
    rcases mvS_pn (i := 0) (k' := npN σ + 1) hI2 (mkP_live.mpr w) with ⟨q1, q2, -⟩ | ⟨q1, -⟩
    · rw [mkP_pn] at q2
      rw [q1, q2, n4, hre.2.2.2.2]
    · rw [q1, mkP_pn, mkP_old (by decide) (hI.pnI j w).2.1 hI]
  · refine pw_u (h.carve hn ok1 ok2 ho) (by omega) (by rw [e 9 0 (by decide), mkP_9]; omega) (by rw [e 4 _ (by decide)]; exact n4) ?_
    rw [e 0 _ (by decide), e 1 _ (by decide), n0, n1]
    have := ok1.2.1
    omega
/-! split -/
theorem split_f (h : Iv σ) (hn : σ 9 0 < 15) {a : Nat} (ha : 1 ≤ a ∧ (a : Int) ≤ σ 9 0) (hs : σ 4 a = 0) {ky : Int} (hk : σ 0 a < ky ∧ ky < σ 1 a) : nLv (mvS (upS (mkP σ ky (σ 1 a) (σ 2 a) (σ 3 a)) 1 a ky) a (npN σ + 1) 200) = nLv σ ∧ nTb (mvS (upS (mkP σ ky (σ 1 a) (σ 2 a) (σ 3 a)) 1 a ky) a (npN σ + 1) 200) = nTb σ ∧ pw (mvS (upS (mkP σ ky (σ 1 a) (σ 2 a) (σ 3 a)) 1 a ky) a (npN σ + 1) 200) ky = npN σ + 1 ∧ pw (mvS (upS (mkP σ ky (σ 1 a) (σ 2 a) (σ 3 a)) 1 a ky) a (npN σ + 1) 200) (ky - 1) = a ∧ Kk σ (mvS (upS (mkP σ ky (σ 1 a) (σ 2 a) (σ 3 a)) 1 a ky) a (npN σ + 1) 200) ∧ mvS (upS (mkP σ ky (σ 1 a) (σ 2 a) (σ 3 a)) 1 a ky) a (npN σ + 1) 200 9 0 = σ 9 0 + 1 ∧ mvS (upS (mkP σ ky (σ 1 a) (σ 2 a) (σ 3 a)) 1 a ky) a (npN σ + 1) 200 10 0 = σ 10 0 ∧ mvS (upS (mkP σ ky (σ 1 a) (σ 2 a) (σ 3 a)) 1 a ky) a (npN σ + 1) 200 11 0 = σ 11 0 := by
  have hV := h.split hn ha hs hk
  have hI := h.ib
  have hpa := hI.part a ha.2
  have ok1 : okR ky (σ 1 a) := by unfold okR; omega
  have ok2 : okK (σ 2 a) (σ 3 a) := by unfold okK; omega
  obtain ⟨n0, n1, n2, n3, n4⟩ := @mkP_N σ ky (σ 1 a) (σ 2 a) (σ 3 a)
  have hnp := hI.npI
  have hI2 := hI.mk hn ok1 ok2
  have hI3 := hI2.to1 (i := a) ha.1 (v := ky) (by omega)
  have eN : npN σ + 1 ≠ a := by omega
  obtain ⟨τ, eτ⟩ : ∃ τ, τ = upS (mkP σ ky (σ 1 a) (σ 2 a) (σ 3 a)) 1 a ky := ⟨_, rfl⟩
  have t9 : τ 9 0 = σ 9 0 + 1 := by rw [eτ, upS_g (by decide), mkP_9]
  have tg : ∀ (g j : Nat), 5 ≤ g → g ≠ 9 → τ g j = σ g j := fun g j q q9 => by rw [eτ, upS_g (by omega), mkP_g q q9]
  have to : ∀ (g i : Nat), g < 5 → g ≠ 1 → (i : Int) ≤ σ 9 0 → τ g i = σ g i := fun g i q q1 hi => by rw [eτ, upS_g q1, mkP_old q hi hI]
  have t1a : τ 1 a = ky := by rw [eτ, upS_s]
  have tN0 : τ 0 (npN σ + 1) = ky := by rw [eτ, upS_g (by decide), n0]
  have tN1 : τ 1 (npN σ + 1) = σ 1 a := by rw [eτ, upS_i eN, n1]
  have tN4 : τ 4 (npN σ + 1) = 0 := by rw [eτ, upS_g (by decide), n4]
  have tl : ∀ j, live τ j ↔ live σ j := fun j => by rw [eτ, upS_live (by decide) (by decide), mkP_live]
  have tp : ∀ j, pn τ j = pn σ j := fun j => by rw [eτ, upS_pn (by decide), mkP_pn]
  rw [← eτ] at hI3 hV ⊢
  have e : ∀ g i, g ≠ 5 → mvS τ a (npN σ + 1) 200 g i = τ g i := fun g i q => mvS_g q
  have e9 : mvS τ a (npN σ + 1) 200 9 0 = σ 9 0 + 1 := by rw [e 9 0 (by decide), t9]
  have h10 : mvS τ a (npN σ + 1) 200 10 0 = σ 10 0 := by rw [e 10 0 (by decide), tg 10 0 (by decide) (by decide)]
  have hl : ∀ j, live (mvS τ a (npN σ + 1) 200) j ↔ live σ j := fun j => mvS_live.trans (tl j)
  refine ⟨nLv_c h10 hl, nTb_c h10 hl (fun j w => ?_), ?_, ?_, fun j w => ⟨(hl j).mp w, by rw [e 6 j (by decide), tg 6 j (by decide) (by decide)]⟩, e9, h10, by rw [e 11 0 (by decide), tg 11 0 (by decide) (by decide)]⟩
  · rw [e 4 _ (by decide)]
    rcases mvS_pn (i := a) (k' := npN σ + 1) hI3 ((tl j).mpr w) with ⟨q1, q2, -⟩ | ⟨q1, -⟩
    · rw [tp] at q2
      rw [q1, q2, tN4, hs]
    · rw [q1, tp, to 4 _ (by decide) (by decide) (hI.pnI j w).2.1]
  · refine pw_u hV (by omega) (by rw [e9]; omega) (by rw [e 4 _ (by decide)]; exact tN4) ?_
    rw [e 0 _ (by decide), e 1 _ (by decide), tN0, tN1]
    omega
  · refine pw_u hV ha.1 (by rw [e9]; omega) (by rw [e 4 _ (by decide), to 4 a (by decide) (by decide) ha.2]; exact hs) ?_
    rw [e 0 _ (by decide), e 1 _ (by decide), to 0 a (by decide) (by decide) ha.2, t1a]
    omega
/-! merge -/
theorem merge_f (h : Iv σ) {a b : Nat} (ha : 1 ≤ a ∧ (a : Int) ≤ σ 9 0) (hb : 1 ≤ b ∧ (b : Int) ≤ σ 9 0) (sa : σ 4 a = 0) (sb : σ 4 b = 0) (hab : σ 0 b = σ 1 a) : nLv (upS (mvS (upS σ 1 a (σ 1 b)) b a 200) 4 b 2) = nLv σ ∧ nTb (upS (mvS (upS σ 1 a (σ 1 b)) b a 200) 4 b 2) = nTb σ ∧ upS (mvS (upS σ 1 a (σ 1 b)) b a 200) 4 b 2 4 a = 0 ∧ upS (mvS (upS σ 1 a (σ 1 b)) b a 200) 4 b 2 4 b = 2 ∧ Kk σ (upS (mvS (upS σ 1 a (σ 1 b)) b a 200) 4 b 2) ∧ (∀ g, 9 ≤ g → upS (mvS (upS σ 1 a (σ 1 b)) b a 200) 4 b 2 g 0 = σ g 0) := by
  have hI := h.ib
  have hpb := hI.part b hb.2
  have hea := h.pd.1 a ha.1 ha.2
  have heb := h.pd.1 b hb.1 hb.2
  have hne : a ≠ b := fun w => by subst w; omega
  have hI2 := hI.to1 (i := a) ha.1 (v := σ 1 b) hpb.2.1
  rw [← mv_st]
  obtain ⟨τ, eτ⟩ : ∃ τ, τ = upS (upS σ 1 a (σ 1 b)) 4 b 2 := ⟨_, rfl⟩
  have hI5 : Ib τ := by rw [eτ]; exact hI2.st4 hb.1 (by omega)
  have tg : ∀ g j : Nat, g ≠ 1 → g ≠ 4 → τ g j = σ g j := fun g j q q4 => by rw [eτ, upS_g q4, upS_g q]
  have t1a : τ 1 a = σ 1 b := by rw [eτ, upS_g (by decide), upS_s]
  have t4 : ∀ i : Nat, i ≠ b → τ 4 i = σ 4 i := fun i q => by rw [eτ, upS_i q, upS_g (by decide)]
  have t4b : τ 4 b = 2 := by rw [eτ, upS_s]
  have tl : ∀ j, live τ j ↔ live σ j := fun j => by rw [eτ, upS_live (by decide) (by decide), upS_live (by decide) (by decide)]
  have tp : ∀ j, pn τ j = pn σ j := fun j => by rw [eτ, upS_pn (by decide), upS_pn (by decide)]
  rw [← eτ]
  have e : ∀ g i, g ≠ 5 → mvS τ b a 200 g i = τ g i := fun g i q => mvS_g q
  have h10 : mvS τ b a 200 10 0 = σ 10 0 := by rw [e 10 0 (by decide), tg 10 0 (by decide) (by decide)]
  have hl : ∀ j, live (mvS τ b a 200) j ↔ live σ j := fun j => mvS_live.trans (tl j)
  refine ⟨nLv_c h10 hl, nTb_c h10 hl (fun j w => ?_), by rw [e 4 a (by decide), t4 a hne, sa], by rw [e 4 b (by decide), t4b], fun j w => ⟨(hl j).mp w, by rw [e 6 j (by decide), tg 6 j (by decide) (by decide)]⟩, fun g q => by rw [e g 0 (by omega), tg g 0 (by omega) (by omega)]⟩
  have r := h.rw_ j w
  rw [e 4 _ (by decide)]
  rcases mvS_pn (i := b) (k' := a) hI5 ((tl j).mpr w) with ⟨q1, q2, q3, q4⟩ | ⟨q1, q2⟩
  · rw [tp] at q2
    rw [q1, q2, t4 a hne, sa, sb]
  · rw [q1, tp]
    rw [tp, tg 0 a (by decide) (by decide), t1a, tg 6 j (by decide) (by decide)] at q2
    have nb : pn σ j ≠ b := fun w => by
      have := r.2.1 (by omega)
      rw [w] at this
      exact q2 ⟨w, by omega, by omega⟩
    rw [t4 _ nb]
/-! detach, attach -/
theorem st_l {i : Nat} {v w : Int} (j : Nat) : live (upS (upS σ 4 i v) 11 0 w) j ↔ live σ j := by rw [upS_live (by decide) (by decide), upS_live (by decide) (by decide)]
theorem st_p {i : Nat} {v w : Int} (j : Nat) : pn (upS (upS σ 4 i v) 11 0 w) j = pn σ j := by rw [upS_pn (by decide), upS_pn (by decide)]
theorem st_g {i : Nat} {v w : Int} (g k : Nat) (h4 : g ≠ 4) (h11 : g ≠ 11) : upS (upS σ 4 i v) 11 0 w g k = σ g k := by rw [upS_g h11, upS_g h4]
theorem st_o {i : Nat} {v w : Int} (k : Nat) (h : k ≠ i) : upS (upS σ 4 i v) 11 0 w 4 k = σ 4 k := by rw [upS_g (by decide), upS_i h]
theorem st_s {i : Nat} {v w : Int} : upS (upS σ 4 i v) 11 0 w 4 i = v := by rw [upS_g (by decide), upS_s]
theorem st_11 {i : Nat} {v w : Int} : upS (upS σ 4 i v) 11 0 w 11 0 = w := upS_s _ _ _ _
theorem st_k {i : Nat} {v w : Int} : Kk σ (upS (upS σ 4 i v) 11 0 w) := fun j hl => ⟨(st_l j).mp hl, st_g 6 j (by decide) (by decide)⟩
theorem det_f {i : Nat} (h4 : σ 4 i = 0) : nLv (upS (upS σ 4 i 1) 11 0 1) = nLv σ ∧ nTb (upS (upS σ 4 i 1) 11 0 1) = nTb σ - nPt (upS (upS σ 4 i 1) 11 0 1) i := by
  have h10 : upS (upS σ 4 i 1) 11 0 1 10 0 = σ 10 0 := st_g 10 0 (by decide) (by decide)
  refine ⟨nLv_c h10 st_l, ?_⟩
  have : nTb σ = nTb (upS (upS σ 4 i 1) 11 0 1) + nPt (upS (upS σ 4 i 1) 11 0 1) i := by
    unfold nTb nPt
    rw [← cnt_or (fun j a b => by have := a.2; rw [b.2, st_s] at this; omega), nr_c h10]
    refine cnt_cong _ (fun j _ => ⟨fun w => ?_, fun w => ?_⟩)
    · by_cases q : pn σ j = i
      · exact Or.inr ⟨(st_l j).mpr w.1, by rw [st_p]; exact q⟩
      · exact Or.inl ⟨(st_l j).mpr w.1, by rw [st_p, st_o _ q]; exact w.2⟩
    · rcases w with w | w
      · refine ⟨(st_l j).mp w.1, ?_⟩
        have u := w.2
        rw [st_p] at u
        by_cases q : pn σ j = i
        · rw [q]; exact h4
        · rw [st_o _ q] at u; exact u
      · have u := w.2
        rw [st_p] at u
        exact ⟨(st_l j).mp w.1, by rw [u]; exact h4⟩
  omega
theorem att_f {i : Nat} (h4 : σ 4 i = 1) : nLv (upS (upS σ 4 i 0) 11 0 1) = nLv σ ∧ nTb (upS (upS σ 4 i 0) 11 0 1) = nTb σ + nPt (upS (upS σ 4 i 0) 11 0 1) i := by
  have h10 : upS (upS σ 4 i 0) 11 0 1 10 0 = σ 10 0 := st_g 10 0 (by decide) (by decide)
  refine ⟨nLv_c h10 st_l, ?_⟩
  unfold nTb nPt
  rw [nr_c h10, ← cnt_or (fun j a b => by have := a.2; have u := b.2; rw [st_p] at u; rw [u] at this; omega)]
  refine cnt_cong _ (fun j _ => ⟨fun w => ?_, fun w => ?_⟩)
  · have u := w.2
    rw [st_p] at u
    by_cases q : pn σ j = i
    · exact Or.inr ⟨w.1, by rw [st_p]; exact q⟩
    · rw [st_o _ q] at u
      exact Or.inl ⟨(st_l j).mp w.1, u⟩
  · rcases w with w | w
    · refine ⟨(st_l j).mpr w.1, ?_⟩
      rw [st_p]
      by_cases q : pn σ j = i
      · rw [q, st_s]
      · rw [st_o _ q]; exact w.2
    · have u := w.2
      rw [st_p] at u
      exact ⟨w.1, by rw [st_p, u, st_s]⟩
/-! exchange, twice -/
theorem xs_l {i k : Nat} (j : Nat) : live (upS (swS σ i k 200) 11 0 1) j ↔ live σ j := by rw [upS_live (by decide) (by decide), swS_live]
theorem xs_g {i k : Nat} (g j : Nat) (h5 : g ≠ 5) (h11 : g ≠ 11) : upS (swS σ i k 200) 11 0 1 g j = σ g j := by rw [upS_g h11, swS_g h5]
theorem xs_11 {i k : Nat} : upS (swS σ i k 200) 11 0 1 11 0 = 1 := upS_s _ _ _ _
theorem xs_p (hI : Ib σ) {i k j : Nat} (hl : live σ j) : pn (upS (swS σ i k 200) 11 0 1) j = if pn σ j = i then k else if pn σ j = k then i else pn σ j := by
  have hnr := hI.nrI
  have hj2 : j < 200 := by have := hl.1; omega
  rw [upS_pn (by decide)]
  show ((swS σ i k 200) 5 j).toNat = _
  rw [swS_at hj2 hl]
  by_cases a : pn σ j = i
  · rw [if_pos a, if_pos a]; exact Int.toNat_natCast _
  · rw [if_neg a, if_neg a]
    by_cases b : pn σ j = k
    · rw [if_pos b, if_pos b]; exact Int.toNat_natCast _
    · rw [if_neg b, if_neg b]; rfl
theorem xs_k {i k : Nat} : Kk σ (upS (swS σ i k 200) 11 0 1) := fun j hl => ⟨(xs_l j).mp hl, xs_g 6 j (by decide) (by decide)⟩
theorem xch_f (h : Iv σ) {i k : Nat} (hi : 1 ≤ i ∧ (i : Int) ≤ σ 9 0) (hk : 1 ≤ k ∧ (k : Int) ≤ σ 9 0) (h1 : σ 4 i = 0) (h2 : σ 4 k = 1) : ¬ forn (upS (swS σ i k 200) 11 0 1) i k ∧ ¬ forn (upS (swS σ i k 200) 11 0 1) k i := by
  have hI := h.ib
  have hne : i ≠ k := fun w => by rw [w, h2] at h1; omega
  refine ⟨?_, ?_⟩
  · rintro ⟨j, w1, w2, w3⟩
    have hl := (xs_l j).mp w1
    have r := h.rw_ j hl
    rw [xs_p hI hl] at w2
    rw [xs_g 0 k (by decide) (by decide), xs_g 1 k (by decide) (by decide), xs_g 6 j (by decide) (by decide)] at w3
    by_cases a : pn σ j = i
    · rw [if_pos a] at w2; exact hne w2.symm
    · rw [if_neg a] at w2
      by_cases b : pn σ j = k
      · have := r.2.1 (by omega)
        rw [b] at this
        exact w3 this
      · rw [if_neg b] at w2; exact a w2
  · rintro ⟨j, w1, w2, w3⟩
    have hl := (xs_l j).mp w1
    have r := h.rw_ j hl
    rw [xs_p hI hl] at w2
    rw [xs_g 0 i (by decide) (by decide), xs_g 1 i (by decide) (by decide), xs_g 6 j (by decide) (by decide)] at w3
    by_cases a : pn σ j = i
    · have := r.2.1 (by omega)
      rw [a] at this
      exact w3 this
    · rw [if_neg a] at w2
      by_cases b : pn σ j = k
      · rw [if_pos b] at w2; exact hne w2
      · rw [if_neg b] at w2; exact b w2
theorem xch2_f (h : Iv σ) {i k : Nat} (hi : 1 ≤ i ∧ (i : Int) ≤ σ 9 0) (hk : 1 ≤ k ∧ (k : Int) ≤ σ 9 0) (h1 : σ 4 i = 0) (h2 : σ 4 k = 1) (f1 : ¬ forn σ i k) (f2 : ¬ forn σ k i) : nLv (upS (swS (upS (swS σ i k 200) 11 0 1) i k 200) 11 0 1) = nLv σ ∧ nTb (upS (swS (upS (swS σ i k 200) 11 0 1) i k 200) 11 0 1) = nTb σ ∧ Kk σ (upS (swS (upS (swS σ i k 200) 11 0 1) i k 200) 11 0 1) := by
  have hI := h.ib
  have hI2 := (h.xch hi hk h1 h2 f1 f2).ib
  have hne : i ≠ k := fun w => by rw [w, h2] at h1; omega
  have h10 : upS (swS (upS (swS σ i k 200) 11 0 1) i k 200) 11 0 1 10 0 = σ 10 0 := by rw [xs_g 10 0 (by decide) (by decide), xs_g 10 0 (by decide) (by decide)]
  have hl : ∀ j, live (upS (swS (upS (swS σ i k 200) 11 0 1) i k 200) 11 0 1) j ↔ live σ j := fun j => (xs_l j).trans (xs_l j)
  refine ⟨nLv_c h10 hl, nTb_c h10 hl (fun j w => ?_), fun j w => ⟨(hl j).mp w, by rw [xs_g 6 j (by decide) (by decide), xs_g 6 j (by decide) (by decide)]⟩⟩
  have e : pn (upS (swS (upS (swS σ i k 200) 11 0 1) i k 200) 11 0 1) j = pn σ j := by
    rw [xs_p hI2 ((xs_l j).mpr w), xs_p hI w]
    by_cases a : pn σ j = i
    · rw [if_pos a, if_neg (by omega), if_pos rfl, a]
    · rw [if_neg a]
      by_cases b : pn σ j = k
      · rw [if_pos b, if_pos rfl, b]
      · rw [if_neg b, if_neg a, if_neg b]
  rw [e, xs_g 4 _ (by decide) (by decide), xs_g 4 _ (by decide) (by decide)]
/-! change, remove, buildIndex -/
theorem chg_f (h : Iv σ) {j : Nat} (hl : live σ j) {ky sr : Int} : nLv (upS (upS (upS σ 6 j ky) 7 j sr) 5 j ((pw (upS (upS σ 6 j ky) 7 j sr) ky : Nat) : Int)) = nLv σ ∧ pw (upS (upS (upS σ 6 j ky) 7 j sr) 5 j ((pw (upS (upS σ 6 j ky) 7 j sr) ky : Nat) : Int)) ky = pn (upS (upS (upS σ 6 j ky) 7 j sr) 5 j ((pw (upS (upS σ 6 j ky) 7 j sr) ky : Nat) : Int)) j ∧ (∀ k, live (upS (upS (upS σ 6 j ky) 7 j sr) 5 j ((pw (upS (upS σ 6 j ky) 7 j sr) ky : Nat) : Int)) k ↔ live σ k) ∧ (∀ k, upS (upS (upS σ 6 j ky) 7 j sr) 5 j ((pw (upS (upS σ 6 j ky) 7 j sr) ky : Nat) : Int) 6 k = if k = j then ky else σ 6 k) := by
  have hl2 : live (upS (upS σ 6 j ky) 7 j sr) j := (upS_live (by decide) (by decide)).mpr ((upS_live (by decide) (by decide)).mpr hl)
  have hll : ∀ k, live (upS (upS (upS σ 6 j ky) 7 j sr) 5 j ((pw (upS (upS σ 6 j ky) 7 j sr) ky : Nat) : Int)) k ↔ live σ k := fun k => by
    rw [upS_live5 hl2 (by omega), upS_live (by decide) (by decide), upS_live (by decide) (by decide)]
  refine ⟨nLv_c (by rw [upS_g (by decide), upS_g (by decide), upS_g (by decide)]) hll, ?_, hll, fun k => ?_⟩
  · rw [pw_up (by decide) (by decide)]
    show _ = ((upS (upS (upS σ 6 j ky) 7 j sr) 5 j ((pw (upS (upS σ 6 j ky) 7 j sr) ky : Nat) : Int)) 5 j).toNat
    rw [upS_s]
    exact (Int.toNat_natCast _).symm
  · rw [upS_g (by decide), upS_g (by decide)]
    by_cases q : k = j
    · rw [if_pos q, q, upS_s]
    · rw [if_neg q, upS_i q]
theorem rem_f (hI : Ib σ) {j : Nat} (hl : live σ j) : nLv (upS σ 5 j (-1)) = nLv σ - 1 ∧ Kk σ (upS σ 5 j (-1)) := by
  have h10 : upS σ 5 j (-1) 10 0 = σ 10 0 := upS_g (by decide)
  refine ⟨?_, fun k q => ⟨(rem_live.mp q).1, upS_g (by decide)⟩⟩
  have hnr := hI.nrI
  have e : ∀ n : Nat, j < n → cnt (fun k => live σ k) n = cnt (fun k => live (upS σ 5 j (-1)) k) n + 1 := by
    intro n
    induction n with
    | zero => intro w; omega
    | succ n ih =>
      intro w
      by_cases q : n = j
      · subst q
        rw [cnt_t (P := fun k => live σ k) hl, cnt_f (P := fun k => live (upS σ 5 n (-1)) k) (fun u => (rem_live.mp u).2 rfl)]
        congr 1
        exact cnt_cong _ (fun k hk => ⟨fun u => rem_live.mpr ⟨u, by omega⟩, fun u => (rem_live.mp u).1⟩)
      · have i := ih (by omega)
        by_cases u : live σ n
        · rw [cnt_t (P := fun k => live σ k) u, cnt_t (P := fun k => live (upS σ 5 j (-1)) k) (rem_live.mpr ⟨u, q⟩), i]
        · rw [cnt_f (P := fun k => live σ k) u, cnt_f (P := fun k => live (upS σ 5 j (-1)) k) (fun v => u (rem_live.mp v).1), i]
  have := e (nrN σ) (by have := hl.1; omega)
  unfold nLv
  rw [nr_c h10]
  omega
theorem bi_f : nLv (upS σ 11 0 0) = nLv σ ∧ nTb (upS σ 11 0 0) = nTb σ ∧ Kk σ (upS σ 11 0 0) := by
  have h10 : upS σ 11 0 0 10 0 = σ 10 0 := upS_g (by decide)
  have hl : ∀ j, live (upS σ 11 0 0) j ↔ live σ j := fun j => upS_live (by decide) (by decide)
  exact ⟨nLv_c h10 hl, nTb_c h10 hl (fun j _ => by rw [upS_pn (by decide), upS_g (by decide)]), fun j q => ⟨(hl j).mp q, upS_g (by decide)⟩⟩
end Deeds
/-! at the start -/
theorem nLv_0 : nLv sg0 = 0 := cnt_none _ (fun j _ q => sg0_live j q)
