/-! .. where parts are made, split, merged -/
section Mk
variable {σ : Sg} {f t k d : Int}
/-- the numbers of the parts behind mkP -/
theorem mkP_old {g i : Nat} (hg : g < 5) (hi : (i : Int) ≤ σ 9 0) (hI : Ib σ) : mkP σ f t k d g i = σ g i := mkP_o (by have := hI.npI; omega) (by omega)
theorem mkP_ix (hI : Ib σ) {i : Nat} (h : (i : Int) ≤ mkP σ f t k d 9 0) : (i : Int) ≤ σ 9 0 ∨ i = npN σ + 1 := by
  rw [mkP_9] at h
  have := hI.npI
  omega
theorem PD.mk (h : PD σ) (hI : Ib σ) (ok : okR f t) (ho : ¬ ovl σ f t) : PD (mkP σ f t k d) := by
  obtain ⟨n0, n1, n2, n3, n4⟩ := @mkP_N σ f t k d
  unfold okR at ok
  have key : ∀ i : Nat, 1 ≤ i → (i : Int) ≤ σ 9 0 → σ 4 i = 0 → t ≤ σ 0 i ∨ σ 1 i ≤ f := fun i a b s => Classical.byContradiction (fun w => ho ⟨i, a, b, s, by omega, by omega⟩)
  refine ⟨fun i a b => ?_, fun i i' a b a' b' n s s' => ?_⟩
  · rcases mkP_ix hI b with q | q
    · rw [mkP_old (by decide) q hI, mkP_old (by decide) q hI]
      exact h.1 i a q
    · rw [q, n0, n1]; exact ok.2.1
  · rcases mkP_ix hI b with q | q
    · rw [mkP_old (by decide) q hI] at s
      rw [mkP_old (by decide) q hI, mkP_old (by decide) q hI]
      rcases mkP_ix hI b' with q' | q'
      · rw [mkP_old (by decide) q' hI] at s'
        rw [mkP_old (by decide) q' hI, mkP_old (by decide) q' hI]
        exact h.2 i i' a q a' q' n s s'
      · rw [q', n0, n1]
        have := key i a q s
        omega
    · rw [q, n0, n1]
      rcases mkP_ix hI b' with q' | q'
      · rw [mkP_old (by decide) q' hI] at s'
        rw [mkP_old (by decide) q' hI, mkP_old (by decide) q' hI]
        have := key i' a' q' s'
        omega
      · omega
theorem Iv.mkp (h : Iv σ) (hn : σ 9 0 < 15) (ok1 : okR f t) (ok2 : okK k d) (ho : ¬ ovl σ f t) (hr : ¬ inR σ f t) : Iv (mkP σ f t k d) := by
  obtain ⟨n0, n1, n2, n3, n4⟩ := @mkP_N σ f t k d
  have hI := h.ib
  refine Iv.of (hI.mk hn ok1 ok2) (h.pd.mk hI ok1 ho) (fun j hj => ?_)
  have hl := mkP_live.mp hj
  have hp := hI.pnI j hl
  have r := h.rw_ j hl
  rw [mkP_pn, mkP_g (by decide) (by decide)]
  refine ⟨by rw [mkP_old (by decide) hp.2.1 hI]; exact r.1, fun a => by rw [mkP_old (by decide) hp.2.1 hI, mkP_old (by decide) hp.2.1 hI]; exact r.2.1 a, fun a i b c s => ?_⟩
  rcases mkP_ix hI c with q | q
  · rw [mkP_old (by decide) q hI] at s
    rw [mkP_old (by decide) q hI, mkP_old (by decide) q hI]
    exact r.2.2 a i b q s
  · rw [q, n0, n1]
    exact fun w => hr ⟨j, hl, hI.pn5 hl a, w⟩
/-- where a row is, behind mvS -/
theorem mvS_pn {i k' j : Nat} (hI : Ib σ) (hl : live σ j) : (pn (mvS σ i k' 200) j = k' ∧ pn σ j = i ∧ σ 0 k' ≤ σ 6 j ∧ σ 6 j < σ 1 k') ∨ (pn (mvS σ i k' 200) j = pn σ j ∧ ¬ (pn σ j = i ∧ σ 0 k' ≤ σ 6 j ∧ σ 6 j < σ 1 k')) := by
  have hn := hI.nrI
  have hj : j < 200 := by have := hl.1; omega
  by_cases w : pn σ j = i ∧ σ 0 k' ≤ σ 6 j ∧ σ 6 j < σ 1 k'
  · refine Or.inl ⟨?_, w⟩
    have e : mvS σ i k' 200 5 j = k' := if_pos ⟨rfl, hj, hl, w⟩
    unfold pn
    rw [e]; exact Int.toNat_natCast k'
  · refine Or.inr ⟨?_, w⟩
    have e : mvS σ i k' 200 5 j = σ 5 j := if_neg (fun q => w q.2.2.2)
    unfold pn
    rw [e]
theorem Iv.carve (h : Iv σ) (hn : σ 9 0 < 15) (ok1 : okR f t) (ok2 : okK k d) (ho : ¬ ovl σ f t) : Iv (mvS (mkP σ f t k d) 0 (npN σ + 1) 200) := by
  obtain ⟨n0, n1, n2, n3, n4⟩ := @mkP_N σ f t k d
  have hI := h.ib
  have hI2 := hI.mk (f := f) (t := t) hn ok1 ok2
  have hnp := hI.npI
  have e : ∀ g i, (g < 5 ∨ g = 9) → mvS (mkP σ f t k d) 0 (npN σ + 1) 200 g i = mkP σ f t k d g i := fun g i q => mvS_g (by omega)
  refine Iv.of (hI2.mv (by rw [mkP_9]; omega) 200) ((h.pd.mk hI ok1 ho).eq e) (fun j hj => ?_)
  have hj1 := mvS_live.mp hj
  have hl := mkP_live.mp hj1
  have hp := hI.pnI j hl
  have r := h.rw_ j hl
  rw [mvS_g (by decide), mkP_g (by decide) (by decide)]
  refine Rw.eq ?_ e
  rcases mvS_pn (i := 0) (k' := npN σ + 1) hI2 hj1 with ⟨q1, q2, q3, q4⟩ | ⟨q1, q2⟩
  · rw [q1]
    rw [n0, mkP_g (by decide) (by decide)] at q3
    rw [n1, mkP_g (by decide) (by decide)] at q4
    exact ⟨by rw [n4]; decide, fun _ => by rw [n0, n1]; exact ⟨q3, q4⟩, fun w => absurd w (by omega)⟩
  · rw [q1, mkP_pn]
    rw [mkP_pn, n0, n1, mkP_g (by decide) (by decide)] at q2
    refine ⟨by rw [mkP_old (by decide) hp.2.1 hI]; exact r.1, fun a => by rw [mkP_old (by decide) hp.2.1 hI, mkP_old (by decide) hp.2.1 hI]; exact r.2.1 a, fun a i b c s => ?_⟩
    rcases mkP_ix hI c with q | q
    · rw [mkP_old (by decide) q hI] at s
      rw [mkP_old (by decide) q hI, mkP_old (by decide) q hI]
      exact r.2.2 a i b q s
    · rw [q, n0, n1]
      exact fun w => q2 ⟨a, w⟩
theorem Iv.split (h : Iv σ) (hn : σ 9 0 < 15) {a : Nat} (ha : 1 ≤ a ∧ (a : Int) ≤ σ 9 0) (hs : σ 4 a = 0) {ky : Int} (hk : σ 0 a < ky ∧ ky < σ 1 a) : Iv (mvS (upS (mkP σ ky (σ 1 a) (σ 2 a) (σ 3 a)) 1 a ky) a (npN σ + 1) 200) := by
  have hI := h.ib
  have hpa := hI.part a ha.2
  have ok1 : okR ky (σ 1 a) := by unfold okR; omega
  have ok2 : okK (σ 2 a) (σ 3 a) := by unfold okK; omega
  obtain ⟨n0, n1, n2, n3, n4⟩ := @mkP_N σ ky (σ 1 a) (σ 2 a) (σ 3 a)
  have hnp := hI.npI
  have hI2 := hI.mk hn ok1 ok2
  have hI3 := hI2.to1 (i := a) ha.1 (v := ky) (by omega)
  have eN : npN σ + 1 ≠ a := by omega
  -- the numbers of τ
  obtain ⟨τ, eτ⟩ : ∃ τ, τ = upS (mkP σ ky (σ 1 a) (σ 2 a) (σ 3 a)) 1 a ky := ⟨_, rfl⟩
  have t9 : τ 9 0 = σ 9 0 + 1 := by rw [eτ, upS_g (by decide), mkP_9]
  have tg : ∀ (g j : Nat), 5 ≤ g → g ≠ 9 → τ g j = σ g j := fun g j q q9 => by rw [eτ, upS_g (by omega), mkP_g q q9]
  have to : ∀ (g i : Nat), g < 5 → g ≠ 1 → (i : Int) ≤ σ 9 0 → τ g i = σ g i := fun g i q q1 hi => by rw [eτ, upS_g q1, mkP_old q hi hI]
  have t1 : ∀ i : Nat, (i : Int) ≤ σ 9 0 → i ≠ a → τ 1 i = σ 1 i := fun i hi q => by rw [eτ, upS_i q, mkP_old (by decide) hi hI]
  have t1a : τ 1 a = ky := by rw [eτ, upS_s]
  have tN0 : τ 0 (npN σ + 1) = ky := by rw [eτ, upS_g (by decide), n0]
  have tN1 : τ 1 (npN σ + 1) = σ 1 a := by rw [eτ, upS_i eN, n1]
  have tN4 : τ 4 (npN σ + 1) = 0 := by rw [eτ, upS_g (by decide), n4]
  have tl : ∀ j, live τ j ↔ live σ j := fun j => by rw [eτ, upS_live (by decide) (by decide), mkP_live]
  have tp : ∀ j, pn τ j = pn σ j := fun j => by rw [eτ, upS_pn (by decide), mkP_pn]
  have ix : ∀ i : Nat, (i : Int) ≤ τ 9 0 → (i : Int) ≤ σ 9 0 ∨ i = npN σ + 1 := fun i q => by rw [t9] at q; omega
  rw [← eτ] at hI3 ⊢
  have apart : ∀ i : Nat, 1 ≤ i → (i : Int) ≤ σ 9 0 → i ≠ a → σ 4 i = 0 → σ 1 i ≤ σ 0 a ∨ σ 1 a ≤ σ 0 i := fun i b c n s => h.pd.2 i a b c ha.1 ha.2 n s hs
  have hpd : PD τ := by
    refine ⟨fun i b c => ?_, fun i i' b c b' c' n s s' => ?_⟩
    · rcases ix i c with q | q
      · rw [to 0 i (by decide) (by decide) q]
        by_cases w : i = a
        · rw [w, t1a]; exact hk.1
        · rw [t1 i q w]; exact h.pd.1 i b q
      · rw [q, tN0, tN1]; exact hk.2
    · rcases ix i c with q | q
      · rw [to 4 i (by decide) (by decide) q] at s
        rw [to 0 i (by decide) (by decide) q]
        rcases ix i' c' with q' | q'
        · rw [to 4 i' (by decide) (by decide) q'] at s'
          rw [to 0 i' (by decide) (by decide) q']
          by_cases w : i = a
          · have := apart i' b' q' (by omega) s'
            rw [w, t1a, t1 i' q' (by omega)]
            omega
          · rw [t1 i q w]
            by_cases w' : i' = a
            · have := apart i b q w s
              rw [w', t1a]
              omega
            · rw [t1 i' q' w']
              exact h.pd.2 i i' b q b' q' n s s'
        · rw [q', tN0, tN1]
          by_cases w : i = a
          · rw [w, t1a]; omega
          · have := apart i b q w s
            rw [t1 i q w]; omega
      · rw [q, tN0, tN1]
        rcases ix i' c' with q' | q'
        · rw [to 4 i' (by decide) (by decide) q'] at s'
          rw [to 0 i' (by decide) (by decide) q']
          by_cases w : i' = a
          · rw [w, t1a]; omega
          · have := apart i' b' q' w s'
            rw [t1 i' q' w]; omega
        · omega
  have e : ∀ g i, (g < 5 ∨ g = 9) → mvS τ a (npN σ + 1) 200 g i = τ g i := fun g i q => mvS_g (by omega)
  refine Iv.of (hI3.mv (by rw [t9]; omega) 200) (hpd.eq e) (fun j hj => ?_)
  have hj1 := mvS_live.mp hj
  have hl := (tl j).mp hj1
  have hp := hI.pnI j hl
  have r := h.rw_ j hl
  rw [mvS_g (by decide)]
  refine Rw.eq ?_ e
  rcases mvS_pn (i := a) (k' := npN σ + 1) hI3 hj1 with ⟨q1, q2, q3, q4⟩ | ⟨q1, q2⟩
  · rw [q1]
    exact ⟨by rw [tN4]; decide, fun _ => ⟨q3, q4⟩, fun w => absurd w (by omega)⟩
  · rw [q1, tp]
    rw [tp, tN0, tN1] at q2
    rw [tg 6 j (by decide) (by decide)] at q2 ⊢
    refine ⟨by rw [to 4 _ (by decide) (by decide) hp.2.1]; exact r.1, fun b => ?_, fun b i c c2 s => ?_⟩
    · have := r.2.1 b
      rw [to 0 _ (by decide) (by decide) hp.2.1]
      by_cases w : pn σ j = a
      · rw [w] at this ⊢
        rw [t1a]
        exact ⟨this.1, Classical.byContradiction (fun u => q2 ⟨w, by omega, this.2⟩)⟩
      · rw [t1 _ hp.2.1 w]
        exact this
    · rcases ix i c2 with q | q
      · rw [to 4 i (by decide) (by decide) q] at s
        rw [to 0 i (by decide) (by decide) q]
        have := r.2.2 b i c q s
        by_cases w : i = a
        · rw [w] at this ⊢
          rw [t1a]; omega
        · rw [t1 i q w]; exact this
      · rw [q, tN0, tN1]
        have := r.2.2 b a ha.1 ha.2 hs
        omega
end Mk
theorem Iv.merge {σ : Sg} (h : Iv σ) {a b : Nat} (ha : 1 ≤ a ∧ (a : Int) ≤ σ 9 0) (hb : 1 ≤ b ∧ (b : Int) ≤ σ 9 0) (sa : σ 4 a = 0) (sb : σ 4 b = 0) (hab : σ 0 b = σ 1 a) : Iv (upS (mvS (upS σ 1 a (σ 1 b)) b a 200) 4 b 2) := by
  have hI := h.ib
  have hpa := hI.part a ha.2
  have hpb := hI.part b hb.2
  have hea := h.pd.1 a ha.1 ha.2
  have heb := h.pd.1 b hb.1 hb.2
  have hne : a ≠ b := fun w => by subst w; omega
  have hI2 := hI.to1 (i := a) ha.1 (v := σ 1 b) hpb.2.1
  have hI3 := hI2.mv (i := b) (k := a) (by rw [upS_g (by decide)]; exact ha.2) 200
  have hI4 := hI3.st4 (i := b) hb.1 (v := 2) (by omega)
  rw [← mv_st] at hI4 ⊢
  obtain ⟨τ, eτ⟩ : ∃ τ, τ = upS (upS σ 1 a (σ 1 b)) 4 b 2 := ⟨_, rfl⟩
  have hI5 : Ib τ := by rw [eτ]; exact hI2.st4 hb.1 (by omega)
  have tg : ∀ g j : Nat, g ≠ 1 → g ≠ 4 → τ g j = σ g j := fun g j q q4 => by rw [eτ, upS_g q4, upS_g q]
  have t1 : ∀ i : Nat, i ≠ a → τ 1 i = σ 1 i := fun i q => by rw [eτ, upS_g (by decide), upS_i q]
  have t1a : τ 1 a = σ 1 b := by rw [eτ, upS_g (by decide), upS_s]
  have t4 : ∀ i : Nat, i ≠ b → τ 4 i = σ 4 i := fun i q => by rw [eτ, upS_i q, upS_g (by decide)]
  have t4b : τ 4 b = 2 := by rw [eτ, upS_s]
  have tl : ∀ j, live τ j ↔ live σ j := fun j => by rw [eτ, upS_live (by decide) (by decide), upS_live (by decide) (by decide)]
  have tp : ∀ j, pn τ j = pn σ j := fun j => by rw [eτ, upS_pn (by decide), upS_pn (by decide)]
  rw [← eτ] at hI4 ⊢
  have apA : ∀ i : Nat, 1 ≤ i → (i : Int) ≤ σ 9 0 → i ≠ a → σ 4 i = 0 → σ 1 i ≤ σ 0 a ∨ σ 1 a ≤ σ 0 i := fun i p q n s => h.pd.2 i a p q ha.1 ha.2 n s sa
  have apB : ∀ i : Nat, 1 ≤ i → (i : Int) ≤ σ 9 0 → i ≠ b → σ 4 i = 0 → σ 1 i ≤ σ 0 b ∨ σ 1 b ≤ σ 0 i := fun i p q n s => h.pd.2 i b p q hb.1 hb.2 n s sb
  have hpd : PD τ := by
    refine ⟨fun i p q => ?_, fun i i' p q p' q' n s s' => ?_⟩
    · rw [tg 9 0 (by decide) (by decide)] at q
      rw [tg 0 i (by decide) (by decide)]
      by_cases w : i = a
      · rw [w, t1a]; omega
      · rw [t1 i w]; exact h.pd.1 i p q
    · rw [tg 9 0 (by decide) (by decide)] at q q'
      have nb : i ≠ b := fun w => by rw [w, t4b] at s; omega
      have nb' : i' ≠ b := fun w => by rw [w, t4b] at s'; omega
      rw [t4 i nb] at s
      rw [t4 i' nb'] at s'
      rw [tg 0 i (by decide) (by decide), tg 0 i' (by decide) (by decide)]
      by_cases w : i = a
      · have e1 := apA i' p' q' (by omega) s'
        have e2 := apB i' p' q' nb' s'
        have e3 := h.pd.1 i' p' q'
        rw [w, t1a, t1 i' (by omega)]
        omega
      · rw [t1 i w]
        by_cases w' : i' = a
        · have e1 := apA i p q w s
          have e2 := apB i p q nb s
          have e3 := h.pd.1 i p q
          rw [w', t1a]
          omega
        · rw [t1 i' w']
          exact h.pd.2 i i' p q p' q' n s s'
  have e : ∀ g i, (g < 5 ∨ g = 9) → mvS τ b a 200 g i = τ g i := fun g i q => mvS_g (by omega)
  refine Iv.of hI4 (hpd.eq e) (fun j hj => ?_)
  have hj1 := mvS_live.mp hj
  have hl := (tl j).mp hj1
  have hp := hI.pnI j hl
  have r := h.rw_ j hl
  rw [mvS_g (by decide)]
  refine Rw.eq ?_ e
  rcases mvS_pn (i := b) (k' := a) hI5 hj1 with ⟨q1, q2, q3, q4⟩ | ⟨q1, q2⟩
  · rw [q1]
    exact ⟨by rw [t4 a hne, sa]; decide, fun _ => ⟨q3, q4⟩, fun w => absurd w (by omega)⟩
  · rw [q1, tp]
    rw [tp, tg 0 a (by decide) (by decide), t1a, tg 6 j (by decide) (by decide)] at q2
    rw [tg 6 j (by decide) (by decide)]
    have nb : pn σ j ≠ b := fun w => by
      have := r.2.1 (by omega)
      rw [w] at this
      exact q2 ⟨w, by omega, by omega⟩
    refine ⟨by rw [t4 _ nb]; exact r.1, fun p => ?_, fun p i c c2 s => ?_⟩
    · have := r.2.1 p
      rw [tg 0 _ (by decide) (by decide)]
      by_cases w : pn σ j = a
      · rw [w] at this ⊢
        rw [t1a]; omega
      · rw [t1 _ w]; exact this
    · rw [tg 9 0 (by decide) (by decide)] at c2
      have ni : i ≠ b := fun w => by rw [w, t4b] at s; omega
      rw [t4 i ni] at s
      rw [tg 0 i (by decide) (by decide)]
      have e1 := r.2.2 p i c c2 s
      by_cases w : i = a
      · have e2 := r.2.2 p b hb.1 hb.2 sb
        rw [w] at e1 ⊢
        rw [t1a]; omega
      · rw [t1 i w]; exact e1
