/-! WHAT THE CALLS KEEP: ranges are not empty, those of attached parts are apart, a row lies where its key is -/
def PD (σ : Sg) : Prop := (∀ i : Nat, 1 ≤ i → (i : Int) ≤ σ 9 0 → σ 0 i < σ 1 i) ∧ (∀ i i' : Nat, 1 ≤ i → (i : Int) ≤ σ 9 0 → 1 ≤ i' → (i' : Int) ≤ σ 9 0 → i ≠ i' → σ 4 i = 0 → σ 4 i' = 0 → σ 1 i ≤ σ 0 i' ∨ σ 1 i' ≤ σ 0 i)
def Rw (σ : Sg) (p : Nat) (k : Int) : Prop := σ 4 p ≠ 2 ∧ (1 ≤ p → σ 0 p ≤ k ∧ k < σ 1 p) ∧ (p = 0 → ∀ i : Nat, 1 ≤ i → (i : Int) ≤ σ 9 0 → σ 4 i = 0 → ¬ (σ 0 i ≤ k ∧ k < σ 1 i))
theorem Iv.ib {σ : Sg} (h : Iv σ) : Ib σ := h.1
theorem Iv.pd {σ : Sg} (h : Iv σ) : PD σ := ⟨h.2.1, h.2.2.1⟩
theorem Iv.rw_ {σ : Sg} (h : Iv σ) (j : Nat) (hj : live σ j) : Rw σ (pn σ j) (σ 6 j) := h.2.2.2 j hj
theorem Iv.of {σ : Sg} (h1 : Ib σ) (h2 : PD σ) (h3 : ∀ j : Nat, live σ j → Rw σ (pn σ j) (σ 6 j)) : Iv σ := ⟨h1, h2.1, h2.2, h3⟩
theorem PD.eq {σ σ' : Sg} (h : PD σ) (e : ∀ g i, (g < 5 ∨ g = 9) → σ' g i = σ g i) : PD σ' := by
  refine ⟨fun i a b => ?_, fun i i' a b a' b' n s s' => ?_⟩
  · rw [e 9 0 (by omega)] at b
    rw [e 0 i (by omega), e 1 i (by omega)]
    exact h.1 i a b
  · rw [e 9 0 (by omega)] at b b'
    rw [e 4 i (by omega)] at s
    rw [e 4 i' (by omega)] at s'
    rw [e 0 i (by omega), e 1 i (by omega), e 0 i' (by omega), e 1 i' (by omega)]
    exact h.2 i i' a b a' b' n s s'
theorem Rw.eq {σ σ' : Sg} {p : Nat} {k : Int} (h : Rw σ p k) (e : ∀ g i, (g < 5 ∨ g = 9) → σ' g i = σ g i) : Rw σ' p k := by
  refine ⟨by rw [e 4 p (by omega)]; exact h.1, fun a => by rw [e 0 p (by omega), e 1 p (by omega)]; exact h.2.1 a, fun a i b c s => ?_⟩
  rw [e 9 0 (by omega)] at c
  rw [e 4 i (by omega)] at s
  rw [e 0 i (by omega), e 1 i (by omega)]
  exact h.2.2 a i b c s
/-- only rows change -/
theorem Iv.rows {σ σ' : Sg} (h : Iv σ) (hI : Ib σ') (e : ∀ g i, (g < 5 ∨ g = 9) → σ' g i = σ g i) (hr : ∀ j : Nat, live σ' j → Rw σ (pn σ' j) (σ' 6 j)) : Iv σ' := Iv.of hI (h.pd.eq e) (fun j hj => (hr j hj).eq e)
theorem Rw.pw {σ : Sg} (hI : Ib σ) (k : Int) : Rw σ (pw σ k) k := by
  have hre := hI.rest
  rcases pw_is hI k with ⟨q, w⟩ | ⟨q1, q2, q3, q4, q5⟩
  · rw [q]
    exact ⟨by rw [hre.2.2.2.2]; omega, fun a => absurd a (by omega), fun _ i a b c d => w i a b ⟨c, d⟩⟩
  · exact ⟨by rw [q3]; omega, fun _ => ⟨q4, q5⟩, fun a => absurd a (by omega)⟩
theorem Iv.stale {σ : Sg} (h : Iv σ) {v : Int} (hv : 0 ≤ v ∧ v ≤ 1) : Iv (upS σ 11 0 v) := by
  refine h.rows (h.ib.stale hv) (fun g i q => upS_g (by omega)) (fun j hj => ?_)
  rw [upS_pn (by decide), upS_g (by decide)]
  exact h.rw_ j ((upS_live (by decide) (by decide)).mp hj)
theorem Iv.rem {σ : Sg} (h : Iv σ) {j : Nat} (hl : live σ j) : Iv (upS σ 5 j (-1)) := by
  have hn := h.ib.hnp
  refine h.rows (h.ib.p5 hl (by omega)) (fun g i q => upS_g (by omega)) (fun k hk => ?_)
  obtain ⟨h1, h2⟩ := rem_live.mp hk
  rw [show pn (upS σ 5 j (-1)) k = pn σ k by unfold pn; rw [upS_i h2], upS_g (by decide)]
  exact h.rw_ k h1
theorem Iv.ins {σ : Sg} (h : Iv σ) {ky sr vl : Int} (hn : σ 10 0 < 200) (hk : 0 ≤ ky ∧ ky ≤ 999) (hs : 0 ≤ sr ∧ sr ≤ 9) (hv : 0 ≤ vl ∧ vl ≤ 99) : Iv (inS σ ((pw σ ky : Nat) : Int) ky sr vl) := by
  have hp := pw_le h.ib ky
  refine h.rows (h.ib.ins hn ⟨by omega, hp⟩ hk hs hv) (fun g i q => inS_g (by omega) (by omega)) (fun j hj => ?_)
  by_cases q : j = nrN σ
  · subst q
    rw [show pn (inS σ ((pw σ ky : Nat) : Int) ky sr vl) (nrN σ) = pw σ ky by unfold pn; rw [inS_N.1]; exact Int.toNat_natCast _, inS_N.2.1]
    exact Rw.pw h.ib ky
  · have hl := ((inS_live h.ib (by omega)).mp hj).resolve_right q
    rw [show pn (inS σ ((pw σ ky : Nat) : Int) ky sr vl) j = pn σ j by unfold pn; rw [inS_o q (by decide)], inS_o q (by decide)]
    exact h.rw_ j hl
theorem Iv.chg {σ : Sg} (h : Iv σ) {j : Nat} (hl : live σ j) {ky sr : Int} (hk : 0 ≤ ky ∧ ky ≤ 999) (hs : 0 ≤ sr ∧ sr ≤ 9) : Iv (upS (upS (upS σ 6 j ky) 7 j sr) 5 j ((pw (upS (upS σ 6 j ky) 7 j sr) ky : Nat) : Int)) := by
  rw [pw_up (by decide) (by decide), pw_up (by decide) (by decide)]
  have hp := pw_le h.ib ky
  have hl2 : live (upS (upS σ 6 j ky) 7 j sr) j := (upS_live (by decide) (by decide)).mpr ((upS_live (by decide) (by decide)).mpr hl)
  refine h.rows (((h.ib.k6 hk).s7 hs).p5 hl2 ⟨by omega, by rw [upS_g (by decide), upS_g (by decide)]; exact hp⟩) (fun g i q => by rw [upS_g (by omega), upS_g (by omega), upS_g (by omega)]) (fun k hk2 => ?_)
  by_cases q : k = j
  · subst q
    rw [show pn (upS (upS (upS σ 6 k ky) 7 k sr) 5 k ((pw σ ky : Nat) : Int)) k = pw σ ky by unfold pn; rw [upS_s]; exact Int.toNat_natCast _, upS_g (by decide), upS_g (by decide), upS_s]
    exact Rw.pw h.ib ky
  · have h3 := (upS_live5 hl2 (by omega)).mp hk2
    have h4 := (upS_live (by decide) (by decide)).mp ((upS_live (by decide) (by decide)).mp h3)
    rw [show pn (upS (upS (upS σ 6 j ky) 7 j sr) 5 j ((pw σ ky : Nat) : Int)) k = pn σ k by unfold pn; rw [upS_i q, upS_g (by decide), upS_g (by decide)], upS_g (by decide), upS_g (by decide), upS_i q]
    exact h.rw_ k h4
/-- rows of two parts change places -/
theorem Iv.sw {σ : Sg} (h : Iv σ) {i k : Nat} (hi : 1 ≤ i ∧ (i : Int) ≤ σ 9 0) (hk : 1 ≤ k ∧ (k : Int) ≤ σ 9 0) (h1 : σ 4 i = 0) (h2 : σ 4 k = 1) (f1 : ¬ forn σ i k) (f2 : ¬ forn σ k i) : Iv (swS σ i k 200) := by
  have hnr := h.ib.nrI
  refine h.rows (h.ib.sw hi.2 hk.2 200) (fun g q w => swS_g (by omega)) (fun j hj => ?_)
  have hl := swS_live.mp hj
  have hj2 : j < 200 := by have := hl.1; omega
  rw [swS_g (by decide)]
  have r := h.rw_ j hl
  by_cases a : pn σ j = i
  · rw [show pn (swS σ i k 200) j = k by unfold pn; rw [swS_at hj2 hl, if_pos a]; exact Int.toNat_natCast _]
    refine ⟨by omega, fun _ => Classical.byContradiction (fun w => f1 ⟨j, hl, a, w⟩), fun w => absurd w (by omega)⟩
  · by_cases b : pn σ j = k
    · rw [show pn (swS σ i k 200) j = i by unfold pn; rw [swS_at hj2 hl, if_neg a, if_pos b]; exact Int.toNat_natCast _]
      refine ⟨by omega, fun _ => Classical.byContradiction (fun w => f2 ⟨j, hl, b, w⟩), fun w => absurd w (by omega)⟩
    · rw [show pn (swS σ i k 200) j = pn σ j by unfold pn; rw [swS_at hj2 hl, if_neg a, if_neg b]]
      exact r
/-- a part's state changes: detached, or attached where it may be -/
theorem PD.st {σ : Sg} (h : PD σ) {i : Nat} {v : Int} (hv : v = 0 → ∀ k : Nat, 1 ≤ k → (k : Int) ≤ σ 9 0 → k ≠ i → σ 4 k = 0 → σ 1 i ≤ σ 0 k ∨ σ 1 k ≤ σ 0 i) : PD (upS σ 4 i v) := by
  have e : ∀ g k, g ≠ 4 → upS σ 4 i v g k = σ g k := fun g k q => upS_g q
  refine ⟨fun k a b => ?_, fun k k' a b a' b' n s s' => ?_⟩
  · rw [e 9 0 (by decide)] at b
    rw [e 0 k (by decide), e 1 k (by decide)]
    exact h.1 k a b
  · rw [e 9 0 (by decide)] at b b'
    rw [e 0 k (by decide), e 1 k (by decide), e 0 k' (by decide), e 1 k' (by decide)]
    by_cases q : k = i
    · subst q
      rw [upS_s] at s
      rw [upS_i (by omega)] at s'
      exact hv s k' a' b' (by omega) s'
    · rw [upS_i q] at s
      by_cases q' : k' = i
      · subst q'
        rw [upS_s] at s'
        exact (hv s' k a b q s).symm
      · rw [upS_i q'] at s'
        exact h.2 k k' a b a' b' n s s'
theorem Iv.st {σ : Sg} (h : Iv σ) {i : Nat} (hi : 1 ≤ i) {v : Int} (hv : 0 ≤ v ∧ v ≤ 1) (h1 : v = 0 → ∀ k : Nat, 1 ≤ k → (k : Int) ≤ σ 9 0 → k ≠ i → σ 4 k = 0 → σ 1 i ≤ σ 0 k ∨ σ 1 k ≤ σ 0 i) (h2 : v = 0 → ¬ inR σ (σ 0 i) (σ 1 i)) : Iv (upS σ 4 i v) := by
  have e : ∀ g k, g ≠ 4 → upS σ 4 i v g k = σ g k := fun g k q => upS_g q
  refine Iv.of (h.ib.st4 hi (by omega)) (h.pd.st h1) (fun j hj => ?_)
  have hl := (upS_live (by decide) (by decide)).mp hj
  have r := h.rw_ j hl
  rw [upS_pn (by decide), e 6 j (by decide)]
  refine ⟨?_, fun a => by rw [e 0 _ (by decide), e 1 _ (by decide)]; exact r.2.1 a, fun a k b c s => ?_⟩
  · by_cases q : pn σ j = i
    · rw [q, upS_s]; omega
    · rw [upS_i q]; exact r.1
  · rw [e 9 0 (by decide)] at c
    rw [e 0 k (by decide), e 1 k (by decide)]
    by_cases q : k = i
    · subst q
      rw [upS_s] at s
      exact fun w => h2 s ⟨j, hl, h.ib.pn5 hl a, w⟩
    · rw [upS_i q] at s
      exact r.2.2 a k b c s
theorem Iv.det {σ : Sg} (h : Iv σ) {i : Nat} (hi : 1 ≤ i) : Iv (upS (upS σ 4 i 1) 11 0 1) := (h.st hi (by omega) (fun w => absurd w (by decide)) (fun w => absurd w (by decide))).stale (by omega)
theorem Iv.att {σ : Sg} (h : Iv σ) {i : Nat} (hi : 1 ≤ i ∧ (i : Int) ≤ σ 9 0) (f1 : ¬ ovl σ (σ 0 i) (σ 1 i)) (f2 : ¬ inR σ (σ 0 i) (σ 1 i)) : Iv (upS (upS σ 4 i 0) 11 0 1) := by
  refine (h.st hi.1 (by omega) (fun _ k a b n s => ?_) (fun _ => f2)).stale (by omega)
  by_cases q : σ 1 i ≤ σ 0 k
  · exact Or.inl q
  · exact Or.inr (Classical.byContradiction (fun w => f1 ⟨k, a, b, s, by omega, by omega⟩))
theorem Iv.xch {σ : Sg} (h : Iv σ) {i k : Nat} (hi : 1 ≤ i ∧ (i : Int) ≤ σ 9 0) (hk : 1 ≤ k ∧ (k : Int) ≤ σ 9 0) (h1 : σ 4 i = 0) (h2 : σ 4 k = 1) (f1 : ¬ forn σ i k) (f2 : ¬ forn σ k i) : Iv (upS (swS σ i k 200) 11 0 1) := (h.sw hi hk h1 h2 f1 f2).stale (by omega)
