/-! COUNTS BY LEAVES are counts over the rows -/
theorem csm_cong {P P' : Nat → Prop} {f f' : Nat → Int} : ∀ n : Nat, (∀ i, i < n → (P i ↔ P' i)) → (∀ i, i < n → P i → f i = f' i) → csm P f n = csm P' f' n := by
  intro n
  induction n with
  | zero => intro _ _; rfl
  | succ n ih =>
    intro h1 h2
    have e := ih (fun i hi => h1 i (by omega)) (fun i hi => h2 i (by omega))
    by_cases q : P n
    · rw [csm_t q, csm_t ((h1 n (by omega)).mp q), e, h2 n (by omega) q]
    · rw [csm_f q, csm_f (fun w => q ((h1 n (by omega)).mpr w)), e]
theorem csm_cut {P : Nat → Prop} {f : Nat → Int} {n : Nat} : ∀ N : Nat, n ≤ N → (∀ i, n ≤ i → ¬ P i) → csm P f N = csm P f n := by
  intro N
  induction N with
  | zero => intro h _; rw [show n = 0 by omega]
  | succ N ih =>
    intro h h2
    by_cases q : n = N + 1
    · rw [q]
    · rw [csm_f (h2 N (by omega)), ih (by omega) h2]
theorem csm_0 {P : Nat → Prop} {f : Nat → Int} : ∀ n : Nat, (∀ i, i < n → ¬ P i) → csm P f n = 0 := by
  intro n
  induction n with
  | zero => intro _; rfl
  | succ n ih => intro h; rw [csm_f (h n (by omega)), ih (fun i hi => h i (by omega))]
theorem cnt_cong {P P' : Nat → Prop} : ∀ n : Nat, (∀ j, j < n → (P j ↔ P' j)) → cnt P n = cnt P' n := by
  intro n
  induction n with
  | zero => intro _; rfl
  | succ n ih =>
    intro h
    have e := ih (fun j hj => h j (by omega))
    by_cases q : P n
    · rw [cnt_t q, cnt_t ((h n (by omega)).mp q), e]
    · rw [cnt_f q, cnt_f (fun w => q ((h n (by omega)).mpr w)), e]
theorem cnt_none {P : Nat → Prop} : ∀ n : Nat, (∀ j, j < n → ¬ P j) → cnt P n = 0 := by
  intro n
  induction n with
  | zero => intro _; rfl
  | succ n ih => intro h; rw [cnt_f (h n (by omega)), ih (fun j hj => h j (by omega))]
theorem cnt_or {A B : Nat → Prop} (h : ∀ j, A j → ¬ B j) : ∀ n : Nat, cnt (fun j => A j ∨ B j) n = cnt A n + cnt B n := by
  intro n
  induction n with
  | zero => rfl
  | succ n ih =>
    by_cases a : A n
    · rw [cnt_t (P := fun j => A j ∨ B j) (Or.inl a), cnt_t a, cnt_f (h n a), ih]; omega
    · by_cases b : B n
      · rw [cnt_t (P := fun j => A j ∨ B j) (Or.inr b), cnt_f a, cnt_t b, ih]; omega
      · rw [cnt_f (P := fun j => A j ∨ B j) (fun w => w.elim a b), cnt_f a, cnt_f b, ih]
theorem lf_lt {σ : Sg} (hI : Ib σ) {i : Nat} (hi : (i : Int) ≤ σ 9 0) (key sr : Int) : 0 ≤ lf (σ 2 i) (σ 3 i) key sr ∧ lf (σ 2 i) (σ 3 i) key sr < lvs (σ 2 i) (σ 3 i) := by
  have hp := (hI.part i hi).2.2.2
  refine ⟨(lf_rg (by omega)).1, ?_⟩
  rcases hp with ⟨k, d⟩ | ⟨k, d1, d2⟩ | ⟨k, d1, d2⟩
  · rw [lf_0 (by omega) (by omega), lvs_0 (by omega) (by omega)]; decide
  · rw [lvs_1 k]
    by_cases b : hbit (σ 3 i) sr
    · rw [lf_1t k b]; decide
    · rw [lf_1f k b]; decide
  · rw [lf_2 k, lvs_2 k]
    exact Int.emod_lt_of_pos _ (by omega)
section Cnt
variable {σ : Sg} {lo hh so : Int}
/-- a row that fits: its leaf may matter -/
theorem row_may (h : Iv σ) (h0 : 0 ≤ lo) (hs : 0 ≤ so ∧ so ≤ 1023) {j : Nat} (hl : live σ j) (hf : lo ≤ σ 6 j ∧ σ 6 j ≤ hh ∧ hbit so (σ 7 j)) (h4 : σ 4 (pn σ j) = 0) : mayM σ (pn σ j) (lfr σ j) lo hh so := by
  have hI := h.ib
  have hp := hI.pnI j hl
  have hr := hI.row j hl
  have r := h.rw_ j hl
  have hso : so ≠ 0 := fun w => by
    have b := hf.2.2
    unfold hbit at b
    rw [w, Int.zero_ediv] at b
    exact absurd b (by decide)
  refine (may_iff hI hp.2.1 (lf_lt hI hp.2.1 _ _) h0 hs).mpr ⟨fun w => w.2 h4, hso, (σ 6 j - lo).toNat, by omega, (σ 7 j).toNat, by omega, ?_, hf.2.2, ?_⟩
  · rw [show lo + ((σ 6 j - lo).toNat : Int) = σ 6 j by omega]
    by_cases q : pn σ j = 0
    · refine Or.inl ⟨q, ?_⟩
      rcases pw_is hI (σ 6 j) with w | ⟨w1, w2, w3, w4, w5⟩
      · exact w.1
      · exact absurd ⟨w4, w5⟩ (r.2.2 q _ w1 w2 w3)
    · exact Or.inr ⟨q, r.2.1 (by omega)⟩
  · rw [show lo + ((σ 6 j - lo).toNat : Int) = σ 6 j by omega, show (((σ 7 j).toNat : Nat) : Int) = σ 7 j by omega]
theorem cip_eq (h : Iv σ) (h0 : 0 ≤ lo) (hs : 0 ≤ so ∧ so ≤ 1023) {i : Nat} (hi : (i : Int) ≤ σ 9 0) : cip σ i lo hh so = cnt (fun j => live σ j ∧ (pn σ j = i ∧ σ 4 (pn σ j) = 0) ∧ (lo ≤ σ 6 j ∧ σ 6 j ≤ hh ∧ hbit so (σ 7 j))) (nrN σ) := by
  have hI := h.ib
  by_cases h4 : σ 4 i = 0
  · have hL := lvs_rg hI hi
    have step : ∀ n : Nat, csm (fun w => mayM σ i (w : Int) lo hh so) (fun w => cil σ i (w : Int) lo hh so) n = cnt (fun j => live σ j ∧ (pn σ j = i ∧ lfr σ j < n) ∧ (lo ≤ σ 6 j ∧ σ 6 j ≤ hh ∧ hbit so (σ 7 j))) (nrN σ) := by
      intro n
      induction n with
      | zero =>
        refine (cnt_none _ (fun j _ w => ?_)).symm
        have h1 := (lf_lt hI hi (σ 6 j) (σ 7 j)).1
        have h2 := w.2.1.2
        unfold lfr at h2
        rw [w.2.1.1] at h2
        omega
      | succ n ih =>
        have e : cnt (fun j => live σ j ∧ (pn σ j = i ∧ lfr σ j < ((n + 1 : Nat) : Int)) ∧ (lo ≤ σ 6 j ∧ σ 6 j ≤ hh ∧ hbit so (σ 7 j))) (nrN σ) = cnt (fun j => live σ j ∧ (pn σ j = i ∧ lfr σ j < (n : Int)) ∧ (lo ≤ σ 6 j ∧ σ 6 j ≤ hh ∧ hbit so (σ 7 j))) (nrN σ) + cil σ i (n : Int) lo hh so := by
          unfold cil
          rw [← cnt_or (fun j a b => by have := a.2.1.2; have := b.2.1.2; omega)]
          refine cnt_cong _ (fun j _ => ⟨fun w => ?_, fun w => ?_⟩)
          · by_cases q : lfr σ j = (n : Int)
            · exact Or.inr ⟨w.1, ⟨w.2.1.1, q⟩, w.2.2⟩
            · exact Or.inl ⟨w.1, ⟨w.2.1.1, by have := w.2.1.2; omega⟩, w.2.2⟩
          · rcases w with w | w
            · exact ⟨w.1, ⟨w.2.1.1, by have := w.2.1.2; omega⟩, w.2.2⟩
            · exact ⟨w.1, ⟨w.2.1.1, by have := w.2.1.2; omega⟩, w.2.2⟩
        by_cases q : mayM σ i (n : Int) lo hh so
        · rw [csm_t (P := fun w => mayM σ i (w : Int) lo hh so) q, ih, e]
        · rw [csm_f (P := fun w => mayM σ i (w : Int) lo hh so) q, ih, e]
          have : cil σ i (n : Int) lo hh so = 0 := by
            refine cnt_none _ (fun j _ w => q ?_)
            have := row_may h h0 hs w.1 w.2.2 (by rw [w.2.1.1]; exact h4)
            rw [w.2.1.1, w.2.1.2] at this
            exact this
          omega
    unfold cip
    rw [step]
    refine cnt_cong _ (fun j _ => ⟨fun w => ⟨w.1, ⟨w.2.1.1, by rw [w.2.1.1]; exact h4⟩, w.2.2⟩, fun w => ⟨w.1, ⟨w.2.1.1, ?_⟩, w.2.2⟩⟩)
    have h1 := (lf_lt hI hi (σ 6 j) (σ 7 j)).2
    unfold lfr
    rw [w.2.1.1]
    omega
  · unfold cip
    rw [csm_0 _ (fun w _ q => h4 q.1)]
    exact (cnt_none _ (fun j _ w => h4 (by rw [← w.2.1.1]; exact w.2.1.2))).symm
/-- the count by leaves is the count over all rows -/
theorem cntA_eq (h : Iv σ) (h0 : 0 ≤ lo) (hs : 0 ≤ so ∧ so ≤ 1023) : cntA σ lo hh so = cnt (fun j => live σ j ∧ σ 4 (pn σ j) = 0 ∧ (lo ≤ σ 6 j ∧ σ 6 j ≤ hh ∧ hbit so (σ 7 j))) (nrN σ) := by
  have hI := h.ib
  have step : ∀ n : Nat, csm (fun i => (i : Int) ≤ σ 9 0) (fun i => cip σ i lo hh so) n = cnt (fun j => live σ j ∧ (pn σ j < n ∧ σ 4 (pn σ j) = 0) ∧ (lo ≤ σ 6 j ∧ σ 6 j ≤ hh ∧ hbit so (σ 7 j))) (nrN σ) := by
    intro n
    induction n with
    | zero => exact (cnt_none _ (fun j _ w => absurd w.2.1.1 (by omega))).symm
    | succ n ih =>
      by_cases q : (n : Int) ≤ σ 9 0
      · rw [csm_t (P := fun i : Nat => (i : Int) ≤ σ 9 0) q, ih, cip_eq h h0 hs q, ← cnt_or (fun j a b => by have := a.2.1.1; have := b.2.1.1; omega)]
        refine cnt_cong _ (fun j _ => ⟨fun w => ?_, fun w => ?_⟩)
        · rcases w with w | w
          · exact ⟨w.1, ⟨by have := w.2.1.1; omega, w.2.1.2⟩, w.2.2⟩
          · exact ⟨w.1, ⟨by have := w.2.1.1; omega, w.2.1.2⟩, w.2.2⟩
        · by_cases u : pn σ j = n
          · exact Or.inr ⟨w.1, ⟨u, w.2.1.2⟩, w.2.2⟩
          · exact Or.inl ⟨w.1, ⟨by have := w.2.1.1; omega, w.2.1.2⟩, w.2.2⟩
      · rw [csm_f (P := fun i : Nat => (i : Int) ≤ σ 9 0) q, ih]
        refine cnt_cong _ (fun j _ => ⟨fun w => ⟨w.1, ⟨by have := w.2.1.1; omega, w.2.1.2⟩, w.2.2⟩, fun w => ⟨w.1, ⟨?_, w.2.1.2⟩, w.2.2⟩⟩)
        have := (hI.pnI j w.1).2.1
        omega
  unfold cntA
  rw [step]
  refine cnt_cong _ (fun j _ => ⟨fun w => ⟨w.1, w.2.1.2, w.2.2⟩, fun w => ⟨w.1, ⟨?_, w.2.1⟩, w.2.2⟩⟩)
  have := (hI.pnI j w.1).2.2
  omega
/-- so many leaves may matter: both sides the same -/
theorem rdA_eq (hI : Ib σ) (h0 : 0 ≤ lo) (hs : 0 ≤ so ∧ so ≤ 1023) : rdA σ lo hh so = rdM σ lo hh so := by
  have hnp := hI.npI
  unfold rdA rdM
  rw [csm_cut (n := npN σ + 1) 16 (by omega) (fun i hi w => by omega)]
  refine csm_cong _ (fun i _ => Iff.rfl) (fun i _ hi => ?_)
  have hL := lvs_rg hI hi
  exact cnt_cong _ (fun w hw => may_iff hI hi (by omega) h0 hs)
end Cnt
