theorem nb01 {a : Int} (h : 0 ≤ a ∧ a ≤ 1) : narrow .boolean (.int (iI a)) = .int (iI a) := by
  rcases (show a = 0 ∨ a = 1 by omega) with q | q <;> rw [q] <;> decide
/-- a sum of f over the places with P -/
noncomputable def csm (P : Nat → Prop) (f : Nat → Int) : Nat → Int
  | 0 => 0
  | n + 1 => csm P f n + @ite Int (P n) (Classical.propDecidable _) (f n) 0
theorem csm_t {P : Nat → Prop} {f : Nat → Int} {n : Nat} (h : P n) : csm P f (n + 1) = csm P f n + f n := by rw [csm, if_pos h]
theorem csm_f {P : Nat → Prop} {f : Nat → Int} {n : Nat} (h : ¬ P n) : csm P f (n + 1) = csm P f n := by rw [csm, if_neg h]; omega
theorem cz_t {P : Nat → Prop} {f : Nat → Int} {a : Int} {n : Nat} (ea : a = csm P f n) (h : P n) : a + f n = csm P f (n + 1) := by rw [csm_t h, ea]
theorem cz_f {P : Nat → Prop} {f : Nat → Int} {a : Int} {n : Nat} (ea : a = csm P f n) (h : ¬ P n) : a = csm P f (n + 1) := by rw [csm_f h, ea]
/-- some key of a question is in no attached part's range -/
def rmh (σ : Sg) (lo hi : Int) : Prop := ∃ k : Int, lo ≤ k ∧ k ≤ hi ∧ pw σ k = 0
/-- a leaf may matter, as the class says it -/
def mayM (σ : Sg) (i : Nat) (leaf lo hi so : Int) : Prop := σ 4 i = 0 ∧ so ≠ 0 ∧ ((i = 0 ∧ rmh σ lo hi) ∨ (i ≠ 0 ∧ mayH (σ 0 i) (σ 1 i) (σ 2 i) (σ 3 i) leaf lo hi so))
/-- the rows of a leaf that fit -/
noncomputable def cil (σ : Sg) (i : Nat) (leaf lo hi so : Int) : Int := cnt (fun j => live σ j ∧ (pn σ j = i ∧ lfr σ j = leaf) ∧ (lo ≤ σ 6 j ∧ σ 6 j ≤ hi ∧ hbit so (σ 7 j))) (nrN σ)
noncomputable def cip (σ : Sg) (i : Nat) (lo hi so : Int) : Int := csm (fun w => mayM σ i (w : Int) lo hi so) (fun w => cil σ i (w : Int) lo hi so) (lvs (σ 2 i) (σ 3 i)).toNat
noncomputable def rdp (σ : Sg) (i : Nat) (lo hi so : Int) : Int := cnt (fun w => mayM σ i (w : Int) lo hi so) (lvs (σ 2 i) (σ 3 i)).toNat
noncomputable def cntA (σ : Sg) (lo hi so : Int) : Int := csm (fun i => (i : Int) ≤ σ 9 0) (fun i => cip σ i lo hi so) 16
noncomputable def rdA (σ : Sg) (lo hi so : Int) : Int := csm (fun i => (i : Int) ≤ σ 9 0) (fun i => rdp σ i lo hi so) 16
/-! the hops of restMayHold -/
def Pk (σ : Sg) (ky : Int) : Nat → Prop := fun i => 1 ≤ i ∧ (i : Int) ≤ σ 9 0 ∧ σ 4 i = 0 ∧ σ 1 i ≤ ky
theorem cnt_le {P P' : Nat → Prop} (h : ∀ i, P i → P' i) : ∀ n, cnt P n ≤ cnt P' n := by
  intro n
  induction n with
  | zero => exact Int.le_refl _
  | succ n ih =>
    by_cases q : P n
    · rw [cnt_t q, cnt_t (h n q)]; omega
    · rw [cnt_f q]
      have := b2_01 (P' n)
      rw [cnt]
      omega
theorem cnt_lt {P P' : Nat → Prop} (h : ∀ i, P i → P' i) {w : Nat} (h1 : ¬ P w) (h2 : P' w) : ∀ n, w < n → cnt P n + 1 ≤ cnt P' n := by
  intro n
  induction n with
  | zero => intro q; omega
  | succ n ih =>
    intro q
    rcases Nat.lt_succ_iff_lt_or_eq.mp q with q | rfl
    · have := ih q
      by_cases u : P n
      · rw [cnt_t u, cnt_t (h n u)]; omega
      · rw [cnt_f u]
        have := b2_01 (P' n)
        rw [cnt]
        omega
    · have := cnt_le h w
      rw [cnt_f h1, cnt_t h2]
      omega
theorem cnt_off0 {P : Nat → Prop} (h : ¬ P 0) : ∀ n, cnt P (n + 1) ≤ n := by
  intro n
  induction n with
  | zero => rw [cnt_f h]; exact Int.le_refl _
  | succ n ih =>
    have := b2_01 (P (n + 1))
    rw [cnt]
    omega
theorem Pk_le (σ : Sg) (ky : Int) : cnt (Pk σ ky) 16 ≤ 15 := cnt_off0 (P := Pk σ ky) (fun q => by have := q.1; omega) 15
theorem rm_step {σ : Sg} (hI : Ib σ) {lo ky : Int} (hw : pw σ ky ≠ 0) (ea : ∀ k : Int, lo ≤ k → k < ky → pw σ k ≠ 0) : (∀ k : Int, lo ≤ k → k < σ 1 (pw σ ky) → pw σ k ≠ 0) ∧ cnt (Pk σ ky) 16 + 1 ≤ cnt (Pk σ (σ 1 (pw σ ky))) 16 ∧ ky < σ 1 (pw σ ky) := by
  have hnp := hI.hnp
  rcases pw_is hI ky with ⟨h1, -⟩ | ⟨h1, h2, h3, h4, h5⟩
  · exact absurd h1 hw
  · refine ⟨fun k a b => ?_, ?_, h5⟩
    · by_cases q : k < ky
      · exact ea k a q
      · intro u
        rcases pw_is hI k with ⟨-, g⟩ | ⟨g, -⟩
        · exact g _ h1 h2 ⟨h3, by omega, b⟩
        · omega
    · refine cnt_lt (fun i q => ⟨q.1, q.2.1, q.2.2.1, by have := q.2.2.2; omega⟩) (w := pw σ ky) (fun q => by have := q.2.2.2; omega) ⟨h1, h2, h3, Int.le_refl _⟩ 16 (by omega)
