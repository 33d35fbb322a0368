/-! THE REFERENCE: lemmas for its loops and its arrays -/
theorem bs_k {Q : Nat → Prop} {a : Int} {n : Nat} (ea : a = b2 (∃ j : Nat, j < n ∧ Q j)) (h : a ≠ 0) : (1 : Int) = b2 (∃ j : Nat, j < n + 1 ∧ Q j) := by
  by_cases q : ∃ j : Nat, j < n ∧ Q j
  · obtain ⟨j, h1, h2⟩ := q
    exact (b2_t ⟨j, by omega, h2⟩).symm
  · rw [b2_f q] at ea
    exact absurd ea h
theorem bs_t {Q : Nat → Prop} {n : Nat} (h : Q n) : (1 : Int) = b2 (∃ j : Nat, j < n + 1 ∧ Q j) := (b2_t ⟨n, by omega, h⟩).symm
theorem bs_f {Q : Nat → Prop} {a : Int} {n : Nat} (ea : a = b2 (∃ j : Nat, j < n ∧ Q j)) (h0 : a = 0) (h : ¬ Q n) : (0 : Int) = b2 (∃ j : Nat, j < n + 1 ∧ Q j) := by
  refine (b2_f (fun ⟨j, h1, h2⟩ => ?_)).symm
  by_cases q : j = n
  · subst q; exact h h2
  · rw [b2_t ⟨j, by omega, h2⟩] at ea
    omega
theorem bs_0 {Q : Nat → Prop} : (0 : Int) = b2 (∃ j : Nat, j < 0 ∧ Q j) := (b2_f (fun ⟨j, h, _⟩ => absurd h (by omega))).symm
theorem ba_0 {Q : Nat → Prop} : (1 : Int) = b2 (∀ j : Nat, j < 0 → Q j) := (b2_t (fun j h => absurd h (by omega))).symm
theorem ba_k {Q : Nat → Prop} {a : Int} {n : Nat} (ea : a = b2 (∀ j : Nat, j < n → Q j)) (h : a = 0) : (0 : Int) = b2 (∀ j : Nat, j < n + 1 → Q j) := by
  refine (b2_f (fun q => ?_)).symm
  rw [b2_t (fun j hj => q j (by omega))] at ea
  omega
theorem ba_t {Q : Nat → Prop} {a : Int} {n : Nat} (ea : a = b2 (∀ j : Nat, j < n → Q j)) (h0 : a ≠ 0) (h : Q n) : (1 : Int) = b2 (∀ j : Nat, j < n + 1 → Q j) := by
  by_cases q : ∀ j : Nat, j < n → Q j
  · refine (b2_t (fun j hj => ?_)).symm
    by_cases w : j = n
    · subst w; exact h
    · exact q j (by omega)
  · rw [b2_f q] at ea
    exact absurd ea h0
theorem ba_f {Q : Nat → Prop} {n : Nat} (h : ¬ Q n) : (0 : Int) = b2 (∀ j : Nat, j < n + 1 → Q j) := (b2_f (fun q => h (q n (by omega)))).symm
theorem cs_z {P : Nat → Prop} {a : Int} {n : Nat} (ea : a = cnt P n) (h : ¬ P n) : a + 0 = cnt P (n + 1) := by rw [Int.add_zero]; exact cs_f ea h
theorem upS_same (σ : Sg) (g i : Nat) : upS σ g i (σ g i) = σ := by
  funext g' i'
  unfold upS
  split
  · next q => rw [q.1, q.2]
  · rfl
theorem mvS_nr {σ : Sg} (hI : Ib σ) {i k : Nat} : mvS σ i k (nrN σ) = mvS σ i k 200 := by
  have hn := hI.nrI
  funext g j
  unfold mvS
  by_cases q : g = 5 ∧ j < nrN σ ∧ live σ j ∧ pn σ j = i ∧ σ 0 k ≤ σ 6 j ∧ σ 6 j < σ 1 k
  · rw [if_pos q, if_pos ⟨q.1, by omega, q.2.2⟩]
  · rw [if_neg q, if_neg (fun w => q ⟨w.1, by have := w.2.2.1.1; omega, w.2.2⟩)]
theorem swS_nr {σ : Sg} (hI : Ib σ) {i k : Nat} : swS σ i k (nrN σ) = swS σ i k 200 := by
  have hn := hI.nrI
  funext g j
  unfold swS
  by_cases q : g = 5 ∧ j < nrN σ ∧ live σ j
  · exact (if_pos q).trans (if_pos ⟨q.1, by omega, q.2.2⟩).symm
  · exact (if_neg q).trans (if_neg (fun w => q ⟨w.1, by have := w.2.2.1; omega, w.2.2⟩)).symm
section TopE
variable {p : Program} {l : Launch} {e : Env} {R : Room} {s : State} {m : MethodId} {args : Array Value} {below : List Frame} {meth : Method} {c : Code} {H : Heap} {locs : List Loc} {cells slots : Nat} {Q : State → Prop} {pc : Nat} {ls : Array Slot} {rest : List Value}
theorem j_topE {x y : Int} (e1 : x = y) (k : W p l e R s m args below meth c H locs cells slots Q (F0 m pc ls (.int (iI y) :: rest))) : W p l e R s m args below meth c H locs cells slots Q (F0 m pc ls (.int (iI x) :: rest)) := by
  rw [e1]; exact k
end TopE
theorem lv_1 {σ : Sg} {j : Nat} (h1 : (j : Int) < σ 10 0) (h2 : σ 5 j ≠ -1) : live σ j := ⟨h1, h2⟩
/-- a live row's part by number -/
theorem pn_is {σ : Sg} {j i : Nat} (h : σ 5 j = (i : Int)) : pn σ j = i := by unfold pn; rw [h]; exact Int.toNat_natCast i
theorem Ib.pn5 {σ : Sg} (hI : Ib σ) {j i : Nat} (hl : live σ j) (h : pn σ j = i) : σ 5 j = (i : Int) := by have := hI.pnI j hl; omega
theorem lf_1s {k d key sr : Int} (h : k = 1) : lf k d key sr = 1 - d / 2 ^ sr.toNat % 2 := by
  by_cases q : hbit d sr
  · rw [lf_1t h q]
    unfold hbit at q
    rw [q]
    rfl
  · rw [lf_1f h q]
    unfold hbit at q
    have : d / 2 ^ sr.toNat % 2 = 0 := by
      generalize d / 2 ^ sr.toNat = w at q ⊢
      omega
    rw [this]
    rfl
theorem bs_m {Q : Nat → Prop} {P : Prop} {a c : Int} {n : Nat} (ea : a = b2 (∃ j : Nat, j < n ∧ Q j)) (h0 : a = 0) (ec : c = b2 P) (h : Q n ↔ P) : c = b2 (∃ j : Nat, j < n + 1 ∧ Q j) := by
  by_cases q : P
  · rw [b2_t q] at ec
    rw [ec]
    exact bs_t (h.mpr q)
  · rw [b2_f q] at ec
    rw [ec]
    exact bs_f ea h0 (fun w => q (h.mp w))
theorem bs_y {Q : Nat → Prop} {P : Prop} {c : Int} {n : Nat} (ec : c = b2 P) (hc : c ≠ 0) (h : P → Q n) : c = b2 (∃ j : Nat, j < n + 1 ∧ Q j) := by
  by_cases q : P
  · rw [b2_t q] at ec
    rw [ec]
    exact bs_t (h q)
  · rw [b2_f q] at ec
    exact absurd ec hc
/-- what the reference's own search over keys and sorts finds -/
def thr (σ : Sg) (i : Nat) (k : Int) : Prop := (i = 0 ∧ pw σ k = 0) ∨ (i ≠ 0 ∧ σ 0 i ≤ k ∧ k < σ 1 i)
def mmQ (σ : Sg) (i : Nat) (leaf so k : Int) (b : Nat) : Prop := thr σ i k ∧ so / 2 ^ b % 2 = 1 ∧ lf (σ 2 i) (σ 3 i) k (b : Int) = leaf
def mM (σ : Sg) (i : Nat) (leaf lo hi so : Int) : Prop := ¬ (1 ≤ i ∧ σ 4 i ≠ 0) ∧ so ≠ 0 ∧ ∃ a : Nat, lo + (a : Int) ≤ hi ∧ ∃ b : Nat, b < 10 ∧ mmQ σ i leaf so (lo + (a : Int)) b
