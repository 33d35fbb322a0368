/-! WHAT THE METHODS ANSWER, in σ -/
theorem ret_t {P : Prop} (h : P) : (some (Value.int (iI 1)) : Option Value) = some (.int (iI (b2 P))) := by rw [b2_t h]
theorem ret_f {P : Prop} (h : ¬ P) : (some (Value.int (iI 0)) : Option Value) = some (.int (iI (b2 P))) := by rw [b2_f h]
theorem ret_c {P P' : Prop} (h : P ↔ P') : (some (Value.int (iI (b2 P))) : Option Value) = some (.int (iI (b2 P'))) := by rw [b2_c h]
theorem ret_e {a b : Int} (h : a = b) : (some (Value.int (iI a)) : Option Value) = some (.int (iI b)) := by rw [h]
/-- a set of sorts has a sort -/
def hbit (so sr : Int) : Prop := so / 2 ^ sr.toNat % 2 = 1
/-- how many leaves; which leaf -/
noncomputable def lvs (k d : Int) : Int := if k = 1 then 2 else if k = 2 then d else 1
theorem lvs_1 {k d : Int} (h : k = 1) : lvs k d = 2 := if_pos h
theorem lvs_2 {k d : Int} (h : k = 2) : lvs k d = d := by unfold lvs; rw [if_neg (by omega), if_pos h]
theorem lvs_0 {k d : Int} (h1 : k ≠ 1) (h2 : k ≠ 2) : lvs k d = 1 := by unfold lvs; rw [if_neg h1, if_neg h2]
noncomputable def lf (k d key sr : Int) : Int := if k = 1 then 1 - b2 (hbit d sr) else if k = 2 then (7 * key + 3) % d else 0
theorem lf_1t {k d key sr : Int} (h : k = 1) (hb : hbit d sr) : lf k d key sr = 0 := by unfold lf; rw [if_pos h, b2_t hb]; rfl
theorem lf_1f {k d key sr : Int} (h : k = 1) (hb : ¬ hbit d sr) : lf k d key sr = 1 := by unfold lf; rw [if_pos h, b2_f hb]; rfl
theorem lf_2 {k d key sr : Int} (h : k = 2) : lf k d key sr = (7 * key + 3) % d := by unfold lf; rw [if_neg (by omega), if_pos h]
theorem lf_0 {k d key sr : Int} (h1 : k ≠ 1) (h2 : k ≠ 2) : lf k d key sr = 0 := by unfold lf; rw [if_neg h1, if_neg h2]
theorem lf_rg {k d key sr : Int} (hd : k = 2 → 0 < d ∧ d ≤ 5) : 0 ≤ lf k d key sr ∧ lf k d key sr ≤ 4 := by
  by_cases h1 : k = 1
  · by_cases hb : hbit d sr
    · rw [lf_1t h1 hb]; omega
    · rw [lf_1f h1 hb]; omega
  · by_cases h2 : k = 2
    · rw [lf_2 h2]
      have := hd h2
      have a1 := Int.emod_nonneg (7 * key + 3) (b := d) (by omega)
      have a2 := Int.emod_lt_of_pos (7 * key + 3) (b := d) (by omega)
      omega
    · rw [lf_0 h1 h2]; omega
def sbl (d leaf : Int) : Int := if leaf = 0 then d else 1023 - d
theorem sbl_0 {d leaf : Int} (h : leaf = 0) : sbl d leaf = d := if_pos h
theorem sbl_1 {d leaf : Int} (h : leaf ≠ 0) : sbl d leaf = 1023 - d := if_neg h
theorem sbl_rg {d leaf : Int} (h0 : 0 ≤ d) (h1 : d ≤ 1022) : 0 ≤ sbl d leaf ∧ sbl d leaf ≤ 1023 := by
  by_cases h : leaf = 0
  · rw [sbl_0 h]; omega
  · rw [sbl_1 h]; omega
/-- some key of the first d (or fewer) has the leaf by the hash -/
def hre (d leaf fi la : Int) : Prop := ∃ i : Nat, fi + i ≤ min la (fi + d - 1) ∧ (7 * (fi + i) + 3) % d = leaf
def mayH (f t k d leaf lo hi so : Int) : Prop := max f lo ≤ min (t - 1) hi ∧ ((k = 1 ∧ ((so.toNat &&& (sbl d leaf).toNat : Nat) : Int) ≠ 0) ∨ (k = 2 ∧ so ≠ 0 ∧ hre d leaf (max f lo) (min (t - 1) hi)) ∨ (k ≠ 1 ∧ k ≠ 2 ∧ so ≠ 0))
/-- the numbers are in their bounds -/
def Ib (σ : Sg) : Prop :=
  (0 ≤ σ 9 0 ∧ σ 9 0 ≤ 15) ∧ (0 ≤ σ 10 0 ∧ σ 10 0 ≤ 200) ∧ (0 ≤ σ 11 0 ∧ σ 11 0 ≤ 1) ∧ (∀ g i : Nat, -1 ≤ σ g i ∧ σ g i ≤ 1022) ∧
  (∀ g : Nat, g < 5 → σ g 0 = 0) ∧
  (∀ i : Nat, (i : Int) ≤ σ 9 0 → (0 ≤ σ 0 i ∧ σ 0 i ≤ 999) ∧ (0 ≤ σ 1 i ∧ σ 1 i ≤ 1000) ∧ (0 ≤ σ 4 i ∧ σ 4 i ≤ 2) ∧ ((σ 2 i = 0 ∧ σ 3 i = 0) ∨ (σ 2 i = 1 ∧ 1 ≤ σ 3 i ∧ σ 3 i ≤ 1022) ∨ (σ 2 i = 2 ∧ 1 ≤ σ 3 i ∧ σ 3 i ≤ 5))) ∧
  (∀ j : Nat, live σ j → (0 ≤ σ 5 j ∧ σ 5 j ≤ σ 9 0) ∧ (0 ≤ σ 6 j ∧ σ 6 j ≤ 999) ∧ (0 ≤ σ 7 j ∧ σ 7 j ≤ 9) ∧ (0 ≤ σ 8 j ∧ σ 8 j ≤ 99))
/-- .. and what the calls keep: ranges are not empty; those of attached parts are apart; a row lies where its key is -/
def Iv (σ : Sg) : Prop := Ib σ ∧
  (∀ i : Nat, 1 ≤ i → (i : Int) ≤ σ 9 0 → σ 0 i < σ 1 i) ∧
  (∀ i i' : Nat, 1 ≤ i → (i : Int) ≤ σ 9 0 → 1 ≤ i' → (i' : Int) ≤ σ 9 0 → i ≠ i' → σ 4 i = 0 → σ 4 i' = 0 → σ 1 i ≤ σ 0 i' ∨ σ 1 i' ≤ σ 0 i) ∧
  (∀ j : Nat, live σ j → σ 4 (pn σ j) ≠ 2 ∧ (1 ≤ pn σ j → σ 0 (pn σ j) ≤ σ 6 j ∧ σ 6 j < σ 1 (pn σ j)) ∧ (pn σ j = 0 → ∀ i : Nat, 1 ≤ i → (i : Int) ≤ σ 9 0 → σ 4 i = 0 → ¬ (σ 0 i ≤ σ 6 j ∧ σ 6 j < σ 1 i)))
theorem Ib.hnp {σ : Sg} (h : Ib σ) : 0 ≤ σ 9 0 ∧ σ 9 0 ≤ 15 := h.1
theorem Ib.hnr {σ : Sg} (h : Ib σ) : 0 ≤ σ 10 0 ∧ σ 10 0 ≤ 200 := h.2.1
theorem Ib.bd {σ : Sg} (h : Ib σ) (g i : Nat) : -1 ≤ σ g i ∧ σ g i ≤ 1022 := h.2.2.2.1 g i
theorem Ib.rest {σ : Sg} (h : Ib σ) : σ 0 0 = 0 ∧ σ 1 0 = 0 ∧ σ 2 0 = 0 ∧ σ 3 0 = 0 ∧ σ 4 0 = 0 := ⟨h.2.2.2.2.1 0 (by decide), h.2.2.2.2.1 1 (by decide), h.2.2.2.2.1 2 (by decide), h.2.2.2.2.1 3 (by decide), h.2.2.2.2.1 4 (by decide)⟩
theorem Ib.part {σ : Sg} (h : Ib σ) (i : Nat) (hi : (i : Int) ≤ σ 9 0) : (0 ≤ σ 0 i ∧ σ 0 i ≤ 999) ∧ (0 ≤ σ 1 i ∧ σ 1 i ≤ 1000) ∧ (0 ≤ σ 4 i ∧ σ 4 i ≤ 2) ∧ ((σ 2 i = 0 ∧ σ 3 i = 0) ∨ (σ 2 i = 1 ∧ 1 ≤ σ 3 i ∧ σ 3 i ≤ 1022) ∨ (σ 2 i = 2 ∧ 1 ≤ σ 3 i ∧ σ 3 i ≤ 5)) := h.2.2.2.2.2.1 i hi
theorem Ib.row {σ : Sg} (h : Ib σ) (j : Nat) (hj : live σ j) : (0 ≤ σ 5 j ∧ σ 5 j ≤ σ 9 0) ∧ (0 ≤ σ 6 j ∧ σ 6 j ≤ 999) ∧ (0 ≤ σ 7 j ∧ σ 7 j ≤ 9) ∧ (0 ≤ σ 8 j ∧ σ 8 j ≤ 99) := h.2.2.2.2.2.2 j hj
theorem Ib.pnI {σ : Sg} (h : Ib σ) (j : Nat) (hj : live σ j) : (pn σ j : Int) = σ 5 j ∧ (pn σ j : Int) ≤ σ 9 0 ∧ pn σ j ≤ 15 := by
  have h1 := (h.row j hj).1
  have h2 := h.hnp
  have h3 : (pn σ j : Int) = σ 5 j := Int.toNat_of_nonneg h1.1
  exact ⟨h3, by omega, by omega⟩
/-- what leafFor wants of a part -/
theorem Ib.kd {σ : Sg} (h : Ib σ) (i : Nat) (hi : (i : Int) ≤ σ 9 0) : σ 2 i = 2 → 0 < σ 3 i ∧ σ 3 i ≤ 5 := by
  have := (h.part i hi).2.2.2
  omega
/-- the leaf of the row j -/
noncomputable def lfr (σ : Sg) (j : Nat) : Int := lf (σ 2 (pn σ j)) (σ 3 (pn σ j)) (σ 6 j) (σ 7 j)
/-- the row j fits a question -/
def fitq (σ : Sg) (j : Nat) (lo hi so : Int) : Prop := lo ≤ σ 6 j ∧ σ 6 j ≤ hi ∧ hbit so (σ 7 j)
def nrN (σ : Sg) : Nat := (σ 10 0).toNat
def npN (σ : Sg) : Nat := (σ 9 0).toNat
theorem Ib.nrI {σ : Sg} (h : Ib σ) : (nrN σ : Int) = σ 10 0 ∧ nrN σ ≤ 200 := by
  have h1 := h.hnr
  have h3 : (nrN σ : Int) = σ 10 0 := Int.toNat_of_nonneg h1.1
  exact ⟨h3, by omega⟩
theorem Ib.npI {σ : Sg} (h : Ib σ) : (npN σ : Int) = σ 9 0 ∧ npN σ ≤ 15 := by
  have h1 := h.hnp
  have h3 : (npN σ : Int) = σ 9 0 := Int.toNat_of_nonneg h1.1
  exact ⟨h3, by omega⟩
/-- a count over all places is one over the rows -/
theorem cntN {σ : Sg} (hI : Ib σ) {P : Nat → Prop} (h : ∀ j, P j → live σ j) : cnt P 200 = cnt P (nrN σ) := by
  have := hI.nrI
  exact cnt_cut this.2 (fun j h1 _ q => by have := (h j q).1; omega)
/-- the attached part with a key, or 0 -/
noncomputable def pw (σ : Sg) (k : Int) : Nat := fnd (fun i => σ 4 i = 0 ∧ σ 0 i ≤ k ∧ k < σ 1 i) 1 (npN σ)
/-- a range overlaps that of an attached part -/
def ovl (σ : Sg) (lo en : Int) : Prop := ∃ i : Nat, 1 ≤ i ∧ (i : Int) ≤ σ 9 0 ∧ σ 4 i = 0 ∧ lo < σ 1 i ∧ σ 0 i < en
/-- the rest has a row with a key of a range -/
def inR (σ : Sg) (lo en : Int) : Prop := ∃ j : Nat, live σ j ∧ σ 5 j = 0 ∧ lo ≤ σ 6 j ∧ σ 6 j < en
/-- a row of the part i has a key out of the range of the part i' -/
def forn (σ : Sg) (i i' : Nat) : Prop := ∃ j : Nat, live σ j ∧ pn σ j = i ∧ ¬ (σ 0 i' ≤ σ 6 j ∧ σ 6 j < σ 1 i')
/-- a part's range, kind and detail are of the document's -/
def okR (lo en : Int) : Prop := (0 ≤ lo ∧ lo ≤ 999) ∧ lo < en ∧ en ≤ 1000
def okK (k d : Int) : Prop := (k = 0 ∧ d = 0) ∨ (k = 1 ∧ 1 ≤ d ∧ d ≤ 1022) ∨ (k = 2 ∧ 1 ≤ d ∧ d ≤ 5)
def okQ (lo hi so : Int) : Prop := (0 ≤ lo ∧ lo ≤ 999) ∧ (lo ≤ hi ∧ hi ≤ 999) ∧ (0 ≤ so ∧ so ≤ 1023)
/-- a row's part, number p: made, not the rest, not gone -/
def isP (σ : Sg) (p : Int) : Prop := 1 ≤ p ∧ p ≤ σ 9 0 ∧ σ 4 p.toNat ≠ 2
/-- .. or the rest -/
def isA (σ : Sg) (p : Int) : Prop := p = 0 ∨ isP σ p
def isR (σ : Sg) (r : Int) : Prop := 0 ≤ r ∧ r < σ 10 0 ∧ σ 5 r.toNat ≠ -1
def isL (σ : Sg) (p lf : Int) : Prop := isA σ p ∧ 0 ≤ lf ∧ lf < lvs (σ 2 p.toNat) (σ 3 p.toNat)
def mdt (k : Int) : Int := if k = 1 then 1022 else if k = 2 then 5 else 0
theorem mdt_1 {k : Int} (h : k = 1) : mdt k = 1022 := if_pos h
theorem mdt_2 {k : Int} (h : k = 2) : mdt k = 5 := by unfold mdt; rw [if_neg (by omega), if_pos h]
theorem mdt_0 {k : Int} (h1 : k ≠ 1) (h2 : k ≠ 2) : mdt k = 0 := by unfold mdt; rw [if_neg h1, if_neg h2]
theorem mdt_c (k : Int) : (k = 1 ∧ mdt k = 1022) ∨ (k = 2 ∧ mdt k = 5) ∨ (k ≠ 1 ∧ k ≠ 2 ∧ mdt k = 0) := by
  by_cases h1 : k = 1
  · exact Or.inl ⟨h1, mdt_1 h1⟩
  · by_cases h2 : k = 2
    · exact Or.inr (Or.inl ⟨h2, mdt_2 h2⟩)
    · exact Or.inr (Or.inr ⟨h1, h2, mdt_0 h1 h2⟩)
