/-! p27: THE LAW, a turn: what stands at its head -/
def LwP (cI cP cR : ClassId) (x ka : Nat) (σ : Sg) (ni : Nat) (rem st : Int) (h : Hp) : Prop := Iv σ ∧ CRx cP cR x σ h ∧ (∃ f : Nat → Int32, h ka = some (arI cI 64 f) ∧ ∀ j, live σ j → f j = iI (σ 6 j)) ∧ σ 10 0 = (ni : Int) ∧ ni ≤ 64 ∧ nLv σ = (ni : Int) - rem ∧ σ 11 0 = st
theorem Kk.kf {σ σ2 : Sg} {f : Nat → Int32} (h : Kk σ σ2) (w : ∀ j, live σ j → f j = iI (σ 6 j)) : ∀ j, live σ2 j → f j = iI (σ2 6 j) := fun j q => by rw [(h j q).2]; exact w j (h j q).1
theorem Cg_kf {σ σ2 : Sg} {f : Nat → Int32} {n : Nat} {ky : Int} (h : ∀ j : Nat, live σ2 j → live σ j ∧ ((j : Int) = (n : Int) → σ2 6 j = ky) ∧ ((j : Int) ≠ (n : Int) → σ2 6 j = σ 6 j)) (w : ∀ j, live σ j → f j = iI (σ 6 j)) : ∀ j, live σ2 j → upd f n (iI ky) j = iI (σ2 6 j) := fun j q => by
  obtain ⟨a, b, d⟩ := h j q
  by_cases u : j = n
  · rw [b (by omega), u, upd_s]
  · rw [d (by omega), upd_o u]; exact w j a
theorem upd_id (f : Nat → Int32) (n : Nat) : upd f n (iI (f n).toInt) = f := by
  funext j
  by_cases q : j = n
  · rw [q, upd_s]; exact (iI_of (f n)).symm
  · exact upd_o q
theorem kf_row {σ : Sg} (hI : Ib σ) {f : Nat → Int32} (w : ∀ j, live σ j → f j = iI (σ 6 j)) {n : Nat} (hR : isR σ (n : Int)) : (f n).toInt = σ 6 (n : Int).toNat := by
  have hl := isR_j.mp hR
  have := hI.row n hl
  rw [w n hl, Int.toNat_natCast]
  exact iI_t ⟨by omega, by omega⟩

