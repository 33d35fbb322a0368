/-! WHAT MAY MATTER: as the class reckons it, as the reference searches it -/
theorem bit_ex {w : Int} (h0 : w ≠ 0) (h1 : 0 ≤ w) (h2 : w ≤ 1023) : ∃ b : Nat, b < 10 ∧ w / 2 ^ b % 2 = 1 := by
  apply Classical.byContradiction
  intro q
  have e : ∀ b : Nat, b < 10 → w / 2 ^ b % 2 ≠ 1 := fun b hb r => q ⟨b, hb, r⟩
  have e0 := e 0 (by decide)
  have e1 := e 1 (by decide)
  have e2 := e 2 (by decide)
  have e3 := e 3 (by decide)
  have e4 := e 4 (by decide)
  have e5 := e 5 (by decide)
  have e6 := e 6 (by decide)
  have e7 := e 7 (by decide)
  have e8 := e 8 (by decide)
  have e9 := e 9 (by decide)
  omega
theorem bit_n {x : Nat} {b : Nat} : (x : Int) / 2 ^ b % 2 = 1 ↔ x.testBit b = true := by
  rw [Nat.testBit_eq_decide_div_mod_eq, decide_eq_true_iff]
  have : (x : Int) / 2 ^ b % 2 = ((x / 2 ^ b % 2 : Nat) : Int) := by
    rw [Int.natCast_emod, Int.natCast_ediv, Int.natCast_pow]
    rfl
  rw [this]
  omega
/-- two sets of sorts have a sort in common -/
theorem and_ex {x y : Int} (hx : 0 ≤ x ∧ x ≤ 1023) (hy : 0 ≤ y) : ((x.toNat &&& y.toNat : Nat) : Int) ≠ 0 ↔ ∃ b : Nat, b < 10 ∧ x / 2 ^ b % 2 = 1 ∧ y / 2 ^ b % 2 = 1 := by
  obtain ⟨a, rfl⟩ : ∃ a : Nat, x = (a : Int) := ⟨x.toNat, by omega⟩
  obtain ⟨c, rfl⟩ : ∃ c : Nat, y = (c : Int) := ⟨y.toNat, by omega⟩
  rw [Int.toNat_natCast, Int.toNat_natCast]
  have hle : a &&& c ≤ a := Nat.and_le_left
  constructor
  · intro h
    obtain ⟨b, hb, r⟩ := bit_ex h (by omega) (by omega)
    rw [bit_n, Nat.testBit_and, Bool.and_eq_true] at r
    exact ⟨b, hb, bit_n.mpr r.1, bit_n.mpr r.2⟩
  · rintro ⟨b, hb, r1, r2⟩ h
    have h0 : a &&& c = 0 := by omega
    have : (a &&& c).testBit b = true := by rw [Nat.testBit_and, bit_n.mp r1, bit_n.mp r2]; rfl
    rw [h0, Nat.zero_testBit] at this
    cases this
theorem bit_c {d : Int} (h0 : 0 ≤ d) (h1 : d ≤ 1023) {b : Nat} (hb : b < 10) : (1023 - d) / 2 ^ b % 2 = 1 ↔ ¬ d / 2 ^ b % 2 = 1 := by
  rcases (show b = 0 ∨ b = 1 ∨ b = 2 ∨ b = 3 ∨ b = 4 ∨ b = 5 ∨ b = 6 ∨ b = 7 ∨ b = 8 ∨ b = 9 by omega) with q | q | q | q | q | q | q | q | q | q <;> subst q <;> omega
/-- as many keys in a row as there are leaves have all remainders -/
theorem hre_iff {d leaf fi la : Int} (hd : 0 < d) : hre d leaf fi la ↔ ∃ a : Nat, fi + (a : Int) ≤ la ∧ (7 * (fi + (a : Int)) + 3) % d = leaf := by
  constructor
  · rintro ⟨i, h1, h2⟩
    exact ⟨i, by omega, h2⟩
  · rintro ⟨a, h1, h2⟩
    obtain ⟨D, rfl⟩ : ∃ D : Nat, d = (D : Int) := ⟨d.toNat, by omega⟩
    have hm : a % D < D := Nat.mod_lt _ (by omega)
    have hle : a % D ≤ a := Nat.mod_le _ _
    refine ⟨a % D, by omega, ?_⟩
    rw [← h2]
    have ha : (a : Int) = (D : Int) * ((a / D : Nat) : Int) + ((a % D : Nat) : Int) := by
      have := Nat.div_add_mod a D
      rw [← Int.natCast_mul]
      omega
    have : 7 * (fi + (a : Int)) + 3 = 7 * (fi + ((a % D : Nat) : Int)) + 3 + (D : Int) * (7 * ((a / D : Nat) : Int)) := by
      rw [ha, Int.mul_left_comm (D : Int) 7]
      omega
    rw [this, Int.add_mul_emod_self_left]
/-- a leaf may matter: both say the same -/
theorem may_iff {σ : Sg} (hI : Ib σ) {i : Nat} (hi : (i : Int) ≤ σ 9 0) {leaf lo hh so : Int} (hl : 0 ≤ leaf ∧ leaf < lvs (σ 2 i) (σ 3 i)) (h0 : 0 ≤ lo) (hs : 0 ≤ so ∧ so ≤ 1023) : mayM σ i leaf lo hh so ↔ mM σ i leaf lo hh so := by
  have hp := hI.part i hi
  have hre := hI.rest
  have hset : so ≠ 0 → ∃ b : Nat, b < 10 ∧ so / 2 ^ b % 2 = 1 := fun q => bit_ex q hs.1 hs.2
  by_cases i0 : i = 0
  · subst i0
    have hk : σ 2 0 = 0 := hre.2.2.1
    rw [hk, lvs_0 (by decide) (by decide)] at hl
    constructor
    · rintro ⟨a, b, c⟩
      obtain ⟨k, k1, k2, k3⟩ := (c.resolve_right (fun w => w.1 rfl)).2
      obtain ⟨n, hn, hb⟩ := hset b
      have ek : lo + ((k - lo).toNat : Int) = k := by omega
      refine ⟨fun w => absurd w.1 (by omega), b, (k - lo).toNat, by omega, n, hn, ?_, hb, ?_⟩
      · rw [ek]; exact Or.inl ⟨rfl, k3⟩
      · rw [hk, lf_0 (by decide) (by decide)]; omega
    · rintro ⟨a, b, n, hn, m, hm, ht, -, -⟩
      refine ⟨hre.2.2.2.2, b, Or.inl ⟨rfl, lo + (n : Int), by omega, hn, ?_⟩⟩
      exact (ht.resolve_right (fun w => w.1 rfl)).2
  · have hth : ∀ k, thr σ i k ↔ σ 0 i ≤ k ∧ k < σ 1 i := fun k => ⟨fun w => (w.resolve_left (fun u => i0 u.1)).2, fun w => Or.inr ⟨i0, w⟩⟩
    have main : so ≠ 0 → (mayH (σ 0 i) (σ 1 i) (σ 2 i) (σ 3 i) leaf lo hh so ↔ ∃ a : Nat, lo + (a : Int) ≤ hh ∧ ∃ b : Nat, b < 10 ∧ mmQ σ i leaf so (lo + (a : Int)) b) := by
      intro hso
      rcases hp.2.2.2 with ⟨k0, d0⟩ | ⟨k1, d1, d2⟩ | ⟨k2, d1, d2⟩
      · rw [k0, lvs_0 (by decide) (by decide)] at hl
        constructor
        · rintro ⟨a, -⟩
          obtain ⟨n, hn, hb⟩ := hset hso
          have ek : lo + ((max (σ 0 i) lo - lo).toNat : Int) = max (σ 0 i) lo := by omega
          refine ⟨(max (σ 0 i) lo - lo).toNat, by omega, n, hn, ?_, hb, ?_⟩
          · rw [ek, hth]; omega
          · rw [k0, lf_0 (by decide) (by decide)]; omega
        · rintro ⟨a, ha, b, hb, ht, -, -⟩
          have := (hth _).mp ht
          exact ⟨by omega, Or.inr (Or.inr ⟨by omega, by omega, hso⟩)⟩
      · rw [lvs_1 k1] at hl
        have hsb := sbl_rg (d := σ 3 i) (leaf := leaf) (by omega) (by omega)
        have hleaf : ∀ (key : Int) (b : Nat), b < 10 → (lf (σ 2 i) (σ 3 i) key (b : Int) = leaf ↔ sbl (σ 3 i) leaf / 2 ^ b % 2 = 1) := by
          intro key b hb
          have hbt : hbit (σ 3 i) (b : Int) ↔ σ 3 i / 2 ^ b % 2 = 1 := by unfold hbit; rw [Int.toNat_natCast]
          by_cases w : hbit (σ 3 i) (b : Int)
          · rw [lf_1t k1 w]
            by_cases l0 : leaf = 0
            · rw [sbl_0 l0]; exact ⟨fun _ => hbt.mp w, fun _ => l0.symm⟩
            · rw [sbl_1 l0, bit_c (by omega) (by omega) hb]; exact ⟨fun u => absurd u.symm l0, fun u => absurd (hbt.mp w) u⟩
          · rw [lf_1f k1 w]
            by_cases l0 : leaf = 0
            · rw [sbl_0 l0]; exact ⟨fun u => by omega, fun u => absurd (hbt.mpr u) w⟩
            · rw [sbl_1 l0, bit_c (by omega) (by omega) hb]; exact ⟨fun _ u => w (hbt.mpr u), fun _ => by omega⟩
        constructor
        · rintro ⟨a, c⟩
          rcases c with ⟨-, c⟩ | ⟨c, -⟩ | ⟨c, -⟩
          · obtain ⟨b, hb, r1, r2⟩ := (and_ex hs hsb.1).mp c
            have ek : lo + ((max (σ 0 i) lo - lo).toNat : Int) = max (σ 0 i) lo := by omega
            exact ⟨(max (σ 0 i) lo - lo).toNat, by omega, b, hb, by rw [ek, hth]; omega, r1, (hleaf _ b hb).mpr r2⟩
          · omega
          · omega
        · rintro ⟨a, ha, b, hb, ht, r1, r2⟩
          have := (hth _).mp ht
          exact ⟨by omega, Or.inl ⟨k1, (and_ex hs hsb.1).mpr ⟨b, hb, r1, (hleaf _ b hb).mp r2⟩⟩⟩
      · constructor
        · rintro ⟨a, c⟩
          rcases c with ⟨c, -⟩ | ⟨-, -, c⟩ | ⟨-, c, -⟩
          · omega
          · obtain ⟨n, hn, hb⟩ := hset hso
            obtain ⟨y, y1, y2⟩ := (hre_iff (by omega)).mp c
            have ek : lo + ((max (σ 0 i) lo + (y : Int) - lo).toNat : Int) = max (σ 0 i) lo + (y : Int) := by omega
            refine ⟨(max (σ 0 i) lo + (y : Int) - lo).toNat, by omega, n, hn, ?_, hb, ?_⟩
            · rw [ek, hth]; omega
            · rw [ek, lf_2 k2]; exact y2
          · omega
        · rintro ⟨a, ha, b, hb, ht, r1, r2⟩
          have := (hth _).mp ht
          rw [lf_2 k2] at r2
          refine ⟨by omega, Or.inr (Or.inl ⟨k2, hso, (hre_iff (by omega)).mpr ⟨(lo + (a : Int) - max (σ 0 i) lo).toNat, by omega, ?_⟩⟩)⟩
          rw [show max (σ 0 i) lo + ((lo + (a : Int) - max (σ 0 i) lo).toNat : Int) = lo + (a : Int) by omega]
          exact r2
    constructor
    · rintro ⟨a, b, c⟩
      exact ⟨fun w => w.2 a, b, (main b).mp (c.resolve_left (fun w => i0 w.1)).2⟩
    · rintro ⟨a, b, c⟩
      exact ⟨Classical.byContradiction (fun w => a ⟨by omega, w⟩), b, Or.inr ⟨i0, (main b).mpr c⟩⟩
