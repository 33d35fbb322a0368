/-! whole numbers as Int, the machine's by iI; truth values by b2; counts -/
def iI (a : Int) : Int32 := Int32.ofInt a
abbrev rg (a : Int) : Prop := -2147483648 ≤ a ∧ a < 2147483648
theorem iI_t {a : Int} (h : rg a) : (iI a).toInt = a := Int32.toInt_ofInt_of_le (by omega) (by omega)
theorem iI_of (x : Int32) : x = iI x.toInt := (Int32.ofInt_toInt x).symm
theorem iI_rg (x : Int32) : rg x.toInt := ⟨by have := Int32.le_toInt x; omega, by have := Int32.toInt_lt x; omega⟩
theorem iI_add (a b : Int) : iI a + iI b = iI (a + b) := (Int32.ofInt_add a b).symm
theorem iI_sub (a b : Int) : iI a - iI b = iI (a - b) := (Int32.ofInt_sub a b).symm
theorem iI_mul (a b : Int) : iI a * iI b = iI (a * b) := (Int32.ofInt_mul a b).symm
theorem iI_lt {a b : Int} (ha : rg a) (hb : rg b) : iI a < iI b ↔ a < b := by rw [Int32.lt_iff_toInt_lt, iI_t ha, iI_t hb]
theorem iI_le {a b : Int} (ha : rg a) (hb : rg b) : iI a ≤ iI b ↔ a ≤ b := by rw [Int32.le_iff_toInt_le, iI_t ha, iI_t hb]
theorem iI_eq {a b : Int} (ha : rg a) (hb : rg b) : iI a = iI b ↔ a = b := by rw [← Int32.toInt_inj, iI_t ha, iI_t hb]
theorem iI_0 : (0 : Int32) = iI 0 := by decide
theorem iI_nat (n : Nat) : iI (n : Int) = nI n := Int32.ofInt_eq_ofNat
theorem iI_clamp {a : Int} (h : rg a) : (iI a).toNatClampNeg = a.toNat := by
  show (iI a).toInt.toNat = a.toNat
  rw [iI_t h]
theorem iI_in {n N : Nat} (h : n < N) (hN : N ≤ 1000000) : vp_in (iI (n : Int)) N := by rw [iI_nat]; exact vp_in_nI h (by omega)
theorem iI_cn {n : Nat} (h : n < 1000000) : (iI (n : Int)).toNatClampNeg = n := by rw [iI_clamp ⟨by omega, by omega⟩]; rfl
/-- 1 where P holds, else 0 -/
noncomputable def b2 (P : Prop) : Int := @ite Int P (Classical.propDecidable P) 1 0
theorem b2_t {P : Prop} (h : P) : b2 P = 1 := if_pos h
theorem b2_f {P : Prop} (h : ¬ P) : b2 P = 0 := if_neg h
theorem b2_c {P P' : Prop} (h : P ↔ P') : b2 P = b2 P' := by rw [propext h]
theorem b2_01 (P : Prop) : b2 P = 0 ∨ b2 P = 1 := by
  by_cases h : P
  · exact Or.inr (b2_t h)
  · exact Or.inl (b2_f h)
theorem b2_iff (P : Prop) : b2 P = 1 ↔ P := by
  by_cases h : P
  · rw [b2_t h]; exact ⟨fun _ => h, fun _ => rfl⟩
  · rw [b2_f h]; exact ⟨fun q => by omega, fun q => absurd q h⟩
theorem b2_nb (P : Prop) : narrow .boolean (.int (iI (b2 P))) = .int (iI (b2 P)) := by
  rcases b2_01 P with h | h <;> rw [h] <;> decide
theorem b2_fb (P : Prop) : fits .boolean (.int (iI (b2 P))) = true := by
  rcases b2_01 P with h | h <;> rw [h] <;> decide
/-- how many of the first n have P -/
noncomputable def cnt (P : Nat → Prop) : Nat → Int
  | 0 => 0
  | n + 1 => cnt P n + b2 (P n)
theorem cnt_t {P : Nat → Prop} {n : Nat} (h : P n) : cnt P (n + 1) = cnt P n + 1 := by rw [cnt, b2_t h]
theorem cnt_f {P : Nat → Prop} {n : Nat} (h : ¬ P n) : cnt P (n + 1) = cnt P n := by rw [cnt, b2_f h]; omega
theorem cnt_rg (P : Nat → Prop) (n : Nat) : 0 ≤ cnt P n ∧ cnt P n ≤ n := by
  induction n with
  | zero => exact ⟨Int.le_refl _, Int.le_refl _⟩
  | succ n ih =>
    have h := b2_01 (P n)
    rw [cnt]
    omega
theorem cnt_c {P P' : Nat → Prop} {n : Nat} (h : ∀ i, i < n → (P i ↔ P' i)) : cnt P n = cnt P' n := by
  induction n with
  | zero => rfl
  | succ n ih => rw [cnt, cnt, ih (fun i hi => h i (Nat.lt_succ_of_lt hi)), b2_c (h n (Nat.lt_succ_self n))]
theorem cnt_more {P : Nat → Prop} {n k : Nat} (h : ∀ i, n ≤ i → i < n + k → ¬ P i) : cnt P (n + k) = cnt P n := by
  induction k with
  | zero => rfl
  | succ k ih => rw [← Nat.add_assoc, cnt_f (h (n + k) (by omega) (by omega)), ih (fun i h1 h2 => h i h1 (by omega))]
theorem cnt_cut {P : Nat → Prop} {n N : Nat} (hn : n ≤ N) (h : ∀ i, n ≤ i → i < N → ¬ P i) : cnt P N = cnt P n := by
  have := cnt_more (P := P) (n := n) (k := N - n) (fun i h1 h2 => h i h1 (by omega))
  rwa [show n + (N - n) = N by omega] at this
/-! for-all and there-is up to a bound, a step -/
theorem fa_s {P : Nat → Prop} {n : Nat} (h : ∀ i, i < n → P i) (hn : P n) : ∀ i, i < n + 1 → P i := fun i hi => by
  rcases Nat.lt_succ_iff_lt_or_eq.mp hi with q | rfl
  · exact h i q
  · exact hn
theorem ex_s {P : Nat → Prop} {n : Nat} (h : ∃ i, i < n ∧ P i) : ∃ i, i < n + 1 ∧ P i := by
  obtain ⟨i, h1, h2⟩ := h
  exact ⟨i, Nat.lt_succ_of_lt h1, h2⟩
theorem ex_n {P : Nat → Prop} {n : Nat} (h : P n) : ∃ i, i < n + 1 ∧ P i := ⟨n, Nat.lt_succ_self n, h⟩
theorem ex_f {P : Nat → Prop} {n : Nat} (h : ¬ ∃ i, i < n ∧ P i) (hn : ¬ P n) : ¬ ∃ i, i < n + 1 ∧ P i := fun ⟨i, h1, h2⟩ => by
  rcases Nat.lt_succ_iff_lt_or_eq.mp h1 with q | rfl
  · exact h ⟨i, q, h2⟩
  · exact hn h2
/-- the first of i, i+1 .. (n of them) with P; 0 if none -/
noncomputable def fnd (P : Nat → Prop) : Nat → Nat → Nat
  | _, 0 => 0
  | i, n + 1 => @ite Nat (P i) (Classical.propDecidable (P i)) i (fnd P (i + 1) n)
theorem fnd_t {P : Nat → Prop} {i n : Nat} (h : P i) : fnd P i (n + 1) = i := if_pos h
theorem fnd_f {P : Nat → Prop} {i n : Nat} (h : ¬ P i) : fnd P i (n + 1) = fnd P (i + 1) n := if_neg h
theorem fnd_at {P : Nat → Prop} {n : Nat} : ∀ {i k : Nat}, i ≤ k → k < i + n → (∀ j, i ≤ j → j < k → ¬ P j) → P k → fnd P i n = k := by
  induction n with
  | zero => intro i k h1 h2; omega
  | succ n ih =>
    intro i k h1 h2 h3 h4
    by_cases q : P i
    · rw [fnd_t q]
      rcases Nat.lt_or_ge i k with w | w
      · exact absurd q (h3 i (Nat.le_refl i) w)
      · omega
    · rw [fnd_f q]
      rcases Nat.lt_or_ge i k with w | w
      · exact ih (by omega) (by omega) (fun j a b => h3 j (by omega) b) h4
      · have : i = k := by omega
        subst this
        exact absurd h4 q
theorem fnd_no {P : Nat → Prop} {n : Nat} : ∀ {i : Nat}, (∀ j, i ≤ j → j < i + n → ¬ P j) → fnd P i n = 0 := by
  induction n with
  | zero => intro i _; rfl
  | succ n ih =>
    intro i h
    rw [fnd_f (h i (Nat.le_refl i) (by omega))]
    exact ih (fun j a b => h j (by omega) (by omega))
/-- what was found: 0 with none, or the first -/
theorem fnd_is (P : Nat → Prop) (n : Nat) : ∀ (i : Nat), (fnd P i n = 0 ∧ ∀ j, i ≤ j → j < i + n → ¬ P j) ∨ (i ≤ fnd P i n ∧ fnd P i n < i + n ∧ P (fnd P i n) ∧ ∀ j, i ≤ j → j < fnd P i n → ¬ P j) := by
  induction n with
  | zero => intro i; exact Or.inl ⟨rfl, fun j h1 h2 => by omega⟩
  | succ n ih =>
    intro i
    by_cases q : P i
    · rw [fnd_t q]
      exact Or.inr ⟨Nat.le_refl i, by omega, q, fun j h1 h2 => by omega⟩
    · rw [fnd_f q]
      rcases ih (i + 1) with ⟨h1, h2⟩ | ⟨h1, h2, h3, h4⟩
      · refine Or.inl ⟨h1, fun j a b => ?_⟩
        rcases Nat.eq_or_lt_of_le a with w | w
        · subst w; exact q
        · exact h2 j w (by omega)
      · refine Or.inr ⟨by omega, by omega, h3, fun j a b => ?_⟩
        rcases Nat.eq_or_lt_of_le a with w | w
        · subst w; exact q
        · exact h4 j w b
/-! bits -/
theorem iI_shr {a : Int} {k : Nat} (h0 : 0 ≤ a) (h1 : a < 2147483648) (hk : k < 32) : iI a >>> (iI (k : Int) &&& 31) = iI (a / 2 ^ k) := by
  obtain ⟨n, rfl⟩ : ∃ n : Nat, a = n := ⟨a.toNat, by omega⟩
  have hs : ((nI k &&& 31).toBitVec.smod 32).toNat = k := by
    revert hk
    revert k
    decide
  rw [iI_nat, iI_nat, pk_shrN (by omega) _ k hs, ← iI_nat]
  congr 1
theorem iI_and {a b : Int} (ha : 0 ≤ a) (hb : 0 ≤ b) : iI a &&& iI b = iI ((a.toNat &&& b.toNat : Nat) : Int) := by
  obtain ⟨n, rfl⟩ : ∃ n : Nat, a = n := ⟨a.toNat, by omega⟩
  obtain ⟨k, rfl⟩ : ∃ k : Nat, b = k := ⟨b.toNat, by omega⟩
  apply Int32.toBitVec.inj
  rw [iI_nat, iI_nat, iI_nat]
  show BitVec.ofNat 32 n &&& BitVec.ofNat 32 k = BitVec.ofNat 32 (n &&& k)
  apply BitVec.eq_of_toNat_eq
  simp [BitVec.toNat_and, Nat.and_mod_two_pow]
theorem iI_and1 {a : Int} (ha : 0 ≤ a) : iI a &&& iI 1 = iI (a % 2) := by
  rw [iI_and ha (by decide)]
  congr 1
  obtain ⟨n, rfl⟩ : ∃ n : Nat, a = n := ⟨a.toNat, by omega⟩
  show ((n &&& 1 : Nat) : Int) = (n : Int) % 2
  rw [Nat.and_one_is_mod]
  rfl
theorem iI_rem {a b : Int} (ha : 0 ≤ a) (ha2 : a < 2147483648) (hb : 0 < b) (hb2 : b < 2147483648) : iI a - iI a / iI b * iI b = iI (a % b) := by
  obtain ⟨n, rfl⟩ : ∃ n : Nat, a = n := ⟨a.toNat, by omega⟩
  obtain ⟨k, rfl⟩ : ∃ k : Nat, b = k := ⟨b.toNat, by omega⟩
  rw [iI_nat, iI_nat, pk_rem (by omega) (by omega) (by omega), ← iI_nat]
  rfl
section JR
variable {p : Program} {l : Launch} {e : Env} {R : Room} {s : State} {m : MethodId} {args : Array Value} {below : List Frame} {meth : Method} {c : Code} {H : Heap} {locs : List Loc} {cells slots : Nat} {Q : State → Prop}
variable {cc : ByteArray} {pc : Nat} {ls : Array Slot} {rest st0 : List Value}
theorem j_iconst (hexec : p.tables.exec = Jvm.exec) (hb : c.code = cc) {n : Int} (hdg : decode cc pc = .ok (.iconst n, 1)) (k : W p l e R s m args below meth c H locs cells slots Q (F0 m (pc + 1) ls (.int (iI n) :: rest))) : W p l e R s m args below meth c H locs cells slots Q (F0 m pc ls rest) := lv_iconst hexec hb hdg rfl k
theorem j_bipush (hexec : p.tables.exec = Jvm.exec) (hb : c.code = cc) {n : Int} (hdg : decode cc pc = .ok (.bipush n, 2)) (hv : (Int8.ofInt n).toInt32 = iI n) (k : W p l e R s m args below meth c H locs cells slots Q (F0 m (pc + 2) ls (.int (iI n) :: rest))) : W p l e R s m args below meth c H locs cells slots Q (F0 m pc ls rest) := lv_bipush hexec hb hdg hv k
theorem j_sipush (hexec : p.tables.exec = Jvm.exec) (hb : c.code = cc) {n : Int} (hdg : decode cc pc = .ok (.sipush n, 3)) (hv : (Int16.ofInt n).toInt32 = iI n) (k : W p l e R s m args below meth c H locs cells slots Q (F0 m (pc + 3) ls (.int (iI n) :: rest))) : W p l e R s m args below meth c H locs cells slots Q (F0 m pc ls rest) := lv_sipush hexec hb hdg hv k
theorem j_iadd (hexec : p.tables.exec = Jvm.exec) (hb : c.code = cc) {x y : Int} (hdg : decode cc pc = .ok (.iadd, 1)) (k : W p l e R s m args below meth c H locs cells slots Q (F0 m (pc + 1) ls (.int (iI (x + y)) :: rest))) : W p l e R s m args below meth c H locs cells slots Q (F0 m pc ls (.int (iI y) :: .int (iI x) :: rest)) := lv_iadd hexec hb hdg (by rw [iI_add]; exact k)
theorem j_isub (hexec : p.tables.exec = Jvm.exec) (hb : c.code = cc) {x y : Int} (hdg : decode cc pc = .ok (.isub, 1)) (k : W p l e R s m args below meth c H locs cells slots Q (F0 m (pc + 1) ls (.int (iI (x - y)) :: rest))) : W p l e R s m args below meth c H locs cells slots Q (F0 m pc ls (.int (iI y) :: .int (iI x) :: rest)) := lv_isub hexec hb hdg (by rw [iI_sub]; exact k)
theorem j_imul (hexec : p.tables.exec = Jvm.exec) (hb : c.code = cc) {x y : Int} (hdg : decode cc pc = .ok (.imul, 1)) (k : W p l e R s m args below meth c H locs cells slots Q (F0 m (pc + 1) ls (.int (iI (x * y)) :: rest))) : W p l e R s m args below meth c H locs cells slots Q (F0 m pc ls (.int (iI y) :: .int (iI x) :: rest)) := lv_imul hexec hb hdg (by rw [iI_mul]; exact k)
theorem j_irem (hexec : p.tables.exec = Jvm.exec) (hb : c.code = cc) {x y : Int} (hx : 0 ≤ x ∧ x < 2147483648) (hy : 0 < y ∧ y < 2147483648) (hdg : decode cc pc = .ok (.irem, 1)) (k : W p l e R s m args below meth c H locs cells slots Q (F0 m (pc + 1) ls (.int (iI (x % y)) :: rest))) : W p l e R s m args below meth c H locs cells slots Q (F0 m pc ls (.int (iI y) :: .int (iI x) :: rest)) := by
  refine lv_irem hexec hb hdg (fun h => ?_) (by rw [iI_rem hx.1 hx.2 hy.1 hy.2]; exact k)
  rw [iI_0] at h
  have := (iI_eq (a := y) (b := 0) ⟨by omega, by omega⟩ ⟨by omega, by omega⟩).mp h
  omega
theorem j_ishr (hexec : p.tables.exec = Jvm.exec) (hb : c.code = cc) {x : Int} {n : Nat} (hx : 0 ≤ x ∧ x < 2147483648) (hn : n < 32) (hdg : decode cc pc = .ok (.ishr, 1)) (k : W p l e R s m args below meth c H locs cells slots Q (F0 m (pc + 1) ls (.int (iI (x / 2 ^ n)) :: rest))) : W p l e R s m args below meth c H locs cells slots Q (F0 m pc ls (.int (iI (n : Int)) :: .int (iI x) :: rest)) := lv_ishr hexec hb hdg (by rw [iI_shr hx.1 hx.2 hn]; exact k)
theorem j_iand1 (hexec : p.tables.exec = Jvm.exec) (hb : c.code = cc) {x : Int} (hx : 0 ≤ x) (hdg : decode cc pc = .ok (.iand, 1)) (k : W p l e R s m args below meth c H locs cells slots Q (F0 m (pc + 1) ls (.int (iI (x % 2)) :: rest))) : W p l e R s m args below meth c H locs cells slots Q (F0 m pc ls (.int (iI 1) :: .int (iI x) :: rest)) := lv_iand hexec hb hdg (by rw [iI_and1 hx]; exact k)
theorem j_iand (hexec : p.tables.exec = Jvm.exec) (hb : c.code = cc) {x y : Int} (hx : 0 ≤ x) (hy : 0 ≤ y) (hdg : decode cc pc = .ok (.iand, 1)) (k : W p l e R s m args below meth c H locs cells slots Q (F0 m (pc + 1) ls (.int (iI ((x.toNat &&& y.toNat : Nat) : Int)) :: rest))) : W p l e R s m args below meth c H locs cells slots Q (F0 m pc ls (.int (iI y) :: .int (iI x) :: rest)) := lv_iand hexec hb hdg (by rw [iI_and hx hy]; exact k)
theorem j_iinc (hexec : p.tables.exec = Jvm.exec) (hb : c.code = cc) {i nL k : Nat} {n x : Int} {lv lv' : List (Nat × Value)} (hdg : decode cc pc = .ok (.iinc i n, 3)) (h : lv_has ls nL lv) (hk : lv[k]? = some (i, .int (iI x))) (hn : i < nL) (hl : (i, Value.int (iI (x + n))) :: lv.filter (fun q => !(q.1 == i) && !(q.1 + 1 == i && q.2.category == 2)) = lv')
    (kk : ∀ ls', lv_has ls' nL lv' → W p l e R s m args below meth c H locs cells slots Q (F0 m (pc + 3) ls' rest)) : W p l e R s m args below meth c H locs cells slots Q (F0 m pc ls rest) := lv_iinc hexec hb hdg h hk (show iI x + iI n = iI (x + n) from iI_add x n) hn hl kk
theorem j_icmp_eq (hexec : p.tables.exec = Jvm.exec) (hb : c.code = cc) {x y : Int} {off : Int} {tgt : Nat} (hdg : decode cc pc = .ok (.if_icmp .eq off, 3)) (ht : (pc : Int) + off = (tgt : Int)) (hx : rg x) (hy : rg y) (kt : x = y → W p l e R s m args below meth c H locs cells slots Q (F0 m tgt ls rest)) (kf : x ≠ y → W p l e R s m args below meth c H locs cells slots Q (F0 m (pc + 3) ls rest)) : W p l e R s m args below meth c H locs cells slots Q (F0 m pc ls (.int (iI y) :: .int (iI x) :: rest)) := lv_icmp_eq hexec hb hdg ht (fun q => kt ((iI_eq hx hy).mp q)) (fun q => kf (fun w => q ((iI_eq hx hy).mpr w)))
theorem j_icmp_ne (hexec : p.tables.exec = Jvm.exec) (hb : c.code = cc) {x y : Int} {off : Int} {tgt : Nat} (hdg : decode cc pc = .ok (.if_icmp .ne off, 3)) (ht : (pc : Int) + off = (tgt : Int)) (hx : rg x) (hy : rg y) (kt : x ≠ y → W p l e R s m args below meth c H locs cells slots Q (F0 m tgt ls rest)) (kf : x = y → W p l e R s m args below meth c H locs cells slots Q (F0 m (pc + 3) ls rest)) : W p l e R s m args below meth c H locs cells slots Q (F0 m pc ls (.int (iI y) :: .int (iI x) :: rest)) := lv_icmp_ne hexec hb hdg ht (fun q => kt (fun w => q ((iI_eq hx hy).mpr w))) (fun q => kf ((iI_eq hx hy).mp q))
theorem j_icmp_lt (hexec : p.tables.exec = Jvm.exec) (hb : c.code = cc) {x y : Int} {off : Int} {tgt : Nat} (hdg : decode cc pc = .ok (.if_icmp .lt off, 3)) (ht : (pc : Int) + off = (tgt : Int)) (hx : rg x) (hy : rg y) (kt : x < y → W p l e R s m args below meth c H locs cells slots Q (F0 m tgt ls rest)) (kf : ¬ x < y → W p l e R s m args below meth c H locs cells slots Q (F0 m (pc + 3) ls rest)) : W p l e R s m args below meth c H locs cells slots Q (F0 m pc ls (.int (iI y) :: .int (iI x) :: rest)) := lv_icmp_lt hexec hb hdg ht (fun q => kt ((iI_lt hx hy).mp q)) (fun q => kf (fun w => q ((iI_lt hx hy).mpr w)))
theorem j_icmp_ge (hexec : p.tables.exec = Jvm.exec) (hb : c.code = cc) {x y : Int} {off : Int} {tgt : Nat} (hdg : decode cc pc = .ok (.if_icmp .ge off, 3)) (ht : (pc : Int) + off = (tgt : Int)) (hx : rg x) (hy : rg y) (kt : y ≤ x → W p l e R s m args below meth c H locs cells slots Q (F0 m tgt ls rest)) (kf : ¬ y ≤ x → W p l e R s m args below meth c H locs cells slots Q (F0 m (pc + 3) ls rest)) : W p l e R s m args below meth c H locs cells slots Q (F0 m pc ls (.int (iI y) :: .int (iI x) :: rest)) := lv_icmp_ge hexec hb hdg ht (fun q => kt ((iI_le hy hx).mp q)) (fun q => kf (fun w => q ((iI_le hy hx).mpr w)))
theorem j_icmp_gt (hexec : p.tables.exec = Jvm.exec) (hb : c.code = cc) {x y : Int} {off : Int} {tgt : Nat} (hdg : decode cc pc = .ok (.if_icmp .gt off, 3)) (ht : (pc : Int) + off = (tgt : Int)) (hx : rg x) (hy : rg y) (kt : y < x → W p l e R s m args below meth c H locs cells slots Q (F0 m tgt ls rest)) (kf : ¬ y < x → W p l e R s m args below meth c H locs cells slots Q (F0 m (pc + 3) ls rest)) : W p l e R s m args below meth c H locs cells slots Q (F0 m pc ls (.int (iI y) :: .int (iI x) :: rest)) := lv_icmp_gt hexec hb hdg ht (fun q => kt ((iI_lt hy hx).mp q)) (fun q => kf (fun w => q ((iI_lt hy hx).mpr w)))
theorem j_icmp_le (hexec : p.tables.exec = Jvm.exec) (hb : c.code = cc) {x y : Int} {off : Int} {tgt : Nat} (hdg : decode cc pc = .ok (.if_icmp .le off, 3)) (ht : (pc : Int) + off = (tgt : Int)) (hx : rg x) (hy : rg y) (kt : x ≤ y → W p l e R s m args below meth c H locs cells slots Q (F0 m tgt ls rest)) (kf : ¬ x ≤ y → W p l e R s m args below meth c H locs cells slots Q (F0 m (pc + 3) ls rest)) : W p l e R s m args below meth c H locs cells slots Q (F0 m pc ls (.int (iI y) :: .int (iI x) :: rest)) := lv_icmp_le hexec hb hdg ht (fun q => kt ((iI_le hx hy).mp q)) (fun q => kf (fun w => q ((iI_le hx hy).mpr w)))
theorem j_if_eq (hexec : p.tables.exec = Jvm.exec) (hb : c.code = cc) {x : Int} {off : Int} {tgt : Nat} (hdg : decode cc pc = .ok (.ifCond .eq off, 3)) (ht : (pc : Int) + off = (tgt : Int)) (hx : rg x) (kt : x = 0 → W p l e R s m args below meth c H locs cells slots Q (F0 m tgt ls rest)) (kf : x ≠ 0 → W p l e R s m args below meth c H locs cells slots Q (F0 m (pc + 3) ls rest)) : W p l e R s m args below meth c H locs cells slots Q (F0 m pc ls (.int (iI x) :: rest)) := lv_if_eq hexec hb hdg ht (fun q => kt ((iI_eq hx ⟨by omega, by omega⟩).mp (by rw [← iI_0]; exact q))) (fun q => kf (fun w => q (by rw [w, iI_0])))
theorem j_if_ne (hexec : p.tables.exec = Jvm.exec) (hb : c.code = cc) {x : Int} {off : Int} {tgt : Nat} (hdg : decode cc pc = .ok (.ifCond .ne off, 3)) (ht : (pc : Int) + off = (tgt : Int)) (hx : rg x) (kt : x ≠ 0 → W p l e R s m args below meth c H locs cells slots Q (F0 m tgt ls rest)) (kf : x = 0 → W p l e R s m args below meth c H locs cells slots Q (F0 m (pc + 3) ls rest)) : W p l e R s m args below meth c H locs cells slots Q (F0 m pc ls (.int (iI x) :: rest)) := lv_if_ne hexec hb hdg ht (fun q => kt (fun w => q (by rw [w, iI_0]))) (fun q => kf ((iI_eq hx ⟨by omega, by omega⟩).mp (by rw [← iI_0]; exact q)))
theorem j_if_lt (hexec : p.tables.exec = Jvm.exec) (hb : c.code = cc) {x : Int} {off : Int} {tgt : Nat} (hdg : decode cc pc = .ok (.ifCond .lt off, 3)) (ht : (pc : Int) + off = (tgt : Int)) (hx : rg x) (kt : x < 0 → W p l e R s m args below meth c H locs cells slots Q (F0 m tgt ls rest)) (kf : ¬ x < 0 → W p l e R s m args below meth c H locs cells slots Q (F0 m (pc + 3) ls rest)) : W p l e R s m args below meth c H locs cells slots Q (F0 m pc ls (.int (iI x) :: rest)) := lv_if_lt hexec hb hdg ht (fun q => kt ((iI_lt hx ⟨by omega, by omega⟩).mp (by rw [← iI_0]; exact q))) (fun q => kf (fun w => q (by rw [iI_0]; exact (iI_lt hx ⟨by omega, by omega⟩).mpr w)))
theorem j_if_ge (hexec : p.tables.exec = Jvm.exec) (hb : c.code = cc) {x : Int} {off : Int} {tgt : Nat} (hdg : decode cc pc = .ok (.ifCond .ge off, 3)) (ht : (pc : Int) + off = (tgt : Int)) (hx : rg x) (kt : 0 ≤ x → W p l e R s m args below meth c H locs cells slots Q (F0 m tgt ls rest)) (kf : ¬ 0 ≤ x → W p l e R s m args below meth c H locs cells slots Q (F0 m (pc + 3) ls rest)) : W p l e R s m args below meth c H locs cells slots Q (F0 m pc ls (.int (iI x) :: rest)) := lv_if_ge hexec hb hdg ht (fun q => kt ((iI_le ⟨by omega, by omega⟩ hx).mp (by rw [← iI_0]; exact q))) (fun q => kf (fun w => q (by rw [iI_0]; exact (iI_le ⟨by omega, by omega⟩ hx).mpr w)))
theorem j_if_gt (hexec : p.tables.exec = Jvm.exec) (hb : c.code = cc) {x : Int} {off : Int} {tgt : Nat} (hdg : decode cc pc = .ok (.ifCond .gt off, 3)) (ht : (pc : Int) + off = (tgt : Int)) (hx : rg x) (kt : 0 < x → W p l e R s m args below meth c H locs cells slots Q (F0 m tgt ls rest)) (kf : ¬ 0 < x → W p l e R s m args below meth c H locs cells slots Q (F0 m (pc + 3) ls rest)) : W p l e R s m args below meth c H locs cells slots Q (F0 m pc ls (.int (iI x) :: rest)) := lv_if_gt hexec hb hdg ht (fun q => kt ((iI_lt ⟨by omega, by omega⟩ hx).mp (by rw [← iI_0]; exact q))) (fun q => kf (fun w => q (by rw [iI_0]; exact (iI_lt ⟨by omega, by omega⟩ hx).mpr w)))
theorem j_if_le (hexec : p.tables.exec = Jvm.exec) (hb : c.code = cc) {x : Int} {off : Int} {tgt : Nat} (hdg : decode cc pc = .ok (.ifCond .le off, 3)) (ht : (pc : Int) + off = (tgt : Int)) (hx : rg x) (kt : x ≤ 0 → W p l e R s m args below meth c H locs cells slots Q (F0 m tgt ls rest)) (kf : ¬ x ≤ 0 → W p l e R s m args below meth c H locs cells slots Q (F0 m (pc + 3) ls rest)) : W p l e R s m args below meth c H locs cells slots Q (F0 m pc ls (.int (iI x) :: rest)) := lv_if_le hexec hb hdg ht (fun q => kt ((iI_le hx ⟨by omega, by omega⟩).mp (by rw [← iI_0]; exact q))) (fun q => kf (fun w => q (by rw [iI_0]; exact (iI_le hx ⟨by omega, by omega⟩).mpr w)))
/-- a truth value is asked -/
theorem j_ifeqP (hexec : p.tables.exec = Jvm.exec) (hb : c.code = cc) {P : Prop} {off : Int} {tgt : Nat} (hdg : decode cc pc = .ok (.ifCond .eq off, 3)) (ht : (pc : Int) + off = (tgt : Int)) (kt : ¬ P → W p l e R s m args below meth c H locs cells slots Q (F0 m tgt ls rest)) (kf : P → W p l e R s m args below meth c H locs cells slots Q (F0 m (pc + 3) ls rest)) : W p l e R s m args below meth c H locs cells slots Q (F0 m pc ls (.int (iI (b2 P)) :: rest)) := by
  have h01 := b2_01 P
  refine j_if_eq hexec hb hdg ht ⟨by omega, by omega⟩ (fun q => kt (fun w => by rw [b2_t w] at q; omega)) (fun q => kf (by
    by_cases w : P
    · exact w
    · exact absurd (b2_f w) q))
theorem j_ifneP (hexec : p.tables.exec = Jvm.exec) (hb : c.code = cc) {P : Prop} {off : Int} {tgt : Nat} (hdg : decode cc pc = .ok (.ifCond .ne off, 3)) (ht : (pc : Int) + off = (tgt : Int)) (kt : P → W p l e R s m args below meth c H locs cells slots Q (F0 m tgt ls rest)) (kf : ¬ P → W p l e R s m args below meth c H locs cells slots Q (F0 m (pc + 3) ls rest)) : W p l e R s m args below meth c H locs cells slots Q (F0 m pc ls (.int (iI (b2 P)) :: rest)) := by
  have h01 := b2_01 P
  refine j_if_ne hexec hb hdg ht ⟨by omega, by omega⟩ (fun q => kt (by
    by_cases w : P
    · exact w
    · exact absurd (b2_f w) q)) (fun q => kf (fun w => by rw [b2_t w] at q; omega))
theorem j_acmp_eq (hexec : p.tables.exec = Jvm.exec) (hb : c.code = cc) {x y : Nat} {off : Int} {tgt : Nat} (hdg : decode cc pc = .ok (.if_acmp .eq off, 3)) (ht : (pc : Int) + off = (tgt : Int)) (kt : x = y → W p l e R s m args below meth c H locs cells slots Q (F0 m tgt ls rest)) (kf : x ≠ y → W p l e R s m args below meth c H locs cells slots Q (F0 m (pc + 3) ls rest)) : W p l e R s m args below meth c H locs cells slots Q (F0 m pc ls (.ref y :: .ref x :: rest)) := lv_acmp_eq (rx := some x) (ry := some y) hexec hb hdg ht (fun q => kt (Option.some.inj q)) (fun q => kf (fun w => q (by rw [w])))
theorem j_acmp_ne (hexec : p.tables.exec = Jvm.exec) (hb : c.code = cc) {x y : Nat} {off : Int} {tgt : Nat} (hdg : decode cc pc = .ok (.if_acmp .ne off, 3)) (ht : (pc : Int) + off = (tgt : Int)) (kt : x ≠ y → W p l e R s m args below meth c H locs cells slots Q (F0 m tgt ls rest)) (kf : x = y → W p l e R s m args below meth c H locs cells slots Q (F0 m (pc + 3) ls rest)) : W p l e R s m args below meth c H locs cells slots Q (F0 m pc ls (.ref y :: .ref x :: rest)) := lv_acmp_ne (rx := some x) (ry := some y) hexec hb hdg ht (fun q => kt (fun w => q (by rw [w]))) (fun q => kf (Option.some.inj q))
end JR
