theorem cs_t {P : Nat → Prop} {a : Int} {n : Nat} (ea : a = cnt P n) (h : P n) : a + 1 = cnt P (n + 1) := by rw [cnt_t h, ea]
theorem cs_f {P : Nat → Prop} {a : Int} {n : Nat} (ea : a = cnt P n) (h : ¬ P n) : a = cnt P (n + 1) := by rw [cnt_f h, ea]
theorem cs_e {σ : Sg} (hI : Ib σ) {P : Nat → Prop} {a : Int} {n : Nat} (ea : a = cnt P n) (hn : n = 200) (h : ∀ j, P j → live σ j) : a = cnt P (nrN σ) := by rw [ea, hn, cntN hI h]
theorem pw_at {σ : Sg} (hI : Ib σ) {k : Int} {i : Nat} (h1 : 1 ≤ i) (hi : (i : Int) ≤ σ 9 0) (h2 : ∀ j : Nat, j < i → 1 ≤ j → ¬ (σ 4 j = 0 ∧ σ 0 j ≤ k ∧ k < σ 1 j)) (h3 : σ 4 i = 0 ∧ σ 0 i ≤ k ∧ k < σ 1 i) : pw σ k = i := by
  have := hI.npI
  exact fnd_at h1 (by omega) (fun j a b => h2 j b a) h3
theorem pw_no {σ : Sg} (hI : Ib σ) {k : Int} (h2 : ∀ j : Nat, j < 16 → 1 ≤ j → (j : Int) ≤ σ 9 0 → ¬ (σ 4 j = 0 ∧ σ 0 j ≤ k ∧ k < σ 1 j)) : pw σ k = 0 := by
  have := hI.npI
  exact fnd_no (fun j a b => h2 j (by omega) a (by omega))
theorem pw_is {σ : Sg} (hI : Ib σ) (k : Int) : (pw σ k = 0 ∧ ∀ j : Nat, 1 ≤ j → (j : Int) ≤ σ 9 0 → ¬ (σ 4 j = 0 ∧ σ 0 j ≤ k ∧ k < σ 1 j)) ∨ (1 ≤ pw σ k ∧ (pw σ k : Int) ≤ σ 9 0 ∧ σ 4 (pw σ k) = 0 ∧ σ 0 (pw σ k) ≤ k ∧ k < σ 1 (pw σ k)) := by
  have := hI.npI
  rcases fnd_is (fun i => σ 4 i = 0 ∧ σ 0 i ≤ k ∧ k < σ 1 i) (npN σ) 1 with ⟨h1, h2⟩ | ⟨h1, h2, h3, h4⟩
  · exact Or.inl ⟨h1, fun j a b => h2 j a (by omega)⟩
  · refine Or.inr ⟨h1, ?_, h3⟩
    have : pw σ k < 1 + npN σ := h2
    omega
theorem pw_le {σ : Sg} (hI : Ib σ) (k : Int) : (pw σ k : Int) ≤ σ 9 0 := by
  have := hI.hnp
  rcases pw_is hI k with h | h
  · omega
  · exact h.2.1
theorem isP_i {σ : Sg} {i : Nat} : isP σ (i : Int) ↔ 1 ≤ i ∧ (i : Int) ≤ σ 9 0 ∧ σ 4 i ≠ 2 := by
  unfold isP
  rw [Int.toNat_natCast]
  omega
theorem isA_i {σ : Sg} (hI : Ib σ) {i : Nat} : isA σ (i : Int) ↔ (i : Int) ≤ σ 9 0 ∧ σ 4 i ≠ 2 := by
  unfold isA
  rw [isP_i]
  have h1 := hI.hnp
  have h2 := hI.rest
  rcases Nat.eq_zero_or_pos i with q | q
  · subst q
    omega
  · omega
theorem isR_j {σ : Sg} {j : Nat} : isR σ (j : Int) ↔ live σ j := by
  unfold isR live
  rw [Int.toNat_natCast]
  omega
theorem isL_i {σ : Sg} (hI : Ib σ) {i : Nat} {lf : Int} : isL σ (i : Int) lf ↔ ((i : Int) ≤ σ 9 0 ∧ σ 4 i ≠ 2) ∧ 0 ≤ lf ∧ lf < lvs (σ 2 i) (σ 3 i) := by
  unfold isL
  rw [Int.toNat_natCast, isA_i hI]
theorem lvs_rg {σ : Sg} (hI : Ib σ) {i : Nat} (hi : (i : Int) ≤ σ 9 0) : 1 ≤ lvs (σ 2 i) (σ 3 i) ∧ lvs (σ 2 i) (σ 3 i) ≤ 5 := by
  have h := (hI.part i hi).2.2.2
  by_cases h1 : σ 2 i = 1
  · rw [lvs_1 h1]; omega
  · by_cases h2 : σ 2 i = 2
    · rw [lvs_2 h2]; omega
    · rw [lvs_0 h1 h2]; omega
/-! rows that move from the part i to the part k, the first n looked at -/
noncomputable def mvS (σ : Sg) (i k n : Nat) : Sg := fun g j => @ite Int (g = 5 ∧ j < n ∧ live σ j ∧ pn σ j = i ∧ σ 0 k ≤ σ 6 j ∧ σ 6 j < σ 1 k) (Classical.propDecidable _) (k : Int) (σ g j)
theorem mvS_g {σ : Sg} {i k n g j : Nat} (h : g ≠ 5) : mvS σ i k n g j = σ g j := if_neg (fun q => h q.1)
theorem mvS_n {σ : Sg} {i k n j : Nat} (h : n ≤ j) : mvS σ i k n 5 j = σ 5 j := if_neg (fun q => by omega)
theorem mvS_0 (σ : Sg) (i k : Nat) : mvS σ i k 0 = σ := by
  funext g j
  exact if_neg (fun q => by omega)
theorem mvS_t {σ : Sg} {i k n : Nat} (h : live σ n ∧ pn σ n = i ∧ σ 0 k ≤ σ 6 n ∧ σ 6 n < σ 1 k) : mvS σ i k (n + 1) = upS (mvS σ i k n) 5 n k := by
  funext g j
  by_cases q : g = 5 ∧ j = n
  · obtain ⟨rfl, rfl⟩ := q
    rw [upS_s]
    exact if_pos ⟨rfl, by omega, h⟩
  · unfold upS
    rw [if_neg q]
    unfold mvS
    by_cases w : g = 5 ∧ j < n + 1 ∧ live σ j ∧ pn σ j = i ∧ σ 0 k ≤ σ 6 j ∧ σ 6 j < σ 1 k
    · rw [if_pos w, if_pos ⟨w.1, by have := w.2.1; omega, w.2.2⟩]
    · rw [if_neg w, if_neg (fun u => w ⟨u.1, by have := u.2.1; omega, u.2.2⟩)]
theorem mvS_f {σ : Sg} {i k n : Nat} (h : ¬ (live σ n ∧ pn σ n = i ∧ σ 0 k ≤ σ 6 n ∧ σ 6 n < σ 1 k)) : mvS σ i k (n + 1) = mvS σ i k n := by
  funext g j
  unfold mvS
  by_cases w : g = 5 ∧ j < n + 1 ∧ live σ j ∧ pn σ j = i ∧ σ 0 k ≤ σ 6 j ∧ σ 6 j < σ 1 k
  · have : j ≠ n := fun u => by subst u; exact h w.2.2
    rw [if_pos w, if_pos ⟨w.1, by have := w.2.1; omega, w.2.2⟩]
  · rw [if_neg w, if_neg (fun u => w ⟨u.1, by have := u.2.1; omega, u.2.2⟩)]
theorem mvS_live {σ : Sg} {i k n j : Nat} : live (mvS σ i k n) j ↔ live σ j := by
  unfold live
  rw [mvS_g (by decide)]
  by_cases w : (5 : Nat) = 5 ∧ j < n ∧ live σ j ∧ pn σ j = i ∧ σ 0 k ≤ σ 6 j ∧ σ 6 j < σ 1 k
  · have e : mvS σ i k n 5 j = k := if_pos w
    have := w.2.2.1
    rw [e]
    omega
  · have e : mvS σ i k n 5 j = σ 5 j := if_neg w
    rw [e]
theorem mvS_end {σ : Sg} (hI : Ib σ) {i k n : Nat} (hn : 200 ≤ n) : mvS σ i k n = mvS σ i k 200 := by
  have := hI.hnr
  funext g j
  unfold mvS
  by_cases w : g = 5 ∧ j < n ∧ live σ j ∧ pn σ j = i ∧ σ 0 k ≤ σ 6 j ∧ σ 6 j < σ 1 k
  · rw [if_pos w, if_pos ⟨w.1, by have := w.2.2.1.1; omega, w.2.2⟩]
  · rw [if_neg w, if_neg (fun u => w ⟨u.1, by have := u.2.1; omega, u.2.2⟩)]
/-! rows that change places between the parts i and k -/
noncomputable def swS (σ : Sg) (i k n : Nat) : Sg := fun g j => @ite Int (g = 5 ∧ j < n ∧ live σ j) (Classical.propDecidable _) (if pn σ j = i then (k : Int) else if pn σ j = k then (i : Int) else σ g j) (σ g j)
theorem swS_g {σ : Sg} {i k n g j : Nat} (h : g ≠ 5) : swS σ i k n g j = σ g j := if_neg (fun q => h q.1)
theorem swS_n {σ : Sg} {i k n j : Nat} (h : n ≤ j) : swS σ i k n 5 j = σ 5 j := if_neg (fun q => by omega)
theorem swS_0 (σ : Sg) (i k : Nat) : swS σ i k 0 = σ := by
  funext g j
  exact if_neg (fun q => by omega)
theorem swS_at {σ : Sg} {i k n j : Nat} (h : j < n) (hl : live σ j) : swS σ i k n 5 j = if pn σ j = i then (k : Int) else if pn σ j = k then (i : Int) else σ 5 j := if_pos ⟨rfl, h, hl⟩
theorem swS_s {σ : Sg} {i k n : Nat} {v : Int} (hl : live σ n) (hv : (if pn σ n = i then (k : Int) else if pn σ n = k then (i : Int) else σ 5 n) = v) : swS σ i k (n + 1) = upS (swS σ i k n) 5 n v := by
  funext g j
  by_cases q : g = 5 ∧ j = n
  · obtain ⟨rfl, rfl⟩ := q
    rw [upS_s, swS_at (by omega) hl, hv]
  · unfold upS
    rw [if_neg q]
    unfold swS
    by_cases w : g = 5 ∧ j < n + 1 ∧ live σ j
    · rw [if_pos w, if_pos (show g = 5 ∧ j < n ∧ live σ j from ⟨w.1, by have := w.1; have := w.2.1; omega, w.2.2⟩)]
    · rw [if_neg w, if_neg (fun u => w ⟨u.1, by have := u.2.1; omega, u.2.2⟩)]
theorem swS_f {σ : Sg} {i k n : Nat} (h : live σ n → pn σ n ≠ i ∧ pn σ n ≠ k) : swS σ i k (n + 1) = swS σ i k n := by
  funext g j
  by_cases q : g = 5 ∧ j = n
  · obtain ⟨rfl, rfl⟩ := q
    rw [swS_n (Nat.le_refl _)]
    by_cases w : live σ j
    · rw [swS_at (by omega) w, if_neg (h w).1, if_neg (h w).2]
    · exact if_neg (fun u => w u.2.2)
  · unfold swS
    by_cases w : g = 5 ∧ j < n + 1 ∧ live σ j
    · rw [if_pos w, if_pos (show g = 5 ∧ j < n ∧ live σ j from ⟨w.1, by have := w.1; have := w.2.1; omega, w.2.2⟩)]
    · rw [if_neg w, if_neg (fun u => w ⟨u.1, by have := u.2.1; omega, u.2.2⟩)]
theorem swS_live {σ : Sg} {i k n j : Nat} : live (swS σ i k n) j ↔ live σ j := by
  unfold live
  rw [swS_g (by decide)]
  by_cases w : j < n ∧ live σ j
  · rw [swS_at w.1 w.2]
    have := w.2
    by_cases a : pn σ j = i
    · rw [if_pos a]; omega
    · rw [if_neg a]
      by_cases b : pn σ j = k
      · rw [if_pos b]; omega
      · rw [if_neg b]
  · have e : swS σ i k n 5 j = σ 5 j := if_neg (fun u => w u.2)
    rw [e]
/-! the class's cells, written -/
section WrC
variable {cP cR : ClassId} {x xp xr : Nat} {pa ra : Nat → Nat} {σ : Sg} {h : Hp}
theorem upS_live5 {σ : Sg} {j k : Nat} {v : Int} (hl : live σ j) (hv : v ≠ -1) : live (upS σ 5 j v) k ↔ live σ k := by
  unfold live
  rw [upS_g (by decide)]
  by_cases q : k = j
  · subst q
    rw [upS_s]
    omega
  · rw [upS_i q]
theorem upS_live {σ : Sg} {g i j : Nat} {v : Int} (h5 : g ≠ 5) (h10 : g ≠ 10) : live (upS σ g i v) j ↔ live σ j := by
  unfold live
  rw [upS_g (fun q => h10 q.symm), upS_g (fun q => h5 q.symm)]
theorem upS_pn {σ : Sg} {g i j : Nat} {v : Int} (h5 : g ≠ 5) : pn (upS σ g i v) j = pn σ j := by
  unfold pn
  rw [upS_g (fun q => h5 q.symm)]
/-- a row's cell is written anew: σ' says it -/
theorem CR.wrow (hC : CR cP cR x xp xr pa ra σ h) {j : Nat} (hj : live σ j) {σ' : Sg} (h0 : ∀ g i, (g < 5 ∨ 9 ≤ g) → σ' g i = σ g i) (h1 : ∀ g k, k ≠ j → σ' g k = σ g k) (h2 : live σ' j) : CR cP cR x xp xr pa ra σ' (hup h (ra j) (rwE (σ' 6 j) (σ' 7 j) (σ' 8 j) (pa (pn σ' j)))) := by
  have hr := hC.rw j hj
  have hlv : ∀ k, live σ' k ↔ live σ k := fun k => by
    by_cases q : k = j
    · subst q
      exact ⟨fun _ => hj, fun _ => h2⟩
    · unfold live
      rw [h0 10 0 (by omega), h1 5 k q]
  obtain ⟨a1, ⟨f, a2, a3⟩, ⟨f', a4, a5⟩, a6, a7, a8, a9⟩ := hC
  have ne : ∀ {a : Nat} {e : va_E}, h a = some e → kd e ≠ 2 → a ≠ ra j := fun q w u => by
    rw [u, hr] at q
    cases q
    exact w rfl
  refine ⟨?_, ⟨f, ?_, fun i hi => ?_⟩, ⟨f', ?_, fun k hk => ?_⟩, fun i hi => ?_, fun k hk => ?_, fun i i' b1 b2 => ?_, fun k k' b1 b2 => a9 k k' ((hlv k).mp b1) ((hlv k').mp b2)⟩
  · rw [hup_n (ne a1 (by intro q; cases q)), h0 9 0 (by omega), h0 10 0 (by omega), h0 11 0 (by omega)]
    exact a1
  · rw [hup_n (ne a2 (by simp [kd]))]
    exact a2
  · rw [h0 9 0 (by omega)]
    exact a3 i hi
  · rw [hup_n (ne a4 (by simp [kd]))]
    exact a4
  · rw [hlv k]
    exact a5 k hk
  · rw [h0 9 0 (by omega)] at hi
    rw [hup_n (ne (a6 i hi) (by intro q; cases q)), h0 0 i (by omega), h0 1 i (by omega), h0 2 i (by omega), h0 3 i (by omega), h0 4 i (by omega)]
    exact a6 i hi
  · by_cases q : k = j
    · subst q
      exact hup_s _ _ _
    · have hk' := (hlv k).mp hk
      rw [hup_n (fun u => q (a9 k j hk' hj u)), h1 6 k q, h1 7 k q, h1 8 k q]
      have : pn σ' k = pn σ k := by unfold pn; rw [h1 5 k q]
      rw [this]
      exact a7 k hk'
  · rw [h0 9 0 (by omega)] at b1 b2
    exact a8 i i' b1 b2
/-- a part's cell is written anew -/
theorem CR.wpart (hC : CR cP cR x xp xr pa ra σ h) {i : Nat} (hi : (i : Int) ≤ σ 9 0) {σ' : Sg} (h0 : ∀ g k, 5 ≤ g → σ' g k = σ g k) (h1 : ∀ g k, k ≠ i → σ' g k = σ g k) : CR cP cR x xp xr pa ra σ' (hup h (pa i) (prt i (σ' 0 i) (σ' 1 i) (σ' 2 i) (σ' 3 i) (σ' 4 i))) := by
  have hr := hC.pt i hi
  have hlv : ∀ k, live σ' k ↔ live σ k := fun k => by
    unfold live
    rw [h0 10 0 (by omega), h0 5 k (by omega)]
  obtain ⟨a1, ⟨f, a2, a3⟩, ⟨f', a4, a5⟩, a6, a7, a8, a9⟩ := hC
  have ne : ∀ {a : Nat} {e : va_E}, h a = some e → kd e ≠ 0 → a ≠ pa i := fun q w u => by
    rw [u, hr] at q
    cases q
    exact w rfl
  refine ⟨?_, ⟨f, ?_, fun i hi => ?_⟩, ⟨f', ?_, fun k hk => ?_⟩, fun k hk => ?_, fun k hk => ?_, fun i i' b1 b2 => ?_, fun k k' b1 b2 => a9 k k' ((hlv k).mp b1) ((hlv k').mp b2)⟩
  · rw [hup_n (ne a1 (by intro q; cases q)), h0 9 0 (by omega), h0 10 0 (by omega), h0 11 0 (by omega)]
    exact a1
  · rw [hup_n (ne a2 (by simp [kd]))]
    exact a2
  · rw [h0 9 0 (by omega)]
    exact a3 i hi
  · rw [hup_n (ne a4 (by simp [kd]))]
    exact a4
  · rw [hlv k]
    exact a5 k hk
  · rw [h0 9 0 (by omega)] at hk
    by_cases q : k = i
    · subst q
      exact hup_s _ _ _
    · rw [hup_n (fun u => q (a8 k i hk hi u)), h1 0 k q, h1 1 k q, h1 2 k q, h1 3 k q, h1 4 k q]
      exact a6 k hk
  · have hk' := (hlv k).mp hk
    have : pn σ' k = pn σ k := by unfold pn; rw [h0 5 k (by omega)]
    rw [hup_n (ne (a7 k hk') (by intro q; cases q)), h0 6 k (by omega), h0 7 k (by omega), h0 8 k (by omega), this]
    exact a7 k hk'
  · rw [h0 9 0 (by omega)] at b1 b2
    exact a8 i i' b1 b2
/-- the table's own cell: only 'stale' changes -/
theorem CR.wstale (hC : CR cP cR x xp xr pa ra σ h) {v : Int} : CR cP cR x xp xr pa ra (upS σ 11 0 v) (hup h x (tbl (pa 0) xp (σ 9 0) xr (σ 10 0) v)) := by
  obtain ⟨a1, ⟨f, a2, a3⟩, ⟨f', a4, a5⟩, a6, a7, a8, a9⟩ := hC
  have ne : ∀ {a : Nat} {e : va_E}, h a = some e → kd e ≠ 3 → a ≠ x := fun q w u => by
    rw [u, a1] at q
    cases q
    exact w rfl
  have u9 : upS σ 11 0 v 9 0 = σ 9 0 := upS_g (by decide)
  have u10 : upS σ 11 0 v 10 0 = σ 10 0 := upS_g (by decide)
  refine ⟨?_, ⟨f, ?_, fun i hi => ?_⟩, ⟨f', ?_, fun k hk => ?_⟩, fun i hi => ?_, fun k hk => ?_, fun i i' b1 b2 => ?_, fun k k' b1 b2 => a9 k k' ((upS_live (by decide) (by decide)).mp b1) ((upS_live (by decide) (by decide)).mp b2)⟩
  · rw [hup_s, u9, u10, upS_s]
  · rw [hup_n (ne a2 (by simp [kd]))]
    exact a2
  · rw [u9]
    exact a3 i hi
  · rw [hup_n (ne a4 (by simp [kd]))]
    exact a4
  · rw [upS_live (by decide) (by decide)]
    exact a5 k hk
  · rw [u9] at hi
    rw [hup_n (ne (a6 i hi) (by intro q; cases q)), upS_g (by decide), upS_g (by decide), upS_g (by decide), upS_g (by decide), upS_g (by decide)]
    exact a6 i hi
  · have hk' := (upS_live (by decide) (by decide)).mp hk
    rw [hup_n (ne (a7 k hk') (by intro q; cases q)), upS_g (by decide), upS_g (by decide), upS_g (by decide), upS_pn (by decide)]
    exact a7 k hk'
  · rw [u9] at b1 b2
    exact a8 i i' b1 b2
end WrC
