/-! p27: COUNTS, what the law compares them with -/
/-- so many rows there are; of the table; of the table with a value; in a leaf; of the table that fit a question -/
noncomputable def nLv (σ : Sg) : Int := cnt (fun j => live σ j) (nrN σ)
noncomputable def nTb (σ : Sg) : Int := cnt (fun j => live σ j ∧ σ 4 (pn σ j) = 0) (nrN σ)
noncomputable def nVl (σ : Sg) (v : Int) : Int := cnt (fun j => live σ j ∧ σ 4 (pn σ j) = 0 ∧ σ 8 j = v) (nrN σ)
noncomputable def nIn (σ : Sg) (i : Nat) (l : Int) : Int := cnt (fun j => live σ j ∧ (pn σ j = i ∧ lfr σ j = l)) (nrN σ)
noncomputable def nPt (σ : Sg) (i : Nat) : Int := cnt (fun j => live σ j ∧ pn σ j = i) (nrN σ)
noncomputable def nCp (σ : Sg) (lo hi so : Int) : Int := cnt (fun j => live σ j ∧ σ 4 (pn σ j) = 0 ∧ (lo ≤ σ 6 j ∧ σ 6 j ≤ hi ∧ hbit so (σ 7 j))) (nrN σ)
theorem nLv_rg {σ : Sg} (hI : Ib σ) : 0 ≤ nLv σ ∧ nLv σ ≤ 200 := by
  have h1 := cnt_rg (fun j => live σ j) (nrN σ)
  have h2 := hI.nrI
  unfold nLv
  omega
theorem nTb_rg {σ : Sg} (hI : Ib σ) : 0 ≤ nTb σ ∧ nTb σ ≤ 200 := by
  have h1 := cnt_rg (fun j => live σ j ∧ σ 4 (pn σ j) = 0) (nrN σ)
  have h2 := hI.nrI
  unfold nTb
  omega
theorem nVl_rg {σ : Sg} (hI : Ib σ) (v : Int) : 0 ≤ nVl σ v ∧ nVl σ v ≤ 200 := by
  have h1 := cnt_rg (fun j => live σ j ∧ σ 4 (pn σ j) = 0 ∧ σ 8 j = v) (nrN σ)
  have h2 := hI.nrI
  unfold nVl
  omega
theorem nIn_rg {σ : Sg} (hI : Ib σ) (i : Nat) (l : Int) : 0 ≤ nIn σ i l ∧ nIn σ i l ≤ 200 := by
  have h1 := cnt_rg (fun j => live σ j ∧ (pn σ j = i ∧ lfr σ j = l)) (nrN σ)
  have h2 := hI.nrI
  unfold nIn
  omega
theorem nPt_rg {σ : Sg} (hI : Ib σ) (i : Nat) : 0 ≤ nPt σ i ∧ nPt σ i ≤ 200 := by
  have h1 := cnt_rg (fun j => live σ j ∧ pn σ j = i) (nrN σ)
  have h2 := hI.nrI
  unfold nPt
  omega
theorem nCp_rg {σ : Sg} (hI : Ib σ) (lo hh so : Int) : 0 ≤ nCp σ lo hh so ∧ nCp σ lo hh so ≤ 200 := by
  have h1 := cnt_rg (fun j => live σ j ∧ σ 4 (pn σ j) = 0 ∧ (lo ≤ σ 6 j ∧ σ 6 j ≤ hh ∧ hbit so (σ 7 j))) (nrN σ)
  have h2 := hI.nrI
  unfold nCp
  omega
/-- counts over the places with a number g j below n -/
theorem csm_fib {A : Nat → Prop} {g : Nat → Nat} {P : Nat → Prop} (N : Nat) : ∀ n : Nat, csm P (fun w => cnt (fun j => A j ∧ g j = w) N) n = cnt (fun j => A j ∧ g j < n ∧ P (g j)) N := by
  intro n
  induction n with
  | zero => exact (cnt_none _ (fun j _ w => absurd w.2.1 (by omega))).symm
  | succ n ih =>
    by_cases q : P n
    · rw [csm_t q, ih, ← cnt_or (fun j a b => by have := a.2.1; have := b.2; omega)]
      refine cnt_cong _ (fun j _ => ⟨fun w => ?_, fun w => ?_⟩)
      · rcases w with w | w
        · exact ⟨w.1, by omega, w.2.2⟩
        · exact ⟨w.1, by omega, by rw [w.2]; exact q⟩
      · by_cases u : g j = n
        · exact Or.inr ⟨w.1, u⟩
        · exact Or.inl ⟨w.1, by omega, w.2.2⟩
    · rw [csm_f q, ih]
      refine cnt_cong _ (fun j _ => ⟨fun w => ⟨w.1, by omega, w.2.2⟩, fun w => ⟨w.1, ?_, w.2.2⟩⟩)
      by_cases u : g j = n
      · exact absurd w.2.2 (by rw [u]; exact q)
      · omega
theorem csm_le {P P' : Nat → Prop} {f f' : Nat → Int} : ∀ n : Nat, (∀ i, i < n → P i → P' i ∧ f i ≤ f' i) → (∀ i, i < n → P' i → 0 ≤ f' i) → csm P f n ≤ csm P' f' n := by
  intro n
  induction n with
  | zero => intro _ _; exact Int.le_refl _
  | succ n ih =>
    intro h1 h2
    have e := ih (fun i hi => h1 i (by omega)) (fun i hi => h2 i (by omega))
    by_cases q : P n
    · rw [csm_t q, csm_t (h1 n (by omega) q).1]
      have := (h1 n (by omega) q).2
      omega
    · rw [csm_f q]
      by_cases u : P' n
      · rw [csm_t u]
        have := h2 n (by omega) u
        omega
      · rw [csm_f u]; exact e
theorem csm_rg {P : Nat → Prop} {f : Nat → Int} {b : Int} (hb : 0 ≤ b) : ∀ n : Nat, (∀ i, i < n → 0 ≤ f i ∧ f i ≤ b) → 0 ≤ csm P f n ∧ csm P f n ≤ b * n := by
  intro n
  induction n with
  | zero => intro _; exact ⟨Int.le_refl _, by show (0 : Int) ≤ b * 0; omega⟩
  | succ n ih =>
    intro h
    have e := ih (fun i hi => h i (by omega))
    have w := h n (by omega)
    have m : b * ((n + 1 : Nat) : Int) = b * (n : Int) + b := by rw [Int.natCast_add, Int.mul_add]; simp
    by_cases q : P n
    · rw [csm_t q, m]; omega
    · rw [csm_f q, m]; omega
/-! the leaves' sums -/
section Sums
variable {σ : Sg}
noncomputable def allP (σ : Sg) (i n : Nat) : Int := csm (fun l => isL σ (i : Int) (l : Int)) (fun l => nIn σ i (l : Int)) n
noncomputable def allS (σ : Sg) (n : Nat) : Int := csm (fun _ => True) (fun i => allP σ i 5) n
noncomputable def tabS (σ : Sg) (n : Nat) : Int := csm (fun i => σ 4 i = 0) (fun i => allP σ i 5) n
theorem allP_rg (hI : Ib σ) (i n : Nat) : 0 ≤ allP σ i n ∧ allP σ i n ≤ 200 * n := csm_rg (by omega) n (fun l _ => nIn_rg hI i l)
theorem allP5 (h : Iv σ) {i : Nat} (hi : (i : Int) ≤ σ 9 0) : allP σ i 5 = nPt σ i := by
  have hI := h.ib
  have e : allP σ i 5 = csm (fun l => isL σ (i : Int) (l : Int)) (fun w => cnt (fun j => (live σ j ∧ pn σ j = i) ∧ (lfr σ j).toNat = w) (nrN σ)) 5 := by
    refine csm_cong _ (fun _ _ => Iff.rfl) (fun w _ _ => cnt_cong _ (fun j _ => ⟨fun q => ⟨⟨q.1, q.2.1⟩, by rw [q.2.2]; exact Int.toNat_natCast w⟩, fun q => ⟨q.1.1, q.1.2, ?_⟩⟩))
    have h1 := (lf_lt hI hi (σ 6 j) (σ 7 j)).1
    have h2 := q.2
    unfold lfr at h2 ⊢
    rw [q.1.2] at h2 ⊢
    omega
  rw [e, csm_fib]
  refine cnt_cong _ (fun j _ => ⟨fun q => q.1, fun q => ⟨q, ?_⟩⟩)
  have h1 := lf_lt hI hi (σ 6 j) (σ 7 j)
  have h2 := lvs_rg hI hi
  have e2 : lfr σ j = lf (σ 2 i) (σ 3 i) (σ 6 j) (σ 7 j) := by unfold lfr; rw [q.2]
  have e3 : (((lfr σ j).toNat : Nat) : Int) = lfr σ j := by rw [e2]; omega
  have h4 := (h.rw_ j q.1).1
  rw [q.2] at h4
  refine ⟨by rw [e2]; omega, (isL_i hI).mpr ⟨⟨hi, h4⟩, ?_⟩⟩
  rw [e3, e2]
  exact h1
theorem allS_eq (h : Iv σ) : allS σ (npN σ + 1) = nLv σ := by
  have hI := h.ib
  have hnp := hI.npI
  have e : allS σ (npN σ + 1) = csm (fun _ => True) (fun w => cnt (fun j => live σ j ∧ pn σ j = w) (nrN σ)) (npN σ + 1) :=
    csm_cong _ (fun _ _ => Iff.rfl) (fun i hi _ => allP5 h (by omega))
  rw [e, csm_fib]
  exact cnt_cong _ (fun j _ => ⟨fun q => q.1, fun q => ⟨q, by have := (hI.pnI j q).2.1; omega, trivial⟩⟩)
theorem tabS_eq (h : Iv σ) : tabS σ (npN σ + 1) = nTb σ := by
  have hI := h.ib
  have hnp := hI.npI
  have e : tabS σ (npN σ + 1) = csm (fun i => σ 4 i = 0) (fun w => cnt (fun j => live σ j ∧ pn σ j = w) (nrN σ)) (npN σ + 1) :=
    csm_cong _ (fun _ _ => Iff.rfl) (fun i hi _ => allP5 h (by omega))
  rw [e, csm_fib]
  exact cnt_cong _ (fun j _ => ⟨fun q => ⟨q.1, q.2.2⟩, fun q => ⟨q.1, by have := (hI.pnI j q.1).2.1; omega, q.2⟩⟩)
theorem hb1023 {s : Int} (h0 : 0 ≤ s) (h9 : s ≤ 9) : hbit 1023 s := by
  obtain ⟨n, rfl⟩ : ∃ n : Nat, s = n := ⟨s.toNat, by omega⟩
  have : ∀ n : Nat, n < 10 → (1023 : Int) / 2 ^ n % 2 = 1 := by decide
  unfold hbit
  rw [Int.toNat_natCast]
  exact this n (by omega)
theorem nCp_all (hI : Ib σ) : nCp σ 0 999 1023 = nTb σ := by
  refine cnt_cong _ (fun j _ => ⟨fun q => ⟨q.1, q.2.1⟩, fun q => ⟨q.1, q.2, ?_⟩⟩)
  have := hI.row j q.1
  exact ⟨by omega, by omega, hb1023 (by omega) (by omega)⟩
/-! a question's -/
noncomputable def lvP (σ : Sg) (lo hi so : Int) (i n : Nat) : Int := cnt (fun l => isL σ (i : Int) (l : Int) ∧ mayM σ i (l : Int) lo hi so) n
noncomputable def lvS (σ : Sg) (lo hi so : Int) (n : Nat) : Int := csm (fun _ => True) (fun i => lvP σ lo hi so i 5) n
noncomputable def moP (σ : Sg) (lo hi so : Int) (i n : Nat) : Int := csm (fun l => isL σ (i : Int) (l : Int) ∧ mayM σ i (l : Int) lo hi so) (fun l => nIn σ i (l : Int)) n
noncomputable def moS (σ : Sg) (lo hi so : Int) (n : Nat) : Int := csm (fun _ => True) (fun i => moP σ lo hi so i 5) n
variable {lo hh so : Int}
theorem lvP_rg (i n : Nat) : 0 ≤ lvP σ lo hh so i n ∧ lvP σ lo hh so i n ≤ n := cnt_rg _ _
theorem moP_rg (hI : Ib σ) (i n : Nat) : 0 ≤ moP σ lo hh so i n ∧ moP σ lo hh so i n ≤ 200 * n := csm_rg (by omega) n (fun l _ => nIn_rg hI i l)
theorem lvS_rg (n : Nat) : 0 ≤ lvS σ lo hh so n ∧ lvS σ lo hh so n ≤ 5 * n := csm_rg (by omega) n (fun i _ => lvP_rg i 5)
theorem moS_rg (hI : Ib σ) (n : Nat) : 0 ≤ moS σ lo hh so n ∧ moS σ lo hh so n ≤ 1000 * n := csm_rg (by omega) n (fun i _ => by have := moP_rg (lo := lo) (hh := hh) (so := so) hI i 5; omega)
theorem allS_rg (hI : Ib σ) (n : Nat) : 0 ≤ allS σ n ∧ allS σ n ≤ 1000 * n := csm_rg (by omega) n (fun i _ => by have := allP_rg hI i 5; omega)
theorem tabS_rg (hI : Ib σ) (n : Nat) : 0 ≤ tabS σ n ∧ tabS σ n ≤ 1000 * n := csm_rg (by omega) n (fun i _ => by have := allP_rg hI i 5; omega)
theorem lvP5 (hI : Ib σ) {i : Nat} (hi : (i : Int) ≤ σ 9 0) : lvP σ lo hh so i 5 = rdp σ i lo hh so := by
  have hL := lvs_rg hI hi
  have e : rdp σ i lo hh so = lvP σ lo hh so i (lvs (σ 2 i) (σ 3 i)).toNat := by
    refine cnt_cong _ (fun w hw => ⟨fun q => ⟨(isL_i hI).mpr ⟨⟨hi, ?_⟩, by omega⟩, q⟩, fun q => q.2⟩)
    have := q.1
    omega
  rw [e]
  refine cnt_cut (by omega) (fun w h1 _ q => ?_)
  have := ((isL_i hI).mp q.1).2
  omega
theorem lvS_eq (hI : Ib σ) : lvS σ lo hh so (npN σ + 1) = rdA σ lo hh so := by
  have hnp := hI.npI
  unfold rdA lvS
  rw [csm_cut (n := npN σ + 1) 16 (by omega) (fun i hi w => by omega)]
  exact csm_cong _ (fun i hi => ⟨fun _ => by omega, fun _ => trivial⟩) (fun i hi _ => lvP5 hI (by omega))
theorem moS_ge (hI : Ib σ) : cntA σ lo hh so ≤ moS σ lo hh so (npN σ + 1) := by
  have hnp := hI.npI
  unfold cntA moS
  rw [csm_cut (n := npN σ + 1) 16 (by omega) (fun i hi w => by omega)]
  refine csm_le _ (fun i hi q => ⟨trivial, ?_⟩) (fun i hi _ => (moP_rg hI i 5).1)
  have hL := lvs_rg hI q
  have e : cip σ i lo hh so ≤ moP σ lo hh so i (lvs (σ 2 i) (σ 3 i)).toNat := by
    refine csm_le _ (fun w hw u => ⟨⟨(isL_i hI).mpr ⟨⟨q, ?_⟩, by omega⟩, u⟩, ?_⟩) (fun w _ _ => (nIn_rg hI i w).1)
    · have := u.1
      omega
    · exact cnt_le (fun j v => ⟨v.1, v.2.1⟩) _
  have e2 : moP σ lo hh so i 5 = moP σ lo hh so i (lvs (σ 2 i) (σ 3 i)).toNat := by
    refine csm_cut _ (by omega) (fun w h1 u => ?_)
    have := ((isL_i hI).mp u.1).2
    omega
  omega
theorem rdA_0 : rdA σ lo hh 0 = 0 := by
  unfold rdA
  have z : ∀ i : Nat, rdp σ i lo hh 0 = 0 := fun i => cnt_none _ (fun w _ q => q.2.1 rfl)
  have : ∀ n : Nat, csm (fun i => (i : Int) ≤ σ 9 0) (fun i => rdp σ i lo hh 0) n = 0 := by
    intro n
    induction n with
    | zero => rfl
    | succ n ih =>
      by_cases q : (n : Int) ≤ σ 9 0
      · rw [csm_t (P := fun i : Nat => (i : Int) ≤ σ 9 0) q, ih, z]; rfl
      · rw [csm_f (P := fun i : Nat => (i : Int) ≤ σ 9 0) q, ih]
  exact this 16
theorem rdA_rg (hI : Ib σ) : 0 ≤ rdA σ lo hh so ∧ rdA σ lo hh so ≤ 80 := by
  have hnp := hI.npI
  rw [← lvS_eq hI]
  have := lvS_rg (σ := σ) (lo := lo) (hh := hh) (so := so) (npN σ + 1)
  omega
/-- the sorts of a set that are even, and the others -/
theorem ev_bit {a : Nat} (ha : a ≤ 1023) : a - (a &&& 341) = a &&& 682 ∧ a &&& 341 ≤ a := by
  have : ∀ a : Fin 1024, (a : Nat) - ((a : Nat) &&& 341) = (a : Nat) &&& 682 ∧ (a : Nat) &&& 341 ≤ (a : Nat) := by decide +kernel
  exact this ⟨a, by omega⟩
theorem ev_tb (i : Nat) (hi : i < 10) : (341 : Nat).testBit i = !((682 : Nat).testBit i) := by
  have : ∀ i : Fin 10, (341 : Nat).testBit i = !((682 : Nat).testBit i) := by decide
  exact this ⟨i, hi⟩
theorem hb_and {a b : Nat} {s : Int} : hbit ((a &&& b : Nat) : Int) s ↔ hbit (a : Int) s ∧ hbit (b : Int) s := by
  unfold hbit
  rw [bit_n, bit_n, bit_n, Nat.testBit_and, Bool.and_eq_true]
theorem hb_n {a : Nat} {s : Int} : hbit (a : Int) s ↔ a.testBit s.toNat = true := by
  unfold hbit
  exact bit_n
theorem cut_half (hI : Ib σ) {mi : Int} (h1 : lo ≤ mi) (h2 : mi ≤ hh) : nCp σ lo mi so + nCp σ (mi + 1) hh so = nCp σ lo hh so := by
  unfold nCp
  rw [← cnt_or (fun j a b => by have := a.2.2; have := b.2.2; omega)]
  refine cnt_cong _ (fun j _ => ⟨fun w => ?_, fun w => ?_⟩)
  · rcases w with w | w
    · exact ⟨w.1, w.2.1, w.2.2.1, by have := w.2.2.2.1; omega, w.2.2.2.2⟩
    · exact ⟨w.1, w.2.1, by have := w.2.2.1; omega, w.2.2.2.1, w.2.2.2.2⟩
  · by_cases q : σ 6 j ≤ mi
    · exact Or.inl ⟨w.1, w.2.1, w.2.2.1, q, w.2.2.2.2⟩
    · exact Or.inr ⟨w.1, w.2.1, by omega, w.2.2.2.1, w.2.2.2.2⟩
theorem cut_sorts (hI : Ib σ) {a : Nat} (ha : a ≤ 1023) : nCp σ lo hh ((a &&& 341 : Nat) : Int) + nCp σ lo hh ((a : Int) - ((a &&& 341 : Nat) : Int)) = nCp σ lo hh (a : Int) := by
  obtain ⟨e1, e2⟩ := ev_bit ha
  have e3 : (a : Int) - ((a &&& 341 : Nat) : Int) = ((a &&& 682 : Nat) : Int) := by omega
  rw [e3]
  unfold nCp
  rw [← cnt_or (fun j u v => by
    have hr := hI.row j u.1
    have h1 := (hb_and.mp u.2.2.2.2).2
    have h2 := (hb_and.mp v.2.2.2.2).2
    have h3 := ev_tb (σ 7 j).toNat (by omega)
    rw [show ((341 : Nat) : Int) = (341 : Int) from rfl] at h1
    have h1 := (hb_n (a := 341)).mp h1
    have h2 := (hb_n (a := 682)).mp h2
    rw [h1, h2] at h3
    cases h3)]
  refine cnt_cong _ (fun j _ => ⟨fun w => ?_, fun w => ?_⟩)
  · rcases w with w | w
    · exact ⟨w.1, w.2.1, w.2.2.1, w.2.2.2.1, (hb_and.mp w.2.2.2.2).1⟩
    · exact ⟨w.1, w.2.1, w.2.2.1, w.2.2.2.1, (hb_and.mp w.2.2.2.2).1⟩
  · have hr := hI.row j w.1
    have h3 := ev_tb (σ 7 j).toNat (by omega)
    by_cases q : (682 : Nat).testBit (σ 7 j).toNat = true
    · exact Or.inr ⟨w.1, w.2.1, w.2.2.1, w.2.2.2.1, hb_and.mpr ⟨w.2.2.2.2, hb_n.mpr q⟩⟩
    · refine Or.inl ⟨w.1, w.2.1, w.2.2.1, w.2.2.2.1, hb_and.mpr ⟨w.2.2.2.2, hb_n.mpr ?_⟩⟩
      rw [h3]
      cases u : (682 : Nat).testBit (σ 7 j).toNat
      · rfl
      · exact absurd u q
/-- fewer sorts, no more leaves -/
theorem mayM_mono (hI : Ib σ) {i : Nat} (hi : (i : Int) ≤ σ 9 0) {leaf : Int} {a : Nat} (ha : a ≤ 1023) (hl : 0 ≤ leaf) (h : mayM σ i leaf lo hh ((a &&& 341 : Nat) : Int)) : mayM σ i leaf lo hh (a : Int) := by
  obtain ⟨e1, e2⟩ := ev_bit ha
  obtain ⟨h1, h2, h3⟩ := h
  have ha0 : (a : Int) ≠ 0 := by omega
  refine ⟨h1, ha0, ?_⟩
  rcases h3 with h3 | ⟨h3, h4, h5⟩
  · exact Or.inl h3
  · refine Or.inr ⟨h3, h4, ?_⟩
    rcases h5 with ⟨k, h5⟩ | ⟨k, -, h5⟩ | ⟨k1, k2, -⟩
    · refine Or.inl ⟨k, ?_⟩
      have hp := (hI.part i hi).2.2.2
      have hsb := sbl_rg (d := σ 3 i) (leaf := leaf) (by omega) (by omega)
      obtain ⟨b, hb, b1, b2⟩ := (and_ex ⟨by omega, by omega⟩ hsb.1).mp h5
      refine (and_ex ⟨by omega, by omega⟩ hsb.1).mpr ⟨b, hb, ?_, b2⟩
      rw [bit_n] at b1 ⊢
      rw [Nat.testBit_and, Bool.and_eq_true] at b1
      exact b1.1
    · exact Or.inr (Or.inl ⟨k, ha0, h5⟩)
    · exact Or.inr (Or.inr ⟨k1, k2, ha0⟩)
theorem rdA_mono (hI : Ib σ) {a : Nat} (ha : a ≤ 1023) : rdA σ lo hh ((a &&& 341 : Nat) : Int) ≤ rdA σ lo hh (a : Int) := by
  unfold rdA
  refine csm_le _ (fun i _ q => ⟨q, ?_⟩) (fun i _ _ => (cnt_rg _ _).1)
  exact cnt_le (fun w u => mayM_mono hI q ha (by omega) u) _
end Sums
