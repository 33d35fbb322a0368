/-! THE STATE, CHANGED: bounds kept; the class's cells that say it -/
section IbUp
variable {σ : Sg}
theorem Ib.stale (hI : Ib σ) {v : Int} (hv : 0 ≤ v ∧ v ≤ 1) : Ib (upS σ 11 0 v) := by
  obtain ⟨h1, h2, h3, h4, h5, h6, h7⟩ := hI
  have e : ∀ g i, g ≠ 11 → upS σ 11 0 v g i = σ g i := fun g i q => upS_g q
  refine ⟨by rw [e 9 0 (by decide)]; exact h1, by rw [e 10 0 (by decide)]; exact h2, by rw [upS_s]; exact hv, fun g i => ?_, fun g hg => by rw [e g 0 (by omega)]; exact h5 g hg, fun i hi => ?_, fun j hj => ?_⟩
  · unfold upS
    split
    · omega
    · exact h4 g i
  · rw [e 9 0 (by decide)] at hi
    rw [e 0 i (by decide), e 1 i (by decide), e 2 i (by decide), e 3 i (by decide), e 4 i (by decide)]
    exact h6 i hi
  · rw [e 5 j (by decide), e 6 j (by decide), e 7 j (by decide), e 8 j (by decide), e 9 0 (by decide)]
    exact h7 j ((upS_live (by decide) (by decide)).mp hj)
theorem Ib.st4 (hI : Ib σ) {i : Nat} (hi1 : 1 ≤ i) {v : Int} (hv : 0 ≤ v ∧ v ≤ 2) : Ib (upS σ 4 i v) := by
  obtain ⟨h1, h2, h3, h4, h5, h6, h7⟩ := hI
  have e : ∀ g k, g ≠ 4 → upS σ 4 i v g k = σ g k := fun g k q => upS_g q
  refine ⟨by rw [e 9 0 (by decide)]; exact h1, by rw [e 10 0 (by decide)]; exact h2, by rw [e 11 0 (by decide)]; exact h3, fun g k => ?_, fun g hg => ?_, fun k hk => ?_, fun j hj => ?_⟩
  · unfold upS
    split
    · omega
    · exact h4 g k
  · rw [upS_i (by omega)]; exact h5 g hg
  · rw [e 9 0 (by decide)] at hk
    rw [e 0 k (by decide), e 1 k (by decide), e 2 k (by decide), e 3 k (by decide)]
    have := h6 k hk
    refine ⟨this.1, this.2.1, ?_, this.2.2.2⟩
    unfold upS
    split
    · exact hv
    · exact this.2.2.1
  · rw [e 5 j (by decide), e 6 j (by decide), e 7 j (by decide), e 8 j (by decide), e 9 0 (by decide)]
    exact h7 j ((upS_live (by decide) (by decide)).mp hj)
theorem Ib.to1 (hI : Ib σ) {i : Nat} (hi1 : 1 ≤ i) {v : Int} (hv : 0 ≤ v ∧ v ≤ 1000) : Ib (upS σ 1 i v) := by
  obtain ⟨h1, h2, h3, h4, h5, h6, h7⟩ := hI
  have e : ∀ g k, g ≠ 1 → upS σ 1 i v g k = σ g k := fun g k q => upS_g q
  refine ⟨by rw [e 9 0 (by decide)]; exact h1, by rw [e 10 0 (by decide)]; exact h2, by rw [e 11 0 (by decide)]; exact h3, fun g k => ?_, fun g hg => ?_, fun k hk => ?_, fun j hj => ?_⟩
  · unfold upS
    split
    · omega
    · exact h4 g k
  · rw [upS_i (by omega)]; exact h5 g hg
  · rw [e 9 0 (by decide)] at hk
    rw [e 0 k (by decide), e 4 k (by decide), e 2 k (by decide), e 3 k (by decide)]
    have := h6 k hk
    refine ⟨this.1, ?_, this.2.2⟩
    unfold upS
    split
    · exact hv
    · exact this.2.1
  · rw [e 5 j (by decide), e 6 j (by decide), e 7 j (by decide), e 8 j (by decide), e 9 0 (by decide)]
    exact h7 j ((upS_live (by decide) (by decide)).mp hj)
/-- only the rows' parts change, to parts that are made -/
theorem Ib.parts5 (hI : Ib σ) {σ' : Sg} (h0 : ∀ g i, g ≠ 5 → σ' g i = σ g i) (h1 : ∀ j, live σ' j → live σ j) (h2 : ∀ j, σ' 5 j = σ 5 j ∨ (-1 ≤ σ' 5 j ∧ σ' 5 j ≤ σ 9 0)) : Ib σ' := by
  obtain ⟨a1, a2, a3, a4, a5, a6, a7⟩ := hI
  refine ⟨by rw [h0 9 0 (by decide)]; exact a1, by rw [h0 10 0 (by decide)]; exact a2, by rw [h0 11 0 (by decide)]; exact a3, fun g k => ?_, fun g hg => by rw [h0 g 0 (by omega)]; exact a5 g hg, fun k hk => ?_, fun j hj => ?_⟩
  · by_cases q : g = 5
    · subst q
      rcases h2 k with w | w
      · rw [w]; exact a4 5 k
      · omega
    · rw [h0 g k q]; exact a4 g k
  · rw [h0 9 0 (by decide)] at hk
    rw [h0 0 k (by decide), h0 1 k (by decide), h0 2 k (by decide), h0 3 k (by decide), h0 4 k (by decide)]
    exact a6 k hk
  · have := a7 j (h1 j hj)
    rw [h0 6 j (by decide), h0 7 j (by decide), h0 8 j (by decide), h0 9 0 (by decide)]
    refine ⟨?_, this.2⟩
    rcases h2 j with w | w
    · rw [w]; exact this.1
    · have := hj.2; omega
theorem Ib.mv (hI : Ib σ) {i k : Nat} (hk : (k : Int) ≤ σ 9 0) (n : Nat) : Ib (mvS σ i k n) := by
  refine hI.parts5 (fun g j q => mvS_g q) (fun j q => mvS_live.mp q) (fun j => ?_)
  by_cases w : (5 : Nat) = 5 ∧ j < n ∧ live σ j ∧ pn σ j = i ∧ σ 0 k ≤ σ 6 j ∧ σ 6 j < σ 1 k
  · have e : mvS σ i k n 5 j = k := if_pos w
    rw [e]
    exact Or.inr ⟨by omega, hk⟩
  · exact Or.inl (if_neg w)
theorem Ib.sw (hI : Ib σ) {i k : Nat} (hi : (i : Int) ≤ σ 9 0) (hk : (k : Int) ≤ σ 9 0) (n : Nat) : Ib (swS σ i k n) := by
  refine hI.parts5 (fun g j q => swS_g q) (fun j q => swS_live.mp q) (fun j => ?_)
  by_cases w : j < n ∧ live σ j
  · rw [swS_at w.1 w.2]
    by_cases a : pn σ j = i
    · rw [if_pos a]; exact Or.inr ⟨by omega, hk⟩
    · rw [if_neg a]
      by_cases b : pn σ j = k
      · rw [if_pos b]; exact Or.inr ⟨by omega, hi⟩
      · rw [if_neg b]; exact Or.inl rfl
  · exact Or.inl (if_neg (fun u => w u.2))
theorem Ib.p5 (hI : Ib σ) {j : Nat} (hl : live σ j) {v : Int} (hv : -1 ≤ v ∧ v ≤ σ 9 0) : Ib (upS σ 5 j v) := by
  refine hI.parts5 (fun g k q => upS_g q) (fun k q => ?_) (fun k => ?_)
  · by_cases w : k = j
    · rw [w]; exact hl
    · have h1 := q.1
      have h2 := q.2
      rw [upS_g (by decide)] at h1
      rw [upS_i w] at h2
      exact ⟨h1, h2⟩
  · by_cases w : k = j
    · subst w
      rw [upS_s]; exact Or.inr hv
    · exact Or.inl (upS_i w)
theorem Ib.k6 (hI : Ib σ) {j : Nat} {v : Int} (hv : 0 ≤ v ∧ v ≤ 999) : Ib (upS σ 6 j v) := by
  obtain ⟨h1, h2, h3, h4, h5, h6, h7⟩ := hI
  have e : ∀ g k, g ≠ 6 → upS σ 6 j v g k = σ g k := fun g k q => upS_g q
  refine ⟨by rw [e 9 0 (by decide)]; exact h1, by rw [e 10 0 (by decide)]; exact h2, by rw [e 11 0 (by decide)]; exact h3, fun g k => ?_, fun g hg => by rw [e g 0 (by omega)]; exact h5 g hg, fun k hk => ?_, fun k hk => ?_⟩
  · unfold upS
    split
    · omega
    · exact h4 g k
  · rw [e 9 0 (by decide)] at hk
    rw [e 0 k (by decide), e 1 k (by decide), e 2 k (by decide), e 3 k (by decide), e 4 k (by decide)]
    exact h6 k hk
  · rw [e 5 k (by decide), e 7 k (by decide), e 8 k (by decide), e 9 0 (by decide)]
    have := h7 k ((upS_live (by decide) (by decide)).mp hk)
    refine ⟨this.1, ?_, this.2.2⟩
    unfold upS
    split
    · exact hv
    · exact this.2.1
theorem Ib.s7 (hI : Ib σ) {j : Nat} {v : Int} (hv : 0 ≤ v ∧ v ≤ 9) : Ib (upS σ 7 j v) := by
  obtain ⟨h1, h2, h3, h4, h5, h6, h7⟩ := hI
  have e : ∀ g k, g ≠ 7 → upS σ 7 j v g k = σ g k := fun g k q => upS_g q
  refine ⟨by rw [e 9 0 (by decide)]; exact h1, by rw [e 10 0 (by decide)]; exact h2, by rw [e 11 0 (by decide)]; exact h3, fun g k => ?_, fun g hg => by rw [e g 0 (by omega)]; exact h5 g hg, fun k hk => ?_, fun k hk => ?_⟩
  · unfold upS
    split
    · omega
    · exact h4 g k
  · rw [e 9 0 (by decide)] at hk
    rw [e 0 k (by decide), e 1 k (by decide), e 2 k (by decide), e 3 k (by decide), e 4 k (by decide)]
    exact h6 k hk
  · rw [e 5 k (by decide), e 6 k (by decide), e 8 k (by decide), e 9 0 (by decide)]
    have := h7 k ((upS_live (by decide) (by decide)).mp hk)
    refine ⟨this.1, this.2.1, ?_, this.2.2.2⟩
    unfold upS
    split
    · exact hv
    · exact this.2.2.1
end IbUp
/-- a part is made -/
def mkP (σ : Sg) (f t k d : Int) : Sg := upS (upS (upS (upS (upS (upS σ 9 0 (σ 9 0 + 1)) 0 (npN σ + 1) f) 1 (npN σ + 1) t) 2 (npN σ + 1) k) 3 (npN σ + 1) d) 4 (npN σ + 1) 0
theorem mkP_o {σ : Sg} {f t k d : Int} {g i : Nat} (h : i ≠ npN σ + 1) (h9 : g ≠ 9) : mkP σ f t k d g i = σ g i := by
  unfold mkP
  rw [upS_i h, upS_i h, upS_i h, upS_i h, upS_i h, upS_g h9]
theorem mkP_g {σ : Sg} {f t k d : Int} {g i : Nat} (h : 5 ≤ g) (h9 : g ≠ 9) : mkP σ f t k d g i = σ g i := by
  unfold mkP
  rw [upS_g (by omega), upS_g (by omega), upS_g (by omega), upS_g (by omega), upS_g (by omega), upS_g h9]
theorem mkP_9 {σ : Sg} {f t k d : Int} : mkP σ f t k d 9 0 = σ 9 0 + 1 := by
  unfold mkP
  rw [upS_g (by decide), upS_g (by decide), upS_g (by decide), upS_g (by decide), upS_g (by decide), upS_s]
theorem mkP_N {σ : Sg} {f t k d : Int} : mkP σ f t k d 0 (npN σ + 1) = f ∧ mkP σ f t k d 1 (npN σ + 1) = t ∧ mkP σ f t k d 2 (npN σ + 1) = k ∧ mkP σ f t k d 3 (npN σ + 1) = d ∧ mkP σ f t k d 4 (npN σ + 1) = 0 := by
  unfold mkP
  refine ⟨?_, ?_, ?_, ?_, upS_s _ _ _ _⟩
  · rw [upS_g (by decide), upS_g (by decide), upS_g (by decide), upS_g (by decide), upS_s]
  · rw [upS_g (by decide), upS_g (by decide), upS_g (by decide), upS_s]
  · rw [upS_g (by decide), upS_g (by decide), upS_s]
  · rw [upS_g (by decide), upS_s]
theorem mkP_live {σ : Sg} {f t k d : Int} {j : Nat} : live (mkP σ f t k d) j ↔ live σ j := by
  unfold live
  rw [mkP_g (by decide) (by decide), mkP_g (by decide) (by decide)]
theorem mkP_pn {σ : Sg} {f t k d : Int} {j : Nat} : pn (mkP σ f t k d) j = pn σ j := by
  unfold pn
  rw [mkP_g (by decide) (by decide)]
theorem Ib.mk {σ : Sg} (hI : Ib σ) {f t k d : Int} (hn : σ 9 0 < 15) (h1 : okR f t) (h2 : okK k d) : Ib (mkP σ f t k d) := by
  have hnp := hI.npI
  obtain ⟨a1, a2, a3, a4, a5, a6, a7⟩ := hI
  obtain ⟨n0, n1, n2, n3, n4⟩ := @mkP_N σ f t k d
  unfold okR at h1
  unfold okK at h2
  refine ⟨by rw [mkP_9]; omega, by rw [mkP_g (by decide) (by decide)]; exact a2, by rw [mkP_g (by decide) (by decide)]; exact a3, fun g i => ?_, fun g hg => by rw [mkP_o (by omega) (by omega)]; exact a5 g hg, fun i hi => ?_, fun j hj => ?_⟩
  · unfold mkP
    have b := a4 g i
    have b9 := a4 9 0
    simp only [upS]
    split
    · omega
    split
    · omega
    split
    · omega
    split
    · omega
    split
    · omega
    split
    · omega
    · exact b
  · rw [mkP_9] at hi
    by_cases q : i = npN σ + 1
    · subst q
      rw [n0, n1, n2, n3, n4]
      omega
    · rw [mkP_o q (by decide), mkP_o q (by decide), mkP_o q (by decide), mkP_o q (by decide), mkP_o q (by decide)]
      exact a6 i (by omega)
  · have := a7 j (mkP_live.mp hj)
    rw [show mkP σ f t k d 5 j = σ 5 j from mkP_g (by decide) (by decide), show mkP σ f t k d 6 j = σ 6 j from mkP_g (by decide) (by decide), show mkP σ f t k d 7 j = σ 7 j from mkP_g (by decide) (by decide), show mkP σ f t k d 8 j = σ 8 j from mkP_g (by decide) (by decide), mkP_9]
    omega
/-- a row is inserted -/
def inS (σ : Sg) (p ky sr vl : Int) : Sg := upS (upS (upS (upS (upS σ 6 (nrN σ) ky) 7 (nrN σ) sr) 8 (nrN σ) vl) 5 (nrN σ) p) 10 0 (σ 10 0 + 1)
theorem inS_o {σ : Sg} {p ky sr vl : Int} {g j : Nat} (h : j ≠ nrN σ) (h10 : g ≠ 10) : inS σ p ky sr vl g j = σ g j := by
  unfold inS
  rw [upS_g h10, upS_i h, upS_i h, upS_i h, upS_i h]
theorem inS_g {σ : Sg} {p ky sr vl : Int} {g j : Nat} (h : g < 5 ∨ 9 ≤ g) (h10 : g ≠ 10) : inS σ p ky sr vl g j = σ g j := by
  unfold inS
  rw [upS_g h10, upS_g (by omega), upS_g (by omega), upS_g (by omega), upS_g (by omega)]
theorem inS_10 {σ : Sg} {p ky sr vl : Int} : inS σ p ky sr vl 10 0 = σ 10 0 + 1 := upS_s _ _ _ _
theorem inS_N {σ : Sg} {p ky sr vl : Int} : inS σ p ky sr vl 5 (nrN σ) = p ∧ inS σ p ky sr vl 6 (nrN σ) = ky ∧ inS σ p ky sr vl 7 (nrN σ) = sr ∧ inS σ p ky sr vl 8 (nrN σ) = vl := by
  unfold inS
  refine ⟨?_, ?_, ?_, ?_⟩
  · rw [upS_g (by decide), upS_s]
  · rw [upS_g (by decide), upS_g (by decide), upS_g (by decide), upS_g (by decide), upS_s]
  · rw [upS_g (by decide), upS_g (by decide), upS_g (by decide), upS_s]
  · rw [upS_g (by decide), upS_g (by decide), upS_s]
theorem inS_live {σ : Sg} (hI : Ib σ) {p ky sr vl : Int} (hp : p ≠ -1) {j : Nat} : live (inS σ p ky sr vl) j ↔ live σ j ∨ j = nrN σ := by
  have hn := hI.nrI
  unfold live
  rw [inS_10]
  by_cases q : j = nrN σ
  · subst q
    rw [inS_N.1]
    omega
  · rw [inS_o q (by decide)]
    omega
theorem Ib.ins {σ : Sg} (hI : Ib σ) {p ky sr vl : Int} (hn : σ 10 0 < 200) (hp : 0 ≤ p ∧ p ≤ σ 9 0) (hk : 0 ≤ ky ∧ ky ≤ 999) (hs : 0 ≤ sr ∧ sr ≤ 9) (hv : 0 ≤ vl ∧ vl ≤ 99) : Ib (inS σ p ky sr vl) := by
  have hnr := hI.nrI
  have hlv := fun j => @inS_live σ hI p ky sr vl (by omega) j
  obtain ⟨a1, a2, a3, a4, a5, a6, a7⟩ := hI
  obtain ⟨n5, n6, n7, n8⟩ := @inS_N σ p ky sr vl
  refine ⟨by rw [inS_g (by omega) (by decide)]; exact a1, by rw [inS_10]; omega, by rw [inS_g (by omega) (by decide)]; exact a3, fun g i => ?_, fun g hg => by rw [inS_g (by omega) (by omega)]; exact a5 g hg, fun i hi => ?_, fun j hj => ?_⟩
  · unfold inS
    have b := a4 g i
    have b9 := a4 10 0
    simp only [upS]
    split
    · omega
    split
    · omega
    split
    · omega
    split
    · omega
    split
    · omega
    · exact b
  · rw [inS_g (by omega) (by decide)] at hi
    rw [inS_g (by omega) (by decide), inS_g (by omega) (by decide), inS_g (by omega) (by decide), inS_g (by omega) (by decide), inS_g (by omega) (by decide)]
    exact a6 i hi
  · rw [show inS σ p ky sr vl 9 0 = σ 9 0 from inS_g (by omega) (by decide)]
    by_cases q : j = nrN σ
    · subst q
      rw [n5, n6, n7, n8]
      exact ⟨hp, hk, hs, hv⟩
    · rw [inS_o q (by decide), inS_o q (by decide), inS_o q (by decide), inS_o q (by decide)]
      exact a7 j (((hlv j).mp hj).resolve_right q)
section WrC2
variable {cP cR : ClassId} {x xp xr : Nat} {pa ra : Nat → Nat} {σ : Sg} {h : Hp}
theorem va_up_s {α : Type} (f : Nat → α) (k : Nat) (v : α) : va_up f k v k = v := if_pos rfl
theorem va_up_n {α : Type} {f : Nat → α} {k j : Nat} {v : α} (q : j ≠ k) : va_up f k v j = f j := if_neg q
theorem CR.keepP (hC : CR cP cR x xp xr pa ra σ h) (hI : Ib σ) (hn : σ 9 0 < 15) {ca : Nat} {f t k d : Int} (hca : h ca = some (prt (σ 9 0 + 1) f t k d 0)) {fp : Nat → Option Nat} (hfp : h xp = some (arQ cP 16 fp)) :
    CR cP cR x xp xr (va_up pa (npN σ + 1) ca) ra (mkP σ f t k d) (hup (hup h xp (arQ cP 16 (va_up fp (npN σ + 1) (some ca)))) x (tbl (pa 0) xp (σ 9 0 + 1) xr (σ 10 0) (σ 11 0))) := by
  have hnp := hI.npI
  have hpn := hI.pnI
  obtain ⟨n0, n1, n2, n3, n4⟩ := @mkP_N σ f t k d
  obtain ⟨a1, ⟨f1, a2, a3⟩, ⟨f', a4, a5⟩, a6, a7, a8, a9⟩ := hC
  rw [a2] at hfp
  cases hfp
  have hne : ∀ i : Nat, (i : Int) ≤ σ 9 0 → pa i ≠ ca := fun i hi u => by
    have q := a6 i hi
    rw [u, hca] at q
    have w : iI (σ 9 0 + 1) = iI (i : Int) := by
      have := congrArg (fun o : Option va_E => match o with | some (.inr (_, .int v :: _)) => some v | _ => none) q
      exact Option.some.inj this
    have := (iI_eq (a := σ 9 0 + 1) (b := (i : Int)) ⟨by omega, by omega⟩ ⟨by omega, by omega⟩).mp w
    omega
  have nx : ∀ {a : Nat} {e : va_E}, h a = some e → kd e ≠ 3 → kd e ≠ 6 → hup (hup h xp (arQ cP 16 (va_up fp (npN σ + 1) (some ca)))) x (tbl (pa 0) xp (σ 9 0 + 1) xr (σ 10 0) (σ 11 0)) a = some e := fun {a} {e} q w1 w2 => by
    rw [hup_n (fun u => by rw [u, a1] at q; cases q; exact w1 rfl), hup_n (fun u => by rw [u, a2] at q; cases q; exact w2 rfl)]
    exact q
  refine ⟨?_, ⟨va_up fp (npN σ + 1) (some ca), ?_, fun i hi => ?_⟩, ⟨f', ?_, fun j hj => ?_⟩, fun i hi => ?_, fun j hj => ?_, fun i i' b1 b2 => ?_, fun j j' b1 b2 => a9 j j' (mkP_live.mp b1) (mkP_live.mp b2)⟩
  · rw [hup_s, mkP_9, mkP_g (by decide) (by decide), mkP_g (by decide) (by decide), va_up_n (by omega)]
  · rw [hup_n (fun u => by rw [u, a1] at a2; cases a2)]
    exact hup_s _ _ _
  · rw [mkP_9]
    by_cases q : i = npN σ + 1
    · subst q
      rw [va_up_s, va_up_s]
      exact ⟨fun _ => rfl, fun w => absurd (by omega) w⟩
    · rw [va_up_n q, va_up_n q]
      exact ⟨fun w => (a3 i hi).1 (by omega), fun w => (a3 i hi).2 (by omega)⟩
  · rw [hup_n (fun u => by rw [u, a1] at a4; cases a4)]
    by_cases u : xr = xp
    · rw [u, a2] at a4
      injection a4 with a4
      injection a4 with a4
      have hcc : 16 = 200 := congrArg (fun p : ClassId × vp_A => p.2.1) a4
      omega
    · rw [hup_n u]
      exact a4
  · rw [mkP_live]
    exact a5 j hj
  · rw [mkP_9] at hi
    by_cases q : i = npN σ + 1
    · subst q
      rw [va_up_s, n0, n1, n2, n3, n4, show ((npN σ + 1 : Nat) : Int) = σ 9 0 + 1 by omega]
      exact nx hca (by intro w; cases w) (by intro w; cases w)
    · rw [va_up_n q, mkP_o q (by decide), mkP_o q (by decide), mkP_o q (by decide), mkP_o q (by decide), mkP_o q (by decide)]
      exact nx (a6 i (by omega)) (by intro w; cases w) (by intro w; cases w)
  · have hj' := mkP_live.mp hj
    have := hpn j hj'
    rw [mkP_pn, va_up_n (by omega), mkP_g (by decide) (by decide), mkP_g (by decide) (by decide), mkP_g (by decide) (by decide)]
    exact nx (a7 j hj') (by intro w; cases w) (by intro w; cases w)
  · rw [mkP_9] at b1 b2
    intro e
    by_cases q : i = npN σ + 1
    · by_cases q' : i' = npN σ + 1
      · rw [q, q']
      · rw [q, va_up_s, va_up_n q'] at e
        exact absurd e.symm (hne i' (by omega))
    · by_cases q' : i' = npN σ + 1
      · rw [q', va_up_s, va_up_n q] at e
        exact absurd e (hne i (by omega))
      · rw [va_up_n q, va_up_n q'] at e
        exact a8 i i' (by omega) (by omega) e
theorem CR.insR (hC : CR cP cR x xp xr pa ra σ h) (hI : Ib σ) {q : Nat} {i : Nat} (hi : (i : Int) ≤ σ 9 0) {ky sr vl : Int} (hq : h q = some (rwE ky sr vl (pa i))) (hqn : ∀ j, live σ j → ra j ≠ q) {fr : Nat → Option Nat} (hfr : h xr = some (arQ cR 200 fr)) :
    CR cP cR x xp xr pa (va_up ra (nrN σ) q) (inS σ (i : Int) ky sr vl) (hup (hup h xr (arQ cR 200 (va_up fr (nrN σ) (some q)))) x (tbl (pa 0) xp (σ 9 0) xr (σ 10 0 + 1) (σ 11 0))) := by
  have hnr := hI.nrI
  have hlv := fun j => @inS_live σ hI (i : Int) ky sr vl (by omega) j
  obtain ⟨n5, n6, n7, n8⟩ := @inS_N σ (i : Int) ky sr vl
  have u9 : inS σ (i : Int) ky sr vl 9 0 = σ 9 0 := inS_g (by omega) (by decide)
  obtain ⟨a1, ⟨f1, a2, a3⟩, ⟨f', a4, a5⟩, a6, a7, a8, a9⟩ := hC
  rw [a4] at hfr
  cases hfr
  have nx : ∀ {a : Nat} {e : va_E}, h a = some e → kd e ≠ 3 → kd e ≠ 6 → hup (hup h xr (arQ cR 200 (va_up fr (nrN σ) (some q)))) x (tbl (pa 0) xp (σ 9 0) xr (σ 10 0 + 1) (σ 11 0)) a = some e := fun {a} {e} w w1 w2 => by
    rw [hup_n (fun u => by rw [u, a1] at w; cases w; exact w1 rfl), hup_n (fun u => by rw [u, a4] at w; cases w; exact w2 rfl)]
    exact w
  have hnl : ¬ live σ (nrN σ) := fun w => by have := w.1; omega
  refine ⟨?_, ⟨f1, ?_, fun k hk => ?_⟩, ⟨va_up fr (nrN σ) (some q), ?_, fun j hj => ?_⟩, fun k hk => ?_, fun j hj => ?_, fun k k' b1 b2 => ?_, fun j j' b1 b2 => ?_⟩
  · rw [hup_s, u9, inS_10, inS_g (by omega) (by decide)]
  · rw [hup_n (fun u => by rw [u, a1] at a2; cases a2)]
    by_cases u : xp = xr
    · rw [u, a4] at a2
      injection a2 with a2
      injection a2 with a2
      have hcc : 200 = 16 := congrArg (fun p : ClassId × vp_A => p.2.1) a2
      omega
    · rw [hup_n u]
      exact a2
  · rw [u9]
    exact a3 k hk
  · rw [hup_n (fun u => by rw [u, a1] at a4; cases a4)]
    exact hup_s _ _ _
  · rw [hlv j]
    by_cases w : j = nrN σ
    · subst w
      rw [va_up_s, va_up_s]
      exact ⟨fun _ => rfl, fun u => absurd (Or.inr rfl) u⟩
    · rw [va_up_n w, va_up_n w]
      exact ⟨fun u => (a5 j hj).1 (u.resolve_right w), fun u => (a5 j hj).2 (fun z => u (Or.inl z))⟩
  · rw [u9] at hk
    rw [inS_g (by omega) (by decide), inS_g (by omega) (by decide), inS_g (by omega) (by decide), inS_g (by omega) (by decide), inS_g (by omega) (by decide)]
    exact nx (a6 k hk) (by intro w; cases w) (by intro w; cases w)
  · by_cases w : j = nrN σ
    · subst w
      have : pn (inS σ (i : Int) ky sr vl) (nrN σ) = i := by unfold pn; rw [n5]; exact Int.toNat_natCast i
      rw [va_up_s, n6, n7, n8, this]
      exact nx hq (by intro w; cases w) (by intro w; cases w)
    · have hj' := ((hlv j).mp hj).resolve_right w
      have : pn (inS σ (i : Int) ky sr vl) j = pn σ j := by unfold pn; rw [inS_o w (by decide)]
      rw [va_up_n w, inS_o w (by decide), inS_o w (by decide), inS_o w (by decide), this]
      exact nx (a7 j hj') (by intro w; cases w) (by intro w; cases w)
  · rw [u9] at b1 b2
    exact a8 k k' b1 b2
  · intro e
    by_cases w : j = nrN σ
    · by_cases w' : j' = nrN σ
      · rw [w, w']
      · rw [w, va_up_s, va_up_n w'] at e
        exact absurd e.symm (hqn j' (((hlv j').mp b2).resolve_right w'))
    · by_cases w' : j' = nrN σ
      · rw [w', va_up_s, va_up_n w] at e
        exact absurd e (hqn j (((hlv j).mp b1).resolve_right w))
      · rw [va_up_n w, va_up_n w'] at e
        exact a9 j j' (((hlv j).mp b1).resolve_right w) (((hlv j').mp b2).resolve_right w') e
theorem rem_live {σ : Sg} {j k : Nat} : live (upS σ 5 j (-1)) k ↔ live σ k ∧ k ≠ j := by
  unfold live
  rw [upS_g (by decide)]
  by_cases q : k = j
  · subst q
    rw [upS_s]
    omega
  · rw [upS_i q]
    omega
theorem CR.remR (hC : CR cP cR x xp xr pa ra σ h) {j : Nat} (hj : live σ j) {fr : Nat → Option Nat} (hfr : h xr = some (arQ cR 200 fr)) : CR cP cR x xp xr pa ra (upS σ 5 j (-1)) (hup h xr (arQ cR 200 (va_up fr j none))) := by
  obtain ⟨a1, ⟨f1, a2, a3⟩, ⟨f', a4, a5⟩, a6, a7, a8, a9⟩ := hC
  rw [a4] at hfr
  cases hfr
  have u9 : upS σ 5 j (-1) 9 0 = σ 9 0 := upS_g (by decide)
  have nx : ∀ {a : Nat} {e : va_E}, h a = some e → kd e ≠ 6 → hup h xr (arQ cR 200 (va_up fr j none)) a = some e := fun {a} {e} w w2 => by
    rw [hup_n (fun u => by rw [u, a4] at w; cases w; exact w2 rfl)]
    exact w
  refine ⟨?_, ⟨f1, ?_, fun k hk => ?_⟩, ⟨va_up fr j none, hup_s _ _ _, fun k hk => ?_⟩, fun k hk => ?_, fun k hk => ?_, fun k k' b1 b2 => ?_, fun k k' b1 b2 => a9 k k' (rem_live.mp b1).1 (rem_live.mp b2).1⟩
  · rw [u9, upS_g (by decide), upS_g (by decide)]
    exact nx a1 (by intro w; cases w)
  · by_cases u : xp = xr
    · rw [u, a4] at a2
      injection a2 with a2
      injection a2 with a2
      have hcc : 200 = 16 := congrArg (fun p : ClassId × vp_A => p.2.1) a2
      omega
    · rw [hup_n u]
      exact a2
  · rw [u9]
    exact a3 k hk
  · rw [rem_live]
    by_cases w : k = j
    · subst w
      rw [va_up_s]
      exact ⟨fun u => absurd rfl u.2, fun _ => rfl⟩
    · rw [va_up_n w]
      exact ⟨fun u => (a5 k hk).1 u.1, fun u => (a5 k hk).2 (fun z => u ⟨z, w⟩)⟩
  · rw [u9] at hk
    rw [upS_g (by decide), upS_g (by decide), upS_g (by decide), upS_g (by decide), upS_g (by decide)]
    exact nx (a6 k hk) (by intro w; cases w)
  · obtain ⟨h1, h2⟩ := rem_live.mp hk
    have : pn (upS σ 5 j (-1)) k = pn σ k := by unfold pn; rw [upS_i h2]
    rw [upS_g (by decide), upS_g (by decide), upS_g (by decide), this]
    exact nx (a7 k h1) (by intro w; cases w)
  · rw [u9] at b1 b2
    exact a8 k k' b1 b2
/-! the row's part is set while rows move -/
theorem mv_row {i k n j : Nat} (hC : CR cP cR x xp xr pa ra (mvS σ i k n) h) (hn : n ≤ j) (hl : live σ j) : h (ra j) = some (rwE (σ 6 j) (σ 7 j) (σ 8 j) (pa (pn σ j))) := by
  have := hC.rw j (mvS_live.mpr hl)
  rw [mvS_g (by decide), mvS_g (by decide), mvS_g (by decide), show pn (mvS σ i k n) j = pn σ j by unfold pn; rw [mvS_n hn]] at this
  exact this
theorem mv_prt {i k n q : Nat} (hC : CR cP cR x xp xr pa ra (mvS σ i k n) h) (hq : (q : Int) ≤ σ 9 0) : h (pa q) = some (prt q (σ 0 q) (σ 1 q) (σ 2 q) (σ 3 q) (σ 4 q)) := by
  have := hC.pt q (by rw [mvS_g (by decide)]; exact hq)
  rw [mvS_g (by decide), mvS_g (by decide), mvS_g (by decide), mvS_g (by decide), mvS_g (by decide)] at this
  exact this
theorem mv_put {i k j : Nat} (hC : CR cP cR x xp xr pa ra (mvS σ i k j) h) (hl : live σ j) : CR cP cR x xp xr pa ra (upS (mvS σ i k j) 5 j (k : Int)) (hup h (ra j) (rwE (σ 6 j) (σ 7 j) (σ 8 j) (pa k))) := by
  have hl' : live (mvS σ i k j) j := mvS_live.mpr hl
  have := hC.wrow hl' (σ' := upS (mvS σ i k j) 5 j (k : Int)) (fun g i q => upS_g (by omega)) (fun g i q => upS_i q) ((upS_live5 hl' (by omega)).mpr hl')
  rw [upS_g (by decide), upS_g (by decide), upS_g (by decide), mvS_g (by decide), mvS_g (by decide), mvS_g (by decide), show pn (upS (mvS σ i k j) 5 j (k : Int)) j = k by unfold pn; rw [upS_s]; exact Int.toNat_natCast k] at this
  exact this
theorem sw_row {i k n j : Nat} (hC : CR cP cR x xp xr pa ra (swS σ i k n) h) (hn : n ≤ j) (hl : live σ j) : h (ra j) = some (rwE (σ 6 j) (σ 7 j) (σ 8 j) (pa (pn σ j))) := by
  have := hC.rw j (swS_live.mpr hl)
  rw [swS_g (by decide), swS_g (by decide), swS_g (by decide), show pn (swS σ i k n) j = pn σ j by unfold pn; rw [swS_n hn]] at this
  exact this
theorem sw_put {i k j q : Nat} (hC : CR cP cR x xp xr pa ra (swS σ i k j) h) (hl : live σ j) : CR cP cR x xp xr pa ra (upS (swS σ i k j) 5 j (q : Int)) (hup h (ra j) (rwE (σ 6 j) (σ 7 j) (σ 8 j) (pa q))) := by
  have hl' : live (swS σ i k j) j := swS_live.mpr hl
  have := hC.wrow hl' (σ' := upS (swS σ i k j) 5 j (q : Int)) (fun g i z => upS_g (by omega)) (fun g i z => upS_i z) ((upS_live5 hl' (by omega)).mpr hl')
  rw [upS_g (by decide), upS_g (by decide), upS_g (by decide), swS_g (by decide), swS_g (by decide), swS_g (by decide), show pn (upS (swS σ i k j) 5 j (q : Int)) j = q by unfold pn; rw [upS_s]; exact Int.toNat_natCast q] at this
  exact this
end WrC2
section AstI
variable {p : Program} {l : Launch} {e : Env} {R : Room} {s : State} {m : MethodId} {args : Array Value} {below : List Frame} {meth : Method} {c : Code} {H : Heap} {locs : List Loc} {cells slots : Nat} {Q : State → Prop}
variable {cc : ByteArray} {pc : Nat} {ls : Array Slot} {rest st0 : List Value} {D : va_G} {z : Nat} {h : Hp} {H0 : Heap} {tys : List (ClassId × FieldType)} {a : Nat}
theorem m_astI (hexec : p.tables.exec = Jvm.exec) (hb : c.code = cc) (hK : Kb D z tys s) (hB : Bk D z H0 h H locs) (t0 ci : Nat) {cA : ClassId} {r : vw_C} {n v : Nat} {vs : List Value} {f : Nat → Option Nat} (he : h a = some (arQ cA n f)) (ht : tys[t0]? = some (cA, .object r.1)) (hv : h v = some (.inr (ci, vs))) (hc : vwCl[ci]? = some r) {i : Int} (h0 : 0 ≤ i) (h1 : i < n) (hn : n ≤ 1000) (hdg : decode cc pc = .ok (.aastore, 1))
    (kk : ∀ (H1 : Heap) (locs1 : List Loc), Bk D z H0 (hup h a (arQ cA n (va_up f i.toNat (some v)))) H1 locs1 → W p l e R s m args below meth c H1 locs1 cells slots Q (F0 m (pc + 1) ls rest)) : W p l e R s m args below meth c H locs cells slots Q (F0 m pc ls (.ref v :: .int (iI i) :: .ref a :: rest)) := by
  obtain ⟨k, rfl⟩ : ∃ k : Nat, i = (k : Int) := ⟨i.toNat, by omega⟩
  refine m_astq hexec hb hK hB t0 ci he ht hv hc (iI_in (by omega) (by omega)) hdg (fun H1 locs1 hB1 => kk H1 locs1 ?_)
  rw [iI_cn (by omega)] at hB1
  rw [Int.toNat_natCast]
  exact hB1
theorem m_astN (hexec : p.tables.exec = Jvm.exec) (hb : c.code = cc) (hK : Kb D z tys s) (hB : Bk D z H0 h H locs) (t0 : Nat) {cA : ClassId} {C : String} {n : Nat} {f : Nat → Option Nat} (he : h a = some (arQ cA n f)) (ht : tys[t0]? = some (cA, .object C)) {i : Int} (h0 : 0 ≤ i) (h1 : i < n) (hn : n ≤ 1000) (hdg : decode cc pc = .ok (.aastore, 1))
    (kk : ∀ (H1 : Heap) (locs1 : List Loc), Bk D z H0 (hup h a (arQ cA n (va_up f i.toNat none))) H1 locs1 → W p l e R s m args below meth c H1 locs1 cells slots Q (F0 m (pc + 1) ls rest)) : W p l e R s m args below meth c H locs cells slots Q (F0 m pc ls (.null :: .int (iI i) :: .ref a :: rest)) := by
  obtain ⟨k, rfl⟩ : ∃ k : Nat, i = (k : Int) := ⟨i.toNat, by omega⟩
  refine m_astqN hexec hb hK hB t0 he ht (iI_in (by omega) (by omega)) hdg (fun H1 locs1 hB1 => kk H1 locs1 ?_)
  rw [iI_cn (by omega)] at hB1
  rw [Int.toNat_natCast]
  exact hB1
end AstI
