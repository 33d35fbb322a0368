/-! p27: WHAT THE LAW'S OWN METHODS LEAVE, in one word each -/
def CRx (cP cR : ClassId) (x : Nat) (σ : Sg) (h : Hp) : Prop := ∃ (xp xr : Nat) (pa ra : Nat → Nat), CR cP cR x xp xr pa ra σ h
theorem CR.x {cP cR : ClassId} {x xp xr : Nat} {pa ra : Nat → Nat} {σ : Sg} {h : Hp} (hC : CR cP cR x xp xr pa ra σ h) : CRx cP cR x σ h := ⟨_, _, _, _, hC⟩
/-- the place of a row: 10 times its part, and its leaf -/
noncomputable def plc (σ : Sg) (n : Int) : Int := 10 * ((pn σ n.toNat : Nat) : Int) + lfr σ n.toNat
def Mk (σ σ2 : Sg) (f : Int) : Prop := Iv σ2 ∧ nLv σ2 = nLv σ ∧ nTb σ2 = nTb σ ∧ Kk σ σ2 ∧ σ2 9 0 = σ 9 0 + 1 ∧ σ2 10 0 = σ 10 0 ∧ σ2 11 0 = σ 11 0 ∧ ((pw σ2 f : Nat) : Int) = σ 9 0 + 1
def Sp (σ σ2 : Sg) (n ky : Int) : Prop := Mk σ σ2 ky ∧ ((pw σ2 (ky - 1) : Nat) : Int) = n ∧ 1 ≤ ky ∧ ky ≤ 999
def Mg (σ σ2 : Sg) (n n2 : Int) : Prop := Iv σ2 ∧ nLv σ2 = nLv σ ∧ nTb σ2 = nTb σ ∧ Kk σ σ2 ∧ σ2 9 0 = σ 9 0 ∧ σ2 10 0 = σ 10 0 ∧ σ2 11 0 = σ 11 0 ∧ (1 ≤ n ∧ n ≤ σ 9 0 ∧ σ2 4 n.toNat = 0) ∧ (1 ≤ n2 ∧ n2 ≤ σ 9 0 ∧ σ2 4 n2.toNat = 2)
def xcd (σ : Sg) (n n2 : Int) : Prop := (isP σ n ∧ isP σ n2) ∧ (σ 4 n.toNat = 0 ∧ σ 4 n2.toNat = 1 ∧ ¬ forn σ n.toNat n2.toNat ∧ ¬ forn σ n2.toNat n.toNat)
noncomputable def xsS (σ : Sg) (n n2 : Int) : Sg := upS (swS σ n.toNat n2.toNat 200) 11 0 1
def Tn (σ σ2 : Sg) (cv n r : Int) : Prop := Iv σ2 ∧ nLv σ2 = nLv σ ∧ Kk σ σ2 ∧ σ2 9 0 = σ 9 0 ∧ σ2 10 0 = σ 10 0 ∧ σ2 11 0 = 1 ∧ (1 ≤ n ∧ n ≤ σ 9 0) ∧ (0 ≤ r ∧ r ≤ 200) ∧ (cv = 0 → nTb σ2 = nTb σ - r ∧ σ2 4 n.toNat = 1) ∧ (cv ≠ 0 → nTb σ2 = nTb σ + r ∧ σ2 4 n.toNat = 0)
def In (σ σ2 : Sg) (ky vl : Int) : Prop := Iv σ2 ∧ nLv σ2 = nLv σ + 1 ∧ nTb σ2 = nTb σ + 1 ∧ nVl σ2 vl = nVl σ vl + 1 ∧ σ2 9 0 = σ 9 0 ∧ σ2 10 0 = σ 10 0 + 1 ∧ σ2 11 0 = σ 11 0 ∧ (∀ j, live σ2 j → (live σ j ∧ σ2 6 j = σ 6 j) ∨ ((j : Int) = σ 10 0 ∧ σ2 6 j = ky))
def Cg (σ σ2 : Sg) (n ky r : Int) : Prop := Iv σ2 ∧ nLv σ2 = nLv σ ∧ σ2 9 0 = σ 9 0 ∧ σ2 10 0 = σ 10 0 ∧ σ2 11 0 = σ 11 0 ∧ isR σ n ∧ isR σ2 n ∧ (∀ j : Nat, live σ2 j → live σ j ∧ ((j : Int) = n → σ2 6 j = ky) ∧ ((j : Int) ≠ n → σ2 6 j = σ 6 j)) ∧ pw σ2 ky = pn σ2 n.toNat ∧ r = b2 (plc σ2 n ≠ plc σ n)
def Rm (σ σ2 : Sg) (n r : Int) : Prop := Iv σ2 ∧ nLv σ2 = nLv σ - 1 ∧ Kk σ σ2 ∧ σ2 9 0 = σ 9 0 ∧ σ2 10 0 = σ 10 0 ∧ σ2 11 0 = σ 11 0 ∧ isR σ n ∧ ¬ isR σ2 n ∧ (0 ≤ r ∧ r ≤ 99)
section Bund
variable {σ : Sg}
theorem isP_t {n : Int} (h : isP σ n) : 1 ≤ n.toNat ∧ ((n.toNat : Nat) : Int) ≤ σ 9 0 ∧ ((n.toNat : Nat) : Int) = n ∧ 1 ≤ n ∧ n ≤ σ 9 0 := by
  unfold isP at h
  omega
theorem isR_t {n : Int} (h : isR σ n) : live σ n.toNat ∧ ((n.toNat : Nat) : Int) = n := by
  unfold isR at h
  exact ⟨⟨by omega, h.2.2⟩, by omega⟩
theorem mk_ok (h : Iv σ) {f t k d : Int} (ok1 : okR f t) (ok2 : okK k d) (c : ¬ ovl σ f t ∧ ¬ inR σ f t ∧ σ 9 0 < 15) : Mk σ (mkP σ f t k d) f := by
  obtain ⟨a, b, d2, e⟩ := mkp_f h c.2.2 ok1 ok2 c.1 c.2.1
  have := h.ib.npI
  exact ⟨h.mkp c.2.2 ok1 ok2 c.1 c.2.1, a, b, e, mkP_9, mkP_g (by decide) (by decide), mkP_g (by decide) (by decide), by omega⟩
theorem cv_ok (h : Iv σ) {f t k d : Int} (ok1 : okR f t) (ok2 : okK k d) (c : ¬ ovl σ f t ∧ σ 9 0 < 15) : Mk σ (mvS (mkP σ f t k d) 0 (npN σ + 1) 200) f := by
  obtain ⟨a, b, d2, e⟩ := carve_f h c.2 ok1 ok2 c.1
  have := h.ib.npI
  have g : ∀ g i, g ≠ 5 → mvS (mkP σ f t k d) 0 (npN σ + 1) 200 g i = mkP σ f t k d g i := fun g i q => mvS_g q
  exact ⟨h.carve c.2 ok1 ok2 c.1, a, b, e, by rw [g 9 0 (by decide), mkP_9], by rw [g 10 0 (by decide)]; exact mkP_g (by decide) (by decide), by rw [g 11 0 (by decide)]; exact mkP_g (by decide) (by decide), by omega⟩
theorem sp_ok (h : Iv σ) {n ky : Int} (c : isP σ n ∧ (σ 0 n.toNat < ky ∧ ky < σ 1 n.toNat) ∧ σ 4 n.toNat = 0 ∧ σ 9 0 < 15) : Sp σ (mvS (upS (mkP σ ky (σ 1 n.toNat) (σ 2 n.toNat) (σ 3 n.toNat)) 1 n.toNat ky) n.toNat (npN σ + 1) 200) n ky := by
  have t := isP_t c.1
  obtain ⟨a1, a2, a3, a4, a5, a6, a7, a8⟩ := split_f h c.2.2.2 ⟨t.1, t.2.1⟩ c.2.2.1 c.2.1
  have := h.ib.npI
  have hp := h.ib.part n.toNat t.2.1
  exact ⟨⟨h.split c.2.2.2 ⟨t.1, t.2.1⟩ c.2.2.1 c.2.1, a1, a2, a5, a6, a7, a8, by omega⟩, by omega, by omega, by omega⟩
theorem mg_ok (h : Iv σ) {n n2 : Int} (c : (isP σ n ∧ isP σ n2) ∧ (σ 4 n.toNat = 0 ∧ σ 4 n2.toNat = 0 ∧ σ 0 n2.toNat = σ 1 n.toNat ∧ σ 2 n2.toNat = σ 2 n.toNat ∧ σ 3 n2.toNat = σ 3 n.toNat)) : Mg σ (upS (mvS (upS σ 1 n.toNat (σ 1 n2.toNat)) n2.toNat n.toNat 200) 4 n2.toNat 2) n n2 := by
  have t := isP_t c.1.1
  have t2 := isP_t c.1.2
  obtain ⟨a1, a2, a3, a4, a5, a6⟩ := merge_f h ⟨t.1, t.2.1⟩ ⟨t2.1, t2.2.1⟩ c.2.1 c.2.2.1 c.2.2.2.1
  exact ⟨h.merge ⟨t.1, t.2.1⟩ ⟨t2.1, t2.2.1⟩ c.2.1 c.2.2.1 c.2.2.2.1, a1, a2, a5, a6 9 (by decide), a6 10 (by decide), a6 11 (by decide), ⟨t.2.2.2.1, t.2.2.2.2, a3⟩, ⟨t2.2.2.2.1, t2.2.2.2.2, a4⟩⟩
theorem dt_ok (h : Iv σ) {n cv : Int} (h0 : cv = 0) (c : isP σ n ∧ σ 4 n.toNat = 0) : Tn σ (upS (upS σ 4 n.toNat 1) 11 0 1) cv n (nPt (upS (upS σ 4 n.toNat 1) 11 0 1) n.toNat) := by
  have t := isP_t c.1
  have hV := h.det (i := n.toNat) t.1
  obtain ⟨a1, a2⟩ := det_f c.2
  exact ⟨hV, a1, st_k, st_g 9 0 (by decide) (by decide), st_g 10 0 (by decide) (by decide), st_11, ⟨t.2.2.2.1, t.2.2.2.2⟩, nPt_rg hV.ib _, fun _ => ⟨a2, st_s⟩, fun w => absurd h0 w⟩
theorem at_ok (h : Iv σ) {n cv : Int} (h0 : cv ≠ 0) (c : isP σ n ∧ (σ 4 n.toNat = 1 ∧ ¬ ovl σ (σ 0 n.toNat) (σ 1 n.toNat) ∧ ¬ inR σ (σ 0 n.toNat) (σ 1 n.toNat))) : Tn σ (upS (upS σ 4 n.toNat 0) 11 0 1) cv n (nPt (upS (upS σ 4 n.toNat 0) 11 0 1) n.toNat) := by
  have t := isP_t c.1
  have hV := h.att (i := n.toNat) ⟨t.1, t.2.1⟩ c.2.2.1 c.2.2.2
  obtain ⟨a1, a2⟩ := att_f c.2.1
  exact ⟨hV, a1, st_k, st_g 9 0 (by decide) (by decide), st_g 10 0 (by decide) (by decide), st_11, ⟨t.2.2.2.1, t.2.2.2.2⟩, nPt_rg hV.ib _, fun w => absurd w h0, fun _ => ⟨a2, st_s⟩⟩
theorem in_ok (h : Iv σ) {ky sr vl : Int} (c : (0 ≤ ky ∧ ky ≤ 999) ∧ (0 ≤ sr ∧ sr ≤ 9) ∧ (0 ≤ vl ∧ vl ≤ 99) ∧ σ 10 0 < 200) : In σ (inS σ ((pw σ ky : Nat) : Int) ky sr vl) ky vl := by
  obtain ⟨a1, a2, a3⟩ := ins_f h.ib (ky := ky) (sr := sr) (vl := vl)
  have := h.ib.nrI
  refine ⟨h.ins c.2.2.2 c.1 c.2.1 c.2.2.1, a1, a2, a3, inS_g (by omega) (by decide), inS_10, inS_g (by omega) (by decide), fun j hl => ?_⟩
  rcases ins_k h.ib (by omega) hl with ⟨w1, w2, w3⟩ | ⟨w1, w2⟩
  · exact Or.inl ⟨w1, w3⟩
  · exact Or.inr ⟨by omega, w2⟩
theorem cg_ok (h : Iv σ) {n ky sr : Int} (c : isR σ n ∧ ((0 ≤ ky ∧ ky ≤ 999) ∧ 0 ≤ sr ∧ sr ≤ 9) ∧ σ 4 (pn σ n.toNat) = 0) : Cg σ (upS (upS (upS σ 6 n.toNat ky) 7 n.toNat sr) 5 n.toNat ((pw (upS (upS σ 6 n.toNat ky) 7 n.toNat sr) ky : Nat) : Int)) n ky (b2 (plc (upS (upS (upS σ 6 n.toNat ky) 7 n.toNat sr) 5 n.toNat ((pw (upS (upS σ 6 n.toNat ky) 7 n.toNat sr) ky : Nat) : Int)) n ≠ plc σ n)) := by
  have t := isR_t c.1
  obtain ⟨a1, a2, a3, a4⟩ := chg_f h t.1 (ky := ky) (sr := sr)
  have e : ∀ g, 9 ≤ g → upS (upS (upS σ 6 n.toNat ky) 7 n.toNat sr) 5 n.toNat ((pw (upS (upS σ 6 n.toNat ky) 7 n.toNat sr) ky : Nat) : Int) g 0 = σ g 0 := fun g q => by rw [upS_g (by omega), upS_g (by omega), upS_g (by omega)]
  refine ⟨h.chg t.1 c.2.1.1 c.2.1.2, a1, e 9 (by decide), e 10 (by decide), e 11 (by decide), c.1, ?_, fun j hl => ⟨(a3 j).mp hl, fun w => ?_, fun w => ?_⟩, a2, rfl⟩
  · have := (a3 n.toNat).mpr t.1
    rw [← t.2]
    exact isR_j.mpr this
  · rw [a4, if_pos (by omega)]
  · rw [a4, if_neg (by omega)]
theorem rm_ok (h : Iv σ) {n : Int} (c : isR σ n) : Rm σ (upS σ 5 n.toNat (-1)) n (σ 8 n.toNat) := by
  have t := isR_t c
  obtain ⟨a1, a2⟩ := rem_f h.ib t.1
  refine ⟨h.rem t.1, a1, a2, upS_g (by decide), upS_g (by decide), upS_g (by decide), c, fun w => ?_, (h.ib.row _ t.1).2.2.2⟩
  have := (isR_t w).1.2
  rw [upS_s] at this
  exact this rfl
theorem xc_ok (h : Iv σ) {n n2 : Int} (c : xcd σ n n2) : Iv (xsS σ n n2) ∧ xcd (xsS σ n n2) n n2 ∧ Kk σ (xsS σ n n2) ∧ nLv (xsS σ n n2) = nLv σ ∧ xsS σ n n2 9 0 = σ 9 0 ∧ xsS σ n n2 10 0 = σ 10 0 ∧ xsS σ n n2 11 0 = 1 ∧ (1 ≤ n ∧ n ≤ σ 9 0 ∧ xsS σ n n2 4 n.toNat = 0) ∧ (1 ≤ n2 ∧ n2 ≤ σ 9 0 ∧ xsS σ n n2 4 n2.toNat = 1) := by
  have t := isP_t c.1.1
  have t2 := isP_t c.1.2
  obtain ⟨f1, f2⟩ := xch_f h ⟨t.1, t.2.1⟩ ⟨t2.1, t2.2.1⟩ c.2.1 c.2.2.1
  have e : ∀ g j, g ≠ 5 → g ≠ 11 → xsS σ n n2 g j = σ g j := fun g j a b => xs_g g j a b
  have ip : ∀ q, isP σ q → isP (xsS σ n n2) q := fun q w => by
    unfold isP at w ⊢
    rw [e 9 0 (by decide) (by decide), e 4 _ (by decide) (by decide)]
    exact w
  have h10 := e 10 0 (by decide) (by decide)
  exact ⟨h.xch ⟨t.1, t.2.1⟩ ⟨t2.1, t2.2.1⟩ c.2.1 c.2.2.1 c.2.2.2.1 c.2.2.2.2, ⟨⟨ip n c.1.1, ip n2 c.1.2⟩, by rw [e 4 _ (by decide) (by decide)]; exact c.2.1, by rw [e 4 _ (by decide) (by decide)]; exact c.2.2.1, f1, f2⟩, xs_k, nLv_c h10 xs_l, e 9 0 (by decide) (by decide), h10, xs_11, ⟨t.2.2.2.1, t.2.2.2.2, by rw [e 4 _ (by decide) (by decide)]; exact c.2.1⟩, ⟨t2.2.2.2.1, t2.2.2.2.2, by rw [e 4 _ (by decide) (by decide)]; exact c.2.2.1⟩⟩
theorem xc2_ok (h : Iv σ) {n n2 : Int} (c : xcd σ n n2) : nLv (xsS (xsS σ n n2) n n2) = nLv σ ∧ nTb (xsS (xsS σ n n2) n n2) = nTb σ ∧ Kk σ (xsS (xsS σ n n2) n n2) := by
  have t := isP_t c.1.1
  have t2 := isP_t c.1.2
  exact xch2_f h ⟨t.1, t.2.1⟩ ⟨t2.1, t2.2.1⟩ c.2.1 c.2.2.1 c.2.2.2.1 c.2.2.2.2
/-- a row's place by its numbers -/
theorem plc_at (h : Iv σ) {n : Int} (c : isR σ n) : plc σ n / 10 = ((pn σ n.toNat : Nat) : Int) ∧ plc σ n % 10 = lfr σ n.toNat ∧ 0 ≤ plc σ n ∧ plc σ n ≤ 154 ∧ ((pn σ n.toNat : Nat) : Int) ≤ σ 9 0 ∧ pn σ n.toNat ≤ 15 ∧ isL σ ((pn σ n.toNat : Nat) : Int) (lfr σ n.toNat) ∧ 1 ≤ nIn σ (pn σ n.toNat) (lfr σ n.toNat) := by
  have t := isR_t c
  have hp := h.ib.pnI _ t.1
  have hl := lf_lt h.ib hp.2.1 (σ 6 n.toNat) (σ 7 n.toNat)
  have hL := lvs_rg h.ib hp.2.1
  have r := h.rw_ _ t.1
  have e : lfr σ n.toNat = lf (σ 2 (pn σ n.toNat)) (σ 3 (pn σ n.toNat)) (σ 6 n.toNat) (σ 7 n.toNat) := rfl
  have b : 0 ≤ lfr σ n.toNat ∧ lfr σ n.toNat ≤ 4 := by omega
  have b2 : 1 ≤ nIn σ (pn σ n.toNat) (lfr σ n.toNat) := by
    have := cnt_lt (P := fun _ => False) (P' := fun j => live σ j ∧ (pn σ j = pn σ n.toNat ∧ lfr σ j = lfr σ n.toNat)) (fun _ w => w.elim) (w := n.toNat) (fun w => w) ⟨t.1, rfl, rfl⟩ (nrN σ) (by have := t.1.1; have := h.ib.nrI; omega)
    have z := cnt_none (P := fun _ => False) (nrN σ) (fun _ _ w => w)
    unfold nIn
    omega
  unfold plc
  exact ⟨by omega, by omega, by omega, by omega, hp.2.1, hp.2.2, (isL_i h.ib).mpr ⟨⟨hp.2.1, r.1⟩, hl⟩, b2⟩
end Bund
