/-! THE REFERENCE, changed -/
section WrM
variable {cI : ClassId} {xm : Nat} {xa : Nat → Nat} {σ : Sg} {th : Int} {h : Hp}
theorem MR.w9 (hM : MR cI xm xa σ th h) {v : Int} : MR cI xm xa (upS σ 9 0 v) th (hup h xm (mdl xa th v (σ 10 0) (σ 11 0))) := by
  have := hM.obj (σ' := upS σ 9 0 v) (th' := th) (fun g i q => upS_g (by omega))
  rw [upS_s, upS_g (by decide), upS_g (by decide)] at this
  exact this
theorem MR.w10 (hM : MR cI xm xa σ th h) {v : Int} : MR cI xm xa (upS σ 10 0 v) th (hup h xm (mdl xa th (σ 9 0) v (σ 11 0))) := by
  have := hM.obj (σ' := upS σ 10 0 v) (th' := th) (fun g i q => upS_g (by omega))
  rw [upS_s, upS_g (by decide), upS_g (by decide)] at this
  exact this
theorem MR.w11 (hM : MR cI xm xa σ th h) {v : Int} : MR cI xm xa (upS σ 11 0 v) th (hup h xm (mdl xa th (σ 9 0) (σ 10 0) v)) := by
  have := hM.obj (σ' := upS σ 11 0 v) (th' := th) (fun g i q => upS_g (by omega))
  rw [upS_s, upS_g (by decide), upS_g (by decide)] at this
  exact this
theorem MR.wth (hM : MR cI xm xa σ th h) {v : Int} : MR cI xm xa σ v (hup h xm (mdl xa v (σ 9 0) (σ 10 0) (σ 11 0))) := hM.obj (σ' := σ) (th' := v) (fun _ _ _ => rfl)
end WrM
theorem Ib.v8 {σ : Sg} (hI : Ib σ) {j : Nat} {v : Int} (hv : 0 ≤ v ∧ v ≤ 99) : Ib (upS σ 8 j v) := by
  obtain ⟨h1, h2, h3, h4, h5, h6, h7⟩ := hI
  have e : ∀ g k, g ≠ 8 → upS σ 8 j v g k = σ g k := fun g k q => upS_g q
  refine ⟨by rw [e 9 0 (by decide)]; exact h1, by rw [e 10 0 (by decide)]; exact h2, by rw [e 11 0 (by decide)]; exact h3, fun g k => ?_, fun g hg => by rw [e g 0 (by omega)]; exact h5 g hg, fun k hk => ?_, fun k hk => ?_⟩
  · unfold upS
    split
    · omega
    · exact h4 g k
  · rw [e 9 0 (by decide)] at hk
    rw [e 0 k (by decide), e 1 k (by decide), e 2 k (by decide), e 3 k (by decide), e 4 k (by decide)]
    exact h6 k hk
  · rw [e 5 k (by decide), e 6 k (by decide), e 7 k (by decide), e 9 0 (by decide)]
    have := h7 k ((upS_live (by decide) (by decide)).mp hk)
    refine ⟨this.1, this.2.1, this.2.2.1, ?_⟩
    unfold upS
    split
    · exact hv
    · exact this.2.2.2
/-- which part holds a key is told by the parts alone -/
theorem pw_up {σ : Sg} {g i : Nat} {v k : Int} (hg : 5 ≤ g) (h9 : g ≠ 9) : pw (upS σ g i v) k = pw σ k := by
  unfold pw npN
  rw [upS_g (fun w => h9 w.symm)]
  congr 1
  funext q
  rw [upS_g (by omega), upS_g (by omega), upS_g (by omega)]
/-- rows move, a part's state changes: in either order -/
theorem mv_st {σ : Sg} {i k n b : Nat} {v : Int} : mvS (upS σ 4 b v) i k n = upS (mvS σ i k n) 4 b v := by
  funext g j
  by_cases q : g = 5
  · subst q
    rw [upS_g (by decide)]
    have e1 : live (upS σ 4 b v) j ↔ live σ j := upS_live (by decide) (by decide)
    have e2 : pn (upS σ 4 b v) j = pn σ j := upS_pn (by decide)
    by_cases w : (5 : Nat) = 5 ∧ j < n ∧ live σ j ∧ pn σ j = i ∧ σ 0 k ≤ σ 6 j ∧ σ 6 j < σ 1 k
    · refine (if_pos ⟨w.1, w.2.1, e1.mpr w.2.2.1, by rw [e2]; exact w.2.2.2.1, ?_⟩ : mvS (upS σ 4 b v) i k n 5 j = k).trans (if_pos w : mvS σ i k n 5 j = k).symm
      rw [upS_g (by decide), upS_g (by decide), upS_g (by decide)]
      exact w.2.2.2.2
    · refine (if_neg (fun u => w ⟨u.1, u.2.1, e1.mp u.2.2.1, by rw [← e2]; exact u.2.2.2.1, ?_⟩) : mvS (upS σ 4 b v) i k n 5 j = upS σ 4 b v 5 j).trans ((upS_g (by decide)).trans (if_neg w : mvS σ i k n 5 j = σ 5 j).symm)
      have := u.2.2.2.2
      rw [upS_g (by decide), upS_g (by decide), upS_g (by decide)] at this
      exact this
  · rw [mvS_g q]
    unfold upS
    by_cases w : g = 4 ∧ j = b
    · rw [if_pos w, if_pos w]
    · rw [if_neg w, if_neg w, mvS_g q]
/-- how many leaves the reference reads -/
noncomputable def rdMp (σ : Sg) (i : Nat) (lo hi so : Int) : Int := cnt (fun w => mM σ i (w : Int) lo hi so) (lvs (σ 2 i) (σ 3 i)).toNat
noncomputable def rdM (σ : Sg) (lo hi so : Int) : Int := csm (fun i => (i : Int) ≤ σ 9 0) (fun i => rdMp σ i lo hi so) (npN σ + 1)
