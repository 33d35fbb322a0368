/-! THE LAW'S LOOP: what stands at its head; the script's places; its own comparisons -/
theorem MR.frL {cI : ClassId} {xm : Nat} {xa : Nat → Nat} {σ : Sg} {th : Int} {h h' : Hp} (hM : MR cI xm xa σ th h) (hF : FrL h h') : MR cI xm xa σ th h' := by
  obtain ⟨h1, h2, h3⟩ := hM
  refine ⟨hF _ _ h1 (Or.inl rfl), fun g hg => ?_, h3⟩
  obtain ⟨f, q, w⟩ := h2 g hg
  exact ⟨f, hF _ _ q (by simp [kd]), w⟩
/-- at the loop's head: both sides hold the same numbers, which the calls keep; the long array stands -/
def LwS (cI cP cR cJ : ClassId) (x xm oa : Nat) (σ : Sg) (h : Hp) : Prop := Iv σ ∧ (∃ (xp xr : Nat) (pa ra : Nat → Nat), CR cP cR x xp xr pa ra σ h) ∧ (∃ (xa : Nat → Nat) (th : Int), MR cI xm xa σ th h) ∧ ∃ f, h oa = some (arJ cJ 1 f)
theorem FrM.J {h h1 : Hp} (a : FrM h h1) {cJ : ClassId} {n : Nat} {oa : Nat} {f : Nat → Int64} (ho : h oa = some (arJ cJ n f)) : h1 oa = some (arJ cJ n f) := a oa _ ho (by simp [kd]) (by simp [kd])
theorem LwS.mk {cI cP cR cJ : ClassId} {x xm oa : Nat} {σ : Sg} {h : Hp} (h1 : Iv σ) {xp xr : Nat} {pa ra : Nat → Nat} (h2 : CR cP cR x xp xr pa ra σ h) {xa : Nat → Nat} {th : Int} (h3 : MR cI xm xa σ th h) {f : Nat → Int64} (h4 : h oa = some (arJ cJ 1 f)) : LwS cI cP cR cJ x xm oa σ h := ⟨h1, ⟨_, _, _, _, h2⟩, ⟨_, _, h3⟩, _, h4⟩
theorem lcmp_0 (v : Int64) : lg_cmp v v = iI 0 := by
  unfold lg_cmp
  rw [if_neg (by rw [gt_iff_lt, Int64.lt_iff_toInt_lt]; omega), if_pos rfl]
  rfl
section LawR
variable {p : Program} {l : Launch} {e : Env} {R : Room} {s : State} {m : MethodId} {args : Array Value} {below : List Frame} {meth : Method} {c : Code} {H : Heap} {locs : List Loc} {cells slots : Nat} {Q : State → Prop}
variable {cc : ByteArray} {pc : Nat} {ls : Array Slot} {rest st0 : List Value} {D : va_G} {h : Hp} {b L : Nat} {xs : Nat → Int32}
theorem m_sld (hexec : p.tables.exec = Jvm.exec) (hb : c.code = cc) (hX : va_X b L xs s s.heap) (hbl : b < s.heap.size) (hB : Bk D s.heap.size s.heap h H locs) {n : Nat} (hn : n < L) (hL : L ≤ 3072) (hdg : decode cc pc = .ok (.iaload, 1))
    (kk : W p l e R s m args below meth c H locs cells slots Q (F0 m (pc + 1) ls (.int (iI (xs n).toInt) :: rest))) : W p l e R s m args below meth c H locs cells slots Q (F0 m pc ls (.int (iI (n : Int)) :: .ref b :: rest)) := by
  refine va_sld hexec hb hX hbl (fun q : s.heap.size ≤ b => Nat.not_le.mpr hbl q) hB.2 (iI_in hn (by omega)) hdg ?_
  rw [iI_cn (by omega), iI_of (xs n)]
  exact kk
theorem m_slen (hexec : p.tables.exec = Jvm.exec) (hb : c.code = cc) (hX : va_X b L xs s s.heap) (hbl : b < s.heap.size) (hB : Bk D s.heap.size s.heap h H locs) (hdg : decode cc pc = .ok (.arraylength, 1))
    (kk : W p l e R s m args below meth c H locs cells slots Q (F0 m (pc + 1) ls (.int (iI (L : Int)) :: rest))) : W p l e R s m args below meth c H locs cells slots Q (F0 m pc ls (.ref b :: rest)) := by
  refine va_slen hexec hb hX hbl (fun q : s.heap.size ≤ b => Nat.not_le.mpr hbl q) hB.2 hdg ?_
  have : Int32.ofNat L = iI (L : Int) := Int32.ofInt_eq_ofNat.symm
  rw [this]
  exact kk
theorem j_lcmp0 (hexec : p.tables.exec = Jvm.exec) (hb : c.code = cc) {v w : Int64} (hvw : v = w) (hdg : decode cc pc = .ok (.lcmp, 1))
    (kk : W p l e R s m args below meth c H locs cells slots Q (F0 m (pc + 1) ls (.int (iI 0) :: rest))) : W p l e R s m args below meth c H locs cells slots Q (F0 m pc ls (.long w :: .long v :: rest)) := by
  subst hvw
  refine W.lcmp hexec hb hdg ?_
  rw [lcmp_0]
  exact kk
end LawR
theorem cnt_rgI {σ : Sg} (hI : Ib σ) (P : Nat → Prop) : rg (cnt P (nrN σ)) := by
  have h1 := cnt_rg P (nrN σ)
  have h2 := hI.nrI
  exact ⟨by omega, by omega⟩
