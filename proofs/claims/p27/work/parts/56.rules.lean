/-! p27: rules more: quotients, masks, constants, the script, the array of keys -/
theorem iI_div {a b : Int} (ha : 0 ≤ a) (ha2 : a < 2147483648) (hb : 0 < b) (hb2 : b < 2147483648) : iI a / iI b = iI (a / b) := by
  obtain ⟨n, rfl⟩ : ∃ n : Nat, a = n := ⟨a.toNat, by omega⟩
  obtain ⟨k, rfl⟩ : ∃ k : Nat, b = k := ⟨b.toNat, by omega⟩
  rw [iI_nat, iI_nat, pk_div (by omega) (by omega) (by omega), ← iI_nat]
  rfl
theorem iI_neg (a : Int) : -iI a = iI (-a) := (Int32.ofInt_neg a).symm
theorem andM (x : Int32) (k : Nat) : ∃ y : Nat, y ≤ k ∧ x &&& iI (k : Int) = iI (y : Int) := by
  have hx : x = iI ((x.toBitVec.toNat : Nat) : Int) := by
    rw [iI_nat]
    apply Int32.toBitVec.inj
    show x.toBitVec = BitVec.ofNat 32 x.toBitVec.toNat
    simp
  refine ⟨x.toBitVec.toNat &&& k, Nat.and_le_right, ?_⟩
  conv => lhs; rw [hx]
  exact iI_and (Int.natCast_nonneg _) (Int.natCast_nonneg _)
theorem FrC.I {h h1 : Hp} (a : FrC h h1) {cI : ClassId} {n : Nat} {q : Nat} {f : Nat → Int32} (ho : h q = some (arI cI n f)) : h1 q = some (arI cI n f) := a q _ ho (by simp [kd])
theorem CR.outI {cP cR : ClassId} {x xp xr : Nat} {pa ra : Nat → Nat} {σ : Sg} {h : Hp} (hC : CR cP cR x xp xr pa ra σ h) {cI : ClassId} {n : Nat} {q : Nat} {f f' : Nat → Int32} (ho : h q = some (arI cI n f)) : CR cP cR x xp xr pa ra σ (hup h q (arI cI n f')) := by
  refine hC.keep (fun a e w k => ?_)
  by_cases u : a = q
  · subst u
    rw [ho] at w
    cases w
    exact absurd k (by simp [kd])
  · rw [hup_n u]; exact w
section R27
variable {p : Program} {l : Launch} {e : Env} {R : Room} {s : State} {m : MethodId} {args : Array Value} {below : List Frame} {meth : Method} {c : Code} {H : Heap} {locs : List Loc} {cells slots : Nat} {Q : State → Prop}
variable {cc : ByteArray} {pc : Nat} {ls : Array Slot} {rest st0 : List Value} {D : va_G} {z : Nat} {h : Hp} {H0 : Heap} {cI cP cR cJ : ClassId} {b L : Nat} {xs : Nat → Int32}
theorem j_idiv (hexec : p.tables.exec = Jvm.exec) (hb : c.code = cc) {x y : Int} (hx : 0 ≤ x ∧ x < 2147483648) (hy : 0 < y ∧ y < 2147483648) (hdg : decode cc pc = .ok (.idiv, 1)) (k : W p l e R s m args below meth c H locs cells slots Q (F0 m (pc + 1) ls (.int (iI (x / y)) :: rest))) : W p l e R s m args below meth c H locs cells slots Q (F0 m pc ls (.int (iI y) :: .int (iI x) :: rest)) := by
  refine lv_idiv hexec hb hdg (fun h => ?_) (by rw [iI_div hx.1 hx.2 hy.1 hy.2]; exact k)
  rw [iI_0] at h
  have := (iI_eq (a := y) (b := 0) ⟨by omega, by omega⟩ ⟨by omega, by omega⟩).mp h
  omega
theorem j_ineg (hexec : p.tables.exec = Jvm.exec) (hb : c.code = cc) {x : Int} (hdg : decode cc pc = .ok (.ineg, 1)) (k : W p l e R s m args below meth c H locs cells slots Q (F0 m (pc + 1) ls (.int (iI (-x)) :: rest))) : W p l e R s m args below meth c H locs cells slots Q (F0 m pc ls (.int (iI x) :: rest)) := lv_ineg hexec hb hdg (by rw [iI_neg]; exact k)
theorem j_ldc (hexec : p.tables.exec = Jvm.exec) (hb : c.code = cc) {own : String} {index : Nat} {v : Int32} {n : Int} (hown : s.vm.findClass own = some m.cls) (hconst : (Jvm.Cond.constant own index v).before args s = true) (hv : v = iI n) (hdg : decode cc pc = .ok (.ldc index, 2)) (k : W p l e R s m args below meth c H locs cells slots Q (F0 m (pc + 2) ls (.int (iI n) :: rest))) : W p l e R s m args below meth c H locs cells slots Q (F0 m pc ls rest) := by
  subst hv
  exact lv_ldc hexec hb hown hconst hdg k
/-- a mask: what comes is a number up to it -/
theorem j_mask (hexec : p.tables.exec = Jvm.exec) (hb : c.code = cc) {x : Int32} {n : Nat} (hdg : decode cc pc = .ok (.iand, 1)) (k : ∀ y : Nat, y ≤ n → W p l e R s m args below meth c H locs cells slots Q (F0 m (pc + 1) ls (.int (iI (y : Int)) :: rest))) : W p l e R s m args below meth c H locs cells slots Q (F0 m pc ls (.int (iI (n : Int)) :: .int x :: rest)) := by
  refine lv_iand hexec hb hdg ?_
  obtain ⟨y, hy, e⟩ := andM x n
  rw [e]
  exact k y hy
/-- a remainder by a number that is not 0: a number below it -/
theorem j_remT (hexec : p.tables.exec = Jvm.exec) (hb : c.code = cc) {x y : Int} (hx : 0 ≤ x ∧ x < 2147483648) (hy : 0 < y ∧ y < 2147483648) (hdg : decode cc pc = .ok (.irem, 1)) (k : ∀ w : Int, 0 ≤ w → w < y → W p l e R s m args below meth c H locs cells slots Q (F0 m (pc + 1) ls (.int (iI w) :: rest))) : W p l e R s m args below meth c H locs cells slots Q (F0 m pc ls (.int (iI y) :: .int (iI x) :: rest)) :=
  j_irem hexec hb hx hy hdg (k _ (Int.emod_nonneg _ (by omega)) (Int.emod_lt_of_pos _ hy.1))
theorem j_shrT (hexec : p.tables.exec = Jvm.exec) (hb : c.code = cc) {x : Int} {n : Nat} (hx : 0 ≤ x ∧ x < 2147483648) (hn : n < 32) (hdg : decode cc pc = .ok (.ishr, 1)) (k : ∀ w : Int, 0 ≤ w → w < 2147483648 → W p l e R s m args below meth c H locs cells slots Q (F0 m (pc + 1) ls (.int (iI w) :: rest))) : W p l e R s m args below meth c H locs cells slots Q (F0 m pc ls (.int (iI (n : Int)) :: .int (iI x) :: rest)) := by
  have h2 : (0 : Int) < 2 ^ n := Int.pow_pos (by decide)
  exact j_ishr hexec hb hx hn hdg (k _ (Int.ediv_nonneg hx.1 (by omega)) (Int.lt_of_le_of_lt (Int.ediv_le_self _ hx.1) hx.2))
theorem m_sld (hexec : p.tables.exec = Jvm.exec) (hb : c.code = cc) (hX : va_X b L xs s s.heap) (hbl : b < s.heap.size) (hB : Bk D s.heap.size s.heap h H locs) {n : Nat} (hn : n < L) (hL : L ≤ 260) (hdg : decode cc pc = .ok (.iaload, 1))
    (kk : W p l e R s m args below meth c H locs cells slots Q (F0 m (pc + 1) ls (.int (iI (xs n).toInt) :: rest))) : W p l e R s m args below meth c H locs cells slots Q (F0 m pc ls (.int (iI (n : Int)) :: .ref b :: rest)) := by
  refine va_sld hexec hb hX hbl (fun q : s.heap.size ≤ b => Nat.not_le.mpr hbl q) hB.2 (iI_in hn (by omega)) hdg ?_
  rw [iI_cn (by omega), iI_of (xs n)]
  exact kk
theorem m_slen (hexec : p.tables.exec = Jvm.exec) (hb : c.code = cc) (hX : va_X b L xs s s.heap) (hbl : b < s.heap.size) (hB : Bk D s.heap.size s.heap h H locs) (hdg : decode cc pc = .ok (.arraylength, 1))
    (kk : W p l e R s m args below meth c H locs cells slots Q (F0 m (pc + 1) ls (.int (iI (L : Int)) :: rest))) : W p l e R s m args below meth c H locs cells slots Q (F0 m pc ls (.ref b :: rest)) := by
  refine va_slen hexec hb hX hbl (fun q : s.heap.size ≤ b => Nat.not_le.mpr hbl q) hB.2 hdg ?_
  have : Int32.ofNat L = iI (L : Int) := Int32.ofInt_eq_ofNat.symm
  rw [this]
  exact kk
theorem m_kld (hexec : p.tables.exec = Jvm.exec) (hb : c.code = cc) (hK : Kb D z (tyL cI cP cR cJ) s) (hB : Bk D z H0 h H locs) {ka : Nat} {f : Nat → Int32} (he : h ka = some (arI cI 64 f)) {n : Nat} (hn : n < 64) (hdg : decode cc pc = .ok (.iaload, 1))
    (kk : W p l e R s m args below meth c H locs cells slots Q (F0 m (pc + 1) ls (.int (iI (f n).toInt) :: rest))) : W p l e R s m args below meth c H locs cells slots Q (F0 m pc ls (.int (iI (n : Int)) :: .ref ka :: rest)) := by
  refine m_iald hexec hb hK hB 0 he rfl (iI_in hn (by decide)) hdg ?_
  rw [iI_cn (by omega), iI_of (f n)]
  exact kk
theorem m_kst (hexec : p.tables.exec = Jvm.exec) (hb : c.code = cc) (hK : Kb D z (tyL cI cP cR cJ) s) (hB : Bk D z H0 h H locs) {ka : Nat} {f : Nat → Int32} (he : h ka = some (arI cI 64 f)) {n : Nat} (hn : n < 64) {v : Int} (hdg : decode cc pc = .ok (.iastore, 1))
    (kk : ∀ (H1 : Heap) (locs1 : List Loc), Bk D z H0 (hup h ka (arI cI 64 (upd f n (iI v)))) H1 locs1 → W p l e R s m args below meth c H1 locs1 cells slots Q (F0 m (pc + 1) ls rest)) : W p l e R s m args below meth c H locs cells slots Q (F0 m pc ls (.int (iI v) :: .int (iI (n : Int)) :: .ref ka :: rest)) := by
  refine m_iast hexec hb hK hB 0 he rfl (iI_in hn (by decide)) hdg (fun H1 locs1 hB1 => ?_)
  rw [iI_cn (by omega)] at hB1
  exact kk H1 locs1 hB1
end R27
theorem upd_s (f : Nat → Int32) (n : Nat) (v : Int32) : upd f n v n = v := if_pos rfl
theorem upd_o {f : Nat → Int32} {n j : Nat} {v : Int32} (h : j ≠ n) : upd f n v j = f j := if_neg h
