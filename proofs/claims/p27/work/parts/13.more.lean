theorem fitE1 : Bundle.fit nE1 = true := by decide +kernel
theorem fitE2 : Bundle.fit nE2 = true := by decide +kernel
theorem fitE3 : Bundle.fit nE3 = true := by decide +kernel
abbrev xwB : List Cond := xwC.map (fun q => Cond.castable q.1 q.2) ++ xwD.map Cond.declares
theorem ngE1 : ∀ w ∈ (vx_atS RX3 68 nE1 nEs).filter (fun w => !goodWord w), w ∈ xwB := by decide +kernel
theorem ngE2 : ∀ w ∈ (vx_atS RX3 84 nE2 nEs).filter (fun w => !goodWord w), w ∈ xwB := by decide +kernel
theorem ngE3 : ∀ w ∈ (vx_atS RX3 221 nE3 nEs).filter (fun w => !goodWord w), w ∈ xwB := by decide +kernel
theorem otE1 : ∀ w ∈ Cond.classLink RX3 64 nE1 :: Cond.initialized nE1 :: vx_atS RX3 68 nE1 nEs, vx_ot w = true := by decide +kernel
theorem otE2 : ∀ w ∈ Cond.classLink RX3 80 nE2 :: Cond.initialized nE2 :: vx_atS RX3 84 nE2 nEs, vx_ot w = true := by decide +kernel
theorem otE3 : ∀ w ∈ Cond.classLink RX3 217 nE3 :: Cond.initialized nE3 :: vx_atS RX3 221 nE3 nEs, vx_ot w = true := by decide +kernel
section More
variable {p : Program} {l : Launch} {e : Env} {R : Room} {s : State} {m : MethodId} {args : Array Value} {below : List Frame} {meth : Method} {c : Code} {H : Heap} {locs : List Loc} {cells slots : Nat} {Q : State → Prop}
variable {cc : ByteArray} {pc : Nat} {ls : Array Slot} {rest st0 : List Value} {D : va_G} {z : Nat} {h : Hp} {tys : List (ClassId × FieldType)} {Ts : List Cond} {mc ms : Nat}
/-- the text by a wide index -/
theorem m_throwW {post : Option Value → Hp → Prop} {PX : String → Hp → Prop} (hexec : p.tables.exec = Jvm.exec) (hb : c.code = cc) (hl : l.stackTraces = false) {cls text : String} {ik is ic : Nat} (hown : s.vm.findClass RX3 = some m.cls) (hcls : Bundle.fit cls = true) (hts : ∀ w ∈ Ts, w.before args s = true) (hk : (Cond.classLink RX3 ik cls) ∈ Ts) (hini : (Cond.initialized cls) ∈ Ts)
    (h1 : ∀ w ∈ (vx_atS RX3 ic cls nEs).filter goodWord, w ∈ Ts) (h2 : ∀ w ∈ (vx_atS RX3 ic cls nEs).filter (fun w => !goodWord w), w ∈ xwC.map (fun q => Cond.castable q.1 q.2) ++ xwD.map Cond.declares) (hgood : ∀ w ∈ Cond.classLink RX3 ik cls :: Cond.initialized cls :: vx_atS RX3 ic cls nEs, vx_ot w = true)
    (hstr : (is, text) ∈ xwS) (hK : Kb D z tys s) (hB : Bk D z s.heap h H locs) (hsize : ls.size = c.maxLocals) (hout : ∀ x ∈ c.exceptionTable.toList, False) (hlocks : meth.locks = false)
    (d0 : decode cc pc = .ok (.new ik, 3)) (d3 : decode cc (pc + 3) = .ok (.dup, 1)) (d4 : decode cc (pc + 4) = .ok (.ldc_w is, 3)) (d7 : decode cc (pc + 7) = .ok (.invokespecial ic, 3)) (d10 : decode cc (pc + 10) = .ok (.athrow, 1))
    (hRf : 6 ≤ R.frames) (hRl : (rest.map fun v => v.category).sum + 82 ≤ R.locals) (hRc : cells + 1 ≤ R.cells) (hRs : slots + 6 ≤ R.slots) (hc : cells + 1 ≤ mc) (hs : slots + 6 ≤ ms) (hp : PX cls h) :
    W p l e R s m args below meth c H locs cells slots (vx_MQ below (Qx D z post) (Xp D z PX) args s mc ms (zA z)) (F0 m pc ls rest) := by
  obtain ⟨sa, hsa⟩ := hK.2.1.2.2.2.2.2.1 _ hstr
  have h3 : ∀ w ∈ xwC.map (fun q => Cond.castable q.1 q.2) ++ xwD.map Cond.declares, w.before args s = true := by
    intro w hw
    rcases List.mem_append.mp hw with hw | hw
    · obtain ⟨q, hq, rfl⟩ := List.mem_map.mp hw
      exact va_Nw.use rfl (hK.2.1.2.2.1 q hq)
    · obtain ⟨q, hq, rfl⟩ := List.mem_map.mp hw
      exact va_Nw.use rfl (hK.2.1.2.2.2.1 q hq)
  refine vx_throwSW (A := zA z) hexec hb hl hown hcls (by decide) (hts _ hk) (hts _ hini) hsa (vx_hat (fun w hw => hts w (h1 w hw)) h2 h3) hgood hK.2.2.1.1 hK.2.2.1.2 hB.2 hsize d0 d3 d4 d7 d10 (fun x hx => (hout x hx).elim) (by show 2 + 3 < R.frames; omega) (by show _ + (13 * (2 + 1) + 43) ≤ R.locals; omega) hRc hRs hlocks (fun t _ hz hq => ⟨h, hp, hB.1.kept hz hq, Nat.le_trans hB.2.1 hz, fun q h1 h2 => ?_⟩) (fun q hq => hB.2.2.2 q hq) hc hs
  exact (hq q (Nat.lt_of_lt_of_le h1 hB.2.1)).trans (hB.2.2.1 q h1 h2)
theorem j_look12 (hexec : p.tables.exec = Jvm.exec) (hb : c.code = cc) {dflt o1 o2 : Int} {len : Nat} {x : Int} {t0 t1 t2 : Nat} (hdg : decode cc pc = .ok (.lookupswitch dflt #[(1, o1), (2, o2)], len)) (h0 : (pc : Int) + dflt = (t0 : Int)) (h1 : (pc : Int) + o1 = (t1 : Int)) (h2 : (pc : Int) + o2 = (t2 : Int)) (hx : rg x)
    (k1 : x = 1 → W p l e R s m args below meth c H locs cells slots Q (F0 m t1 ls rest)) (k2 : x = 2 → W p l e R s m args below meth c H locs cells slots Q (F0 m t2 ls rest)) (k0 : x ≠ 1 → x ≠ 2 → W p l e R s m args below meth c H locs cells slots Q (F0 m t0 ls rest)) : W p l e R s m args below meth c H locs cells slots Q (F0 m pc ls (.int (iI x) :: rest)) := by
  have hp : ((#[(1, o1), (2, o2)] : Array (Int × Int)).toList.zip ((#[(1, o1), (2, o2)] : Array (Int × Int)).toList.drop 1)).all (fun (a, next) => a.1 < next.1) = true := rfl
  by_cases q1 : x = 1
  · refine lv_lookup (off := o1) hexec hb hdg hp ?_ h1 (k1 q1)
    rw [iI_t hx, q1]
    rfl
  · by_cases q2 : x = 2
    · refine lv_lookup (off := o2) hexec hb hdg hp ?_ h2 (k2 q2)
      rw [iI_t hx, q2]
      rfl
    · refine lv_lookup (off := dflt) hexec hb hdg hp ?_ h0 (k0 q1 q2)
      rw [iI_t hx]
      simp [Op.lookupswitch.offset, Ne.symm q1, Ne.symm q2, q1, q2]
theorem j_mmax (hexec : p.tables.exec = Jvm.exec) (hb : c.code = cc) (hml : c.maxLocals = ls.size) {own : String} {index : Nat} (hown : s.vm.findClass own = some m.cls) (hlink : (Cond.methodLink own index Lib.Math.max.name).before args s = true) (hstat : (Cond.static Lib.Math.max.name).before args s = true) (hini : (Cond.initialized "java/lang/Math").before args s = true) (hcode : (Cond.code Lib.Math.max.name Lib.Math.max.code 2 (some .int)).before args s = true)
    (hframes : 1 ≤ R.frames) (hlocals : (rest.map fun v => v.category).sum + 13 ≤ R.locals) (hc : cells ≤ R.cells) (hs : slots ≤ R.slots) {x y : Int} (hx : rg x) (hy : rg y) (hdg : decode cc pc = .ok (.invokestatic index, 3))
    (kk : W p l e R s m args below meth c H locs cells slots Q (F0 m (pc + 3) ls (.int (iI (max x y)) :: rest))) : W p l e R s m args below meth c H locs cells slots Q (F0 m pc ls (.int (iI y) :: .int (iI x) :: rest)) := by
  refine va_mmax hexec hb hml hown hlink hstat hini hcode hframes hlocals hc hs hdg ?_
  have : (if iI x < iI y then iI y else iI x) = iI (max x y) := by
    by_cases q : x < y
    · rw [if_pos ((iI_lt hx hy).mpr q), Int.max_eq_right (by omega)]
    · rw [if_neg (fun w => q ((iI_lt hx hy).mp w)), Int.max_eq_left (by omega)]
  rw [this]
  exact kk
theorem j_mmin (hexec : p.tables.exec = Jvm.exec) (hb : c.code = cc) (hml : c.maxLocals = ls.size) {own : String} {index : Nat} (hown : s.vm.findClass own = some m.cls) (hlink : (Cond.methodLink own index Lib.Math.min.name).before args s = true) (hstat : (Cond.static Lib.Math.min.name).before args s = true) (hini : (Cond.initialized "java/lang/Math").before args s = true) (hcode : (Cond.code Lib.Math.min.name Lib.Math.min.code 2 (some .int)).before args s = true)
    (hframes : 1 ≤ R.frames) (hlocals : (rest.map fun v => v.category).sum + 13 ≤ R.locals) (hc : cells ≤ R.cells) (hs : slots ≤ R.slots) {x y : Int} (hx : rg x) (hy : rg y) (hdg : decode cc pc = .ok (.invokestatic index, 3))
    (kk : W p l e R s m args below meth c H locs cells slots Q (F0 m (pc + 3) ls (.int (iI (min x y)) :: rest))) : W p l e R s m args below meth c H locs cells slots Q (F0 m pc ls (.int (iI y) :: .int (iI x) :: rest)) := by
  refine va_mmin hexec hb hml hown hlink hstat hini hcode hframes hlocals hc hs hdg ?_
  have : (if iI y < iI x then iI y else iI x) = iI (min x y) := by
    by_cases q : y < x
    · rw [if_pos ((iI_lt hy hx).mpr q), Int.min_eq_right (by omega)]
    · rw [if_neg (fun w => q ((iI_lt hy hx).mp w)), Int.min_eq_left (by omega)]
  rw [this]
  exact kk
end More
theorem hup_hup (h : Hp) (a : Nat) (e1 e2 : va_E) : hup (hup h a e1) a e2 = hup h a e2 := by
  funext b
  by_cases q : b = a
  · rw [q, hup_s, hup_s]
  · rw [hup_n q, hup_n q, hup_n q]
theorem and_rg {x y : Int} (h0 : 0 ≤ x) (h1 : x ≤ 1023) : 0 ≤ ((x.toNat &&& y.toNat : Nat) : Int) ∧ ((x.toNat &&& y.toNat : Nat) : Int) ≤ 1023 := by
  have h2 : x.toNat &&& y.toNat ≤ x.toNat := Nat.and_le_left
  generalize x.toNat &&& y.toNat = w at h2 ⊢
  omega
section Top
variable {p : Program} {l : Launch} {e : Env} {R : Room} {s : State} {m : MethodId} {args : Array Value} {below : List Frame} {meth : Method} {c : Code} {H : Heap} {locs : List Loc} {cells slots : Nat} {Q : State → Prop} {pc : Nat} {ls : Array Slot} {rest : List Value}
theorem j_top {x : Int} (k : ∀ y : Int, y = x → W p l e R s m args below meth c H locs cells slots Q (F0 m pc ls (.int (iI y) :: rest))) : W p l e R s m args below meth c H locs cells slots Q (F0 m pc ls (.int (iI x) :: rest)) := k x rfl
end Top
