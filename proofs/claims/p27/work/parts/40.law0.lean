/-! THE LAW'S OWN METHODS: a long array of one place takes what came back -/
def lI (a : Int) : Int64 := (iI a).toInt64
theorem lI_1 : Int64.ofNat ((1 : Fin 2) : Nat) = lI 1 := by decide
theorem lI_0 : Int64.ofNat ((0 : Fin 2) : Nat) = lI 0 := by decide
theorem in01 : vp_in (iI 0) 1 := iI_in (n := 0) (by decide) (by decide)
/-- what the law's methods leave: the reference's cells -/
def FrL (h h' : Hp) : Prop := ∀ a e, h a = some e → (kd e = 4 ∨ kd e = 5) → h' a = some e
theorem FrC.L {h h' : Hp} (a : FrC h h') : FrL h h' := fun x e q k => a x e q (by omega)
theorem FrL.outJ {h h1 : Hp} (a : FrL h h1) {cJ : ClassId} {n : Nat} {oa : Nat} {f f' : Nat → Int64} (ho : h1 oa = some (arJ cJ n f)) : FrL h (hup h1 oa (arJ cJ n f')) := fun x e q k => by
  have w := a x e q k
  by_cases u : x = oa
  · subst u
    rw [ho] at w
    cases w
    exact absurd k (by simp [kd])
  · rw [hup_n u]; exact w
theorem CR.outJ {cP cR : ClassId} {x xp xr : Nat} {pa ra : Nat → Nat} {σ : Sg} {h : Hp} (hC : CR cP cR x xp xr pa ra σ h) {cJ : ClassId} {n : Nat} {oa : Nat} {f f' : Nat → Int64} (ho : h oa = some (arJ cJ n f)) : CR cP cR x xp xr pa ra σ (hup h oa (arJ cJ n f')) := by
  refine hC.keep (fun a e q k => ?_)
  by_cases u : a = oa
  · subst u
    rw [ho] at q
    cases q
    exact absurd k (by simp [kd])
  · rw [hup_n u]; exact q
theorem FrC.J {h h1 : Hp} (a : FrC h h1) {cJ : ClassId} {n : Nat} {oa : Nat} {f : Nat → Int64} (ho : h oa = some (arJ cJ n f)) : h1 oa = some (arJ cJ n f) := a oa _ ho (by simp [kd])
section StartsH
variable {l : Launch} {D : va_G} {z : Nat} {tys : List (ClassId × FieldType)}
theorem Ct.ofH {y : MethodName} {ws ws' : List Cond} {rm : Room} {As : List Value} {h : Hp} {post : Option Value → Hp → Prop} {cc : ByteArray} {maxL : Nat} {ret : Option FieldType} {hh : List (Nat × Nat × Nat × Nat)} (hy : plainName y.cls = true) (hw : ws = Cond.codeWith y cc maxL ret hh :: ws') (hn : (lg_sl As).length ≤ maxL)
    (body : ∀ (p : Program) (e : Env) (s : State) (m : MethodId) (args : Array Value) (below : List Frame) (meth : Method) (c : Code), p.tables.exec = Jvm.exec → c.code = cc → meth.sig.returnType = ret → (∀ w ∈ ws, w.before args s = true) → s.vm.findClass y.cls = some m.cls → meth.locks = false → c.maxLocals = maxL → meth.name = y.name → c.exceptionTable.toList = tableOf hh → Kb D z tys s → Bk D z s.heap h s.heap [] → ∀ ls : Array Slot, lv_has ls maxL (lv_args 0 As) →
      W p l e rm s m args below meth c s.heap [] 0 0 (MQ below (Qx D z post) args s rm.cells rm.slots (zA z)) (F0 m 0 ls [])) : Ct l D z tys y ws rm As h post := by
  refine MetFree.of_bodyS (code := cc) (maxLocals := maxL) (ret := ret) hy ?_ ?_
  · intro args s m h9 hn9
    obtain ⟨m9, meth, c, hn8, h1, h2, h3, h4, -, h5, h6, -⟩ := Cond.codeWith_spec (atoms_spec (ws := ws) h9 _ (by rw [hw]; exact List.mem_cons_self))
    cases hn9.symm.trans hn8
    exact ⟨meth, c, h1, h2, h3, h4, h5, h6⟩
  · intro p e s m args below meth c s₁ B hml hP _
    have hh0 : s₁.heap = s.heap := by rw [B.state]; rfl
    obtain ⟨rfl, hR, hKK, hWW, hZZ⟩ := hP
    have hl := lv_entry As (n := maxL) hn
    have hT := vx_table (x := y) B (atoms_spec (ws := ws) B.pre _ (by rw [hw]; exact List.mem_cons_self))
    have hbody := body p e s m _ below meth c B.exec B.bytes B.returns (atoms_spec (ws := ws) B.pre) (findClass_of_methodNamed B.named) B.notSynchronized hml (name_of_methodNamed B.named B.method).1 hT ⟨hKK, hWW, hZZ, hR.1⟩ ⟨hR, va_S.rf⟩ _ hl
    rw [← lg_entry_eq] at hbody
    obtain ⟨t, a1, o, b1, b2, b3⟩ := hbody s₁ hh0 (Stand.of_body B)
    exact ⟨t, o, a1, b1, b2, b3⟩
end StartsH
