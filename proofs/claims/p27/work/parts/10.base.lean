/-! The world of this claim as a map from addresses to cells: a write is an update, so no apartness is carried; what is not named stays. -/
abbrev Hp : Type := Nat → Option va_E
def hup (h : Hp) (a : Nat) (e : va_E) : Hp := fun b => if b = a then some e else h b
theorem hup_s (h : Hp) (a : Nat) (e : va_E) : hup h a e a = some e := if_pos rfl
theorem hup_n {h : Hp} {a b : Nat} {e : va_E} (hb : b ≠ a) : hup h a e b = h b := if_neg hb
theorem hup_or {h : Hp} {a b : Nat} {e e1 : va_E} (hb : hup h a e b = some e1) : (b = a ∧ e1 = e) ∨ (b ≠ a ∧ h b = some e1) := by
  by_cases q : b = a
  · subst q
    rw [hup_s] at hb
    exact Or.inl ⟨rfl, (Option.some.inj hb).symm⟩
  · rw [hup_n q] at hb
    exact Or.inr ⟨q, hb⟩
abbrev zA (z : Nat) : Nat → Prop := fun q => z ≤ q
def Rp (D : va_G) (z : Nat) (h : Hp) (H : Heap) : Prop := z ≤ H.size ∧ ∀ (a : Nat) (e : va_E), h a = some e → z ≤ a ∧ va_at D vwCl (a, e) H
theorem Rp.one {D : va_G} {z : Nat} {h : Hp} {H : Heap} (hR : Rp D z h H) {a : Nat} {e : va_E} (he : h a = some e) : va_P D vwCl [(a, e)] H := by
  intro k q hk
  cases k with
  | zero =>
    cases hk
    exact (hR.2 a e he).2
  | succ k => simp at hk
theorem Rp.lt {D : va_G} {z : Nat} {h : Hp} {H : Heap} (hR : Rp D z h H) {a : Nat} {e : va_E} (he : h a = some e) : a < H.size := (hR.2 a e he).2.lt
theorem Rp.none {D : va_G} {z : Nat} {h : Hp} {H : Heap} (hR : Rp D z h H) {a : Nat} (ha : H.size ≤ a) : h a = none := by
  cases q : h a with
  | none => rfl
  | some e => exact absurd (hR.lt q) (Nat.not_lt.mpr ha)
theorem Rp.kept {D : va_G} {z : Nat} {h : Hp} {H H1 : Heap} (hR : Rp D z h H) (hz : H.size ≤ H1.size) (hq : ∀ q : Nat, q < H.size → H1[q]? = H[q]?) : Rp D z h H1 :=
  ⟨Nat.le_trans hR.1 hz, fun a e he => ⟨(hR.2 a e he).1, (hR.2 a e he).2.kept (hq a (hR.lt he))⟩⟩
theorem Rp.up {D : va_G} {z : Nat} {h : Hp} {H H1 : Heap} (hR : Rp D z h H) {a : Nat} {e0 e : va_E} (he : h a = some e0) (h1 : va_at D vwCl (a, e) H1) (z1 : H1.size = H.size) (oq : ∀ q : Nat, q ≠ a → H1[q]? = H[q]?) : Rp D z (hup h a e) H1 := by
  refine ⟨by rw [z1]; exact hR.1, fun b e1 hb => ?_⟩
  rcases hup_or hb with ⟨rfl, rfl⟩ | ⟨q, hb⟩
  · exact ⟨(hR.2 _ e0 he).1, h1⟩
  · exact ⟨(hR.2 b e1 hb).1, (hR.2 b e1 hb).2.kept (oq b q)⟩
theorem Rp.new {D : va_G} {z : Nat} {h : Hp} {H H1 : Heap} (hR : Rp D z h H) {e : va_E} (h1 : va_at D vwCl (H.size, e) H1) (z1 : H1.size = H.size + 1) (oq : ∀ q : Nat, q < H.size → H1[q]? = H[q]?) : Rp D z (hup h H.size e) H1 := by
  refine ⟨by rw [z1]; exact Nat.le_succ_of_le hR.1, fun b e1 hb => ?_⟩
  rcases hup_or hb with ⟨rfl, rfl⟩ | ⟨q, hb⟩
  · exact ⟨hR.1, h1⟩
  · exact ⟨(hR.2 b e1 hb).1, (hR.2 b e1 hb).2.kept (oq b (hR.lt hb))⟩
/-- the machine's heap H holds the map h; outside the law's own cells nothing has changed since H0 -/
def Bk (D : va_G) (z : Nat) (H0 : Heap) (h : Hp) (H : Heap) (locs : List Loc) : Prop := Rp D z h H ∧ va_S (zA z) H0 H locs
/-! what the tables say, past the words: nest links, casts, declarations, texts -/
def nE1 : String := "java/lang/IllegalArgumentException"
def nE2 : String := "java/lang/IllegalStateException"
def nE3 : String := "java/lang/IndexOutOfBoundsException"
def nEs : List String := ["java/lang/RuntimeException", "java/lang/Exception"]
def xwC : List (String × String) := [(nE1, nE1), (nE2, nE2), (nE3, nE3)]
def xwD : List MethodName := [⟨"java/lang/Throwable", "<init>", "(Ljava/lang/String;)V"⟩, ⟨"java/lang/RuntimeException", "<init>", "(Ljava/lang/String;)V"⟩, ⟨"java/lang/Exception", "<init>", "(Ljava/lang/String;)V"⟩]
def xwN : List (String × String) := [(nE1, nE2), (nE1, nE3), (nE2, nE1), (nE2, nE3), (nE3, nE1), (nE3, nE2)]
def xwS : List (Nat × String) := [(116, "200 rows were inserted"), (184, "the wide index is stale"), (189, "key is out of range"), (191, "sort is out of range"), (193, "value is out of range"), (195, "to is out of range"), (197, "kind is out of range"), (206, "detail is out of range"), (208, "high is out of range"), (210, "sorts is out of range"), (219, "there is no such part"), (222, "the part is gone"), (224, "the part is the rest"), (229, "the part has no such leaf"), (231, "there is no such row, or it was removed"), (233, "the part is not attached"), (235, "the part is not detached"), (241, "the range overlaps that of an attached part"), (247, "the rest has a row with a key of the range"), (249, "a row has a key outside the range it would come to"), (258, "15 parts were made"), (66, "the part can not be split at this key"), (82, "the other part does not begin where the part ends"), (85, "kind or detail are not the same")]
def Ws (U : State) : Prop := va_Nw (.methodLinkNest RX0 30 yX3_hasSort "ParcelledTable") U ∧ va_Nw (.methodLinkNest RX2 45 yX3_hasSort "ParcelledTable") U ∧ (∀ q ∈ xwC, va_Nw (.castable q.1 q.2) U) ∧ (∀ q ∈ xwD, va_Nw (.declares q) U) ∧ (∀ q ∈ xwN, va_Nc q.1 q.2 U) ∧ (∀ q ∈ xwS, ∃ a : Nat, vk_R RX3 q.1 q.2 a U) ∧ va_AO RX0 U ∧ va_AO RX2 U
theorem Ws.warm {s U : State} (hW : s.WarmedH U.vm) (h : Ws s) : Ws U :=
  ⟨va_Nw.warmM hW h.1, va_Nw.warmM hW h.2.1, fun q hq => va_Nw.warmC hW (h.2.2.1 q hq), fun q hq => va_Nw.warmD hW (h.2.2.2.1 q hq), fun q hq => va_Nc.moved hW.alike (h.2.2.2.2.1 q hq), fun q hq => (by
    obtain ⟨a, ha⟩ := h.2.2.2.2.2.1 q hq
    exact ⟨a, ha.warm hW⟩), va_AO.moved hW.alike h.2.2.2.2.2.2.1, va_AO.moved hW.alike h.2.2.2.2.2.2.2⟩
theorem Ws.same {u U : State} (hv : u.vm = U.vm) (h : Ws u) : Ws U :=
  ⟨va_Nw.same rfl hv h.1, va_Nw.same rfl hv h.2.1, fun q hq => va_Nw.same rfl hv (h.2.2.1 q hq), fun q hq => va_Nw.same rfl hv (h.2.2.2.1 q hq), fun q hq => va_Nc.moved (by rw [hv]; exact Vm.Alike.refl _) (h.2.2.2.2.1 q hq), fun q hq => (by
    obtain ⟨a, ha⟩ := h.2.2.2.2.2.1 q hq
    exact ⟨a, ha.same hv.symm⟩), va_AO.moved (by rw [hv]; exact Vm.Alike.refl _) h.2.2.2.2.2.2.1, va_AO.moved (by rw [hv]; exact Vm.Alike.refl _) h.2.2.2.2.2.2.2⟩
def Zs (z : Nat) (U : State) (H : Heap) : Prop := vx_Zq Bundle.tN "UNASSIGNED_STACK" Bundle.steD (zA z) U H ∧ vx_Zq Bundle.tN "SUPPRESSED_SENTINEL" Bundle.listD (zA z) U H
/-- a method's start: the heap holds h; the tables -/
def Kp (D : va_G) (z : Nat) (tys : List (ClassId × FieldType)) (h : Hp) (U : State) : Prop := Rp D z h U.heap ∧ va_K D vwCl tys U ∧ Ws U ∧ Zs z U U.heap
theorem Kp.blind (D : va_G) (z : Nat) (tys : List (ClassId × FieldType)) (h : Hp) (As : List Value) : FrameBlind (va_Pc As (Kp D z tys h)) := fun a U g mk q =>
  ⟨q.1, q.2.1, va_K.moved (u := U) (U := U.calling g mk a) (Vm.Alike.refl U.vm) q.2.2.1, Ws.same (u := U) (U := U.calling g mk a) rfl q.2.2.2.1, vx_Zq.moved (u := U) (U := U.calling g mk a) (Vm.Alike.refl U.vm) q.2.2.2.2.1, vx_Zq.moved (u := U) (U := U.calling g mk a) (Vm.Alike.refl U.vm) q.2.2.2.2.2⟩
/-- what stands fixed in a method's body, of the state s at its start -/
def Kb (D : va_G) (z : Nat) (tys : List (ClassId × FieldType)) (s : State) : Prop := va_K D vwCl tys s ∧ Ws s ∧ Zs z s s.heap ∧ z ≤ s.heap.size
theorem Kb.pass {D : va_G} {z : Nat} {tys : List (ClassId × FieldType)} {s : State} (hK : Kb D z tys s) {h : Hp} {H : Heap} {locs : List Loc} (hB : Bk D z s.heap h H locs) {As : List Value} (U : State) (hU : U.heap = H) (hW : s.WarmedH U.vm) : va_Pc As (Kp D z tys h) As.toArray U := by
  refine ⟨rfl, by rw [hU]; exact hB.1, va_K.moved hW.alike hK.1, hK.2.1.warm hW, ?_, ?_⟩
  · rw [hU]; exact vx_Zq.moved hW.alike (hK.2.2.1.1.kept hB.2.2.1)
  · rw [hU]; exact vx_Zq.moved hW.alike (hK.2.2.1.2.kept hB.2.2.1)
/-- a method's end: an answer, the map behind it -/
def Qx (D : va_G) (z : Nat) (post : Option Value → Hp → Prop) : Array Value → State → Outcome → State → Prop := fun _ st oc t => ∃ (v : Option Value) (u : Hp), oc = .returned v ∧ post v u ∧ Rp D z u t.heap ∧ va_F (zA z) st t
/-- .. or a throw -/
def Xp (D : va_G) (z : Nat) (PX : String → Hp → Prop) : String → State → State → Prop := fun E st t => ∃ u : Hp, PX E u ∧ Rp D z u t.heap ∧ va_F (zA z) st t
abbrev Ct (l : Launch) (D : va_G) (z : Nat) (tys : List (ClassId × FieldType)) (y : MethodName) (ws : List Cond) (rm : Room) (As : List Value) (h : Hp) (post : Option Value → Hp → Prop) : Prop := Met l y ws rm (va_Pc As (Kp D z tys h)) (Qx D z post) rm.cells rm.slots (zA z)
abbrev Cx (l : Launch) (D : va_G) (z : Nat) (tys : List (ClassId × FieldType)) (y : MethodName) (ws : List Cond) (rm : Room) (As : List Value) (h : Hp) (post : Option Value → Hp → Prop) (PX : String → Hp → Prop) : Prop := vx_Met l y ws rm (va_Pc As (Kp D z tys h)) (Qx D z post) (Xp D z PX) rm.cells rm.slots (zA z)
section MB
variable {p : Program} {l : Launch} {e : Env} {R : Room} {s : State} {m : MethodId} {args : Array Value} {below : List Frame} {meth : Method} {c : Code} {H : Heap} {locs : List Loc} {cells slots : Nat} {Q : State → Prop}
variable {cc : ByteArray} {pc : Nat} {ls : Array Slot} {rest st0 : List Value} {D : va_G} {z : Nat} {h : Hp} {H0 : Heap} {tys : List (ClassId × FieldType)} {a : Nat} {Ts : List Cond} {mc ms : Nat} {av : Array Value}
theorem m_get (hexec : p.tables.exec = Jvm.exec) (hb : c.code = cc) {own ref C : String} {T : u_T} {N ci index : Nat} (hts : ∀ w ∈ Ts, w.before args s = true) (hin : ∀ w ∈ u_ws C T N, w ∈ Ts) (hown : s.vm.findClass own = some m.cls) (hK : Kb D z tys s) (hB : Bk D z H0 h H locs) {fs : List Value} (he : h a = some (.inr (ci, fs))) (hc : vwCl[ci]? = some (C, T, N)) (k : Nat) (hk : k < N) (hlink : (Cond.fieldLink own index ref (T k).2.1 (T k).2.2.1) ∈ Ts) (hsame : (T k).1 = ref) {v : Value} (hv : fs[k]? = some v) (hdg : decode cc pc = .ok (.getfield index, 3))
    (kk : W p l e R s m args below meth c H locs cells slots Q (F0 m (pc + 3) ls (v :: rest))) : W p l e R s m args below meth c H locs cells slots Q (F0 m pc ls (.ref a :: rest)) :=
  va_get hexec hb hts hin hown hK.1 (hB.1.one he) 0 rfl hc k hk (hts _ hlink) (fun x q => by rw [← hsame]; exact q) hv hdg kk
theorem Bk.put (hB : Bk D z H0 h H locs) {e0 e1 : va_E} (he : h a = some e0) {H1 : Heap} (h1 : va_at D vwCl (a, e1) H1) (z1 : H1.size = H.size) (oq : ∀ q : Nat, q ≠ a → H1[q]? = H[q]?) {k : Nat} : Bk D z H0 (hup h a e1) H1 (locs ++ [⟨a, k⟩]) :=
  ⟨hB.1.up he h1 z1 oq, hB.2.put z1 oq (hB.1.2 a e0 he).1⟩
theorem m_put (hexec : p.tables.exec = Jvm.exec) (hb : c.code = cc) {own ref C : String} {T : u_T} {N ci index : Nat} (hts : ∀ w ∈ Ts, w.before args s = true) (hin : ∀ w ∈ u_ws C T N, w ∈ Ts) (ty0 : Nat → FieldType) (hty : ∀ k, k < N → parseFieldDescriptor (T k).2.2.1 = some (ty0 k)) (hnm : ∀ a, a < N → ∀ b, b < N → a ≠ b → (T a).2.1 ≠ (T b).2.1) (hown : s.vm.findClass own = some m.cls) (hK : Kb D z tys s) (hB : Bk D z H0 h H locs) {fs : List Value} (he : h a = some (.inr (ci, fs))) (hc : vwCl[ci]? = some (C, T, N)) (k : Nat) (hk : k < N) (hlink : (Cond.fieldLink own index ref (T k).2.1 (T k).2.2.1) ∈ Ts) (hsame : (T k).1 = ref) (hfin : (T k).2.2.2 = false) {v : Value} (hn : narrow (ty0 k) v = v) (hfit : fits (ty0 k) v = true) (hl : k < fs.length)
    (hdg : decode cc pc = .ok (.putfield index, 3)) (kk : ∀ (H1 : Heap) (locs1 : List Loc), Bk D z H0 (hup h a (.inr (ci, fs.set k v))) H1 locs1 → W p l e R s m args below meth c H1 locs1 cells slots Q (F0 m (pc + 3) ls rest)) : W p l e R s m args below meth c H locs cells slots Q (F0 m pc ls (v :: .ref a :: rest)) := by
  have hap := va_apart (own := own) hts hin ty0 hty hnm hK.1 hc
  obtain ⟨r, h1, cell, q1, q2, q3, q4⟩ := (hB.1.2 a _ he).2
  have hr : r = (C, T, N) := Option.some.inj (h1.symm.trans hc)
  subst hr
  obtain ⟨hS, hfc, kC, hkC, hkind⟩ := hK.1.1 ci _ hc
  obtain ⟨cf, kf, fi, f, hi, hsl⟩ := hS k hk
  have hlay := hts _ (hin _ (u_in_lay hk))
  unfold u_lay at hlay
  rw [if_neg (by rw [hfin]; decide)] at hlay
  have hst := (u_facts hfc hkC (u_lays hts hin hk) hi).1
  have h6 := u_store hfc hkC hkind hlay hi (hty k hk) hn hfit
  refine W.putK hexec hb (f := f) ⟨hown, hts _ hlink, ⟨_, _, _, by rw [← hsame]; exact hi⟩, hst⟩ (by rw [q2]; exact h6) q1 q3 (by rw [hsl]; exact k2_hasslot (q4 k hk)) rfl rfl hdg fun H' e1 e2 e3 => ?_
  rw [hsl] at e1 ⊢
  exact kk H' _ (hB.put (e1 := .inr (ci, fs.set k v)) he ⟨_, hc, t_OB.to (V := updV (vp_V fs) k v) ⟨_, e1, q2, q3, t_set q4 hap hk v⟩ (fun j _ => vp_updV_set hl v j)⟩ e2 e3)
theorem m_putF (hexec : p.tables.exec = Jvm.exec) (hb : c.code = cc) {own ref C : String} {T : u_T} {N ci index : Nat} (hts : ∀ w ∈ Ts, w.before args s = true) (hin : ∀ w ∈ u_ws C T N, w ∈ Ts) (ty0 : Nat → FieldType) (hty : ∀ k, k < N → parseFieldDescriptor (T k).2.2.1 = some (ty0 k)) (hnm : ∀ a, a < N → ∀ b, b < N → a ≠ b → (T a).2.1 ≠ (T b).2.1) (hown : s.vm.findClass own = some m.cls) (hK : Kb D z tys s) (hB : Bk D z H0 h H locs) {fs : List Value} (he : h a = some (.inr (ci, fs))) (hc : vwCl[ci]? = some (C, T, N)) (k : Nat) (hk : k < N) (hlink : (Cond.fieldLink own index ref (T k).2.1 (T k).2.2.1) ∈ Ts) (hsame : (T k).1 = ref) (hfin : (T k).2.2.2 = true) (hin2 : meth.name = "<init>") (hdecl : (T k).1 = own) {v : Value} (hn : narrow (ty0 k) v = v) (hfit : fits (ty0 k) v = true) (hl : k < fs.length)
    (hdg : decode cc pc = .ok (.putfield index, 3)) (kk : ∀ (H1 : Heap) (locs1 : List Loc), Bk D z H0 (hup h a (.inr (ci, fs.set k v))) H1 locs1 → W p l e R s m args below meth c H1 locs1 cells slots Q (F0 m (pc + 3) ls rest)) : W p l e R s m args below meth c H locs cells slots Q (F0 m pc ls (v :: .ref a :: rest)) := by
  have hap := va_apart (own := own) hts hin ty0 hty hnm hK.1 hc
  obtain ⟨r, h1, cell, q1, q2, q3, q4⟩ := (hB.1.2 a _ he).2
  have hr : r = (C, T, N) := Option.some.inj (h1.symm.trans hc)
  subst hr
  obtain ⟨hS, hfc, kC, hkC, hkind⟩ := hK.1.1 ci _ hc
  obtain ⟨cf, kf, fi, f, hi, hsl⟩ := hS k hk
  have hlay := hts _ (hin _ (u_in_lay hk))
  unfold u_lay at hlay
  rw [if_pos hfin] at hlay
  have hst := (u_facts hfc hkC (u_lays hts hin hk) hi).1
  have hcf : m.cls = cf := by
    obtain ⟨_, _, c', _, _, _, -, -, hf', -, -, -, hown2, -⟩ := Cond.laysFinal_spec hlay
    have e1 : c' = cf := by have := hi.symm.trans hf'; simp at this; exact this.1.symm
    rw [hdecl] at hown2
    rw [← e1]; exact Option.some.inj (hown.symm.trans hown2)
  have h6 := u_fits hfc hkC hkind (Or.inr hlay) hi (hty k hk) hn hfit
  refine W.putFinK hexec hb hown (hts _ hlink) (by rw [← hsame]; exact hi) hst hcf hin2 (by rw [q2]; exact h6) q1 q3 (by rw [hsl]; exact k2_hasslot (q4 k hk)) rfl rfl hdg fun H' e1 e2 e3 => ?_
  rw [hsl] at e1 ⊢
  exact kk H' _ (hB.put (e1 := .inr (ci, fs.set k v)) he ⟨_, hc, t_OB.to (V := updV (vp_V fs) k v) ⟨_, e1, q2, q3, t_set q4 hap hk v⟩ (fun j _ => vp_updV_set hl v j)⟩ e2 e3)
theorem m_iald (hexec : p.tables.exec = Jvm.exec) (hb : c.code = cc) (hK : Kb D z tys s) (hB : Bk D z H0 h H locs) (t0 : Nat) {cA : ClassId} {n : Nat} {f : Nat → Int32} (he : h a = some (.inl (cA, n, .inl f))) (ht : tys[t0]? = some (cA, .int)) {i : Int32} (hin : vp_in i n) (hdg : decode cc pc = .ok (.iaload, 1))
    (kk : W p l e R s m args below meth c H locs cells slots Q (F0 m (pc + 1) ls (.int (f i.toNatClampNeg) :: rest))) : W p l e R s m args below meth c H locs cells slots Q (F0 m pc ls (.int i :: .ref a :: rest)) :=
  va_iald hexec hb hK.1 (hB.1.one he) 0 t0 rfl ht hin hdg kk
theorem m_lald (hexec : p.tables.exec = Jvm.exec) (hb : c.code = cc) (hK : Kb D z tys s) (hB : Bk D z H0 h H locs) (t0 : Nat) {cA : ClassId} {n : Nat} {f : Nat → Int64} (he : h a = some (.inl (cA, n, .inr (.inl f)))) (ht : tys[t0]? = some (cA, .long)) {i : Int32} (hin : vp_in i n) (hdg : decode cc pc = .ok (.laload, 1))
    (kk : W p l e R s m args below meth c H locs cells slots Q (F0 m (pc + 1) ls (.long (f i.toNatClampNeg) :: rest))) : W p l e R s m args below meth c H locs cells slots Q (F0 m pc ls (.int i :: .ref a :: rest)) :=
  va_lald hexec hb hK.1 (hB.1.one he) 0 t0 rfl ht hin hdg kk
theorem m_aldq (hexec : p.tables.exec = Jvm.exec) (hb : c.code = cc) (hK : Kb D z tys s) (hB : Bk D z H0 h H locs) (t0 : Nat) {cA : ClassId} {C : String} {n : Nat} {f : Nat → Option Nat} (he : h a = some (.inl (cA, n, .inr (.inr (.inr (.inr f)))))) (ht : tys[t0]? = some (cA, .object C)) {i : Int32} (hin : vp_in i n) (hdg : decode cc pc = .ok (.aaload, 1))
    (kk : W p l e R s m args below meth c H locs cells slots Q (F0 m (pc + 1) ls (va_rf (f i.toNatClampNeg) :: rest))) : W p l e R s m args below meth c H locs cells slots Q (F0 m pc ls (.int i :: .ref a :: rest)) :=
  va_aldq hexec hb hK.1 (hB.1.one he) 0 t0 rfl ht hin hdg kk
theorem m_alen (hexec : p.tables.exec = Jvm.exec) (hb : c.code = cc) (hK : Kb D z tys s) (hB : Bk D z H0 h H locs) (t0 : Nat) {cA : ClassId} {x : vp_A} (he : h a = some (.inl (cA, x))) {ty : FieldType} (ht : tys[t0]? = some (cA, ty)) {v : Int32} (hv : Int32.ofNat x.1 = v) (hdg : decode cc pc = .ok (.arraylength, 1))
    (kk : W p l e R s m args below meth c H locs cells slots Q (F0 m (pc + 1) ls (.int v :: rest))) : W p l e R s m args below meth c H locs cells slots Q (F0 m pc ls (.ref a :: rest)) :=
  va_alen hexec hb hK.1 (hB.1.one he) 0 t0 rfl ht hv hdg kk
theorem m_iast (hexec : p.tables.exec = Jvm.exec) (hb : c.code = cc) (hK : Kb D z tys s) (hB : Bk D z H0 h H locs) (t0 : Nat) {cA : ClassId} {n : Nat} {f : Nat → Int32} (he : h a = some (.inl (cA, n, .inl f))) (ht : tys[t0]? = some (cA, .int)) {i : Int32} {x : Int32} (hin : vp_in i n) (hdg : decode cc pc = .ok (.iastore, 1))
    (kk : ∀ (H1 : Heap) (locs1 : List Loc), Bk D z H0 (hup h a (.inl (cA, n, .inl (upd f i.toNatClampNeg x)))) H1 locs1 → W p l e R s m args below meth c H1 locs1 cells slots Q (F0 m (pc + 1) ls rest)) : W p l e R s m args below meth c H locs cells slots Q (F0 m pc ls (.int x :: .int i :: .ref a :: rest)) := by
  refine W.iast hexec hb ((hB.1.2 a _ he).2) ((hK.1.2 t0 _ ht).1 n (fun j => .int (f j))) (fun q => by cases q) (by show ¬ (i < 0 ∨ (arrV _ _ _).slots.size ≤ _); rw [arrV_size]; exact hin) rfl rfl hdg fun H1 e1 z1 oq => ?_
  refine kk H1 _ (hB.put he ?_ z1 oq)
  show H1[a]? = some (vp_cell _ _)
  rw [e1, vp_cell_i, vp_cell_i, arrV_store]
  congr 2
  funext q
  by_cases hq : q = i.toNatClampNeg
  · subst hq
    simp [updV, upd]
  · simp [updV, upd, hq]
theorem m_last (hexec : p.tables.exec = Jvm.exec) (hb : c.code = cc) (hK : Kb D z tys s) (hB : Bk D z H0 h H locs) (t0 : Nat) {cA : ClassId} {n : Nat} {f : Nat → Int64} (he : h a = some (.inl (cA, n, .inr (.inl f)))) (ht : tys[t0]? = some (cA, .long)) {i : Int32} {x : Int64} (hin : vp_in i n) (hdg : decode cc pc = .ok (.lastore, 1))
    (kk : ∀ (H1 : Heap) (locs1 : List Loc), Bk D z H0 (hup h a (.inl (cA, n, .inr (.inl (vp_updL f i.toNatClampNeg x))))) H1 locs1 → W p l e R s m args below meth c H1 locs1 cells slots Q (F0 m (pc + 1) ls rest)) : W p l e R s m args below meth c H locs cells slots Q (F0 m pc ls (.long x :: .int i :: .ref a :: rest)) := by
  refine W.last hexec hb ((hB.1.2 a _ he).2) ((hK.1.2 t0 _ ht).1 n (fun j => .long (f j))) (fun q => by cases q) (by show ¬ (i < 0 ∨ (arrV _ _ _).slots.size ≤ _); rw [arrV_size]; exact hin) rfl rfl hdg fun H1 e1 z1 oq => ?_
  refine kk H1 _ (hB.put he ?_ z1 oq)
  show H1[a]? = some (vp_cell _ _)
  rw [e1, vp_cell_l, vp_cell_l, arrV_store]
  congr 2
  funext q
  by_cases hq : q = i.toNatClampNeg
  · subst hq
    simp [updV, vp_updL]
  · simp [updV, vp_updL, hq]
theorem m_astq (hexec : p.tables.exec = Jvm.exec) (hb : c.code = cc) (hK : Kb D z tys s) (hB : Bk D z H0 h H locs) (t0 ci : Nat) {cA : ClassId} {r : vw_C} {n v : Nat} {vs : List Value} {f : Nat → Option Nat} (he : h a = some (.inl (cA, n, .inr (.inr (.inr (.inr f)))))) (ht : tys[t0]? = some (cA, .object r.1)) (hv : h v = some (.inr (ci, vs))) (hc : vwCl[ci]? = some r) {i : Int32} (hin : vp_in i n) (hdg : decode cc pc = .ok (.aastore, 1))
    (kk : ∀ (H1 : Heap) (locs1 : List Loc), Bk D z H0 (hup h a (.inl (cA, n, .inr (.inr (.inr (.inr (va_up f i.toNatClampNeg (some v)))))))) H1 locs1 → W p l e R s m args below meth c H1 locs1 cells slots Q (F0 m (pc + 1) ls rest)) : W p l e R s m args below meth c H locs cells slots Q (F0 m pc ls (.ref v :: .int i :: .ref a :: rest)) := by
  have hlt : i.toNatClampNeg < n := Nat.not_le.mp fun q => hin (Or.inr q)
  have h0 : ¬ i < 0 := fun q => hin (Or.inl q)
  obtain ⟨r', hr', cellV, g1, g2, g3, -⟩ := (hB.1.2 v _ hv).2
  have hcls := (hK.1.1 ci r hc).2
  obtain ⟨kA, comp, k1, k2, k3, -⟩ := (hK.1.2 t0 _ ht).2
  have hcomp : comp = D.1 ci := Option.some.inj (k3.symm.trans hcls.1)
  subst hcomp
  obtain ⟨kC, hkC, -⟩ := hcls.2
  refine W.aast hexec hb ((hB.1.2 a _ he).2) (fun q h => by cases h) (fun h => by cases h) k1 k2 rfl hkC ⟨h0, by show _ < (arrV _ _ _).slots.size; rw [arrV_size]; exact hlt⟩ g1 (fun q h => by rw [g3] at h; cases h) (by rw [g2]; exact hkC) (by rw [g2]; exact va_assign hcls) rfl rfl hdg fun H1 e1 z1 oq => ?_
  refine kk H1 _ (hB.put he ?_ z1 oq)
  show H1[a]? = some (vp_cell _ _)
  rw [e1, vp_cell_q, vp_cell_q, arrV_store]
  congr 2
  funext q
  by_cases hq : q = i.toNatClampNeg
  · subst hq
    simp [updV, va_up, va_rf]
  · simp [updV, va_up, hq]
theorem m_astqN (hexec : p.tables.exec = Jvm.exec) (hb : c.code = cc) (hK : Kb D z tys s) (hB : Bk D z H0 h H locs) (t0 : Nat) {cA : ClassId} {C : String} {n : Nat} {f : Nat → Option Nat} (he : h a = some (.inl (cA, n, .inr (.inr (.inr (.inr f)))))) (ht : tys[t0]? = some (cA, .object C)) {i : Int32} (hin : vp_in i n) (hdg : decode cc pc = .ok (.aastore, 1))
    (kk : ∀ (H1 : Heap) (locs1 : List Loc), Bk D z H0 (hup h a (.inl (cA, n, .inr (.inr (.inr (.inr (va_up f i.toNatClampNeg none))))))) H1 locs1 → W p l e R s m args below meth c H1 locs1 cells slots Q (F0 m (pc + 1) ls rest)) : W p l e R s m args below meth c H locs cells slots Q (F0 m pc ls (.null :: .int i :: .ref a :: rest)) := by
  refine va_WaastN (C := C) hexec hb ((hB.1.2 a _ he).2) ((hK.1.2 t0 _ ht).1 n (fun j => va_rf (f j))) (fun h => by cases h) (by show ¬ (i < 0 ∨ (arrV _ _ _).slots.size ≤ _); rw [arrV_size]; exact hin) rfl rfl hdg fun H1 e1 z1 oq => ?_
  refine kk H1 _ (hB.put he ?_ z1 oq)
  show H1[a]? = some (vp_cell _ _)
  rw [e1, vp_cell_q, vp_cell_q, arrV_store]
  congr 2
  funext q
  by_cases hq : q = i.toNatClampNeg
  · subst hq
    simp [updV, va_up, va_rf]
  · simp [updV, va_up, hq]
theorem Bk.new (hB : Bk D z H0 h H locs) {e1 : va_E} {H1 : Heap} (h1 : va_at D vwCl (H.size, e1) H1) (z1 : H1.size = H.size + 1) (oq : ∀ q : Nat, q < H.size → H1[q]? = H[q]?) : Bk D z H0 (hup h H.size e1) H1 locs :=
  ⟨hB.1.new h1 z1 oq, Nat.le_trans hB.2.1 (by omega), fun x h1 h2 => (oq x (Nat.lt_of_lt_of_le h1 hB.2.1)).trans (hB.2.2.1 x h1 h2), hB.2.2.2⟩
theorem m_new (hexec : p.tables.exec = Jvm.exec) (hb : c.code = cc) {own C : String} {T : u_T} {N ci index : Nat} (hts : ∀ w ∈ Ts, w.before args s = true) (hin : ∀ w ∈ u_ws C T N, w ∈ Ts) (ty : Nat → FieldType) (hty : ∀ k, k < N → parseFieldDescriptor (T k).2.2.1 = some (ty k)) (hown : s.vm.findClass own = some m.cls) (hcl : (Cond.classLink own index C) ∈ Ts) (hinst : (Cond.instantiable C N) ∈ Ts) (hini : (Cond.initialized C) ∈ Ts)
    (hK : Kb D z tys s) (hB : Bk D z H0 h H locs) (hc : vwCl[ci]? = some (C, T, N)) {fs : List Value} (hfs : ∀ j, j < N → defaultValue (ty j) = vp_V fs j) (hcells : cells + 1 ≤ R.cells) (hslots : slots + N ≤ R.slots) (hdg : decode cc pc = .ok (.new index, 3))
    (kk : ∀ (q : Nat) (H1 : Heap), h q = none → Bk D z H0 (hup h q (.inr (ci, fs))) H1 locs →
      W p l e R s m args below meth c H1 locs (cells + 1) (slots + N) Q (F0 m (pc + 3) ls (.ref q :: rest))) : W p l e R s m args below meth c H locs cells slots Q (F0 m pc ls rest) := by
  have hKn := hK.1.1 ci _ hc
  refine W.newcK hexec hb hown (hts _ hcl) (hts _ hinst) (hts _ hini) rfl hdg hcells hslots hKn.2.1 rfl fun H1 kC hkC e1 z1 o1 => ?_
  exact kk H.size H1 (hB.1.none (Nat.le_refl _)) (hB.new ⟨_, hc, (u_born ty hts hin hKn hkC e1 hty).to hfs⟩ z1 o1)
/-- a new array: its class is the one that the tables name -/
theorem m_newa (hexec : p.tables.exec = Jvm.exec) (hb : c.code = cc) {atype : ArrayType} (harr : (Cond.arrayClass (newarray.typeOf atype)).before args s = true) {ty : FieldType} (hty : newarray.typeOf atype = ty) (hK : Kb D z tys s) (hB : Bk D z H0 h H locs) (t0 : Nat) {cA : ClassId} (ht : tys[t0]? = some (cA, ty)) (hp : ∀ C : String, ty ≠ .object C)
    {n : Int32} {N' : Nat} {a0 : vp_A} (ha : ∀ cA : ClassId, vp_cell cA a0 = arrV cA N' (fun _ => defaultValue ty)) (hn : ¬ n < 0) (hN : n.toNatClampNeg = N') (hbytes : N' * componentBytes ty ≤ 536870912) (hcells : cells + 1 ≤ R.cells) (hslots : slots + N' ≤ R.slots) (hdg : decode cc pc = .ok (.newarray atype, 2))
    (kk : ∀ (q : Nat) (H1 : Heap), h q = none → Bk D z H0 (hup h q (.inl (cA, a0))) H1 locs →
      W p l e R s m args below meth c H1 locs (cells + 1) (slots + N') Q (F0 m (pc + 2) ls (.ref q :: rest))) : W p l e R s m args below meth c H locs cells slots Q (F0 m pc ls (.int n :: rest)) := by
  subst hty
  refine va_newaK hexec hb harr rfl hdg rfl hn hN hbytes hcells hslots rfl fun H1 cA1 e1 z1 o1 hAr hNm => ?_
  have hc : cA1 = cA := by
    have h2 := (hK.1.2 t0 _ ht).2
    revert h2 hp hNm
    cases newarray.typeOf atype with
    | object C => intro hp; exact absurd rfl (hp C)
    | _ => intro _ hNm h2; exact Option.some.inj (hNm.symm.trans h2)
  subst hc
  exact kk H.size H1 (hB.1.none (Nat.le_refl _)) (hB.new (show H1[H.size]? = some (vp_cell _ _) by rw [ha]; exact e1) z1 o1)
theorem m_newq (hexec : p.tables.exec = Jvm.exec) (hb : c.code = cc) {own C : String} {index : Nat} (hts : ∀ w ∈ Ts, w.before args s = true) (hown : s.vm.findClass own = some m.cls) (hclink : (Cond.classLink own index C) ∈ Ts) (hover : va_AO C s) (hK : Kb D z tys s) (hB : Bk D z H0 h H locs) (t0 : Nat) {cA : ClassId} (ht : tys[t0]? = some (cA, .object C))
    {n : Int32} {N' : Nat} (hn : ¬ n < 0) (hN : n.toNatClampNeg = N') (hbytes : N' * 4 ≤ 536870912) (hcells : cells + 1 ≤ R.cells) (hslots : slots + N' ≤ R.slots) (hdg : decode cc pc = .ok (.anewarray index, 3))
    (kk : ∀ (q : Nat) (H1 : Heap), h q = none → Bk D z H0 (hup h q (.inl (cA, N', .inr (.inr (.inr (.inr (fun _ => none))))))) H1 locs →
      W p l e R s m args below meth c H1 locs (cells + 1) (slots + N') Q (F0 m (pc + 3) ls (.ref q :: rest))) : W p l e R s m args below meth c H locs cells slots Q (F0 m pc ls (.int n :: rest)) := by
  subst hN
  refine W.anew hexec hb hown (hts _ hclink) (va_AO.use hover) rfl hdg rfl hn hbytes hcells hslots fun cA1 kA comp f1 f2 f3 f4 => ?_
  have hc : cA1 = cA := by
    obtain ⟨kA', comp', g1, g2, g3, g4⟩ := (hK.1.2 t0 _ ht).2
    exact Option.some.inj (f1.symm.trans g4)
  subst hc
  generalize hH1 : H.push ({ cls := cA1, slots := Array.replicate n.toNatClampNeg .null, vm := .none } : Cell) = H1
  have z1 : H1.size = H.size + 1 := by rw [← hH1, Array.size_push]
  have e1 : H1[H.size]? = some (arrV cA1 n.toNatClampNeg (fun _ => .null)) := by rw [← hH1, Array.getElem?_push_size, ← arrV_new]
  have o1 : ∀ q : Nat, q < H.size → H1[q]? = H[q]? := fun q hq => by rw [← hH1, Array.getElem?_push, if_neg (Nat.ne_of_lt hq)]
  exact kk H.size H1 (hB.1.none (Nat.le_refl _)) (hB.new (show H1[H.size]? = some (vp_cell _ _) by rw [vp_cell_q]; exact e1) z1 o1)
/-! calls -/
theorem m_bk {st₀ t T' : State} {L : List Loc} {u : Hp} (h0 : st₀.heap = H) (e1 : T'.heap = t.heap) (hB : Bk D z H0 h H locs) (hL : ∀ q ∈ L, zA z q.base) (hR : Rp D z u t.heap) (hF : va_F (zA z) st₀ t) : Bk D z H0 u T'.heap (locs ++ L) := by
  obtain ⟨-, -, k3⟩ := vx_keep h0 e1 hB.2 (fun q _ hq => hq) (fun q hq => hq) hL hF
  exact ⟨by rw [e1]; exact hR, k3⟩
theorem m_run {post : Option Value → Hp → Prop} (hr : va_Run p l e R s m args below meth c H locs cells slots mc ms (F0 m pc ls st0) rest (Qx D z post av) (zA z)) (hB : Bk D z H0 h H locs)
    (kk : ∀ (v : Option Value) (u : Hp) (H1 : Heap) (locs1 : List Loc), post v u → Bk D z H0 u H1 locs1 → W p l e R s m args below meth c H1 locs1 (cells + mc) (slots + ms) Q (F0 m (pc + 3) ls (v.toList ++ rest))) : W p l e R s m args below meth c H locs cells slots Q (F0 m pc ls st0) := by
  intro T hT X
  obtain ⟨v, st₀, t, T', L, h0, X', hL, e1, e2, ⟨v', u, hv, hp, hR, hF⟩, st⟩ := hr T hT X
  cases hv
  obtain ⟨t2, a1, b1⟩ := kk v u T'.heap (locs ++ L) hp (m_bk h0 e1 hB hL hR hF) T' rfl X'
  exact ⟨t2, st t2 a1, b1⟩
theorem m_runX {post : Option Value → Hp → Prop} {PX : String → Hp → Prop} (hr : vx_Run p l e R s m args below meth c H locs cells slots mc ms (F0 m pc ls st0) rest (Qx D z post av) (Xp D z PX) (zA z)) (hB : Bk D z H0 h H locs)
    (kx : ∀ (E : String) (u : Hp) (H1 : Heap) (locs1 : List Loc) (q9 : Addr) (ce : Cell), PX E u → Bk D z H0 u H1 locs1 → H1[q9]? = some ce → ce.vm = .none → s.vm.findClass E = some ce.cls → vx_W p l e R s m args below meth c H1 locs1 (cells + mc) (slots + ms) Q (F0 m pc ls rest) q9)
    (kk : ∀ (v : Option Value) (u : Hp) (H1 : Heap) (locs1 : List Loc), post v u → Bk D z H0 u H1 locs1 → W p l e R s m args below meth c H1 locs1 (cells + mc) (slots + ms) Q (F0 m (pc + 3) ls (v.toList ++ rest))) : W p l e R s m args below meth c H locs cells slots Q (F0 m pc ls st0) := by
  intro T hT X
  rcases hr T hT X with ⟨v, st₀, t, T', L, h0, X', hL, e1, e2, ⟨v', u, hv, hp, hR, hF⟩, st⟩ | ⟨q, st₀, t, T', L, E, ce, h0, X', hL, e1, e2, ⟨u, hp, hR, hF⟩, hce, hcv, hcl, st⟩
  · cases hv
    obtain ⟨t2, a1, b1⟩ := kk v u T'.heap (locs ++ L) hp (m_bk h0 e1 hB hL hR hF) T' rfl X'
    exact ⟨t2, st t2 a1, b1⟩
  · obtain ⟨t2, a1, b1⟩ := kx E u T'.heap (locs ++ L) q ce hp (m_bk h0 e1 hB hL hR hF) (by rw [e1]; exact hce) hcv hcl T' rfl X'
    exact ⟨t2, st.trans a1, b1⟩
theorem m_recv (hK : Kb D z tys s) (hB : Bk D z H0 h H locs) {ci : Nat} {q : vw_C} {fs : List Value} (hc : vwCl[ci]? = some q) (he : h a = some (.inr (ci, fs))) : ∃ cell : Cell, H[a]? = some cell ∧ cell.vm.isStatics = false ∧ s.vm.findClass q.1 = some cell.cls := va_recv hK.1 (hB.1.one he) (q0 := 0) hc rfl
/-! ends -/
theorem m_F (hB : Bk D z s.heap h H locs) {t : State} (ht : t.heap = H) : Rp D z h t.heap ∧ va_F (zA z) s t := by
  refine ⟨by rw [ht]; exact hB.1, ?_, fun q h1 h2 => ?_⟩
  · rw [ht]; exact hB.2.1
  · rw [ht]; exact hB.2.2.1 q h1 h2
theorem m_zret {post : Option Value → Hp → Prop} {v : Int32} {ty : FieldType} (hexec : p.tables.exec = Jvm.exec) (hb : c.code = cc) (hr : meth.sig.returnType = some ty) (hn : narrow ty (.int v) = .int v) (hlocks : meth.locks = false) (hB : Bk D z s.heap h H locs) (hc : cells ≤ mc) (hs : slots ≤ ms) (hdg : decode cc pc = .ok (.ireturn, 1)) (hp : post (some (.int v)) h) :
    W p l e R s m args below meth c H locs cells slots (MQ below (Qx D z post) args s mc ms (zA z)) (F0 m pc ls [.int v]) :=
  W.widen hc hs (W.zret hexec hb hr hn (fun t ht _ => ⟨_, h, rfl, hp, m_F hB ht⟩) (fun q hq => hB.2.2.2 q hq) hdg hlocks)
theorem m_vret {post : Option Value → Hp → Prop} (hexec : p.tables.exec = Jvm.exec) (hb : c.code = cc) (hr : meth.sig.returnType = none) (hlocks : meth.locks = false) (hB : Bk D z s.heap h H locs) (hc : cells ≤ mc) (hs : slots ≤ ms) (hdg : decode cc pc = .ok (.return_, 1)) (hp : post none h) :
    W p l e R s m args below meth c H locs cells slots (MQ below (Qx D z post) args s mc ms (zA z)) (F0 m pc ls []) :=
  W.widen hc hs (W.vret hexec hb hr (fun t ht _ => ⟨_, h, rfl, hp, m_F hB ht⟩) (fun q hq => hB.2.2.2 q hq) hdg hlocks)
theorem m_aret {post : Option Value → Hp → Prop} {x : Nat} {nm : String} (hexec : p.tables.exec = Jvm.exec) (hb : c.code = cc) (hr : meth.sig.returnType = some (.object nm)) (hlocks : meth.locks = false) (hB : Bk D z s.heap h H locs) (hc : cells ≤ mc) (hs : slots ≤ ms) (hdg : decode cc pc = .ok (.areturn, 1)) (hp : post (some (.ref x)) h) :
    W p l e R s m args below meth c H locs cells slots (MQ below (Qx D z post) args s mc ms (zA z)) (F0 m pc ls [.ref x]) :=
  W.widen hc hs (W.aret hexec hb hr (Or.inl ⟨nm, rfl⟩) (Or.inr ⟨x, rfl⟩) (fun t ht _ => ⟨_, h, rfl, hp, m_F hB ht⟩) (fun q hq => hB.2.2.2 q hq) hdg hlocks)
theorem m_out {post : Option Value → Hp → Prop} {PX : String → Hp → Prop} {E : String} {ce : Cell} {q : Addr} (hout : ∀ x ∈ c.exceptionTable.toList, False) (hlocks : meth.locks = false) (hB : Bk D z s.heap h H locs) (hcell : H[q]? = some ce) (hv : ce.vm = .none) (hcl : s.vm.findClass E = some ce.cls) (hc : cells ≤ mc) (hs : slots ≤ ms) (hp : PX E h) :
    vx_W p l e R s m args below meth c H locs cells slots (vx_MQ below (Qx D z post) (Xp D z PX) args s mc ms (zA z)) (F0 m pc ls rest) q :=
  vx_out (fun x hx => (hout x hx).elim) hlocks hcell hv hcl (fun t ht _ => ⟨h, hp, m_F hB ht⟩) (fun q hq => hB.2.2.2 q hq) hc hs
theorem m_throw {post : Option Value → Hp → Prop} {PX : String → Hp → Prop} (hexec : p.tables.exec = Jvm.exec) (hb : c.code = cc) (hl : l.stackTraces = false) {cls text : String} {ik is ic : Nat} (hown : s.vm.findClass RX3 = some m.cls) (hcls : Bundle.fit cls = true) (hts : ∀ w ∈ Ts, w.before args s = true) (hk : (Cond.classLink RX3 ik cls) ∈ Ts) (hini : (Cond.initialized cls) ∈ Ts)
    (h1 : ∀ w ∈ (vx_atS RX3 ic cls nEs).filter goodWord, w ∈ Ts) (h2 : ∀ w ∈ (vx_atS RX3 ic cls nEs).filter (fun w => !goodWord w), w ∈ xwC.map (fun q => Cond.castable q.1 q.2) ++ xwD.map Cond.declares) (hgood : ∀ w ∈ Cond.classLink RX3 ik cls :: Cond.initialized cls :: vx_atS RX3 ic cls nEs, vx_ot w = true)
    (hstr : (is, text) ∈ xwS) (hK : Kb D z tys s) (hB : Bk D z s.heap h H locs) (hsize : ls.size = c.maxLocals) (hout : ∀ x ∈ c.exceptionTable.toList, False) (hlocks : meth.locks = false)
    (d0 : decode cc pc = .ok (.new ik, 3)) (d3 : decode cc (pc + 3) = .ok (.dup, 1)) (d4 : decode cc (pc + 4) = .ok (.ldc is, 2)) (d6 : decode cc (pc + 6) = .ok (.invokespecial ic, 3)) (d9 : decode cc (pc + 9) = .ok (.athrow, 1))
    (hRf : 6 ≤ R.frames) (hRl : (rest.map fun v => v.category).sum + 82 ≤ R.locals) (hRc : cells + 1 ≤ R.cells) (hRs : slots + 6 ≤ R.slots) (hc : cells + 1 ≤ mc) (hs : slots + 6 ≤ ms) (hp : PX cls h) :
    W p l e R s m args below meth c H locs cells slots (vx_MQ below (Qx D z post) (Xp D z PX) args s mc ms (zA z)) (F0 m pc ls rest) := by
  obtain ⟨sa, hsa⟩ := hK.2.1.2.2.2.2.2.1 _ hstr
  have h3 : ∀ w ∈ xwC.map (fun q => Cond.castable q.1 q.2) ++ xwD.map Cond.declares, w.before args s = true := by
    intro w hw
    rcases List.mem_append.mp hw with hw | hw
    · obtain ⟨q, hq, rfl⟩ := List.mem_map.mp hw
      exact va_Nw.use rfl (hK.2.1.2.2.1 q hq)
    · obtain ⟨q, hq, rfl⟩ := List.mem_map.mp hw
      exact va_Nw.use rfl (hK.2.1.2.2.2.1 q hq)
  refine vx_throwS (A := zA z) hexec hb hl hown hcls (by decide) (hts _ hk) (hts _ hini) hsa (vx_hat (fun w hw => hts w (h1 w hw)) h2 h3) hgood hK.2.2.1.1 hK.2.2.1.2 hB.2 hsize d0 d3 d4 d6 d9 (fun x hx => (hout x hx).elim) (by show 2 + 3 < R.frames; omega) (by show _ + (13 * (2 + 1) + 43) ≤ R.locals; omega) hRc hRs hlocks (fun t _ hz hq => ⟨h, hp, hB.1.kept hz hq, Nat.le_trans hB.2.1 hz, fun q h1 h2 => ?_⟩) (fun q hq => hB.2.2.2 q hq) hc hs
  exact (hq q (Nat.lt_of_lt_of_le h1 hB.2.1)).trans (hB.2.2.1 q h1 h2)
end MB
