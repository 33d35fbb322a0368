/-! THE STATE, as both sides have it: σ g i. g = 0 from, 1 to, 2 kind, 3 detail, 4 state of the part i; 5 part, 6 key, 7 sort, 8 value of the row i; 9 parts made, 10 rows inserted, 11 stale (at 0) -/
abbrev Sg : Type := Nat → Nat → Int
def upS (σ : Sg) (g i : Nat) (v : Int) : Sg := fun g' i' => if g' = g ∧ i' = i then v else σ g' i'
theorem upS_s (σ : Sg) (g i : Nat) (v : Int) : upS σ g i v g i = v := if_pos ⟨rfl, rfl⟩
theorem upS_g {σ : Sg} {g i : Nat} {v : Int} {g' i' : Nat} (h : g' ≠ g) : upS σ g i v g' i' = σ g' i' := if_neg (fun q => h q.1)
theorem upS_i {σ : Sg} {g i : Nat} {v : Int} {g' i' : Nat} (h : i' ≠ i) : upS σ g i v g' i' = σ g' i' := if_neg (fun q => h q.2)
abbrev live (σ : Sg) (j : Nat) : Prop := (j : Int) < σ 10 0 ∧ σ 5 j ≠ -1
def pn (σ : Sg) (j : Nat) : Nat := (σ 5 j).toNat
abbrev prt (n f t k d st : Int) : va_E := .inr (0, [.int (iI n), .int (iI f), .int (iI t), .int (iI k), .int (iI d), .int (iI st)])
abbrev qst (lo hi so : Int) : va_E := .inr (1, [.int (iI lo), .int (iI hi), .int (iI so)])
abbrev rwE (k s v : Int) (pt : Nat) : va_E := .inr (2, [.int (iI k), .int (iI s), .int (iI v), .ref pt])
abbrev tbl (re ps : Nat) (n : Int) (rs : Nat) (r st : Int) : va_E := .inr (3, [.ref re, .ref ps, .int (iI n), .ref rs, .int (iI r), .int (iI st)])
abbrev mdl (xa : Nat → Nat) (th np nr st : Int) : va_E := .inr (4, [.int (iI th), .ref (xa 0), .ref (xa 1), .ref (xa 2), .ref (xa 3), .ref (xa 4), .int (iI np), .ref (xa 5), .ref (xa 6), .ref (xa 7), .ref (xa 8), .int (iI nr), .int (iI st)])
abbrev arI (cI : ClassId) (n : Nat) (f : Nat → Int32) : va_E := .inl (cI, n, .inl f)
abbrev arQ (cQ : ClassId) (n : Nat) (f : Nat → Option Nat) : va_E := .inl (cQ, n, .inr (.inr (.inr (.inr f))))
abbrev arJ (cJ : ClassId) (n : Nat) (f : Nat → Int64) : va_E := .inl (cJ, n, .inr (.inl f))
abbrev tyL (cI cP cR cJ : ClassId) : List (ClassId × FieldType) := [(cI, .int), (cP, .object RX0), (cR, .object RX2)]
/-- the class's side: the table at x, its arrays at xp, xr, part i at pa i, row j at ra j -/
def CR (cP cR : ClassId) (x xp xr : Nat) (pa ra : Nat → Nat) (σ : Sg) (h : Hp) : Prop :=
  h x = some (tbl (pa 0) xp (σ 9 0) xr (σ 10 0) (σ 11 0)) ∧
  (∃ f, h xp = some (arQ cP 16 f) ∧ ∀ i : Nat, i < 16 → ((i : Int) ≤ σ 9 0 → f i = some (pa i)) ∧ (¬ (i : Int) ≤ σ 9 0 → f i = none)) ∧
  (∃ f, h xr = some (arQ cR 200 f) ∧ ∀ j : Nat, j < 200 → (live σ j → f j = some (ra j)) ∧ (¬ live σ j → f j = none)) ∧
  (∀ i : Nat, (i : Int) ≤ σ 9 0 → h (pa i) = some (prt i (σ 0 i) (σ 1 i) (σ 2 i) (σ 3 i) (σ 4 i))) ∧
  (∀ j : Nat, live σ j → h (ra j) = some (rwE (σ 6 j) (σ 7 j) (σ 8 j) (pa (pn σ j)))) ∧
  (∀ i i' : Nat, (i : Int) ≤ σ 9 0 → (i' : Int) ≤ σ 9 0 → pa i = pa i' → i = i') ∧
  (∀ j j' : Nat, live σ j → live σ j' → ra j = ra j' → j = j')
abbrev lenG (g : Nat) : Nat := if g < 5 then 16 else 200
/-- the reference's side: the object at xm, its arrays at xa 0 .. xa 8; th: what it last threw -/
def MR (cI : ClassId) (xm : Nat) (xa : Nat → Nat) (σ : Sg) (th : Int) (h : Hp) : Prop :=
  h xm = some (mdl xa th (σ 9 0) (σ 10 0) (σ 11 0)) ∧
  (∀ g, g < 9 → ∃ f, h (xa g) = some (arI cI (lenG g) f) ∧ ∀ i, i < lenG g → f i = iI (σ g i)) ∧
  (∀ g g', g < 9 → g' < 9 → xa g = xa g' → g = g')
/-- which side a cell is of: 0 Part, 1 Question, 2 Row, 3 ParcelledTable, 4 the reference, 5 an int array, 6 an array of references, 7 an array of longs -/
def kd (e : va_E) : Nat := match e with
  | .inr o => o.1
  | .inl a => match a.2.2 with
    | .inl _ => 5
    | .inr (.inl _) => 7
    | .inr (.inr (.inl _)) => 8
    | .inr (.inr (.inr (.inl _))) => 8
    | .inr (.inr (.inr (.inr _))) => 6
/-- the reference's methods leave the class's cells -/
def FrM (h h' : Hp) : Prop := ∀ a e, h a = some e → kd e ≠ 4 → kd e ≠ 5 → h' a = some e
/-- the class's methods leave the reference's cells, and the law's -/
def FrC (h h' : Hp) : Prop := ∀ a e, h a = some e → (kd e = 4 ∨ kd e = 5 ∨ kd e = 7) → h' a = some e
theorem FrM.rf (h : Hp) : FrM h h := fun _ _ q _ _ => q
theorem FrC.rf (h : Hp) : FrC h h := fun _ _ q _ => q
theorem FrM.tr {h h1 h2 : Hp} (a : FrM h h1) (b : FrM h1 h2) : FrM h h2 := fun x e q k1 k2 => b x e (a x e q k1 k2) k1 k2
theorem FrC.tr {h h1 h2 : Hp} (a : FrC h h1) (b : FrC h1 h2) : FrC h h2 := fun x e q k => b x e (a x e q k) k
theorem FrM.up {h : Hp} {a : Nat} {e0 e1 : va_E} (h0 : h a = some e0) (hk : kd e0 = 4 ∨ kd e0 = 5) : FrM h (hup h a e1) := fun b e q k1 k2 => by
  by_cases w : b = a
  · subst w
    rw [h0] at q
    cases q
    exact absurd hk (fun z => z.elim k1 k2)
  · rw [hup_n w]; exact q
theorem FrC.up {h : Hp} {a : Nat} {e0 e1 : va_E} (h0 : h a = some e0) (hk : kd e0 = 0 ∨ kd e0 = 1 ∨ kd e0 = 2 ∨ kd e0 = 3 ∨ kd e0 = 6) : FrC h (hup h a e1) := fun b e q k => by
  by_cases w : b = a
  · subst w
    rw [h0] at q
    cases q
    omega
  · rw [hup_n w]; exact q
theorem hup_new {h : Hp} {a : Nat} {e1 : va_E} (h0 : h a = none) {b : Nat} {e : va_E} (q : h b = some e) : hup h a e1 b = some e := by
  rw [hup_n (fun w => by rw [w, h0] at q; cases q)]
  exact q
theorem FrM.new {h : Hp} {a : Nat} {e1 : va_E} (h0 : h a = none) : FrM h (hup h a e1) := fun _ _ q _ _ => hup_new h0 q
theorem FrC.new {h : Hp} {a : Nat} {e1 : va_E} (h0 : h a = none) : FrC h (hup h a e1) := fun _ _ q _ => hup_new h0 q
section RelC
variable {cP cR : ClassId} {x xp xr : Nat} {pa ra : Nat → Nat} {σ : Sg} {h h' : Hp}
theorem CR.tb (hC : CR cP cR x xp xr pa ra σ h) : h x = some (tbl (pa 0) xp (σ 9 0) xr (σ 10 0) (σ 11 0)) := hC.1
theorem CR.pt (hC : CR cP cR x xp xr pa ra σ h) (i : Nat) (hi : (i : Int) ≤ σ 9 0) : h (pa i) = some (prt i (σ 0 i) (σ 1 i) (σ 2 i) (σ 3 i) (σ 4 i)) := hC.2.2.2.1 i hi
theorem CR.rw (hC : CR cP cR x xp xr pa ra σ h) (j : Nat) (hj : live σ j) : h (ra j) = some (rwE (σ 6 j) (σ 7 j) (σ 8 j) (pa (pn σ j))) := hC.2.2.2.2.1 j hj
theorem CR.pinj (hC : CR cP cR x xp xr pa ra σ h) {i i' : Nat} (hi : (i : Int) ≤ σ 9 0) (hi' : (i' : Int) ≤ σ 9 0) : pa i = pa i' ↔ i = i' := ⟨hC.2.2.2.2.2.1 i i' hi hi', fun q => by rw [q]⟩
theorem CR.rinj (hC : CR cP cR x xp xr pa ra σ h) {j j' : Nat} (hj : live σ j) (hj' : live σ j') : ra j = ra j' ↔ j = j' := ⟨hC.2.2.2.2.2.2 j j' hj hj', fun q => by rw [q]⟩
/-- what is read of the class's cells stays, where they stay -/
theorem CR.keep (hC : CR cP cR x xp xr pa ra σ h) (hk : ∀ a e, h a = some e → (kd e = 0 ∨ kd e = 2 ∨ kd e = 3 ∨ kd e = 6) → h' a = some e) : CR cP cR x xp xr pa ra σ h' := by
  obtain ⟨h1, ⟨f, h2, h3⟩, ⟨g, h4, h5⟩, h6, h7, h8, h9⟩ := hC
  exact ⟨hk _ _ h1 (Or.inr (Or.inr (Or.inl rfl))), ⟨f, hk _ _ h2 (by simp [kd]), h3⟩, ⟨g, hk _ _ h4 (by simp [kd]), h5⟩, fun i hi => hk _ _ (h6 i hi) (Or.inl rfl), fun j hj => hk _ _ (h7 j hj) (Or.inr (Or.inl rfl)), h8, h9⟩
theorem CR.fr (hC : CR cP cR x xp xr pa ra σ h) (hF : FrM h h') : CR cP cR x xp xr pa ra σ h' := hC.keep (fun a e q k => hF a e q (by omega) (by omega))
theorem CR.new (hC : CR cP cR x xp xr pa ra σ h) {a : Nat} {e1 : va_E} (h0 : h a = none) : CR cP cR x xp xr pa ra σ (hup h a e1) := hC.keep (fun _ _ q _ => hup_new h0 q)
end RelC
section RelM
variable {cI : ClassId} {xm : Nat} {xa : Nat → Nat} {σ : Sg} {th : Int} {h h' : Hp}
theorem MR.fr (hM : MR cI xm xa σ th h) (hF : FrC h h') : MR cI xm xa σ th h' := by
  obtain ⟨h1, h2, h3⟩ := hM
  refine ⟨hF _ _ h1 (Or.inl rfl), fun g hg => ?_, h3⟩
  obtain ⟨f, q, w⟩ := h2 g hg
  exact ⟨f, hF _ _ q (by simp [kd]), w⟩
theorem MR.new (hM : MR cI xm xa σ th h) {a : Nat} {e1 : va_E} (h0 : h a = none) : MR cI xm xa σ th (hup h a e1) := hM.fr (FrC.new h0)
theorem lenG_le (g : Nat) : lenG g ≤ 1000000 := by unfold lenG; split <;> decide
/-- a place of an array is written -/
theorem MR.st (hM : MR cI xm xa σ th h) {g : Nat} (hg : g < 9) {i : Nat} {v : Int} {f : Nat → Int32} (hf : h (xa g) = some (arI cI (lenG g) f)) : MR cI xm xa (upS σ g i v) th (hup h (xa g) (arI cI (lenG g) (upd f i (iI v)))) := by
  obtain ⟨h1, h2, h3⟩ := hM
  have hne : xm ≠ xa g := fun q => by
    rw [q, hf] at h1
    cases h1
  refine ⟨?_, fun g' hg' => ?_, h3⟩
  · rw [hup_n hne, upS_g (by omega), upS_g (by omega), upS_g (by omega)]
    exact h1
  · obtain ⟨f', q1, q2⟩ := h2 g' hg'
    by_cases w : g' = g
    · subst w
      rw [hf] at q1
      cases q1
      refine ⟨_, hup_s _ _ _, fun j hj => ?_⟩
      by_cases u : j = i
      · subst u
        rw [upS_s]
        exact if_pos rfl
      · rw [upS_i u]
        exact (if_neg u).trans (q2 j hj)
    · refine ⟨f', ?_, fun j hj => ?_⟩
      · rw [hup_n (fun u => w (h3 _ _ hg' hg u))]
        exact q1
      · rw [upS_g w]
        exact q2 j hj
/-- the object's own numbers are written: what it last threw; parts made; rows inserted; stale -/
theorem MR.obj (hM : MR cI xm xa σ th h) {σ' : Sg} {th' : Int} (hs : ∀ g i, g < 9 → σ' g i = σ g i) : MR cI xm xa σ' th' (hup h xm (mdl xa th' (σ' 9 0) (σ' 10 0) (σ' 11 0))) := by
  obtain ⟨h1, h2, h3⟩ := hM
  refine ⟨hup_s _ _ _, fun g hg => ?_, h3⟩
  obtain ⟨f, q1, q2⟩ := h2 g hg
  refine ⟨f, ?_, fun j hj => by rw [hs g j hg]; exact q2 j hj⟩
  rw [hup_n (fun u => by rw [u, h1] at q1; cases q1)]
  exact q1
end RelM
section RulesR
variable {p : Program} {l : Launch} {e : Env} {R : Room} {s : State} {m : MethodId} {args : Array Value} {below : List Frame} {meth : Method} {c : Code} {H : Heap} {locs : List Loc} {cells slots : Nat} {Q : State → Prop}
variable {cc : ByteArray} {pc : Nat} {ls : Array Slot} {rest st0 : List Value} {D : va_G} {z : Nat} {h : Hp} {H0 : Heap} {cI cP cR cJ : ClassId}
variable {x xp xr : Nat} {pa ra : Nat → Nat} {xm : Nat} {xa : Nat → Nat} {σ : Sg} {th : Int}
theorem m_ldR (hexec : p.tables.exec = Jvm.exec) (hb : c.code = cc) (hK : Kb D z (tyL cI cP cR cJ) s) (hB : Bk D z H0 h H locs) (hC : CR cP cR x xp xr pa ra σ h) {j : Nat} (hj : j < 200) (hdg : decode cc pc = .ok (.aaload, 1))
    (kl : live σ j → W p l e R s m args below meth c H locs cells slots Q (F0 m (pc + 1) ls (.ref (ra j) :: rest))) (kd : ¬ live σ j → W p l e R s m args below meth c H locs cells slots Q (F0 m (pc + 1) ls (.null :: rest))) : W p l e R s m args below meth c H locs cells slots Q (F0 m pc ls (.int (iI (j : Int)) :: .ref xr :: rest)) := by
  obtain ⟨f, hf, h5⟩ := hC.2.2.1
  refine m_aldq hexec hb hK hB 2 hf rfl (iI_in hj (by decide)) hdg ?_
  rw [iI_cn (by omega)]
  by_cases q : live σ j
  · rw [(h5 j hj).1 q]; exact kl q
  · rw [(h5 j hj).2 q]; exact kd q
theorem m_ldP (hexec : p.tables.exec = Jvm.exec) (hb : c.code = cc) (hK : Kb D z (tyL cI cP cR cJ) s) (hB : Bk D z H0 h H locs) (hC : CR cP cR x xp xr pa ra σ h) {i : Nat} (hi : i < 16) (hdg : decode cc pc = .ok (.aaload, 1))
    (kl : (i : Int) ≤ σ 9 0 → W p l e R s m args below meth c H locs cells slots Q (F0 m (pc + 1) ls (.ref (pa i) :: rest))) (kd : ¬ (i : Int) ≤ σ 9 0 → W p l e R s m args below meth c H locs cells slots Q (F0 m (pc + 1) ls (.null :: rest))) : W p l e R s m args below meth c H locs cells slots Q (F0 m pc ls (.int (iI (i : Int)) :: .ref xp :: rest)) := by
  obtain ⟨f, hf, h5⟩ := hC.2.1
  refine m_aldq hexec hb hK hB 1 hf rfl (iI_in hi (by decide)) hdg ?_
  rw [iI_cn (by omega)]
  by_cases q : (i : Int) ≤ σ 9 0
  · rw [(h5 i hi).1 q]; exact kl q
  · rw [(h5 i hi).2 q]; exact kd q
theorem m_lenR (hexec : p.tables.exec = Jvm.exec) (hb : c.code = cc) (hK : Kb D z (tyL cI cP cR cJ) s) (hB : Bk D z H0 h H locs) (hC : CR cP cR x xp xr pa ra σ h) (hdg : decode cc pc = .ok (.arraylength, 1))
    (kk : W p l e R s m args below meth c H locs cells slots Q (F0 m (pc + 1) ls (.int (iI 200) :: rest))) : W p l e R s m args below meth c H locs cells slots Q (F0 m pc ls (.ref xr :: rest)) := by
  obtain ⟨f, hf, h5⟩ := hC.2.2.1
  exact m_alen (v := iI 200) hexec hb hK hB 2 hf rfl (show Int32.ofNat 200 = iI 200 by decide) hdg kk
theorem m_lenP (hexec : p.tables.exec = Jvm.exec) (hb : c.code = cc) (hK : Kb D z (tyL cI cP cR cJ) s) (hB : Bk D z H0 h H locs) (hC : CR cP cR x xp xr pa ra σ h) (hdg : decode cc pc = .ok (.arraylength, 1))
    (kk : W p l e R s m args below meth c H locs cells slots Q (F0 m (pc + 1) ls (.int (iI 16) :: rest))) : W p l e R s m args below meth c H locs cells slots Q (F0 m pc ls (.ref xp :: rest)) := by
  obtain ⟨f, hf, h5⟩ := hC.2.1
  exact m_alen (v := iI 16) hexec hb hK hB 1 hf rfl (show Int32.ofNat 16 = iI 16 by decide) hdg kk
theorem m_mld (hexec : p.tables.exec = Jvm.exec) (hb : c.code = cc) (hK : Kb D z (tyL cI cP cR cJ) s) (hB : Bk D z H0 h H locs) (hM : MR cI xm xa σ th h) (g : Nat) (hg : g < 9) {i : Nat} (hi : i < lenG g) (hdg : decode cc pc = .ok (.iaload, 1))
    (kk : W p l e R s m args below meth c H locs cells slots Q (F0 m (pc + 1) ls (.int (iI (σ g i)) :: rest))) : W p l e R s m args below meth c H locs cells slots Q (F0 m pc ls (.int (iI (i : Int)) :: .ref (xa g) :: rest)) := by
  obtain ⟨f, hf, h5⟩ := hM.2.1 g hg
  refine m_iald hexec hb hK hB 0 hf rfl (iI_in hi (lenG_le g)) hdg ?_
  rw [iI_cn (Nat.lt_of_lt_of_le hi (lenG_le g)), h5 i hi]
  exact kk
theorem m_mst (hexec : p.tables.exec = Jvm.exec) (hb : c.code = cc) (hK : Kb D z (tyL cI cP cR cJ) s) (hB : Bk D z H0 h H locs) (hM : MR cI xm xa σ th h) (g : Nat) (hg : g < 9) {i : Nat} {v : Int} (hi : i < lenG g) (hdg : decode cc pc = .ok (.iastore, 1))
    (kk : ∀ (h1 : Hp) (H1 : Heap) (locs1 : List Loc), MR cI xm xa (upS σ g i v) th h1 → FrM h h1 → Bk D z H0 h1 H1 locs1 → W p l e R s m args below meth c H1 locs1 cells slots Q (F0 m (pc + 1) ls rest)) : W p l e R s m args below meth c H locs cells slots Q (F0 m pc ls (.int (iI v) :: .int (iI (i : Int)) :: .ref (xa g) :: rest)) := by
  obtain ⟨f, hf, h5⟩ := hM.2.1 g hg
  refine m_iast hexec hb hK hB 0 hf rfl (iI_in hi (lenG_le g)) hdg (fun H1 locs1 hB1 => ?_)
  rw [iI_cn (Nat.lt_of_lt_of_le hi (lenG_le g))] at hB1
  exact kk _ H1 locs1 (hM.st hg hf) (FrM.up hf (Or.inr rfl)) hB1
/-- a part's row against a part: by the parts' numbers -/
theorem m_acmpP_ne (hexec : p.tables.exec = Jvm.exec) (hb : c.code = cc) (hC : CR cP cR x xp xr pa ra σ h) {i i' : Nat} (hi : (i : Int) ≤ σ 9 0) (hi' : (i' : Int) ≤ σ 9 0) {off : Int} {tgt : Nat} (hdg : decode cc pc = .ok (.if_acmp .ne off, 3)) (ht : (pc : Int) + off = (tgt : Int)) (kt : i ≠ i' → W p l e R s m args below meth c H locs cells slots Q (F0 m tgt ls rest)) (kf : i = i' → W p l e R s m args below meth c H locs cells slots Q (F0 m (pc + 3) ls rest)) : W p l e R s m args below meth c H locs cells slots Q (F0 m pc ls (.ref (pa i') :: .ref (pa i) :: rest)) :=
  j_acmp_ne hexec hb hdg ht (fun q => kt (fun w => q (by rw [w]))) (fun q => kf ((hC.pinj hi hi').mp q))
theorem m_acmpP_eq (hexec : p.tables.exec = Jvm.exec) (hb : c.code = cc) (hC : CR cP cR x xp xr pa ra σ h) {i i' : Nat} (hi : (i : Int) ≤ σ 9 0) (hi' : (i' : Int) ≤ σ 9 0) {off : Int} {tgt : Nat} (hdg : decode cc pc = .ok (.if_acmp .eq off, 3)) (ht : (pc : Int) + off = (tgt : Int)) (kt : i = i' → W p l e R s m args below meth c H locs cells slots Q (F0 m tgt ls rest)) (kf : i ≠ i' → W p l e R s m args below meth c H locs cells slots Q (F0 m (pc + 3) ls rest)) : W p l e R s m args below meth c H locs cells slots Q (F0 m pc ls (.ref (pa i') :: .ref (pa i) :: rest)) :=
  j_acmp_eq hexec hb hdg ht (fun q => kt ((hC.pinj hi hi').mp q)) (fun q => kf (fun w => q (by rw [w])))
end RulesR
/-! a method's proof begins -/
section Starts
variable {l : Launch} {D : va_G} {z : Nat} {tys : List (ClassId × FieldType)}
theorem Ct.of {y : MethodName} {ws ws' : List Cond} {rm : Room} {As : List Value} {h : Hp} {post : Option Value → Hp → Prop} {cc : ByteArray} {maxL : Nat} {ret : Option FieldType} (hy : plainName y.cls = true) (hw : ws = Cond.code y cc maxL ret :: ws') (hn : (lg_sl As).length ≤ maxL)
    (body : ∀ (p : Program) (e : Env) (s : State) (m : MethodId) (args : Array Value) (below : List Frame) (meth : Method) (c : Code), p.tables.exec = Jvm.exec → c.code = cc → meth.sig.returnType = ret → (∀ w ∈ ws, w.before args s = true) → s.vm.findClass y.cls = some m.cls → meth.locks = false → c.maxLocals = maxL → meth.name = y.name → Kb D z tys s → Bk D z s.heap h s.heap [] → ∀ ls : Array Slot, lv_has ls maxL (lv_args 0 As) →
      W p l e rm s m args below meth c s.heap [] 0 0 (MQ below (Qx D z post) args s rm.cells rm.slots (zA z)) (F0 m 0 ls [])) : Ct l D z tys y ws rm As h post := by
  refine Met.ofW (cc := cc) (maxL := maxL) (ret := ret) hy hw ?_
  intro p e s m args below meth c s₁ B hml hv
  obtain ⟨rfl, hR, hKK, hWW, hZZ⟩ := hv
  have hl := lv_entry As (n := maxL) hn
  rw [lg_entry_eq]
  exact body p e s m _ below meth c B.exec B.bytes B.returns (atoms_spec (ws := ws) B.pre) (findClass_of_methodNamed B.named) B.notSynchronized hml (name_of_methodNamed B.named B.method).1 ⟨hKK, hWW, hZZ, hR.1⟩ ⟨hR, va_S.rf⟩ _ hl
theorem Cx.of {y : MethodName} {ws ws' : List Cond} {rm : Room} {As : List Value} {h : Hp} {post : Option Value → Hp → Prop} {PX : String → Hp → Prop} {cc : ByteArray} {maxL : Nat} {ret : Option FieldType} (hy : plainName y.cls = true) (hw : ws = Cond.code y cc maxL ret :: ws') (hn : (lg_sl As).length ≤ maxL)
    (body : ∀ (p : Program) (e : Env) (s : State) (m : MethodId) (args : Array Value) (below : List Frame) (meth : Method) (c : Code), p.tables.exec = Jvm.exec → c.code = cc → meth.sig.returnType = ret → (∀ w ∈ ws, w.before args s = true) → s.vm.findClass y.cls = some m.cls → meth.locks = false → c.maxLocals = maxL → meth.name = y.name → (∀ x ∈ c.exceptionTable.toList, False) → Kb D z tys s → Bk D z s.heap h s.heap [] → ∀ ls : Array Slot, lv_has ls maxL (lv_args 0 As) →
      W p l e rm s m args below meth c s.heap [] 0 0 (vx_MQ below (Qx D z post) (Xp D z PX) args s rm.cells rm.slots (zA z)) (F0 m 0 ls [])) : Cx l D z tys y ws rm As h post PX := by
  refine vx_ofW (cc := cc) (maxL := maxL) (ret := ret) hy hw ?_
  intro p e s m args below meth c s₁ B hml hout hv
  obtain ⟨rfl, hR, hKK, hWW, hZZ⟩ := hv
  have hl := lv_entry As (n := maxL) hn
  rw [lg_entry_eq]
  exact body p e s m _ below meth c B.exec B.bytes B.returns (atoms_spec (ws := ws) B.pre) (findClass_of_methodNamed B.named) B.notSynchronized hml (name_of_methodNamed B.named B.method).1 hout ⟨hKK, hWW, hZZ, hR.1⟩ ⟨hR, va_S.rf⟩ _ hl
end Starts
