/-! THE START: what the tables and the premises give; the law from its entry -/
theorem at_arr {args : Array Value} {s : State} {ty : FieldType} (hp : ∀ C : String, ty ≠ .object C) (h : (Cond.arrayClass ty).before args s = true) : ∃ cA : ClassId, ArrOfT s cA ty ∧ va_RA s cA ty := by
  obtain ⟨cA, kA, comp, h1, h2, h3⟩ := Cond.arrayClass_spec h
  refine ⟨cA, fun n z => ⟨fun k h => (by cases h), kA, h2, comp, h3⟩, ?_⟩
  revert hp h1
  cases ty with
  | object C => intro h1 hp; first | exact absurd rfl (hp C) | exact absurd rfl (h1 C)
  | _ => intro h1 h2; first | exact h1 | exact h2
theorem at_arrO {s : State} {C : String} (h : va_AO C s) : ∃ cA : ClassId, ArrOfT s cA (.object C) ∧ va_RA s cA (.object C) := by
  obtain ⟨comp, c, k, h1, h2, h3, h4, h5⟩ := Cond.arrayOver_spec h
  exact ⟨c, fun n z => ⟨fun k h => (by cases h), k, h3, comp, h4⟩, k, comp, h3, h4, h1, h5⟩
theorem tb_in {w : Cond} (h : w ∈ tables_1) : w ∈ lw_tbl := List.mem_append_right _ h
theorem tb_s116 : Cond.stringRef RX3 116 "200 rows were inserted" ∈ tables_1 := List.mem_of_getElem? (i := 350) (by decide +kernel)
theorem tb_s184 : Cond.stringRef RX3 184 "the wide index is stale" ∈ tables_1 := List.mem_of_getElem? (i := 560) (by decide +kernel)
theorem tb_s189 : Cond.stringRef RX3 189 "key is out of range" ∈ tables_1 := List.mem_of_getElem? (i := 157) (by decide +kernel)
theorem tb_s191 : Cond.stringRef RX3 191 "sort is out of range" ∈ tables_1 := List.mem_of_getElem? (i := 345) (by decide +kernel)
theorem tb_s193 : Cond.stringRef RX3 193 "value is out of range" ∈ tables_1 := List.mem_of_getElem? (i := 349) (by decide +kernel)
theorem tb_s195 : Cond.stringRef RX3 195 "to is out of range" ∈ tables_1 := List.mem_of_getElem? (i := 184) (by decide +kernel)
theorem tb_s197 : Cond.stringRef RX3 197 "kind is out of range" ∈ tables_1 := List.mem_of_getElem? (i := 188) (by decide +kernel)
theorem tb_s206 : Cond.stringRef RX3 206 "detail is out of range" ∈ tables_1 := List.mem_of_getElem? (i := 195) (by decide +kernel)
theorem tb_s208 : Cond.stringRef RX3 208 "high is out of range" ∈ tables_1 := List.mem_of_getElem? (i := 462) (by decide +kernel)
theorem tb_s210 : Cond.stringRef RX3 210 "sorts is out of range" ∈ tables_1 := List.mem_of_getElem? (i := 463) (by decide +kernel)
theorem tb_s219 : Cond.stringRef RX3 219 "there is no such part" ∈ tables_1 := List.mem_of_getElem? (i := 278) (by decide +kernel)
theorem tb_s222 : Cond.stringRef RX3 222 "the part is gone" ∈ tables_1 := List.mem_of_getElem? (i := 285) (by decide +kernel)
theorem tb_s224 : Cond.stringRef RX3 224 "the part is the rest" ∈ tables_1 := List.mem_of_getElem? (i := 286) (by decide +kernel)
theorem tb_s229 : Cond.stringRef RX3 229 "the part has no such leaf" ∈ tables_1 := List.mem_of_getElem? (i := 447) (by decide +kernel)
theorem tb_s231 : Cond.stringRef RX3 231 "there is no such row, or it was removed" ∈ tables_1 := List.mem_of_getElem? (i := 388) (by decide +kernel)
theorem tb_s233 : Cond.stringRef RX3 233 "the part is not attached" ∈ tables_1 := List.mem_of_getElem? (i := 291) (by decide +kernel)
theorem tb_s235 : Cond.stringRef RX3 235 "the part is not detached" ∈ tables_1 := List.mem_of_getElem? (i := 318) (by decide +kernel)
theorem tb_s241 : Cond.stringRef RX3 241 "the range overlaps that of an attached part" ∈ tables_1 := List.mem_of_getElem? (i := 213) (by decide +kernel)
theorem tb_s247 : Cond.stringRef RX3 247 "the rest has a row with a key of the range" ∈ tables_1 := List.mem_of_getElem? (i := 228) (by decide +kernel)
theorem tb_s249 : Cond.stringRef RX3 249 "a row has a key outside the range it would come to" ∈ tables_1 := List.mem_of_getElem? (i := 330) (by decide +kernel)
theorem tb_s258 : Cond.stringRef RX3 258 "15 parts were made" ∈ tables_1 := List.mem_of_getElem? (i := 233) (by decide +kernel)
theorem tb_s66 : Cond.stringRef RX3 66 "the part can not be split at this key" ∈ tables_1 := List.mem_of_getElem? (i := 287) (by decide +kernel)
theorem tb_s82 : Cond.stringRef RX3 82 "the other part does not begin where the part ends" ∈ tables_1 := List.mem_of_getElem? (i := 299) (by decide +kernel)
theorem tb_s85 : Cond.stringRef RX3 85 "kind or detail are not the same" ∈ tables_1 := List.mem_of_getElem? (i := 300) (by decide +kernel)
theorem tb_str : ∀ q ∈ xwS, Cond.stringRef RX3 q.1 q.2 ∈ tables_1 := List.forall_mem_cons.mpr ⟨tb_s116, List.forall_mem_cons.mpr ⟨tb_s184, List.forall_mem_cons.mpr ⟨tb_s189, List.forall_mem_cons.mpr ⟨tb_s191, List.forall_mem_cons.mpr ⟨tb_s193, List.forall_mem_cons.mpr ⟨tb_s195, List.forall_mem_cons.mpr ⟨tb_s197, List.forall_mem_cons.mpr ⟨tb_s206, List.forall_mem_cons.mpr ⟨tb_s208, List.forall_mem_cons.mpr ⟨tb_s210, List.forall_mem_cons.mpr ⟨tb_s219, List.forall_mem_cons.mpr ⟨tb_s222, List.forall_mem_cons.mpr ⟨tb_s224, List.forall_mem_cons.mpr ⟨tb_s229, List.forall_mem_cons.mpr ⟨tb_s231, List.forall_mem_cons.mpr ⟨tb_s233, List.forall_mem_cons.mpr ⟨tb_s235, List.forall_mem_cons.mpr ⟨tb_s241, List.forall_mem_cons.mpr ⟨tb_s247, List.forall_mem_cons.mpr ⟨tb_s249, List.forall_mem_cons.mpr ⟨tb_s258, List.forall_mem_cons.mpr ⟨tb_s66, List.forall_mem_cons.mpr ⟨tb_s82, List.forall_mem_cons.mpr ⟨tb_s85, fun _ h => absurd h List.not_mem_nil⟩⟩⟩⟩⟩⟩⟩⟩⟩⟩⟩⟩⟩⟩⟩⟩⟩⟩⟩⟩⟩⟩⟩⟩
theorem nw_str : ∀ q ∈ xwS, Cond.exactly (.string RX3 q.1) "java/lang/String" ∈ flatC (Jvm.Cond.and given_1 narrow_1) := by decide +kernel
theorem nw_nc : ∀ q ∈ xwN, Cond.not (.castable q.1 q.2) ∈ flatC (Jvm.Cond.and given_1 narrow_1) := by decide +kernel
theorem nw_z1 : Cond.isRef (.static Bundle.tN "UNASSIGNED_STACK" Bundle.steD) ∈ flatC (Jvm.Cond.and given_1 narrow_1) := by decide +kernel
theorem nw_z2 : Cond.isRef (.static Bundle.tN "SUPPRESSED_SENTINEL" Bundle.listD) ∈ flatC (Jvm.Cond.and given_1 narrow_1) := by decide +kernel
theorem tb_ml0 : Cond.methodLinkNest RX0 30 yX3_hasSort "ParcelledTable" ∈ tables_1 := List.mem_of_getElem? (i := 397) (by decide +kernel)
theorem tb_ml2 : Cond.methodLinkNest RX2 45 yX3_hasSort "ParcelledTable" ∈ tables_1 := List.mem_of_getElem? (i := 527) (by decide +kernel)
theorem tb_c1 : Cond.castable nE1 nE1 ∈ tables_1 := List.mem_of_getElem? (i := 118) (by decide +kernel)
theorem tb_c2 : Cond.castable nE2 nE2 ∈ tables_1 := List.mem_of_getElem? (i := 206) (by decide +kernel)
theorem tb_c3 : Cond.castable nE3 nE3 ∈ tables_1 := List.mem_of_getElem? (i := 271) (by decide +kernel)
theorem tb_d1 : Cond.declares ⟨"java/lang/Throwable", "<init>", "(Ljava/lang/String;)V"⟩ ∈ tables_1 := List.mem_of_getElem? (i := 124) (by decide +kernel)
theorem tb_d2 : Cond.declares ⟨"java/lang/RuntimeException", "<init>", "(Ljava/lang/String;)V"⟩ ∈ tables_1 := List.mem_of_getElem? (i := 120) (by decide +kernel)
theorem tb_d3 : Cond.declares ⟨"java/lang/Exception", "<init>", "(Ljava/lang/String;)V"⟩ ∈ tables_1 := List.mem_of_getElem? (i := 122) (by decide +kernel)
theorem tb_ao0 : Cond.arrayOver (.object RX0) ∈ tables_1 := List.mem_of_getElem? (i := 54) (by decide +kernel)
theorem tb_ao2 : Cond.arrayOver (.object RX2) ∈ tables_1 := List.mem_of_getElem? (i := 56) (by decide +kernel)
theorem tb_ai : Cond.arrayClass .int ∈ tables_1 := List.mem_of_getElem? (i := 614) (by decide +kernel)
theorem tb_aj : Cond.arrayClass .long ∈ tables_1 := List.mem_of_getElem? (i := 811) (by decide +kernel)
theorem tb_l1 : Cond.laysStatic Bundle.tN "UNASSIGNED_STACK" Bundle.steD ∈ tables_1 := List.mem_of_getElem? (i := 143) (by decide +kernel)
theorem tb_l2 : Cond.laysStatic Bundle.tN "SUPPRESSED_SENTINEL" Bundle.listD ∈ tables_1 := List.mem_of_getElem? (i := 145) (by decide +kernel)
theorem tb_it : Cond.initialized Bundle.tN ∈ tables_1 := List.mem_of_getElem? (i := 4) (by decide +kernel)
theorem tb_i0 : Cond.instantiable RX0 6 ∈ tables_1 := List.mem_of_getElem? (i := 22) (by decide +kernel)
theorem tb_i1 : Cond.instantiable RX1 3 ∈ tables_1 := List.mem_of_getElem? (i := 465) (by decide +kernel)
theorem tb_i2 : Cond.instantiable RX2 4 ∈ tables_1 := List.mem_of_getElem? (i := 351) (by decide +kernel)
theorem tb_i3 : Cond.instantiable RX3 6 ∈ tables_1 := List.mem_of_getElem? (i := 14) (by decide +kernel)
theorem tb_i4 : Cond.instantiable RX4 13 ∈ tables_1 := List.mem_of_getElem? (i := 569) (by decide +kernel)
theorem tb_k13 : Cond.classLink RL 8 RX3 ∈ tables_1 := List.mem_of_getElem? (i := 13) (by decide +kernel)
theorem tb_k82 : Cond.classLink RL 82 RX4 ∈ tables_1 := List.mem_of_getElem? (i := 568) (by decide +kernel)
theorem tb_z3 : Cond.initialized RX3 ∈ tables_1 := List.mem_of_getElem? (i := 1) (by decide +kernel)
theorem tb_z4 : Cond.initialized RX4 ∈ tables_1 := List.mem_of_getElem? (i := 3) (by decide +kernel)
theorem tb_m3 : Cond.methodLink RL 81 yX3_init ∈ tables_1 := List.mem_of_getElem? (i := 15) (by decide +kernel)
theorem tb_m4 : Cond.methodLink RL 84 yX4_init ∈ tables_1 := List.mem_of_getElem? (i := 570) (by decide +kernel)
theorem tb_n3 : Cond.instanceMethod yX3_init ∈ tables_1 := List.mem_of_getElem? (i := 16) (by decide +kernel)
theorem tb_n4 : Cond.instanceMethod yX4_init ∈ tables_1 := List.mem_of_getElem? (i := 571) (by decide +kernel)
set_option maxRecDepth 100000 in
theorem wld_K {s : State} {b : Nat} (hts : ∀ w ∈ lw_tbl, w.before #[Value.ref b] s = true) : ∃ (D : va_G) (cI cP cR cJ : ClassId), va_K D vwCl (tyL cI cP cR cJ) s := by
  obtain ⟨c0, i0, k0⟩ := u_known (C := RX0) (T := TX0) (N := 6) (n := 6) hts inX0 (hts _ (tb_in tb_i0))
  obtain ⟨c1, i1, k1⟩ := u_known (C := RX1) (T := TX1) (N := 3) (n := 3) hts inX1 (hts _ (tb_in tb_i1))
  obtain ⟨c2, i2, k2⟩ := u_known (C := RX2) (T := TX2) (N := 4) (n := 4) hts inX2 (hts _ (tb_in tb_i2))
  obtain ⟨c3, i3, k3⟩ := u_known (C := RX3) (T := TX3) (N := 6) (n := 6) hts inX3 (hts _ (tb_in tb_i3))
  obtain ⟨c4, i4, k4⟩ := u_known (C := RX4) (T := TX4) (N := 13) (n := 13) hts inX4 (hts _ (tb_in tb_i4))
  obtain ⟨cI, aI, rI⟩ := at_arr (fun _ w => by cases w) (hts _ (tb_in tb_ai))
  obtain ⟨cJ, aJ, rJ⟩ := at_arr (fun _ w => by cases w) (hts _ (tb_in tb_aj))
  obtain ⟨cP, aP, rP⟩ := at_arrO (va_AO.of (hts _ (tb_in tb_ao0)))
  obtain ⟨cR, aR, rR⟩ := at_arrO (va_AO.of (hts _ (tb_in tb_ao2)))
  refine ⟨(fun k => match k with | 0 => c0 | 1 => c1 | 2 => c2 | 3 => c3 | _ => c4, fun k => match k with | 0 => i0 | 1 => i1 | 2 => i2 | 3 => i3 | _ => i4), cI, cP, cR, cJ, fun k q hq => ?_, fun k q hq => ?_⟩
  · match k, hq with
    | 0, hq => cases hq; exact k0
    | 1, hq => cases hq; exact k1
    | 2, hq => cases hq; exact k2
    | 3, hq => cases hq; exact k3
    | 4, hq => cases hq; exact k4
    | k + 5, hq => simp [vwCl] at hq
  · match k, hq with
    | 0, hq => cases hq; exact ⟨aI, rI⟩
    | 1, hq => cases hq; exact ⟨aP, rP⟩
    | 2, hq => cases hq; exact ⟨aR, rR⟩
    | 3, hq => cases hq; exact ⟨aJ, rJ⟩
    | k + 4, hq => simp [tyL] at hq
theorem wld_W {s : State} {b : Nat} (hts : ∀ w ∈ lw_tbl, w.before #[Value.ref b] s = true) (hgv : (Jvm.Cond.and given_1 narrow_1).before #[Value.ref b] s = true) : Ws s := by
  have hs := flat_of_before _ hgv
  refine ⟨va_Nw.of rfl (hts _ (tb_in tb_ml0)), va_Nw.of rfl (hts _ (tb_in tb_ml2)), fun q hq => ?_, fun q hq => ?_, fun q hq => va_Nc.of (hs _ (nw_nc q hq)), fun q hq => ?_, va_AO.of (hts _ (tb_in tb_ao0)), va_AO.of (hts _ (tb_in tb_ao2))⟩
  · simp only [xwC, List.mem_cons, List.not_mem_nil, or_false] at hq
    rcases hq with rfl | rfl | rfl
    · exact va_Nw.of rfl (hts _ (tb_in tb_c1))
    · exact va_Nw.of rfl (hts _ (tb_in tb_c2))
    · exact va_Nw.of rfl (hts _ (tb_in tb_c3))
  · simp only [xwD, List.mem_cons, List.not_mem_nil, or_false] at hq
    rcases hq with rfl | rfl | rfl
    · exact va_Nw.of rfl (hts _ (tb_in tb_d1))
    · exact va_Nw.of rfl (hts _ (tb_in tb_d2))
    · exact va_Nw.of rfl (hts _ (tb_in tb_d3))
  · obtain ⟨a, cc, cell, k, q1, -⟩ := Cond.exactly_spec (args := #[Value.ref b]) (first := s) (o := none) (s := s) (idx := []) (t := .string RX3 q.1) (cls := "java/lang/String") (hs _ (nw_str q hq))
    exact ⟨a, vk_R.of (hts _ (tb_in (tb_str q hq))) q1⟩
theorem wld {s : State} {b : Nat} (hts : ∀ w ∈ lw_tbl, w.before #[Value.ref b] s = true) (hgv : (Jvm.Cond.and given_1 narrow_1).before #[Value.ref b] s = true) : ∃ (D : va_G) (cI cP cR cJ : ClassId), Kb D s.heap.size (tyL cI cP cR cJ) s := by
  obtain ⟨D, cI, cP, cR, cJ, hK⟩ := wld_K hts
  have hs := flat_of_before _ hgv
  refine ⟨D, cI, cP, cR, cJ, hK, wld_W hts hgv, ⟨?_, ?_⟩, Nat.le_refl _⟩
  · exact vx_Zqof (hts _ (tb_in tb_l1)) (hts _ (tb_in tb_it)) (hs _ nw_z1) (fun a h1 h2 => absurd h2 (Nat.not_le.mpr h1))
  · exact vx_Zqof (hts _ (tb_in tb_l2)) (hts _ (tb_in tb_it)) (hs _ nw_z2) (fun a h1 h2 => absurd h2 (Nat.not_le.mpr h1))
theorem no_traces {l : Launch} (h : l.flags = flags0) : l.stackTraces = false := by
  show (!l.flags.contains Jvm.noTraceFlag) = false
  rw [h]
  decide +kernel
set_option maxHeartbeats 4000000 in
set_option maxRecDepth 100000 in
/-- THE LAW, from its entry, for every script of at most 3072 ints -/
theorem whole_start {p : Program} {e : Env} {s : State} {m : MethodId} {below : List Frame} {meth : Method} {c : Code} (l : Launch) (hflags : l.flags = flags0) {b L : Nat} {xs : Nat → Int32} (hL : L ≤ 3072) (C0 : lw_At p s m meth c b L xs) : W p l e room_1 s m #[Value.ref b] below meth c s.heap [] 0 0 (lw_Z below #[Value.ref b] s) (entryFrame m ([Value.ref b] : List Value).toArray 7) := by
  obtain ⟨hx, hb, hr, hml, hown, hts, hX, hbl, hlocks, hgv⟩ := id C0
  have hown : s.vm.findClass RL = some m.cls := hown
  have hfl := no_traces hflags
  obtain ⟨D, cI, cP, cR, cJ, hK⟩ := wld hts hgv
  have htw : ∀ w ∈ wsL_law, w.before #[Value.ref b] s = true := fun w h => hts w (wsL_law_in w h)
  have hB : Bk D s.heap.size s.heap (fun _ => none) s.heap [] := ⟨⟨Nat.le_refl _, fun a e h => by cases h⟩, va_S.rf⟩
  have hl := lv_entry ([.ref b]) (n := 7) (Nat.le_of_ble_eq_true rfl)
  rw [lg_entry_eq]
  generalize (lg_sl ([.ref b]) ++ List.replicate (7 - (lg_sl ([.ref b])).length) Slot.unset).toArray = ls at hl ⊢
  have hl : lv_has ls 7 [(0, .ref b)] := hl
  refine m_new hx hb hts inX3 tyX3 tyX3_ok hown (tb_in tb_k13) (tb_in tb_i3) (tb_in tb_z3) hK hB (ci := 3) rfl (fs := [.null, .null, .int 0, .null, .int 0, .int 0]) (fun j hj => by rcases (show j = 0 ∨ j = 1 ∨ j = 2 ∨ j = 3 ∨ j = 4 ∨ j = 5 by omega) with rfl | rfl | rfl | rfl | rfl | rfl <;> rfl) (by decide) (by decide) dL_law_0 (fun x H hq_x hB => ?_)
  refine lv_dup hx hb dL_law_3 rfl ?_
  refine m_run (va_runI (As := []) (rest := [.ref x]) ⟨hx, hb, hml, hown, htw⟩ (k_X3_init (l := l) (hup_s _ _ _)) (cwI 0 htw gL_law_X3_init rfl rfl rfl (hts _ (tb_in tb_z3)) (hts _ (tb_in tb_m3)) (hts _ (tb_in tb_n3)) rfl (by decide +kernel) ⟨by decide, by decide⟩) ⟨Kp.blind _ _ _ _ _, fun U hU hW => hK.pass hB U hU hW⟩ rfl rfl hl.1 rfl (lv_room (Nat.le_of_ble_eq_true rfl)) dL_law_4 ⟨Nat.le_of_ble_eq_true rfl, Nat.le_of_ble_eq_true rfl⟩) hB (fun v u H locs hp hB => ?_)
  obtain ⟨rfl, xp, xr, q, hC, hF⟩ := hp
  show W _ _ _ _ _ _ _ _ _ _ _ _ _ _ _ (F0 m 7 ls [.ref x])
  refine lv_astore_n (lv' := [(1, .ref x), (0, .ref b)]) hx hb dL_law_7 rfl hl (by decide) rfl (fun ls hl => ?_)
  refine m_new hx hb hts inX4 tyX4 tyX4_ok hown (tb_in tb_k82) (tb_in tb_i4) (tb_in tb_z4) hK hB (ci := 4) rfl (fs := [.int 0, .null, .null, .null, .null, .null, .int 0, .null, .null, .null, .null, .int 0, .int 0]) (fun j hj => by rcases (show j = 0 ∨ j = 1 ∨ j = 2 ∨ j = 3 ∨ j = 4 ∨ j = 5 ∨ j = 6 ∨ j = 7 ∨ j = 8 ∨ j = 9 ∨ j = 10 ∨ j = 11 ∨ j = 12 by omega) with rfl | rfl | rfl | rfl | rfl | rfl | rfl | rfl | rfl | rfl | rfl | rfl | rfl <;> rfl) (by decide) (by decide) dL_law_8 (fun xm H hq_xm hB => ?_)
  have hC := hC.new (e1 := .inr (4, [.int 0, .null, .null, .null, .null, .null, .int 0, .null, .null, .null, .null, .int 0, .int 0])) hq_xm
  refine lv_dup hx hb dL_law_11 rfl ?_
  refine m_run (va_runI (As := []) (rest := [.ref xm]) ⟨hx, hb, hml, hown, htw⟩ (k_X4_init (l := l) (hup_s _ _ _)) (cwI 0 htw gL_law_X4_init rfl rfl rfl (hts _ (tb_in tb_z4)) (hts _ (tb_in tb_m4)) (hts _ (tb_in tb_n4)) rfl (by decide +kernel) ⟨by decide, by decide⟩) ⟨Kp.blind _ _ _ _ _, fun U hU hW => hK.pass hB U hU hW⟩ rfl rfl hl.1 rfl (lv_room (Nat.le_of_ble_eq_true rfl)) dL_law_12 ⟨Nat.le_of_ble_eq_true rfl, Nat.le_of_ble_eq_true rfl⟩) hB (fun v u H locs hp hB => ?_)
  obtain ⟨xa, rfl, hM, hFm⟩ := hp
  have hC := hC.fr hFm
  show W _ _ _ _ _ _ _ _ _ _ _ _ _ _ _ (F0 m 15 ls [.ref xm])
  refine lv_astore_n (lv' := [(2, .ref xm), (1, .ref x), (0, .ref b)]) hx hb dL_law_15 rfl hl (by decide) rfl (fun ls hl => ?_)
  refine j_iconst hx hb dL_law_16 ?_
  refine m_newa hx hb (atype := .long) (hts _ (tb_in tb_aj)) rfl hK hB 3 rfl (fun _ w => by cases w) (N' := 1) (a0 := (1, .inr (.inl (fun _ => 0)))) (fun _ => rfl) (by decide) (by decide) (by decide) (Nat.le_of_ble_eq_true rfl) (Nat.le_of_ble_eq_true rfl) dL_law_17 (fun oa H hq_oa hB => ?_)
  have hC := hC.new (e1 := arJ cJ 1 (fun _ => 0)) hq_oa
  have hM := hM.new (e1 := arJ cJ 1 (fun _ => 0)) hq_oa
  refine lv_astore_n (lv' := [(3, .ref oa), (2, .ref xm), (1, .ref x), (0, .ref b)]) hx hb dL_law_19 rfl hl (by decide) rfl (fun ls hl => ?_)
  refine j_iconst hx hb dL_law_20 ?_
  refine lv_istore (lv' := [(4, .int (iI 0)), (3, .ref oa), (2, .ref xm), (1, .ref x), (0, .ref b)]) hx hb dL_law_21 hl (by decide) rfl (fun ls hl => ?_)
  refine W.widen (k := 15 + 100 * 0) (n := 2226 + 1000 * 0) (Nat.le_of_ble_eq_true rfl) (Nat.le_of_ble_eq_true rfl) ?_
  refine law_loop hfl hL hx hb hml hown htw hX hbl hK (fun H2 locs2 ls2 cells slots h2 hc hs hB => ?_) 513 0 (Nat.zero_le _) (by omega) sg0 _ H locs ls (LwS.mk Iv.ini hC hM (hup_s _ _ _)) hB (lv_sub hl [0, 4, 3, 2, 1] rfl)
  refine lv_iconst (v := 1) hx hb dL_law_1644 (by decide) ?_
  refine va_forget (fun q hq => hB.2.2.2 q hq) ?_
  refine W.widen hc hs ?_
  exact lw_ret hx hb hr hlocks dL_law_1645

