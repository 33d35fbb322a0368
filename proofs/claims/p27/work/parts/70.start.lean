/-! THE START: what the tables and the premises give; the law from its entry -/
theorem at_arr {args : Array Value} {s : State} {ty : FieldType} (hp : ∀ C : String, ty ≠ .object C) (h : (Cond.arrayClass ty).before args s = true) : ∃ cA : ClassId, ArrOfT s cA ty ∧ va_RA s cA ty := by
  obtain ⟨cA, kA, comp, h1, h2, h3⟩ := Cond.arrayClass_spec h
  refine ⟨cA, fun n z => ⟨fun k h => (by cases h), kA, h2, comp, h3⟩, ?_⟩
  revert hp h1
  cases ty with
  | object C => intro h1 hp; first | exact absurd rfl (hp C) | exact absurd rfl (h1 C)
  | _ => intro h1 h2; first | exact h1 | exact h2
theorem at_arrO {s : State} {C : String} (h : va_AO C s) : ∃ cA : ClassId, ArrOfT s cA (.object C) ∧ va_RA s cA (.object C) := by
  obtain ⟨comp, c, k, h1, h2, h3, h4, h5⟩ := Cond.arrayOver_spec h
  exact ⟨c, fun n z => ⟨fun k h => (by cases h), k, h3, comp, h4⟩, k, comp, h3, h4, h1, h5⟩
theorem tb_in {w : Cond} (h : w ∈ tables_1) : w ∈ lw_tbl := List.mem_append_right _ h
theorem tb_s116 : Cond.stringRef RX3 116 "200 rows were inserted" ∈ tables_1 := List.mem_of_getElem? (i := 355) (by decide +kernel)
theorem tb_s184 : Cond.stringRef RX3 184 "the wide index is stale" ∈ tables_1 := List.mem_of_getElem? (i := 426) (by decide +kernel)
theorem tb_s189 : Cond.stringRef RX3 189 "key is out of range" ∈ tables_1 := List.mem_of_getElem? (i := 171) (by decide +kernel)
theorem tb_s191 : Cond.stringRef RX3 191 "sort is out of range" ∈ tables_1 := List.mem_of_getElem? (i := 350) (by decide +kernel)
theorem tb_s193 : Cond.stringRef RX3 193 "value is out of range" ∈ tables_1 := List.mem_of_getElem? (i := 354) (by decide +kernel)
theorem tb_s195 : Cond.stringRef RX3 195 "to is out of range" ∈ tables_1 := List.mem_of_getElem? (i := 218) (by decide +kernel)
theorem tb_s197 : Cond.stringRef RX3 197 "kind is out of range" ∈ tables_1 := List.mem_of_getElem? (i := 222) (by decide +kernel)
theorem tb_s206 : Cond.stringRef RX3 206 "detail is out of range" ∈ tables_1 := List.mem_of_getElem? (i := 229) (by decide +kernel)
theorem tb_s208 : Cond.stringRef RX3 208 "high is out of range" ∈ tables_1 := List.mem_of_getElem? (i := 457) (by decide +kernel)
theorem tb_s210 : Cond.stringRef RX3 210 "sorts is out of range" ∈ tables_1 := List.mem_of_getElem? (i := 458) (by decide +kernel)
theorem tb_s219 : Cond.stringRef RX3 219 "there is no such part" ∈ tables_1 := List.mem_of_getElem? (i := 128) (by decide +kernel)
theorem tb_s222 : Cond.stringRef RX3 222 "the part is gone" ∈ tables_1 := List.mem_of_getElem? (i := 293) (by decide +kernel)
theorem tb_s224 : Cond.stringRef RX3 224 "the part is the rest" ∈ tables_1 := List.mem_of_getElem? (i := 294) (by decide +kernel)
theorem tb_s229 : Cond.stringRef RX3 229 "the part has no such leaf" ∈ tables_1 := List.mem_of_getElem? (i := 445) (by decide +kernel)
theorem tb_s231 : Cond.stringRef RX3 231 "there is no such row, or it was removed" ∈ tables_1 := List.mem_of_getElem? (i := 389) (by decide +kernel)
theorem tb_s233 : Cond.stringRef RX3 233 "the part is not attached" ∈ tables_1 := List.mem_of_getElem? (i := 299) (by decide +kernel)
theorem tb_s235 : Cond.stringRef RX3 235 "the part is not detached" ∈ tables_1 := List.mem_of_getElem? (i := 319) (by decide +kernel)
theorem tb_s241 : Cond.stringRef RX3 241 "the range overlaps that of an attached part" ∈ tables_1 := List.mem_of_getElem? (i := 247) (by decide +kernel)
theorem tb_s247 : Cond.stringRef RX3 247 "the rest has a row with a key of the range" ∈ tables_1 := List.mem_of_getElem? (i := 275) (by decide +kernel)
theorem tb_s249 : Cond.stringRef RX3 249 "a row has a key outside the range it would come to" ∈ tables_1 := List.mem_of_getElem? (i := 324) (by decide +kernel)
theorem tb_s258 : Cond.stringRef RX3 258 "15 parts were made" ∈ tables_1 := List.mem_of_getElem? (i := 258) (by decide +kernel)
theorem tb_s66 : Cond.stringRef RX3 66 "the part can not be split at this key" ∈ tables_1 := List.mem_of_getElem? (i := 295) (by decide +kernel)
theorem tb_s82 : Cond.stringRef RX3 82 "the other part does not begin where the part ends" ∈ tables_1 := List.mem_of_getElem? (i := 307) (by decide +kernel)
theorem tb_s85 : Cond.stringRef RX3 85 "kind or detail are not the same" ∈ tables_1 := List.mem_of_getElem? (i := 308) (by decide +kernel)
theorem tb_str : ∀ q ∈ xwS, Cond.stringRef RX3 q.1 q.2 ∈ tables_1 := List.forall_mem_cons.mpr ⟨tb_s116, List.forall_mem_cons.mpr ⟨tb_s184, List.forall_mem_cons.mpr ⟨tb_s189, List.forall_mem_cons.mpr ⟨tb_s191, List.forall_mem_cons.mpr ⟨tb_s193, List.forall_mem_cons.mpr ⟨tb_s195, List.forall_mem_cons.mpr ⟨tb_s197, List.forall_mem_cons.mpr ⟨tb_s206, List.forall_mem_cons.mpr ⟨tb_s208, List.forall_mem_cons.mpr ⟨tb_s210, List.forall_mem_cons.mpr ⟨tb_s219, List.forall_mem_cons.mpr ⟨tb_s222, List.forall_mem_cons.mpr ⟨tb_s224, List.forall_mem_cons.mpr ⟨tb_s229, List.forall_mem_cons.mpr ⟨tb_s231, List.forall_mem_cons.mpr ⟨tb_s233, List.forall_mem_cons.mpr ⟨tb_s235, List.forall_mem_cons.mpr ⟨tb_s241, List.forall_mem_cons.mpr ⟨tb_s247, List.forall_mem_cons.mpr ⟨tb_s249, List.forall_mem_cons.mpr ⟨tb_s258, List.forall_mem_cons.mpr ⟨tb_s66, List.forall_mem_cons.mpr ⟨tb_s82, List.forall_mem_cons.mpr ⟨tb_s85, fun _ h => absurd h List.not_mem_nil⟩⟩⟩⟩⟩⟩⟩⟩⟩⟩⟩⟩⟩⟩⟩⟩⟩⟩⟩⟩⟩⟩⟩⟩
theorem nw_str : ∀ q ∈ xwS, Cond.exactly (.string RX3 q.1) "java/lang/String" ∈ flatC (Jvm.Cond.and given_1 narrow_1) := by decide +kernel
theorem nw_nc : ∀ q ∈ xwN, Cond.not (.castable q.1 q.2) ∈ flatC (Jvm.Cond.and given_1 narrow_1) := by decide +kernel
theorem nw_z1 : Cond.isRef (.static Bundle.tN "UNASSIGNED_STACK" Bundle.steD) ∈ flatC (Jvm.Cond.and given_1 narrow_1) := by decide +kernel
theorem nw_z2 : Cond.isRef (.static Bundle.tN "SUPPRESSED_SENTINEL" Bundle.listD) ∈ flatC (Jvm.Cond.and given_1 narrow_1) := by decide +kernel
theorem tb_ml0 : Cond.methodLinkNest RX0 30 yX3_hasSort "ParcelledTable" ∈ tables_1 := List.mem_of_getElem? (i := 398) (by decide +kernel)
theorem tb_ml2 : Cond.methodLinkNest RX2 45 yX3_hasSort "ParcelledTable" ∈ tables_1 := List.mem_of_getElem? (i := 488) (by decide +kernel)
theorem tb_c1 : Cond.castable nE1 nE1 ∈ tables_1 := List.mem_of_getElem? (i := 164) (by decide +kernel)
theorem tb_c2 : Cond.castable nE2 nE2 ∈ tables_1 := List.mem_of_getElem? (i := 240) (by decide +kernel)
theorem tb_c3 : Cond.castable nE3 nE3 ∈ tables_1 := List.mem_of_getElem? (i := 89) (by decide +kernel)
theorem tb_d1 : Cond.declares ⟨"java/lang/Throwable", "<init>", "(Ljava/lang/String;)V"⟩ ∈ tables_1 := List.mem_of_getElem? (i := 95) (by decide +kernel)
theorem tb_d2 : Cond.declares ⟨"java/lang/RuntimeException", "<init>", "(Ljava/lang/String;)V"⟩ ∈ tables_1 := List.mem_of_getElem? (i := 91) (by decide +kernel)
theorem tb_d3 : Cond.declares ⟨"java/lang/Exception", "<init>", "(Ljava/lang/String;)V"⟩ ∈ tables_1 := List.mem_of_getElem? (i := 93) (by decide +kernel)
theorem tb_ao0 : Cond.arrayOver (.object RX0) ∈ tables_1 := List.mem_of_getElem? (i := 53) (by decide +kernel)
theorem tb_ao2 : Cond.arrayOver (.object RX2) ∈ tables_1 := List.mem_of_getElem? (i := 55) (by decide +kernel)
theorem tb_ai : Cond.arrayClass .int ∈ tables_1 := List.mem_of_getElem? (i := 548) (by decide +kernel)
theorem tb_l1 : Cond.laysStatic Bundle.tN "UNASSIGNED_STACK" Bundle.steD ∈ tables_1 := List.mem_of_getElem? (i := 114) (by decide +kernel)
theorem tb_l2 : Cond.laysStatic Bundle.tN "SUPPRESSED_SENTINEL" Bundle.listD ∈ tables_1 := List.mem_of_getElem? (i := 116) (by decide +kernel)
theorem tb_it : Cond.initialized Bundle.tN ∈ tables_1 := List.mem_of_getElem? (i := 3) (by decide +kernel)
theorem tb_i0 : Cond.instantiable RX0 6 ∈ tables_1 := List.mem_of_getElem? (i := 21) (by decide +kernel)
theorem tb_i1 : Cond.instantiable RX1 3 ∈ tables_1 := List.mem_of_getElem? (i := 460) (by decide +kernel)
theorem tb_i2 : Cond.instantiable RX2 4 ∈ tables_1 := List.mem_of_getElem? (i := 356) (by decide +kernel)
theorem tb_i3 : Cond.instantiable RX3 6 ∈ tables_1 := List.mem_of_getElem? (i := 13) (by decide +kernel)
theorem tb_k13 : Cond.classLink RL 8 RX3 ∈ tables_1 := List.mem_of_getElem? (i := 12) (by decide +kernel)
theorem tb_z3 : Cond.initialized RX3 ∈ tables_1 := List.mem_of_getElem? (i := 1) (by decide +kernel)
theorem tb_m3 : Cond.methodLink RL 94 yX3_init ∈ tables_1 := List.mem_of_getElem? (i := 14) (by decide +kernel)
theorem tb_n3 : Cond.instanceMethod yX3_init ∈ tables_1 := List.mem_of_getElem? (i := 15) (by decide +kernel)
set_option maxRecDepth 100000 in
theorem wld_K {s : State} {b : Nat} (hts : ∀ w ∈ lw_tbl, w.before #[Value.ref b] s = true) : ∃ (D : va_G) (cI cP cR cJ : ClassId), va_K D vwCl (tyL cI cP cR cJ) s := by
  obtain ⟨c0, i0, k0⟩ := u_known (C := RX0) (T := TX0) (N := 6) (n := 6) hts inX0 (hts _ (tb_in tb_i0))
  obtain ⟨c1, i1, k1⟩ := u_known (C := RX1) (T := TX1) (N := 3) (n := 3) hts inX1 (hts _ (tb_in tb_i1))
  obtain ⟨c2, i2, k2⟩ := u_known (C := RX2) (T := TX2) (N := 4) (n := 4) hts inX2 (hts _ (tb_in tb_i2))
  obtain ⟨c3, i3, k3⟩ := u_known (C := RX3) (T := TX3) (N := 6) (n := 6) hts inX3 (hts _ (tb_in tb_i3))
  obtain ⟨cI, aI, rI⟩ := at_arr (fun _ w => by cases w) (hts _ (tb_in tb_ai))
  obtain ⟨cJ, aJ, rJ⟩ := at_arr (fun _ w => by cases w) (hts _ (tb_in tb_ai))
  obtain ⟨cP, aP, rP⟩ := at_arrO (va_AO.of (hts _ (tb_in tb_ao0)))
  obtain ⟨cR, aR, rR⟩ := at_arrO (va_AO.of (hts _ (tb_in tb_ao2)))
  refine ⟨(fun k => match k with | 0 => c0 | 1 => c1 | 2 => c2 | _ => c3, fun k => match k with | 0 => i0 | 1 => i1 | 2 => i2 | _ => i3), cI, cP, cR, cJ, fun k q hq => ?_, fun k q hq => ?_⟩
  · match k, hq with
    | 0, hq => cases hq; exact k0
    | 1, hq => cases hq; exact k1
    | 2, hq => cases hq; exact k2
    | 3, hq => cases hq; exact k3
    | k + 4, hq => simp [vwCl] at hq
  · match k, hq with
    | 0, hq => cases hq; exact ⟨aI, rI⟩
    | 1, hq => cases hq; exact ⟨aP, rP⟩
    | 2, hq => cases hq; exact ⟨aR, rR⟩
    | k + 3, hq => simp [tyL] at hq
theorem wld_W {s : State} {b : Nat} (hts : ∀ w ∈ lw_tbl, w.before #[Value.ref b] s = true) (hgv : (Jvm.Cond.and given_1 narrow_1).before #[Value.ref b] s = true) : Ws s := by
  have hs := flat_of_before _ hgv
  refine ⟨va_Nw.of rfl (hts _ (tb_in tb_ml0)), va_Nw.of rfl (hts _ (tb_in tb_ml2)), fun q hq => ?_, fun q hq => ?_, fun q hq => va_Nc.of (hs _ (nw_nc q hq)), fun q hq => ?_, va_AO.of (hts _ (tb_in tb_ao0)), va_AO.of (hts _ (tb_in tb_ao2))⟩
  · simp only [xwC, List.mem_cons, List.not_mem_nil, or_false] at hq
    rcases hq with rfl | rfl | rfl
    · exact va_Nw.of rfl (hts _ (tb_in tb_c1))
    · exact va_Nw.of rfl (hts _ (tb_in tb_c2))
    · exact va_Nw.of rfl (hts _ (tb_in tb_c3))
  · simp only [xwD, List.mem_cons, List.not_mem_nil, or_false] at hq
    rcases hq with rfl | rfl | rfl
    · exact va_Nw.of rfl (hts _ (tb_in tb_d1))
    · exact va_Nw.of rfl (hts _ (tb_in tb_d2))
    · exact va_Nw.of rfl (hts _ (tb_in tb_d3))
  · obtain ⟨a, cc, cell, k, q1, -⟩ := Cond.exactly_spec (args := #[Value.ref b]) (first := s) (o := none) (s := s) (idx := []) (t := .string RX3 q.1) (cls := "java/lang/String") (hs _ (nw_str q hq))
    exact ⟨a, vk_R.of (hts _ (tb_in (tb_str q hq))) q1⟩
theorem wld {s : State} {b : Nat} (hts : ∀ w ∈ lw_tbl, w.before #[Value.ref b] s = true) (hgv : (Jvm.Cond.and given_1 narrow_1).before #[Value.ref b] s = true) : ∃ (D : va_G) (cI cP cR cJ : ClassId), Kb D s.heap.size (tyL cI cP cR cJ) s := by
  obtain ⟨D, cI, cP, cR, cJ, hK⟩ := wld_K hts
  have hs := flat_of_before _ hgv
  refine ⟨D, cI, cP, cR, cJ, hK, wld_W hts hgv, ⟨?_, ?_⟩, Nat.le_refl _⟩
  · exact vx_Zqof (hts _ (tb_in tb_l1)) (hts _ (tb_in tb_it)) (hs _ nw_z1) (fun a h1 h2 => absurd h2 (Nat.not_le.mpr h1))
  · exact vx_Zqof (hts _ (tb_in tb_l2)) (hts _ (tb_in tb_it)) (hs _ nw_z2) (fun a h1 h2 => absurd h2 (Nat.not_le.mpr h1))
theorem no_traces {l : Launch} (h : l.flags = flags0) : l.stackTraces = false := by
  show (!l.flags.contains Jvm.noTraceFlag) = false
  rw [h]
  decide +kernel
set_option maxHeartbeats 4000000 in
set_option maxRecDepth 100000 in
/-- THE LAW, from its entry, for every script of at most 260 ints -/
theorem whole_start {p : Program} {e : Env} {s : State} {m : MethodId} {below : List Frame} {meth : Method} {c : Code} (l : Launch) (hflags : l.flags = flags0) {b L : Nat} {xs : Nat → Int32} (hL : L ≤ 260) (C0 : lw_At p s m meth c b L xs) : W p l e room_1 s m #[Value.ref b] below meth c s.heap [] 0 0 (lw_Z below #[Value.ref b] s) (entryFrame m ([Value.ref b] : List Value).toArray 20) := by
  obtain ⟨hx, hb, hr, hml, hown, hts, hX, hbl, hlocks, hgv⟩ := id C0
  have hown : s.vm.findClass RL = some m.cls := hown
  have hfl := no_traces hflags
  obtain ⟨D, cI, cP, cR, cJ, hK⟩ := wld hts hgv
  have htw : ∀ w ∈ wsL_law, w.before #[Value.ref b] s = true := fun w h => hts w (wsL_law_in w h)
  have hB : Bk D s.heap.size s.heap (fun _ => none) s.heap [] := ⟨⟨Nat.le_refl _, fun a e h => by cases h⟩, va_S.rf⟩
  have hl := lv_entry ([.ref b]) (n := 20) (Nat.le_of_ble_eq_true rfl)
  rw [lg_entry_eq]
  generalize (lg_sl ([.ref b]) ++ List.replicate (20 - (lg_sl ([.ref b])).length) Slot.unset).toArray = ls at hl ⊢
  have hl : lv_has ls 20 [(0, .ref b)] := hl
  refine m_new hx hb hts inX3 tyX3 tyX3_ok hown (tb_in tb_k13) (tb_in tb_i3) (tb_in tb_z3) hK hB (ci := 3) rfl (fs := [.null, .null, .int 0, .null, .int 0, .int 0]) (fun j hj => by rcases (show j = 0 ∨ j = 1 ∨ j = 2 ∨ j = 3 ∨ j = 4 ∨ j = 5 by omega) with rfl | rfl | rfl | rfl | rfl | rfl <;> rfl) (by decide) (by decide) dL_law_0 (fun x H hq_x hB => ?_)
  refine lv_dup hx hb dL_law_3 rfl ?_
  refine m_run (va_runI (As := []) (rest := [.ref x]) ⟨hx, hb, hml, hown, htw⟩ (k_X3_init (l := l) (hup_s _ _ _)) (cwI 0 htw gL_law_X3_init rfl rfl rfl (hts _ (tb_in tb_z3)) (hts _ (tb_in tb_m3)) (hts _ (tb_in tb_n3)) rfl (by decide +kernel) ⟨by decide, by decide⟩) ⟨Kp.blind _ _ _ _ _, fun U hU hW => hK.pass hB U hU hW⟩ rfl rfl hl.1 rfl (lv_room (Nat.le_of_ble_eq_true rfl)) dL_law_4 ⟨Nat.le_of_ble_eq_true rfl, Nat.le_of_ble_eq_true rfl⟩) hB (fun v u H locs hp hB => ?_)
  obtain ⟨rfl, xp, xr, q, hC, hF⟩ := hp
  show W _ _ _ _ _ _ _ _ _ _ _ _ _ _ _ (F0 m 7 ls [.ref x])
  have hts0 := hts
  have hts := htw
  have hV := Iv.ini
  have hI := hV.ib
  have hnl0 := nLv_0
  refine lv_astore_n (lv' := [(1, .ref x), (0, .ref b)]) hx hb dL_law_7 rfl hl (by decide) rfl (fun ls hl => ?_)
  refine j_bipush hx hb dL_law_8 (by decide) ?_
  refine m_newa hx hb (atype := .int) (hts0 _ (tb_in tb_ai)) rfl hK hB 0 rfl (fun _ w => by cases w) (N' := 64) (a0 := (64, .inl (fun _ => 0))) (fun _ => rfl) (by decide) (by decide) (by decide) (by show 0 + 4 + 1 ≤ 758523; omega) (by show 0 + 412 + 64 ≤ 6826128; omega) dL_law_10 (fun ka H hq_ka hB => ?_)
  have hC := hC.new (e1 := arI cI 64 (fun _ => 0)) hq_ka
  obtain ⟨u, eu⟩ : ∃ u2 : Hp, u2 = hup u ka (arI cI 64 (fun _ => 0)) := ⟨_, rfl⟩
  have hB : Bk D s.heap.size s.heap (hup _ ka (arI cI 64 (fun _ => 0))) H locs := hB
  rw [← eu] at hB hC
  have hk : u ka = some (arI cI 64 (fun _ => 0)) := by rw [eu]; exact hup_s _ _ _
  have hkf : ∀ j, live sg0 j → (fun _ : Nat => (0 : Int32)) j = iI (sg0 6 j) := fun j w => absurd w (sg0_live j)
  refine lv_astore_n (lv' := [(2, .ref ka), (1, .ref x), (0, .ref b)]) hx hb dL_law_12 rfl hl (by decide) rfl (fun ls hl => ?_)
  refine j_iconst hx hb dL_law_13 ?_
  refine lv_istore_n (lv' := [(3, .int (iI 0)), (2, .ref ka), (1, .ref x), (0, .ref b)]) hx hb dL_law_14 rfl hl (by decide) rfl (fun ls hl => ?_)
  refine j_iconst hx hb dL_law_15 ?_
  refine lv_istore (lv' := [(4, .int (iI 0)), (3, .int (iI 0)), (2, .ref ka), (1, .ref x), (0, .ref b)]) hx hb dL_law_16 hl (by decide) rfl (fun ls hl => ?_)
  refine j_iconst hx hb dL_law_18 ?_
  refine lv_istore (lv' := [(5, .int (iI 0)), (4, .int (iI 0)), (3, .int (iI 0)), (2, .ref ka), (1, .ref x), (0, .ref b)]) hx hb dL_law_19 hl (by decide) rfl (fun ls hl => ?_)
  refine lv_aload_n hx hb dL_law_21 rfl (lv_at hl 4 rfl) ?_
  refine j_iconst hx hb dL_law_22 ?_
  refine j_iconst hx hb dL_law_23 ?_
  refine m_run (va_runS (As := [.ref x, .int (iI 0), .int (iI 0)]) (rest := []) ⟨hx, hb, hml, hown, hts⟩ (k_L_areLeaves (l := l) hfl hC hV (a := 0) (b := 0) (by omega)) (va_cwS 3 hts gL_law_L_areLeaves rfl rfl rfl (by decide +kernel) ⟨by decide, by decide⟩) ⟨Kp.blind _ _ _ _ _, fun U hU hW => hK.pass hB U hU hW⟩ rfl rfl hl.1 rfl (lv_room (Nat.le_of_ble_eq_true rfl)) dL_law_24 ⟨(by show 0 + 5 + 259 ≤ 758523; omega), (by show 0 + 476 + 1551 ≤ 6826128; omega)⟩) hB (fun v u H locs hp hB => ?_)
  obtain ⟨rfl, hC, hFm⟩ := hp
  have hk := hFm.I hk
  show W _ _ _ _ _ _ _ _ _ _ _ _ _ _ _ (F0 m 27 ls [.int (iI 1)])
  refine lv_istore (lv' := [(6, .int (iI 1)), (5, .int (iI 0)), (4, .int (iI 0)), (3, .int (iI 0)), (2, .ref ka), (1, .ref x), (0, .ref b)]) hx hb dL_law_27 hl (by decide) rfl (fun ls hl => ?_)
  refine lv_aload_n hx hb dL_law_29 rfl (lv_at hl 6 rfl) ?_
  refine m_slen hx hb hX hbl hB dL_law_30 ?_
  refine j_bipush hx hb dL_law_31 (by decide) ?_
  refine j_icmp_ge (tgt := 42) hx hb dL_law_33 (by decide) ⟨by omega, by omega⟩ ⟨by decide, by decide⟩ (fun c_1 => ?_) (fun c_1 => ?_)
  · refine lv_aload_n hx hb dL_law_42 rfl (lv_at hl 6 rfl) ?_
    refine m_slen hx hb hX hbl hB dL_law_43 ?_
    refine j_bipush hx hb dL_law_44 (by decide) ?_
    refine j_icmp_ge (tgt := 56) hx hb dL_law_46 (by decide) ⟨by omega, by omega⟩ ⟨by decide, by decide⟩ (fun c_2 => ?_) (fun c_2 => ?_)
    · refine j_sipush hx hb dL_law_56 (by decide) ?_
      refine lv_istore (lv' := [(7, .int (iI 240)), (6, .int (iI 1)), (5, .int (iI 0)), (4, .int (iI 0)), (3, .int (iI 0)), (2, .ref ka), (1, .ref x), (0, .ref b)]) hx hb dL_law_59 hl (by decide) rfl (fun ls hl => ?_)
      refine j_iconst hx hb dL_law_61 ?_
      refine lv_istore (lv' := [(8, .int (iI 0)), (7, .int (iI 240)), (6, .int (iI 1)), (5, .int (iI 0)), (4, .int (iI 0)), (3, .int (iI 0)), (2, .ref ka), (1, .ref x), (0, .ref b)]) hx hb dL_law_62 hl (by decide) rfl (fun ls hl => ?_)
      refine W.widen (k := 300 + 1300 * 0) (n := 2100 + 8000 * 0) (by show 0 + 264 ≤ 300 + 1300 * 0; omega) (by show 0 + 2027 ≤ 2100 + 8000 * 0; omega) ?_
      refine law_loop hfl hL hx hb hml hown hts hX hbl hK (tn := 240) (by omega) (fun H2 locs2 ls2 cells slots h2 hc hs hB hl => ?_) 241 0 (by omega) (by omega) sg0 0 0 0 _ _ _ _ ⟨Iv.ini, hC.x, ⟨_, hk, hkf⟩, rfl, by omega, by omega, rfl⟩ hB (lv_sub hl [8, 7, 6, 5, 4, 3, 2, 1, 0] rfl)
      refine lv_iload hx hb dL_law_1247 (lv_at hl 0 rfl) ?_
      rw [show iI 1 = 1 from by decide]
      refine va_forget (fun q hq => hB.2.2.2 q hq) ?_
      refine W.widen hc hs ?_
      exact lw_ret hx hb hr hlocks dL_law_1249
    · refine j_iconst hx hb dL_law_49 ?_
      refine lv_aload_n hx hb dL_law_50 rfl (lv_at hl 6 rfl) ?_
      refine m_slen hx hb hX hbl hB dL_law_51 ?_
      refine j_imul hx hb dL_law_52 ?_
      refine lv_goto (tgt := 59) hx hb dL_law_53 (by decide) ?_
      refine lv_istore (lv' := [(7, .int (iI (3 * (L : Int)))), (6, .int (iI 1)), (5, .int (iI 0)), (4, .int (iI 0)), (3, .int (iI 0)), (2, .ref ka), (1, .ref x), (0, .ref b)]) hx hb dL_law_59 hl (by decide) rfl (fun ls hl => ?_)
      refine j_iconst hx hb dL_law_61 ?_
      refine lv_istore (lv' := [(8, .int (iI 0)), (7, .int (iI (3 * (L : Int)))), (6, .int (iI 1)), (5, .int (iI 0)), (4, .int (iI 0)), (3, .int (iI 0)), (2, .ref ka), (1, .ref x), (0, .ref b)]) hx hb dL_law_62 hl (by decide) rfl (fun ls hl => ?_)
      refine W.widen (k := 300 + 1300 * 0) (n := 2100 + 8000 * 0) (by show 0 + 264 ≤ 300 + 1300 * 0; omega) (by show 0 + 2027 ≤ 2100 + 8000 * 0; omega) ?_
      refine law_loop hfl hL hx hb hml hown hts hX hbl hK (tn := (3 * (L : Int))) (by omega) (fun H2 locs2 ls2 cells slots h2 hc hs hB hl => ?_) 241 0 (by omega) (by omega) sg0 0 0 0 _ _ _ _ ⟨Iv.ini, hC.x, ⟨_, hk, hkf⟩, rfl, by omega, by omega, rfl⟩ hB (lv_sub hl [8, 7, 6, 5, 4, 3, 2, 1, 0] rfl)
      refine lv_iload hx hb dL_law_1247 (lv_at hl 0 rfl) ?_
      rw [show iI 1 = 1 from by decide]
      refine va_forget (fun q hq => hB.2.2.2 q hq) ?_
      refine W.widen hc hs ?_
      exact lw_ret hx hb hr hlocks dL_law_1249
  · refine j_sipush hx hb dL_law_36 (by decide) ?_
    refine lv_goto (tgt := 59) hx hb dL_law_39 (by decide) ?_
    refine lv_istore (lv' := [(7, .int (iI 130)), (6, .int (iI 1)), (5, .int (iI 0)), (4, .int (iI 0)), (3, .int (iI 0)), (2, .ref ka), (1, .ref x), (0, .ref b)]) hx hb dL_law_59 hl (by decide) rfl (fun ls hl => ?_)
    refine j_iconst hx hb dL_law_61 ?_
    refine lv_istore (lv' := [(8, .int (iI 0)), (7, .int (iI 130)), (6, .int (iI 1)), (5, .int (iI 0)), (4, .int (iI 0)), (3, .int (iI 0)), (2, .ref ka), (1, .ref x), (0, .ref b)]) hx hb dL_law_62 hl (by decide) rfl (fun ls hl => ?_)
    refine W.widen (k := 300 + 1300 * 0) (n := 2100 + 8000 * 0) (by show 0 + 264 ≤ 300 + 1300 * 0; omega) (by show 0 + 2027 ≤ 2100 + 8000 * 0; omega) ?_
    refine law_loop hfl hL hx hb hml hown hts hX hbl hK (tn := 130) (by omega) (fun H2 locs2 ls2 cells slots h2 hc hs hB hl => ?_) 241 0 (by omega) (by omega) sg0 0 0 0 _ _ _ _ ⟨Iv.ini, hC.x, ⟨_, hk, hkf⟩, rfl, by omega, by omega, rfl⟩ hB (lv_sub hl [8, 7, 6, 5, 4, 3, 2, 1, 0] rfl)
    refine lv_iload hx hb dL_law_1247 (lv_at hl 0 rfl) ?_
    rw [show iI 1 = 1 from by decide]
    refine va_forget (fun q hq => hB.2.2.2 q hq) ?_
    refine W.widen hc hs ?_
    exact lw_ret hx hb hr hlocks dL_law_1249
