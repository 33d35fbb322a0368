theorem zI32 : (0 : Int32) = iI 0 := by decide
abbrev rmX4_init : Room := { frames := 1, cells := 9, slots := 1800, locals := 24 }
set_option maxHeartbeats 4000000 in
set_option maxRecDepth 100000 in
theorem k_X4_init {l : Launch} {D : va_G} {z : Nat} {cI cP cR cJ : ClassId} {h0 : Hp} {xm : Nat} (he : h0 xm = some (.inr (4, [.int 0, .null, .null, .null, .null, .null, .int 0, .null, .null, .null, .null, .int 0, .int 0]))) : Ct l D z (tyL cI cP cR cJ) yX4_init wsX4_init rmX4_init [.ref xm] h0 (fun v u => ∃ xa : Nat → Nat, v = none ∧ MR cI xm xa sg0 0 u ∧ FrM h0 u) := by
  refine Ct.of (cc := cX4_init) (maxL := 1) (ret := none) (by decide) rfl (Nat.le_of_ble_eq_true rfl) ?_
  intro p e s m args below meth c hx hb hr hts hown hlocks hml hnm hK hB ls hl
  have hl : lv_has ls 1 [(0, .ref xm)] := hl
  have hF := FrM.rf h0
  refine lv_aload_n hx hb dX4_init_0 rfl (lv_at hl 0 rfl) ?_
  refine W.objInit hx hb hown (hts _ (List.mem_of_getElem? (i := 1) rfl)) (hts _ (List.mem_of_getElem? (i := 2) rfl)) (hts _ (List.mem_of_getElem? (i := 3) rfl)) rfl (by rw [hml]; exact hl.1) rfl dX4_init_1 (Nat.le_of_ble_eq_true rfl) (Nat.le_of_ble_eq_true rfl) ?_
  refine W.eq (g2 := F0 m 4 ls []) rfl ?_
  refine lv_aload_n hx hb dX4_init_4 rfl (lv_at hl 0 rfl) ?_
  refine j_bipush hx hb dX4_init_5 (by decide) ?_
  refine m_newa hx hb (atype := .int) (hts _ (List.mem_of_getElem? (i := 4) rfl)) rfl hK hB 0 rfl (fun _ w => by cases w) (N' := 16) (a0 := (16, .inl (fun _ => 0))) (fun _ => rfl) (by decide) (by decide) (by decide) (Nat.le_of_ble_eq_true rfl) (Nat.le_of_ble_eq_true rfl) dX4_init_7 (fun b0 H hq_b0 hB => ?_)
  obtain ⟨h1, he, ha_0, hF, hB⟩ : ∃ h1 : Hp, h1 xm = some (.inr (4, [.int 0, .null, .null, .null, .null, .null, .int 0, .null, .null, .null, .null, .int 0, .int 0])) ∧ h1 b0 = some (arI cI 16 (fun _ => 0)) ∧ FrM h0 h1 ∧ Bk D z s.heap h1 H [] := ⟨_, hup_new hq_b0 he, hup_s _ _ _, hF.tr (FrM.new hq_b0), hB⟩
  refine m_putF hx hb hts (fun _ q => List.mem_cons_of_mem _ (List.mem_append_right _ q)) tyX4 tyX4_ok nmX4 hown hK hB he (ci := 4) rfl 1 (by decide) (List.mem_of_getElem? (i := 5) rfl) rfl rfl hnm rfl rfl rfl (Nat.le_of_ble_eq_true rfl) dX4_init_9 (fun H locs hB => ?_)
  obtain ⟨h1, he, ha_0, hF, hB⟩ : ∃ h1 : Hp, h1 xm = some (.inr (4, [.int 0, .ref b0, .null, .null, .null, .null, .int 0, .null, .null, .null, .null, .int 0, .int 0])) ∧ h1 b0 = some (arI cI 16 (fun _ => 0)) ∧ FrM h0 h1 ∧ Bk D z s.heap h1 H locs := ⟨_, hup_s _ _ _, (hup_n (fun w => by rw [w, he] at ha_0; cases ha_0)).trans ha_0, hF.tr (FrM.up he (Or.inl rfl)), hB⟩
  refine lv_aload_n hx hb dX4_init_12 rfl (lv_at hl 0 rfl) ?_
  refine j_bipush hx hb dX4_init_13 (by decide) ?_
  refine m_newa hx hb (atype := .int) (hts _ (List.mem_of_getElem? (i := 4) rfl)) rfl hK hB 0 rfl (fun _ w => by cases w) (N' := 16) (a0 := (16, .inl (fun _ => 0))) (fun _ => rfl) (by decide) (by decide) (by decide) (Nat.le_of_ble_eq_true rfl) (Nat.le_of_ble_eq_true rfl) dX4_init_15 (fun b1 H hq_b1 hB => ?_)
  have ne_0_1 : b0 ≠ b1 := fun w => by rw [w, hq_b1] at ha_0; cases ha_0
  obtain ⟨h1, he, ha_0, ha_1, hF, hB⟩ : ∃ h1 : Hp, h1 xm = some (.inr (4, [.int 0, .ref b0, .null, .null, .null, .null, .int 0, .null, .null, .null, .null, .int 0, .int 0])) ∧ h1 b0 = some (arI cI 16 (fun _ => 0)) ∧ h1 b1 = some (arI cI 16 (fun _ => 0)) ∧ FrM h0 h1 ∧ Bk D z s.heap h1 H locs := ⟨_, hup_new hq_b1 he, hup_new hq_b1 ha_0, hup_s _ _ _, hF.tr (FrM.new hq_b1), hB⟩
  refine m_putF hx hb hts (fun _ q => List.mem_cons_of_mem _ (List.mem_append_right _ q)) tyX4 tyX4_ok nmX4 hown hK hB he (ci := 4) rfl 2 (by decide) (List.mem_of_getElem? (i := 6) rfl) rfl rfl hnm rfl rfl rfl (Nat.le_of_ble_eq_true rfl) dX4_init_17 (fun H locs hB => ?_)
  obtain ⟨h1, he, ha_0, ha_1, hF, hB⟩ : ∃ h1 : Hp, h1 xm = some (.inr (4, [.int 0, .ref b0, .ref b1, .null, .null, .null, .int 0, .null, .null, .null, .null, .int 0, .int 0])) ∧ h1 b0 = some (arI cI 16 (fun _ => 0)) ∧ h1 b1 = some (arI cI 16 (fun _ => 0)) ∧ FrM h0 h1 ∧ Bk D z s.heap h1 H locs := ⟨_, hup_s _ _ _, (hup_n (fun w => by rw [w, he] at ha_0; cases ha_0)).trans ha_0, (hup_n (fun w => by rw [w, he] at ha_1; cases ha_1)).trans ha_1, hF.tr (FrM.up he (Or.inl rfl)), hB⟩
  refine lv_aload_n hx hb dX4_init_20 rfl (lv_at hl 0 rfl) ?_
  refine j_bipush hx hb dX4_init_21 (by decide) ?_
  refine m_newa hx hb (atype := .int) (hts _ (List.mem_of_getElem? (i := 4) rfl)) rfl hK hB 0 rfl (fun _ w => by cases w) (N' := 16) (a0 := (16, .inl (fun _ => 0))) (fun _ => rfl) (by decide) (by decide) (by decide) (Nat.le_of_ble_eq_true rfl) (Nat.le_of_ble_eq_true rfl) dX4_init_23 (fun b2 H hq_b2 hB => ?_)
  have ne_0_2 : b0 ≠ b2 := fun w => by rw [w, hq_b2] at ha_0; cases ha_0
  have ne_1_2 : b1 ≠ b2 := fun w => by rw [w, hq_b2] at ha_1; cases ha_1
  obtain ⟨h1, he, ha_0, ha_1, ha_2, hF, hB⟩ : ∃ h1 : Hp, h1 xm = some (.inr (4, [.int 0, .ref b0, .ref b1, .null, .null, .null, .int 0, .null, .null, .null, .null, .int 0, .int 0])) ∧ h1 b0 = some (arI cI 16 (fun _ => 0)) ∧ h1 b1 = some (arI cI 16 (fun _ => 0)) ∧ h1 b2 = some (arI cI 16 (fun _ => 0)) ∧ FrM h0 h1 ∧ Bk D z s.heap h1 H locs := ⟨_, hup_new hq_b2 he, hup_new hq_b2 ha_0, hup_new hq_b2 ha_1, hup_s _ _ _, hF.tr (FrM.new hq_b2), hB⟩
  refine m_putF hx hb hts (fun _ q => List.mem_cons_of_mem _ (List.mem_append_right _ q)) tyX4 tyX4_ok nmX4 hown hK hB he (ci := 4) rfl 3 (by decide) (List.mem_of_getElem? (i := 7) rfl) rfl rfl hnm rfl rfl rfl (Nat.le_of_ble_eq_true rfl) dX4_init_25 (fun H locs hB => ?_)
  obtain ⟨h1, he, ha_0, ha_1, ha_2, hF, hB⟩ : ∃ h1 : Hp, h1 xm = some (.inr (4, [.int 0, .ref b0, .ref b1, .ref b2, .null, .null, .int 0, .null, .null, .null, .null, .int 0, .int 0])) ∧ h1 b0 = some (arI cI 16 (fun _ => 0)) ∧ h1 b1 = some (arI cI 16 (fun _ => 0)) ∧ h1 b2 = some (arI cI 16 (fun _ => 0)) ∧ FrM h0 h1 ∧ Bk D z s.heap h1 H locs := ⟨_, hup_s _ _ _, (hup_n (fun w => by rw [w, he] at ha_0; cases ha_0)).trans ha_0, (hup_n (fun w => by rw [w, he] at ha_1; cases ha_1)).trans ha_1, (hup_n (fun w => by rw [w, he] at ha_2; cases ha_2)).trans ha_2, hF.tr (FrM.up he (Or.inl rfl)), hB⟩
  refine lv_aload_n hx hb dX4_init_28 rfl (lv_at hl 0 rfl) ?_
  refine j_bipush hx hb dX4_init_29 (by decide) ?_
  refine m_newa hx hb (atype := .int) (hts _ (List.mem_of_getElem? (i := 4) rfl)) rfl hK hB 0 rfl (fun _ w => by cases w) (N' := 16) (a0 := (16, .inl (fun _ => 0))) (fun _ => rfl) (by decide) (by decide) (by decide) (Nat.le_of_ble_eq_true rfl) (Nat.le_of_ble_eq_true rfl) dX4_init_31 (fun b3 H hq_b3 hB => ?_)
  have ne_0_3 : b0 ≠ b3 := fun w => by rw [w, hq_b3] at ha_0; cases ha_0
  have ne_1_3 : b1 ≠ b3 := fun w => by rw [w, hq_b3] at ha_1; cases ha_1
  have ne_2_3 : b2 ≠ b3 := fun w => by rw [w, hq_b3] at ha_2; cases ha_2
  obtain ⟨h1, he, ha_0, ha_1, ha_2, ha_3, hF, hB⟩ : ∃ h1 : Hp, h1 xm = some (.inr (4, [.int 0, .ref b0, .ref b1, .ref b2, .null, .null, .int 0, .null, .null, .null, .null, .int 0, .int 0])) ∧ h1 b0 = some (arI cI 16 (fun _ => 0)) ∧ h1 b1 = some (arI cI 16 (fun _ => 0)) ∧ h1 b2 = some (arI cI 16 (fun _ => 0)) ∧ h1 b3 = some (arI cI 16 (fun _ => 0)) ∧ FrM h0 h1 ∧ Bk D z s.heap h1 H locs := ⟨_, hup_new hq_b3 he, hup_new hq_b3 ha_0, hup_new hq_b3 ha_1, hup_new hq_b3 ha_2, hup_s _ _ _, hF.tr (FrM.new hq_b3), hB⟩
  refine m_putF hx hb hts (fun _ q => List.mem_cons_of_mem _ (List.mem_append_right _ q)) tyX4 tyX4_ok nmX4 hown hK hB he (ci := 4) rfl 4 (by decide) (List.mem_of_getElem? (i := 8) rfl) rfl rfl hnm rfl rfl rfl (Nat.le_of_ble_eq_true rfl) dX4_init_33 (fun H locs hB => ?_)
  obtain ⟨h1, he, ha_0, ha_1, ha_2, ha_3, hF, hB⟩ : ∃ h1 : Hp, h1 xm = some (.inr (4, [.int 0, .ref b0, .ref b1, .ref b2, .ref b3, .null, .int 0, .null, .null, .null, .null, .int 0, .int 0])) ∧ h1 b0 = some (arI cI 16 (fun _ => 0)) ∧ h1 b1 = some (arI cI 16 (fun _ => 0)) ∧ h1 b2 = some (arI cI 16 (fun _ => 0)) ∧ h1 b3 = some (arI cI 16 (fun _ => 0)) ∧ FrM h0 h1 ∧ Bk D z s.heap h1 H locs := ⟨_, hup_s _ _ _, (hup_n (fun w => by rw [w, he] at ha_0; cases ha_0)).trans ha_0, (hup_n (fun w => by rw [w, he] at ha_1; cases ha_1)).trans ha_1, (hup_n (fun w => by rw [w, he] at ha_2; cases ha_2)).trans ha_2, (hup_n (fun w => by rw [w, he] at ha_3; cases ha_3)).trans ha_3, hF.tr (FrM.up he (Or.inl rfl)), hB⟩
  refine lv_aload_n hx hb dX4_init_36 rfl (lv_at hl 0 rfl) ?_
  refine j_bipush hx hb dX4_init_37 (by decide) ?_
  refine m_newa hx hb (atype := .int) (hts _ (List.mem_of_getElem? (i := 4) rfl)) rfl hK hB 0 rfl (fun _ w => by cases w) (N' := 16) (a0 := (16, .inl (fun _ => 0))) (fun _ => rfl) (by decide) (by decide) (by decide) (Nat.le_of_ble_eq_true rfl) (Nat.le_of_ble_eq_true rfl) dX4_init_39 (fun b4 H hq_b4 hB => ?_)
  have ne_0_4 : b0 ≠ b4 := fun w => by rw [w, hq_b4] at ha_0; cases ha_0
  have ne_1_4 : b1 ≠ b4 := fun w => by rw [w, hq_b4] at ha_1; cases ha_1
  have ne_2_4 : b2 ≠ b4 := fun w => by rw [w, hq_b4] at ha_2; cases ha_2
  have ne_3_4 : b3 ≠ b4 := fun w => by rw [w, hq_b4] at ha_3; cases ha_3
  obtain ⟨h1, he, ha_0, ha_1, ha_2, ha_3, ha_4, hF, hB⟩ : ∃ h1 : Hp, h1 xm = some (.inr (4, [.int 0, .ref b0, .ref b1, .ref b2, .ref b3, .null, .int 0, .null, .null, .null, .null, .int 0, .int 0])) ∧ h1 b0 = some (arI cI 16 (fun _ => 0)) ∧ h1 b1 = some (arI cI 16 (fun _ => 0)) ∧ h1 b2 = some (arI cI 16 (fun _ => 0)) ∧ h1 b3 = some (arI cI 16 (fun _ => 0)) ∧ h1 b4 = some (arI cI 16 (fun _ => 0)) ∧ FrM h0 h1 ∧ Bk D z s.heap h1 H locs := ⟨_, hup_new hq_b4 he, hup_new hq_b4 ha_0, hup_new hq_b4 ha_1, hup_new hq_b4 ha_2, hup_new hq_b4 ha_3, hup_s _ _ _, hF.tr (FrM.new hq_b4), hB⟩
  refine m_putF hx hb hts (fun _ q => List.mem_cons_of_mem _ (List.mem_append_right _ q)) tyX4 tyX4_ok nmX4 hown hK hB he (ci := 4) rfl 5 (by decide) (List.mem_of_getElem? (i := 9) rfl) rfl rfl hnm rfl rfl rfl (Nat.le_of_ble_eq_true rfl) dX4_init_41 (fun H locs hB => ?_)
  obtain ⟨h1, he, ha_0, ha_1, ha_2, ha_3, ha_4, hF, hB⟩ : ∃ h1 : Hp, h1 xm = some (.inr (4, [.int 0, .ref b0, .ref b1, .ref b2, .ref b3, .ref b4, .int 0, .null, .null, .null, .null, .int 0, .int 0])) ∧ h1 b0 = some (arI cI 16 (fun _ => 0)) ∧ h1 b1 = some (arI cI 16 (fun _ => 0)) ∧ h1 b2 = some (arI cI 16 (fun _ => 0)) ∧ h1 b3 = some (arI cI 16 (fun _ => 0)) ∧ h1 b4 = some (arI cI 16 (fun _ => 0)) ∧ FrM h0 h1 ∧ Bk D z s.heap h1 H locs := ⟨_, hup_s _ _ _, (hup_n (fun w => by rw [w, he] at ha_0; cases ha_0)).trans ha_0, (hup_n (fun w => by rw [w, he] at ha_1; cases ha_1)).trans ha_1, (hup_n (fun w => by rw [w, he] at ha_2; cases ha_2)).trans ha_2, (hup_n (fun w => by rw [w, he] at ha_3; cases ha_3)).trans ha_3, (hup_n (fun w => by rw [w, he] at ha_4; cases ha_4)).trans ha_4, hF.tr (FrM.up he (Or.inl rfl)), hB⟩
  refine lv_aload_n hx hb dX4_init_44 rfl (lv_at hl 0 rfl) ?_
  refine j_sipush hx hb dX4_init_45 (by decide) ?_
  refine m_newa hx hb (atype := .int) (hts _ (List.mem_of_getElem? (i := 4) rfl)) rfl hK hB 0 rfl (fun _ w => by cases w) (N' := 200) (a0 := (200, .inl (fun _ => 0))) (fun _ => rfl) (by decide) (by decide) (by decide) (Nat.le_of_ble_eq_true rfl) (Nat.le_of_ble_eq_true rfl) dX4_init_48 (fun b5 H hq_b5 hB => ?_)
  have ne_0_5 : b0 ≠ b5 := fun w => by rw [w, hq_b5] at ha_0; cases ha_0
  have ne_1_5 : b1 ≠ b5 := fun w => by rw [w, hq_b5] at ha_1; cases ha_1
  have ne_2_5 : b2 ≠ b5 := fun w => by rw [w, hq_b5] at ha_2; cases ha_2
  have ne_3_5 : b3 ≠ b5 := fun w => by rw [w, hq_b5] at ha_3; cases ha_3
  have ne_4_5 : b4 ≠ b5 := fun w => by rw [w, hq_b5] at ha_4; cases ha_4
  obtain ⟨h1, he, ha_0, ha_1, ha_2, ha_3, ha_4, ha_5, hF, hB⟩ : ∃ h1 : Hp, h1 xm = some (.inr (4, [.int 0, .ref b0, .ref b1, .ref b2, .ref b3, .ref b4, .int 0, .null, .null, .null, .null, .int 0, .int 0])) ∧ h1 b0 = some (arI cI 16 (fun _ => 0)) ∧ h1 b1 = some (arI cI 16 (fun _ => 0)) ∧ h1 b2 = some (arI cI 16 (fun _ => 0)) ∧ h1 b3 = some (arI cI 16 (fun _ => 0)) ∧ h1 b4 = some (arI cI 16 (fun _ => 0)) ∧ h1 b5 = some (arI cI 200 (fun _ => 0)) ∧ FrM h0 h1 ∧ Bk D z s.heap h1 H locs := ⟨_, hup_new hq_b5 he, hup_new hq_b5 ha_0, hup_new hq_b5 ha_1, hup_new hq_b5 ha_2, hup_new hq_b5 ha_3, hup_new hq_b5 ha_4, hup_s _ _ _, hF.tr (FrM.new hq_b5), hB⟩
  refine m_putF hx hb hts (fun _ q => List.mem_cons_of_mem _ (List.mem_append_right _ q)) tyX4 tyX4_ok nmX4 hown hK hB he (ci := 4) rfl 7 (by decide) (List.mem_of_getElem? (i := 10) rfl) rfl rfl hnm rfl rfl rfl (Nat.le_of_ble_eq_true rfl) dX4_init_50 (fun H locs hB => ?_)
  obtain ⟨h1, he, ha_0, ha_1, ha_2, ha_3, ha_4, ha_5, hF, hB⟩ : ∃ h1 : Hp, h1 xm = some (.inr (4, [.int 0, .ref b0, .ref b1, .ref b2, .ref b3, .ref b4, .int 0, .ref b5, .null, .null, .null, .int 0, .int 0])) ∧ h1 b0 = some (arI cI 16 (fun _ => 0)) ∧ h1 b1 = some (arI cI 16 (fun _ => 0)) ∧ h1 b2 = some (arI cI 16 (fun _ => 0)) ∧ h1 b3 = some (arI cI 16 (fun _ => 0)) ∧ h1 b4 = some (arI cI 16 (fun _ => 0)) ∧ h1 b5 = some (arI cI 200 (fun _ => 0)) ∧ FrM h0 h1 ∧ Bk D z s.heap h1 H locs := ⟨_, hup_s _ _ _, (hup_n (fun w => by rw [w, he] at ha_0; cases ha_0)).trans ha_0, (hup_n (fun w => by rw [w, he] at ha_1; cases ha_1)).trans ha_1, (hup_n (fun w => by rw [w, he] at ha_2; cases ha_2)).trans ha_2, (hup_n (fun w => by rw [w, he] at ha_3; cases ha_3)).trans ha_3, (hup_n (fun w => by rw [w, he] at ha_4; cases ha_4)).trans ha_4, (hup_n (fun w => by rw [w, he] at ha_5; cases ha_5)).trans ha_5, hF.tr (FrM.up he (Or.inl rfl)), hB⟩
  refine lv_aload_n hx hb dX4_init_53 rfl (lv_at hl 0 rfl) ?_
  refine j_sipush hx hb dX4_init_54 (by decide) ?_
  refine m_newa hx hb (atype := .int) (hts _ (List.mem_of_getElem? (i := 4) rfl)) rfl hK hB 0 rfl (fun _ w => by cases w) (N' := 200) (a0 := (200, .inl (fun _ => 0))) (fun _ => rfl) (by decide) (by decide) (by decide) (Nat.le_of_ble_eq_true rfl) (Nat.le_of_ble_eq_true rfl) dX4_init_57 (fun b6 H hq_b6 hB => ?_)
  have ne_0_6 : b0 ≠ b6 := fun w => by rw [w, hq_b6] at ha_0; cases ha_0
  have ne_1_6 : b1 ≠ b6 := fun w => by rw [w, hq_b6] at ha_1; cases ha_1
  have ne_2_6 : b2 ≠ b6 := fun w => by rw [w, hq_b6] at ha_2; cases ha_2
  have ne_3_6 : b3 ≠ b6 := fun w => by rw [w, hq_b6] at ha_3; cases ha_3
  have ne_4_6 : b4 ≠ b6 := fun w => by rw [w, hq_b6] at ha_4; cases ha_4
  have ne_5_6 : b5 ≠ b6 := fun w => by rw [w, hq_b6] at ha_5; cases ha_5
  obtain ⟨h1, he, ha_0, ha_1, ha_2, ha_3, ha_4, ha_5, ha_6, hF, hB⟩ : ∃ h1 : Hp, h1 xm = some (.inr (4, [.int 0, .ref b0, .ref b1, .ref b2, .ref b3, .ref b4, .int 0, .ref b5, .null, .null, .null, .int 0, .int 0])) ∧ h1 b0 = some (arI cI 16 (fun _ => 0)) ∧ h1 b1 = some (arI cI 16 (fun _ => 0)) ∧ h1 b2 = some (arI cI 16 (fun _ => 0)) ∧ h1 b3 = some (arI cI 16 (fun _ => 0)) ∧ h1 b4 = some (arI cI 16 (fun _ => 0)) ∧ h1 b5 = some (arI cI 200 (fun _ => 0)) ∧ h1 b6 = some (arI cI 200 (fun _ => 0)) ∧ FrM h0 h1 ∧ Bk D z s.heap h1 H locs := ⟨_, hup_new hq_b6 he, hup_new hq_b6 ha_0, hup_new hq_b6 ha_1, hup_new hq_b6 ha_2, hup_new hq_b6 ha_3, hup_new hq_b6 ha_4, hup_new hq_b6 ha_5, hup_s _ _ _, hF.tr (FrM.new hq_b6), hB⟩
  refine m_putF hx hb hts (fun _ q => List.mem_cons_of_mem _ (List.mem_append_right _ q)) tyX4 tyX4_ok nmX4 hown hK hB he (ci := 4) rfl 8 (by decide) (List.mem_of_getElem? (i := 11) rfl) rfl rfl hnm rfl rfl rfl (Nat.le_of_ble_eq_true rfl) dX4_init_59 (fun H locs hB => ?_)
  obtain ⟨h1, he, ha_0, ha_1, ha_2, ha_3, ha_4, ha_5, ha_6, hF, hB⟩ : ∃ h1 : Hp, h1 xm = some (.inr (4, [.int 0, .ref b0, .ref b1, .ref b2, .ref b3, .ref b4, .int 0, .ref b5, .ref b6, .null, .null, .int 0, .int 0])) ∧ h1 b0 = some (arI cI 16 (fun _ => 0)) ∧ h1 b1 = some (arI cI 16 (fun _ => 0)) ∧ h1 b2 = some (arI cI 16 (fun _ => 0)) ∧ h1 b3 = some (arI cI 16 (fun _ => 0)) ∧ h1 b4 = some (arI cI 16 (fun _ => 0)) ∧ h1 b5 = some (arI cI 200 (fun _ => 0)) ∧ h1 b6 = some (arI cI 200 (fun _ => 0)) ∧ FrM h0 h1 ∧ Bk D z s.heap h1 H locs := ⟨_, hup_s _ _ _, (hup_n (fun w => by rw [w, he] at ha_0; cases ha_0)).trans ha_0, (hup_n (fun w => by rw [w, he] at ha_1; cases ha_1)).trans ha_1, (hup_n (fun w => by rw [w, he] at ha_2; cases ha_2)).trans ha_2, (hup_n (fun w => by rw [w, he] at ha_3; cases ha_3)).trans ha_3, (hup_n (fun w => by rw [w, he] at ha_4; cases ha_4)).trans ha_4, (hup_n (fun w => by rw [w, he] at ha_5; cases ha_5)).trans ha_5, (hup_n (fun w => by rw [w, he] at ha_6; cases ha_6)).trans ha_6, hF.tr (FrM.up he (Or.inl rfl)), hB⟩
  refine lv_aload_n hx hb dX4_init_62 rfl (lv_at hl 0 rfl) ?_
  refine j_sipush hx hb dX4_init_63 (by decide) ?_
  refine m_newa hx hb (atype := .int) (hts _ (List.mem_of_getElem? (i := 4) rfl)) rfl hK hB 0 rfl (fun _ w => by cases w) (N' := 200) (a0 := (200, .inl (fun _ => 0))) (fun _ => rfl) (by decide) (by decide) (by decide) (Nat.le_of_ble_eq_true rfl) (Nat.le_of_ble_eq_true rfl) dX4_init_66 (fun b7 H hq_b7 hB => ?_)
  have ne_0_7 : b0 ≠ b7 := fun w => by rw [w, hq_b7] at ha_0; cases ha_0
  have ne_1_7 : b1 ≠ b7 := fun w => by rw [w, hq_b7] at ha_1; cases ha_1
  have ne_2_7 : b2 ≠ b7 := fun w => by rw [w, hq_b7] at ha_2; cases ha_2
  have ne_3_7 : b3 ≠ b7 := fun w => by rw [w, hq_b7] at ha_3; cases ha_3
  have ne_4_7 : b4 ≠ b7 := fun w => by rw [w, hq_b7] at ha_4; cases ha_4
  have ne_5_7 : b5 ≠ b7 := fun w => by rw [w, hq_b7] at ha_5; cases ha_5
  have ne_6_7 : b6 ≠ b7 := fun w => by rw [w, hq_b7] at ha_6; cases ha_6
  obtain ⟨h1, he, ha_0, ha_1, ha_2, ha_3, ha_4, ha_5, ha_6, ha_7, hF, hB⟩ : ∃ h1 : Hp, h1 xm = some (.inr (4, [.int 0, .ref b0, .ref b1, .ref b2, .ref b3, .ref b4, .int 0, .ref b5, .ref b6, .null, .null, .int 0, .int 0])) ∧ h1 b0 = some (arI cI 16 (fun _ => 0)) ∧ h1 b1 = some (arI cI 16 (fun _ => 0)) ∧ h1 b2 = some (arI cI 16 (fun _ => 0)) ∧ h1 b3 = some (arI cI 16 (fun _ => 0)) ∧ h1 b4 = some (arI cI 16 (fun _ => 0)) ∧ h1 b5 = some (arI cI 200 (fun _ => 0)) ∧ h1 b6 = some (arI cI 200 (fun _ => 0)) ∧ h1 b7 = some (arI cI 200 (fun _ => 0)) ∧ FrM h0 h1 ∧ Bk D z s.heap h1 H locs := ⟨_, hup_new hq_b7 he, hup_new hq_b7 ha_0, hup_new hq_b7 ha_1, hup_new hq_b7 ha_2, hup_new hq_b7 ha_3, hup_new hq_b7 ha_4, hup_new hq_b7 ha_5, hup_new hq_b7 ha_6, hup_s _ _ _, hF.tr (FrM.new hq_b7), hB⟩
  refine m_putF hx hb hts (fun _ q => List.mem_cons_of_mem _ (List.mem_append_right _ q)) tyX4 tyX4_ok nmX4 hown hK hB he (ci := 4) rfl 9 (by decide) (List.mem_of_getElem? (i := 12) rfl) rfl rfl hnm rfl rfl rfl (Nat.le_of_ble_eq_true rfl) dX4_init_68 (fun H locs hB => ?_)
  obtain ⟨h1, he, ha_0, ha_1, ha_2, ha_3, ha_4, ha_5, ha_6, ha_7, hF, hB⟩ : ∃ h1 : Hp, h1 xm = some (.inr (4, [.int 0, .ref b0, .ref b1, .ref b2, .ref b3, .ref b4, .int 0, .ref b5, .ref b6, .ref b7, .null, .int 0, .int 0])) ∧ h1 b0 = some (arI cI 16 (fun _ => 0)) ∧ h1 b1 = some (arI cI 16 (fun _ => 0)) ∧ h1 b2 = some (arI cI 16 (fun _ => 0)) ∧ h1 b3 = some (arI cI 16 (fun _ => 0)) ∧ h1 b4 = some (arI cI 16 (fun _ => 0)) ∧ h1 b5 = some (arI cI 200 (fun _ => 0)) ∧ h1 b6 = some (arI cI 200 (fun _ => 0)) ∧ h1 b7 = some (arI cI 200 (fun _ => 0)) ∧ FrM h0 h1 ∧ Bk D z s.heap h1 H locs := ⟨_, hup_s _ _ _, (hup_n (fun w => by rw [w, he] at ha_0; cases ha_0)).trans ha_0, (hup_n (fun w => by rw [w, he] at ha_1; cases ha_1)).trans ha_1, (hup_n (fun w => by rw [w, he] at ha_2; cases ha_2)).trans ha_2, (hup_n (fun w => by rw [w, he] at ha_3; cases ha_3)).trans ha_3, (hup_n (fun w => by rw [w, he] at ha_4; cases ha_4)).trans ha_4, (hup_n (fun w => by rw [w, he] at ha_5; cases ha_5)).trans ha_5, (hup_n (fun w => by rw [w, he] at ha_6; cases ha_6)).trans ha_6, (hup_n (fun w => by rw [w, he] at ha_7; cases ha_7)).trans ha_7, hF.tr (FrM.up he (Or.inl rfl)), hB⟩
  refine lv_aload_n hx hb dX4_init_71 rfl (lv_at hl 0 rfl) ?_
  refine j_sipush hx hb dX4_init_72 (by decide) ?_
  refine m_newa hx hb (atype := .int) (hts _ (List.mem_of_getElem? (i := 4) rfl)) rfl hK hB 0 rfl (fun _ w => by cases w) (N' := 200) (a0 := (200, .inl (fun _ => 0))) (fun _ => rfl) (by decide) (by decide) (by decide) (Nat.le_of_ble_eq_true rfl) (Nat.le_of_ble_eq_true rfl) dX4_init_75 (fun b8 H hq_b8 hB => ?_)
  have ne_0_8 : b0 ≠ b8 := fun w => by rw [w, hq_b8] at ha_0; cases ha_0
  have ne_1_8 : b1 ≠ b8 := fun w => by rw [w, hq_b8] at ha_1; cases ha_1
  have ne_2_8 : b2 ≠ b8 := fun w => by rw [w, hq_b8] at ha_2; cases ha_2
  have ne_3_8 : b3 ≠ b8 := fun w => by rw [w, hq_b8] at ha_3; cases ha_3
  have ne_4_8 : b4 ≠ b8 := fun w => by rw [w, hq_b8] at ha_4; cases ha_4
  have ne_5_8 : b5 ≠ b8 := fun w => by rw [w, hq_b8] at ha_5; cases ha_5
  have ne_6_8 : b6 ≠ b8 := fun w => by rw [w, hq_b8] at ha_6; cases ha_6
  have ne_7_8 : b7 ≠ b8 := fun w => by rw [w, hq_b8] at ha_7; cases ha_7
  obtain ⟨h1, he, ha_0, ha_1, ha_2, ha_3, ha_4, ha_5, ha_6, ha_7, ha_8, hF, hB⟩ : ∃ h1 : Hp, h1 xm = some (.inr (4, [.int 0, .ref b0, .ref b1, .ref b2, .ref b3, .ref b4, .int 0, .ref b5, .ref b6, .ref b7, .null, .int 0, .int 0])) ∧ h1 b0 = some (arI cI 16 (fun _ => 0)) ∧ h1 b1 = some (arI cI 16 (fun _ => 0)) ∧ h1 b2 = some (arI cI 16 (fun _ => 0)) ∧ h1 b3 = some (arI cI 16 (fun _ => 0)) ∧ h1 b4 = some (arI cI 16 (fun _ => 0)) ∧ h1 b5 = some (arI cI 200 (fun _ => 0)) ∧ h1 b6 = some (arI cI 200 (fun _ => 0)) ∧ h1 b7 = some (arI cI 200 (fun _ => 0)) ∧ h1 b8 = some (arI cI 200 (fun _ => 0)) ∧ FrM h0 h1 ∧ Bk D z s.heap h1 H locs := ⟨_, hup_new hq_b8 he, hup_new hq_b8 ha_0, hup_new hq_b8 ha_1, hup_new hq_b8 ha_2, hup_new hq_b8 ha_3, hup_new hq_b8 ha_4, hup_new hq_b8 ha_5, hup_new hq_b8 ha_6, hup_new hq_b8 ha_7, hup_s _ _ _, hF.tr (FrM.new hq_b8), hB⟩
  refine m_putF hx hb hts (fun _ q => List.mem_cons_of_mem _ (List.mem_append_right _ q)) tyX4 tyX4_ok nmX4 hown hK hB he (ci := 4) rfl 10 (by decide) (List.mem_of_getElem? (i := 13) rfl) rfl rfl hnm rfl rfl rfl (Nat.le_of_ble_eq_true rfl) dX4_init_77 (fun H locs hB => ?_)
  obtain ⟨h1, he, ha_0, ha_1, ha_2, ha_3, ha_4, ha_5, ha_6, ha_7, ha_8, hF, hB⟩ : ∃ h1 : Hp, h1 xm = some (.inr (4, [.int 0, .ref b0, .ref b1, .ref b2, .ref b3, .ref b4, .int 0, .ref b5, .ref b6, .ref b7, .ref b8, .int 0, .int 0])) ∧ h1 b0 = some (arI cI 16 (fun _ => 0)) ∧ h1 b1 = some (arI cI 16 (fun _ => 0)) ∧ h1 b2 = some (arI cI 16 (fun _ => 0)) ∧ h1 b3 = some (arI cI 16 (fun _ => 0)) ∧ h1 b4 = some (arI cI 16 (fun _ => 0)) ∧ h1 b5 = some (arI cI 200 (fun _ => 0)) ∧ h1 b6 = some (arI cI 200 (fun _ => 0)) ∧ h1 b7 = some (arI cI 200 (fun _ => 0)) ∧ h1 b8 = some (arI cI 200 (fun _ => 0)) ∧ FrM h0 h1 ∧ Bk D z s.heap h1 H locs := ⟨_, hup_s _ _ _, (hup_n (fun w => by rw [w, he] at ha_0; cases ha_0)).trans ha_0, (hup_n (fun w => by rw [w, he] at ha_1; cases ha_1)).trans ha_1, (hup_n (fun w => by rw [w, he] at ha_2; cases ha_2)).trans ha_2, (hup_n (fun w => by rw [w, he] at ha_3; cases ha_3)).trans ha_3, (hup_n (fun w => by rw [w, he] at ha_4; cases ha_4)).trans ha_4, (hup_n (fun w => by rw [w, he] at ha_5; cases ha_5)).trans ha_5, (hup_n (fun w => by rw [w, he] at ha_6; cases ha_6)).trans ha_6, (hup_n (fun w => by rw [w, he] at ha_7; cases ha_7)).trans ha_7, (hup_n (fun w => by rw [w, he] at ha_8; cases ha_8)).trans ha_8, hF.tr (FrM.up he (Or.inl rfl)), hB⟩
  exact m_vret hx hb hr hlocks hB (by decide) (by decide) dX4_init_80 ⟨(fun g => [b0, b1, b2, b3, b4, b5, b6, b7, b8].getD g 0), rfl, ⟨he, fun g hg => (by
    match g, hg with
    | 0, _ => exact ⟨_, ha_0, fun i hi => zI32⟩
    | 1, _ => exact ⟨_, ha_1, fun i hi => zI32⟩
    | 2, _ => exact ⟨_, ha_2, fun i hi => zI32⟩
    | 3, _ => exact ⟨_, ha_3, fun i hi => zI32⟩
    | 4, _ => exact ⟨_, ha_4, fun i hi => zI32⟩
    | 5, _ => exact ⟨_, ha_5, fun i hi => zI32⟩
    | 6, _ => exact ⟨_, ha_6, fun i hi => zI32⟩
    | 7, _ => exact ⟨_, ha_7, fun i hi => zI32⟩
    | 8, _ => exact ⟨_, ha_8, fun i hi => zI32⟩
    | n + 9, w => exact absurd w (by omega)
    ), fun g g2 hg hg2 w => (by
    match g, g2, hg, hg2, w with
    | 0, 0, _, _, w => exact rfl
    | 0, 1, _, _, w => exact absurd w ne_0_1
    | 0, 2, _, _, w => exact absurd w ne_0_2
    | 0, 3, _, _, w => exact absurd w ne_0_3
    | 0, 4, _, _, w => exact absurd w ne_0_4
    | 0, 5, _, _, w => exact absurd w ne_0_5
    | 0, 6, _, _, w => exact absurd w ne_0_6
    | 0, 7, _, _, w => exact absurd w ne_0_7
    | 0, 8, _, _, w => exact absurd w ne_0_8
    | 0, n + 9, _, u, _ => exact absurd u (by omega)
    | 1, 0, _, _, w => exact absurd w.symm ne_0_1
    | 1, 1, _, _, w => exact rfl
    | 1, 2, _, _, w => exact absurd w ne_1_2
    | 1, 3, _, _, w => exact absurd w ne_1_3
    | 1, 4, _, _, w => exact absurd w ne_1_4
    | 1, 5, _, _, w => exact absurd w ne_1_5
    | 1, 6, _, _, w => exact absurd w ne_1_6
    | 1, 7, _, _, w => exact absurd w ne_1_7
    | 1, 8, _, _, w => exact absurd w ne_1_8
    | 1, n + 9, _, u, _ => exact absurd u (by omega)
    | 2, 0, _, _, w => exact absurd w.symm ne_0_2
    | 2, 1, _, _, w => exact absurd w.symm ne_1_2
    | 2, 2, _, _, w => exact rfl
    | 2, 3, _, _, w => exact absurd w ne_2_3
    | 2, 4, _, _, w => exact absurd w ne_2_4
    | 2, 5, _, _, w => exact absurd w ne_2_5
    | 2, 6, _, _, w => exact absurd w ne_2_6
    | 2, 7, _, _, w => exact absurd w ne_2_7
    | 2, 8, _, _, w => exact absurd w ne_2_8
    | 2, n + 9, _, u, _ => exact absurd u (by omega)
    | 3, 0, _, _, w => exact absurd w.symm ne_0_3
    | 3, 1, _, _, w => exact absurd w.symm ne_1_3
    | 3, 2, _, _, w => exact absurd w.symm ne_2_3
    | 3, 3, _, _, w => exact rfl
    | 3, 4, _, _, w => exact absurd w ne_3_4
    | 3, 5, _, _, w => exact absurd w ne_3_5
    | 3, 6, _, _, w => exact absurd w ne_3_6
    | 3, 7, _, _, w => exact absurd w ne_3_7
    | 3, 8, _, _, w => exact absurd w ne_3_8
    | 3, n + 9, _, u, _ => exact absurd u (by omega)
    | 4, 0, _, _, w => exact absurd w.symm ne_0_4
    | 4, 1, _, _, w => exact absurd w.symm ne_1_4
    | 4, 2, _, _, w => exact absurd w.symm ne_2_4
    | 4, 3, _, _, w => exact absurd w.symm ne_3_4
    | 4, 4, _, _, w => exact rfl
    | 4, 5, _, _, w => exact absurd w ne_4_5
    | 4, 6, _, _, w => exact absurd w ne_4_6
    | 4, 7, _, _, w => exact absurd w ne_4_7
    | 4, 8, _, _, w => exact absurd w ne_4_8
    | 4, n + 9, _, u, _ => exact absurd u (by omega)
    | 5, 0, _, _, w => exact absurd w.symm ne_0_5
    | 5, 1, _, _, w => exact absurd w.symm ne_1_5
    | 5, 2, _, _, w => exact absurd w.symm ne_2_5
    | 5, 3, _, _, w => exact absurd w.symm ne_3_5
    | 5, 4, _, _, w => exact absurd w.symm ne_4_5
    | 5, 5, _, _, w => exact rfl
    | 5, 6, _, _, w => exact absurd w ne_5_6
    | 5, 7, _, _, w => exact absurd w ne_5_7
    | 5, 8, _, _, w => exact absurd w ne_5_8
    | 5, n + 9, _, u, _ => exact absurd u (by omega)
    | 6, 0, _, _, w => exact absurd w.symm ne_0_6
    | 6, 1, _, _, w => exact absurd w.symm ne_1_6
    | 6, 2, _, _, w => exact absurd w.symm ne_2_6
    | 6, 3, _, _, w => exact absurd w.symm ne_3_6
    | 6, 4, _, _, w => exact absurd w.symm ne_4_6
    | 6, 5, _, _, w => exact absurd w.symm ne_5_6
    | 6, 6, _, _, w => exact rfl
    | 6, 7, _, _, w => exact absurd w ne_6_7
    | 6, 8, _, _, w => exact absurd w ne_6_8
    | 6, n + 9, _, u, _ => exact absurd u (by omega)
    | 7, 0, _, _, w => exact absurd w.symm ne_0_7
    | 7, 1, _, _, w => exact absurd w.symm ne_1_7
    | 7, 2, _, _, w => exact absurd w.symm ne_2_7
    | 7, 3, _, _, w => exact absurd w.symm ne_3_7
    | 7, 4, _, _, w => exact absurd w.symm ne_4_7
    | 7, 5, _, _, w => exact absurd w.symm ne_5_7
    | 7, 6, _, _, w => exact absurd w.symm ne_6_7
    | 7, 7, _, _, w => exact rfl
    | 7, 8, _, _, w => exact absurd w ne_7_8
    | 7, n + 9, _, u, _ => exact absurd u (by omega)
    | 8, 0, _, _, w => exact absurd w.symm ne_0_8
    | 8, 1, _, _, w => exact absurd w.symm ne_1_8
    | 8, 2, _, _, w => exact absurd w.symm ne_2_8
    | 8, 3, _, _, w => exact absurd w.symm ne_3_8
    | 8, 4, _, _, w => exact absurd w.symm ne_4_8
    | 8, 5, _, _, w => exact absurd w.symm ne_5_8
    | 8, 6, _, _, w => exact absurd w.symm ne_6_8
    | 8, 7, _, _, w => exact absurd w.symm ne_7_8
    | 8, 8, _, _, w => exact rfl
    | 8, n + 9, _, u, _ => exact absurd u (by omega)
    | n + 9, _, u, _, _ => exact absurd u (by omega)
    )⟩, hF⟩

