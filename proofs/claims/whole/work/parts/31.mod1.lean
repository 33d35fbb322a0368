abbrev rmX4_isIn : Room := { frames := 0, cells := 0, slots := 0, locals := 0 }
set_option maxHeartbeats 4000000 in
set_option maxRecDepth 100000 in
theorem k_X4_isIn {l : Launch} {D : va_G} {z : Nat} {cI cP cR cJ : ClassId} {h : Hp} {a lo hi : Int} (ra : rg a) (rl : rg lo) (rh : rg hi) : Ct l D z (tyL cI cP cR cJ) yX4_isIn wsX4_isIn rmX4_isIn [.int (iI a), .int (iI lo), .int (iI hi)] h (fun v u => v = some (.int (iI (b2 (lo ≤ a ∧ a ≤ hi)))) ∧ h = u) := by
  refine Ct.of (cc := cX4_isIn) (maxL := 3) (ret := (some .boolean)) (by decide) rfl (Nat.le_of_ble_eq_true rfl) ?_
  intro p e s m args below meth c hx hb hr hts hown hlocks hml hnm hK hB ls hl
  have hl : lv_has ls 3 [(0, .int (iI a)), (1, .int (iI lo)), (2, .int (iI hi))] := hl
  refine lv_iload_n hx hb dX4_isIn_0 rfl (lv_at hl 0 rfl) ?_
  refine lv_iload_n hx hb dX4_isIn_1 rfl (lv_at hl 1 rfl) ?_
  refine j_icmp_lt (tgt := 14) hx hb dX4_isIn_2 (by decide) ⟨by omega, by omega⟩ ⟨by omega, by omega⟩ (fun c_1 => ?_) (fun c_1 => ?_)
  · refine j_iconst hx hb dX4_isIn_14 ?_
    exact m_zret hx hb hr (by decide) hlocks hB (by decide) (by decide) dX4_isIn_15 ⟨ret_f (by omega), rfl⟩
  · refine lv_iload_n hx hb dX4_isIn_5 rfl (lv_at hl 0 rfl) ?_
    refine lv_iload_n hx hb dX4_isIn_6 rfl (lv_at hl 2 rfl) ?_
    refine j_icmp_gt (tgt := 14) hx hb dX4_isIn_7 (by decide) ⟨by omega, by omega⟩ ⟨by omega, by omega⟩ (fun c_2 => ?_) (fun c_2 => ?_)
    · refine j_iconst hx hb dX4_isIn_14 ?_
      exact m_zret hx hb hr (by decide) hlocks hB (by decide) (by decide) dX4_isIn_15 ⟨ret_f (by omega), rfl⟩
    · refine j_iconst hx hb dX4_isIn_10 ?_
      refine lv_goto (tgt := 15) hx hb dX4_isIn_11 (by decide) ?_
      exact m_zret hx hb hr (by decide) hlocks hB (by decide) (by decide) dX4_isIn_15 ⟨ret_t (by omega), rfl⟩

abbrev rmX4_isKey : Room := { frames := 1, cells := 0, slots := 0, locals := 22 }
set_option maxHeartbeats 4000000 in
set_option maxRecDepth 100000 in
theorem k_X4_isKey {l : Launch} {D : va_G} {z : Nat} {cI cP cR cJ : ClassId} {h : Hp} {k : Int} (rk : rg k) : Ct l D z (tyL cI cP cR cJ) yX4_isKey wsX4_isKey rmX4_isKey [.int (iI k)] h (fun v u => v = some (.int (iI (b2 (0 ≤ k ∧ k ≤ 999)))) ∧ h = u) := by
  refine Ct.of (cc := cX4_isKey) (maxL := 1) (ret := (some .boolean)) (by decide) rfl (Nat.le_of_ble_eq_true rfl) ?_
  intro p e s m args below meth c hx hb hr hts hown hlocks hml hnm hK hB ls hl
  have hl : lv_has ls 1 [(0, .int (iI k))] := hl
  refine lv_iload_n hx hb dX4_isKey_0 rfl (lv_at hl 0 rfl) ?_
  refine j_iconst hx hb dX4_isKey_1 ?_
  refine j_sipush hx hb dX4_isKey_2 (by decide) ?_
  refine m_run (va_runS (As := [.int (iI k), .int (iI 0), .int (iI 999)]) (rest := []) ⟨hx, hb, hml, hown, hts⟩ (k_X4_isIn (l := l) ⟨by omega, by omega⟩ ⟨by decide, by decide⟩ ⟨by decide, by decide⟩) (va_cwS 3 hts gX4_isKey_X4_isIn rfl rfl rfl (by decide +kernel) ⟨by decide, by decide⟩) ⟨Kp.blind _ _ _ _ _, fun U hU hW => hK.pass hB U hU hW⟩ rfl rfl hl.1 rfl (lv_room (Nat.le_of_ble_eq_true rfl)) dX4_isKey_5 ⟨Nat.le_of_ble_eq_true rfl, Nat.le_of_ble_eq_true rfl⟩) hB (fun v u H locs hp_1 hB => ?_)
  obtain ⟨rfl, rfl⟩ := hp_1
  show W _ _ _ _ _ _ _ _ _ _ _ _ _ _ _ (F0 m 8 ls [.int (iI (b2 (0 ≤ k ∧ k ≤ 999)))])
  exact m_zret hx hb hr (b2_nb _) hlocks hB (by decide) (by decide) dX4_isKey_8 ⟨rfl, rfl⟩

abbrev rmX4_isShape : Room := { frames := 2, cells := 0, slots := 0, locals := 42 }
set_option maxHeartbeats 4000000 in
set_option maxRecDepth 100000 in
theorem k_X4_isShape {l : Launch} {D : va_G} {z : Nat} {cI cP cR cJ : ClassId} {h : Hp} {lo en k d : Int} (rl : rg lo) (re : rg en) (rk : rg k) (rd : rg d) : Ct l D z (tyL cI cP cR cJ) yX4_isShape wsX4_isShape rmX4_isShape [.int (iI lo), .int (iI en), .int (iI k), .int (iI d)] h (fun v u => v = some (.int (iI (b2 (okR lo en ∧ okK k d)))) ∧ h = u) := by
  refine Ct.of (cc := cX4_isShape) (maxL := 5) (ret := (some .boolean)) (by decide) rfl (Nat.le_of_ble_eq_true rfl) ?_
  intro p e s m args below meth c hx hb hr hts hown hlocks hml hnm hK hB ls hl
  have hl : lv_has ls 5 [(0, .int (iI lo)), (1, .int (iI en)), (2, .int (iI k)), (3, .int (iI d))] := hl
  refine lv_iload_n hx hb dX4_isShape_0 rfl (lv_at hl 2 rfl) ?_
  refine j_if_ne (tgt := 16) hx hb dX4_isShape_1 (by decide) ⟨by omega, by omega⟩ (fun c_1 => ?_) (fun c_1 => ?_)
  · refine lv_iload_n hx hb dX4_isShape_16 rfl (lv_at hl 2 rfl) ?_
    refine j_iconst hx hb dX4_isShape_17 ?_
    refine j_icmp_ne (tgt := 32) hx hb dX4_isShape_18 (by decide) ⟨by omega, by omega⟩ ⟨by decide, by decide⟩ (fun c_2 => ?_) (fun c_2 => ?_)
    · refine lv_iload_n hx hb dX4_isShape_32 rfl (lv_at hl 3 rfl) ?_
      refine j_iconst hx hb dX4_isShape_33 ?_
      refine j_iconst hx hb dX4_isShape_34 ?_
      refine m_run (va_runS (As := [.int (iI d), .int (iI 1), .int (iI 5)]) (rest := []) ⟨hx, hb, hml, hown, hts⟩ (k_X4_isIn (l := l) ⟨by omega, by omega⟩ ⟨by decide, by decide⟩ ⟨by decide, by decide⟩) (va_cwS 3 hts gX4_isShape_X4_isIn rfl rfl rfl (by decide +kernel) ⟨by decide, by decide⟩) ⟨Kp.blind _ _ _ _ _, fun U hU hW => hK.pass hB U hU hW⟩ rfl rfl hl.1 rfl (lv_room (Nat.le_of_ble_eq_true rfl)) dX4_isShape_35 ⟨Nat.le_of_ble_eq_true rfl, Nat.le_of_ble_eq_true rfl⟩) hB (fun v u H locs hp_3 hB => ?_)
      obtain ⟨rfl, rfl⟩ := hp_3
      show W _ _ _ _ _ _ _ _ _ _ _ _ _ _ _ (F0 m 38 ls [.int (iI (b2 (1 ≤ d ∧ d ≤ 5)))])
      refine lv_istore (lv' := [(4, .int (iI (b2 (1 ≤ d ∧ d ≤ 5)))), (0, .int (iI lo)), (1, .int (iI en)), (2, .int (iI k)), (3, .int (iI d))]) hx hb dX4_isShape_38 hl (by decide) rfl (fun ls hl => ?_)
      refine lv_iload_n hx hb dX4_isShape_40 rfl (lv_at hl 1 rfl) ?_
      refine m_run (va_runS (As := [.int (iI lo)]) (rest := []) ⟨hx, hb, hml, hown, hts⟩ (k_X4_isKey (l := l) ⟨by omega, by omega⟩) (va_cwS 1 hts gX4_isShape_X4_isKey rfl rfl rfl (by decide +kernel) ⟨by decide, by decide⟩) ⟨Kp.blind _ _ _ _ _, fun U hU hW => hK.pass hB U hU hW⟩ rfl rfl hl.1 rfl (lv_room (Nat.le_of_ble_eq_true rfl)) dX4_isShape_41 ⟨Nat.le_of_ble_eq_true rfl, Nat.le_of_ble_eq_true rfl⟩) hB (fun v u H locs hp_4 hB => ?_)
      obtain ⟨rfl, rfl⟩ := hp_4
      show W _ _ _ _ _ _ _ _ _ _ _ _ _ _ _ (F0 m 44 ls [.int (iI (b2 (0 ≤ lo ∧ lo ≤ 999)))])
      refine j_ifeqP (tgt := 78) hx hb dX4_isShape_44 (by decide) (fun c_5 => ?_) (fun c_5 => ?_)
      · refine j_iconst hx hb dX4_isShape_78 ?_
        exact m_zret hx hb hr (by decide) hlocks hB (by decide) (by decide) dX4_isShape_79 ⟨ret_f (by unfold okR okK; omega), rfl⟩
      · refine lv_iload_n hx hb dX4_isShape_47 rfl (lv_at hl 2 rfl) ?_
        refine lv_iload_n hx hb dX4_isShape_48 rfl (lv_at hl 1 rfl) ?_
        refine j_iconst hx hb dX4_isShape_49 ?_
        refine j_iadd hx hb dX4_isShape_50 ?_
        refine j_sipush hx hb dX4_isShape_51 (by decide) ?_
        refine m_run (va_runS (As := [.int (iI en), .int (iI (lo + 1)), .int (iI 1000)]) (rest := []) ⟨hx, hb, hml, hown, hts⟩ (k_X4_isIn (l := l) ⟨by omega, by omega⟩ ⟨by omega, by omega⟩ ⟨by decide, by decide⟩) (va_cwS 3 hts gX4_isShape_X4_isIn rfl rfl rfl (by decide +kernel) ⟨by decide, by decide⟩) ⟨Kp.blind _ _ _ _ _, fun U hU hW => hK.pass hB U hU hW⟩ rfl rfl hl.1 rfl (lv_room (Nat.le_of_ble_eq_true rfl)) dX4_isShape_54 ⟨Nat.le_of_ble_eq_true rfl, Nat.le_of_ble_eq_true rfl⟩) hB (fun v u H locs hp_6 hB => ?_)
        obtain ⟨rfl, rfl⟩ := hp_6
        show W _ _ _ _ _ _ _ _ _ _ _ _ _ _ _ (F0 m 57 ls [.int (iI (b2 ((lo + 1) ≤ en ∧ en ≤ 1000)))])
        refine j_ifeqP (tgt := 78) hx hb dX4_isShape_57 (by decide) (fun c_7 => ?_) (fun c_7 => ?_)
        · refine j_iconst hx hb dX4_isShape_78 ?_
          exact m_zret hx hb hr (by decide) hlocks hB (by decide) (by decide) dX4_isShape_79 ⟨ret_f (by unfold okR okK; omega), rfl⟩
        · refine lv_iload_n hx hb dX4_isShape_60 rfl (lv_at hl 3 rfl) ?_
          refine j_iconst hx hb dX4_isShape_61 ?_
          refine j_iconst hx hb dX4_isShape_62 ?_
          refine m_run (va_runS (As := [.int (iI k), .int (iI 0), .int (iI 2)]) (rest := []) ⟨hx, hb, hml, hown, hts⟩ (k_X4_isIn (l := l) ⟨by omega, by omega⟩ ⟨by decide, by decide⟩ ⟨by decide, by decide⟩) (va_cwS 3 hts gX4_isShape_X4_isIn rfl rfl rfl (by decide +kernel) ⟨by decide, by decide⟩) ⟨Kp.blind _ _ _ _ _, fun U hU hW => hK.pass hB U hU hW⟩ rfl rfl hl.1 rfl (lv_room (Nat.le_of_ble_eq_true rfl)) dX4_isShape_63 ⟨Nat.le_of_ble_eq_true rfl, Nat.le_of_ble_eq_true rfl⟩) hB (fun v u H locs hp_8 hB => ?_)
          obtain ⟨rfl, rfl⟩ := hp_8
          show W _ _ _ _ _ _ _ _ _ _ _ _ _ _ _ (F0 m 66 ls [.int (iI (b2 (0 ≤ k ∧ k ≤ 2)))])
          refine j_ifeqP (tgt := 78) hx hb dX4_isShape_66 (by decide) (fun c_9 => ?_) (fun c_9 => ?_)
          · refine j_iconst hx hb dX4_isShape_78 ?_
            exact m_zret hx hb hr (by decide) hlocks hB (by decide) (by decide) dX4_isShape_79 ⟨ret_f (by unfold okR okK; omega), rfl⟩
          · refine lv_iload hx hb dX4_isShape_69 (lv_at hl 0 rfl) ?_
            refine j_ifeqP (tgt := 78) hx hb dX4_isShape_71 (by decide) (fun c_10 => ?_) (fun c_10 => ?_)
            · refine j_iconst hx hb dX4_isShape_78 ?_
              exact m_zret hx hb hr (by decide) hlocks hB (by decide) (by decide) dX4_isShape_79 ⟨ret_f (by unfold okR okK; omega), rfl⟩
            · refine j_iconst hx hb dX4_isShape_74 ?_
              refine lv_goto (tgt := 79) hx hb dX4_isShape_75 (by decide) ?_
              exact m_zret hx hb hr (by decide) hlocks hB (by decide) (by decide) dX4_isShape_79 ⟨ret_t (by unfold okR okK; omega), rfl⟩
    · refine lv_iload_n hx hb dX4_isShape_21 rfl (lv_at hl 3 rfl) ?_
      refine j_iconst hx hb dX4_isShape_22 ?_
      refine j_sipush hx hb dX4_isShape_23 (by decide) ?_
      refine m_run (va_runS (As := [.int (iI d), .int (iI 1), .int (iI 1022)]) (rest := []) ⟨hx, hb, hml, hown, hts⟩ (k_X4_isIn (l := l) ⟨by omega, by omega⟩ ⟨by decide, by decide⟩ ⟨by decide, by decide⟩) (va_cwS 3 hts gX4_isShape_X4_isIn rfl rfl rfl (by decide +kernel) ⟨by decide, by decide⟩) ⟨Kp.blind _ _ _ _ _, fun U hU hW => hK.pass hB U hU hW⟩ rfl rfl hl.1 rfl (lv_room (Nat.le_of_ble_eq_true rfl)) dX4_isShape_26 ⟨Nat.le_of_ble_eq_true rfl, Nat.le_of_ble_eq_true rfl⟩) hB (fun v u H locs hp_11 hB => ?_)
      obtain ⟨rfl, rfl⟩ := hp_11
      show W _ _ _ _ _ _ _ _ _ _ _ _ _ _ _ (F0 m 29 ls [.int (iI (b2 (1 ≤ d ∧ d ≤ 1022)))])
      refine lv_goto (tgt := 38) hx hb dX4_isShape_29 (by decide) ?_
      refine lv_istore (lv' := [(4, .int (iI (b2 (1 ≤ d ∧ d ≤ 1022)))), (0, .int (iI lo)), (1, .int (iI en)), (2, .int (iI k)), (3, .int (iI d))]) hx hb dX4_isShape_38 hl (by decide) rfl (fun ls hl => ?_)
      refine lv_iload_n hx hb dX4_isShape_40 rfl (lv_at hl 1 rfl) ?_
      refine m_run (va_runS (As := [.int (iI lo)]) (rest := []) ⟨hx, hb, hml, hown, hts⟩ (k_X4_isKey (l := l) ⟨by omega, by omega⟩) (va_cwS 1 hts gX4_isShape_X4_isKey rfl rfl rfl (by decide +kernel) ⟨by decide, by decide⟩) ⟨Kp.blind _ _ _ _ _, fun U hU hW => hK.pass hB U hU hW⟩ rfl rfl hl.1 rfl (lv_room (Nat.le_of_ble_eq_true rfl)) dX4_isShape_41 ⟨Nat.le_of_ble_eq_true rfl, Nat.le_of_ble_eq_true rfl⟩) hB (fun v u H locs hp_12 hB => ?_)
      obtain ⟨rfl, rfl⟩ := hp_12
      show W _ _ _ _ _ _ _ _ _ _ _ _ _ _ _ (F0 m 44 ls [.int (iI (b2 (0 ≤ lo ∧ lo ≤ 999)))])
      refine j_ifeqP (tgt := 78) hx hb dX4_isShape_44 (by decide) (fun c_13 => ?_) (fun c_13 => ?_)
      · refine j_iconst hx hb dX4_isShape_78 ?_
        exact m_zret hx hb hr (by decide) hlocks hB (by decide) (by decide) dX4_isShape_79 ⟨ret_f (by unfold okR okK; omega), rfl⟩
      · refine lv_iload_n hx hb dX4_isShape_47 rfl (lv_at hl 2 rfl) ?_
        refine lv_iload_n hx hb dX4_isShape_48 rfl (lv_at hl 1 rfl) ?_
        refine j_iconst hx hb dX4_isShape_49 ?_
        refine j_iadd hx hb dX4_isShape_50 ?_
        refine j_sipush hx hb dX4_isShape_51 (by decide) ?_
        refine m_run (va_runS (As := [.int (iI en), .int (iI (lo + 1)), .int (iI 1000)]) (rest := []) ⟨hx, hb, hml, hown, hts⟩ (k_X4_isIn (l := l) ⟨by omega, by omega⟩ ⟨by omega, by omega⟩ ⟨by decide, by decide⟩) (va_cwS 3 hts gX4_isShape_X4_isIn rfl rfl rfl (by decide +kernel) ⟨by decide, by decide⟩) ⟨Kp.blind _ _ _ _ _, fun U hU hW => hK.pass hB U hU hW⟩ rfl rfl hl.1 rfl (lv_room (Nat.le_of_ble_eq_true rfl)) dX4_isShape_54 ⟨Nat.le_of_ble_eq_true rfl, Nat.le_of_ble_eq_true rfl⟩) hB (fun v u H locs hp_14 hB => ?_)
        obtain ⟨rfl, rfl⟩ := hp_14
        show W _ _ _ _ _ _ _ _ _ _ _ _ _ _ _ (F0 m 57 ls [.int (iI (b2 ((lo + 1) ≤ en ∧ en ≤ 1000)))])
        refine j_ifeqP (tgt := 78) hx hb dX4_isShape_57 (by decide) (fun c_15 => ?_) (fun c_15 => ?_)
        · refine j_iconst hx hb dX4_isShape_78 ?_
          exact m_zret hx hb hr (by decide) hlocks hB (by decide) (by decide) dX4_isShape_79 ⟨ret_f (by unfold okR okK; omega), rfl⟩
        · refine lv_iload_n hx hb dX4_isShape_60 rfl (lv_at hl 3 rfl) ?_
          refine j_iconst hx hb dX4_isShape_61 ?_
          refine j_iconst hx hb dX4_isShape_62 ?_
          refine m_run (va_runS (As := [.int (iI k), .int (iI 0), .int (iI 2)]) (rest := []) ⟨hx, hb, hml, hown, hts⟩ (k_X4_isIn (l := l) ⟨by omega, by omega⟩ ⟨by decide, by decide⟩ ⟨by decide, by decide⟩) (va_cwS 3 hts gX4_isShape_X4_isIn rfl rfl rfl (by decide +kernel) ⟨by decide, by decide⟩) ⟨Kp.blind _ _ _ _ _, fun U hU hW => hK.pass hB U hU hW⟩ rfl rfl hl.1 rfl (lv_room (Nat.le_of_ble_eq_true rfl)) dX4_isShape_63 ⟨Nat.le_of_ble_eq_true rfl, Nat.le_of_ble_eq_true rfl⟩) hB (fun v u H locs hp_16 hB => ?_)
          obtain ⟨rfl, rfl⟩ := hp_16
          show W _ _ _ _ _ _ _ _ _ _ _ _ _ _ _ (F0 m 66 ls [.int (iI (b2 (0 ≤ k ∧ k ≤ 2)))])
          refine j_ifeqP (tgt := 78) hx hb dX4_isShape_66 (by decide) (fun c_17 => ?_) (fun c_17 => ?_)
          · refine j_iconst hx hb dX4_isShape_78 ?_
            exact m_zret hx hb hr (by decide) hlocks hB (by decide) (by decide) dX4_isShape_79 ⟨ret_f (by unfold okR okK; omega), rfl⟩
          · refine lv_iload hx hb dX4_isShape_69 (lv_at hl 0 rfl) ?_
            refine j_ifeqP (tgt := 78) hx hb dX4_isShape_71 (by decide) (fun c_18 => ?_) (fun c_18 => ?_)
            · refine j_iconst hx hb dX4_isShape_78 ?_
              exact m_zret hx hb hr (by decide) hlocks hB (by decide) (by decide) dX4_isShape_79 ⟨ret_f (by unfold okR okK; omega), rfl⟩
            · refine j_iconst hx hb dX4_isShape_74 ?_
              refine lv_goto (tgt := 79) hx hb dX4_isShape_75 (by decide) ?_
              exact m_zret hx hb hr (by decide) hlocks hB (by decide) (by decide) dX4_isShape_79 ⟨ret_t (by unfold okR okK; omega), rfl⟩
  · refine lv_iload_n hx hb dX4_isShape_4 rfl (lv_at hl 3 rfl) ?_
    refine j_if_ne (tgt := 12) hx hb dX4_isShape_5 (by decide) ⟨by omega, by omega⟩ (fun c_19 => ?_) (fun c_19 => ?_)
    · refine j_iconst hx hb dX4_isShape_12 ?_
      refine lv_goto (tgt := 38) hx hb dX4_isShape_13 (by decide) ?_
      refine lv_istore (lv' := [(4, .int (iI 0)), (0, .int (iI lo)), (1, .int (iI en)), (2, .int (iI k)), (3, .int (iI d))]) hx hb dX4_isShape_38 hl (by decide) rfl (fun ls hl => ?_)
      refine lv_iload_n hx hb dX4_isShape_40 rfl (lv_at hl 1 rfl) ?_
      refine m_run (va_runS (As := [.int (iI lo)]) (rest := []) ⟨hx, hb, hml, hown, hts⟩ (k_X4_isKey (l := l) ⟨by omega, by omega⟩) (va_cwS 1 hts gX4_isShape_X4_isKey rfl rfl rfl (by decide +kernel) ⟨by decide, by decide⟩) ⟨Kp.blind _ _ _ _ _, fun U hU hW => hK.pass hB U hU hW⟩ rfl rfl hl.1 rfl (lv_room (Nat.le_of_ble_eq_true rfl)) dX4_isShape_41 ⟨Nat.le_of_ble_eq_true rfl, Nat.le_of_ble_eq_true rfl⟩) hB (fun v u H locs hp_20 hB => ?_)
      obtain ⟨rfl, rfl⟩ := hp_20
      show W _ _ _ _ _ _ _ _ _ _ _ _ _ _ _ (F0 m 44 ls [.int (iI (b2 (0 ≤ lo ∧ lo ≤ 999)))])
      refine j_ifeqP (tgt := 78) hx hb dX4_isShape_44 (by decide) (fun c_21 => ?_) (fun c_21 => ?_)
      · refine j_iconst hx hb dX4_isShape_78 ?_
        exact m_zret hx hb hr (by decide) hlocks hB (by decide) (by decide) dX4_isShape_79 ⟨ret_f (by unfold okR okK; omega), rfl⟩
      · refine lv_iload_n hx hb dX4_isShape_47 rfl (lv_at hl 2 rfl) ?_
        refine lv_iload_n hx hb dX4_isShape_48 rfl (lv_at hl 1 rfl) ?_
        refine j_iconst hx hb dX4_isShape_49 ?_
        refine j_iadd hx hb dX4_isShape_50 ?_
        refine j_sipush hx hb dX4_isShape_51 (by decide) ?_
        refine m_run (va_runS (As := [.int (iI en), .int (iI (lo + 1)), .int (iI 1000)]) (rest := []) ⟨hx, hb, hml, hown, hts⟩ (k_X4_isIn (l := l) ⟨by omega, by omega⟩ ⟨by omega, by omega⟩ ⟨by decide, by decide⟩) (va_cwS 3 hts gX4_isShape_X4_isIn rfl rfl rfl (by decide +kernel) ⟨by decide, by decide⟩) ⟨Kp.blind _ _ _ _ _, fun U hU hW => hK.pass hB U hU hW⟩ rfl rfl hl.1 rfl (lv_room (Nat.le_of_ble_eq_true rfl)) dX4_isShape_54 ⟨Nat.le_of_ble_eq_true rfl, Nat.le_of_ble_eq_true rfl⟩) hB (fun v u H locs hp_22 hB => ?_)
        obtain ⟨rfl, rfl⟩ := hp_22
        show W _ _ _ _ _ _ _ _ _ _ _ _ _ _ _ (F0 m 57 ls [.int (iI (b2 ((lo + 1) ≤ en ∧ en ≤ 1000)))])
        refine j_ifeqP (tgt := 78) hx hb dX4_isShape_57 (by decide) (fun c_23 => ?_) (fun c_23 => ?_)
        · refine j_iconst hx hb dX4_isShape_78 ?_
          exact m_zret hx hb hr (by decide) hlocks hB (by decide) (by decide) dX4_isShape_79 ⟨ret_f (by unfold okR okK; omega), rfl⟩
        · refine lv_iload_n hx hb dX4_isShape_60 rfl (lv_at hl 3 rfl) ?_
          refine j_iconst hx hb dX4_isShape_61 ?_
          refine j_iconst hx hb dX4_isShape_62 ?_
          refine m_run (va_runS (As := [.int (iI k), .int (iI 0), .int (iI 2)]) (rest := []) ⟨hx, hb, hml, hown, hts⟩ (k_X4_isIn (l := l) ⟨by omega, by omega⟩ ⟨by decide, by decide⟩ ⟨by decide, by decide⟩) (va_cwS 3 hts gX4_isShape_X4_isIn rfl rfl rfl (by decide +kernel) ⟨by decide, by decide⟩) ⟨Kp.blind _ _ _ _ _, fun U hU hW => hK.pass hB U hU hW⟩ rfl rfl hl.1 rfl (lv_room (Nat.le_of_ble_eq_true rfl)) dX4_isShape_63 ⟨Nat.le_of_ble_eq_true rfl, Nat.le_of_ble_eq_true rfl⟩) hB (fun v u H locs hp_24 hB => ?_)
          obtain ⟨rfl, rfl⟩ := hp_24
          show W _ _ _ _ _ _ _ _ _ _ _ _ _ _ _ (F0 m 66 ls [.int (iI (b2 (0 ≤ k ∧ k ≤ 2)))])
          refine j_ifeqP (tgt := 78) hx hb dX4_isShape_66 (by decide) (fun c_25 => ?_) (fun c_25 => ?_)
          · refine j_iconst hx hb dX4_isShape_78 ?_
            exact m_zret hx hb hr (by decide) hlocks hB (by decide) (by decide) dX4_isShape_79 ⟨ret_f (by unfold okR okK; omega), rfl⟩
          · refine lv_iload hx hb dX4_isShape_69 (lv_at hl 0 rfl) ?_
            refine j_if_eq (tgt := 78) hx hb dX4_isShape_71 (by decide) ⟨by decide, by decide⟩ (fun c_26 => ?_) (fun c_26 => absurd c_26 (by decide))
            refine j_iconst hx hb dX4_isShape_78 ?_
            exact m_zret hx hb hr (by decide) hlocks hB (by decide) (by decide) dX4_isShape_79 ⟨ret_f (by unfold okR okK; omega), rfl⟩
    · refine j_iconst hx hb dX4_isShape_8 ?_
      refine lv_goto (tgt := 38) hx hb dX4_isShape_9 (by decide) ?_
      refine lv_istore (lv' := [(4, .int (iI 1)), (0, .int (iI lo)), (1, .int (iI en)), (2, .int (iI k)), (3, .int (iI d))]) hx hb dX4_isShape_38 hl (by decide) rfl (fun ls hl => ?_)
      refine lv_iload_n hx hb dX4_isShape_40 rfl (lv_at hl 1 rfl) ?_
      refine m_run (va_runS (As := [.int (iI lo)]) (rest := []) ⟨hx, hb, hml, hown, hts⟩ (k_X4_isKey (l := l) ⟨by omega, by omega⟩) (va_cwS 1 hts gX4_isShape_X4_isKey rfl rfl rfl (by decide +kernel) ⟨by decide, by decide⟩) ⟨Kp.blind _ _ _ _ _, fun U hU hW => hK.pass hB U hU hW⟩ rfl rfl hl.1 rfl (lv_room (Nat.le_of_ble_eq_true rfl)) dX4_isShape_41 ⟨Nat.le_of_ble_eq_true rfl, Nat.le_of_ble_eq_true rfl⟩) hB (fun v u H locs hp_27 hB => ?_)
      obtain ⟨rfl, rfl⟩ := hp_27
      show W _ _ _ _ _ _ _ _ _ _ _ _ _ _ _ (F0 m 44 ls [.int (iI (b2 (0 ≤ lo ∧ lo ≤ 999)))])
      refine j_ifeqP (tgt := 78) hx hb dX4_isShape_44 (by decide) (fun c_28 => ?_) (fun c_28 => ?_)
      · refine j_iconst hx hb dX4_isShape_78 ?_
        exact m_zret hx hb hr (by decide) hlocks hB (by decide) (by decide) dX4_isShape_79 ⟨ret_f (by unfold okR okK; omega), rfl⟩
      · refine lv_iload_n hx hb dX4_isShape_47 rfl (lv_at hl 2 rfl) ?_
        refine lv_iload_n hx hb dX4_isShape_48 rfl (lv_at hl 1 rfl) ?_
        refine j_iconst hx hb dX4_isShape_49 ?_
        refine j_iadd hx hb dX4_isShape_50 ?_
        refine j_sipush hx hb dX4_isShape_51 (by decide) ?_
        refine m_run (va_runS (As := [.int (iI en), .int (iI (lo + 1)), .int (iI 1000)]) (rest := []) ⟨hx, hb, hml, hown, hts⟩ (k_X4_isIn (l := l) ⟨by omega, by omega⟩ ⟨by omega, by omega⟩ ⟨by decide, by decide⟩) (va_cwS 3 hts gX4_isShape_X4_isIn rfl rfl rfl (by decide +kernel) ⟨by decide, by decide⟩) ⟨Kp.blind _ _ _ _ _, fun U hU hW => hK.pass hB U hU hW⟩ rfl rfl hl.1 rfl (lv_room (Nat.le_of_ble_eq_true rfl)) dX4_isShape_54 ⟨Nat.le_of_ble_eq_true rfl, Nat.le_of_ble_eq_true rfl⟩) hB (fun v u H locs hp_29 hB => ?_)
        obtain ⟨rfl, rfl⟩ := hp_29
        show W _ _ _ _ _ _ _ _ _ _ _ _ _ _ _ (F0 m 57 ls [.int (iI (b2 ((lo + 1) ≤ en ∧ en ≤ 1000)))])
        refine j_ifeqP (tgt := 78) hx hb dX4_isShape_57 (by decide) (fun c_30 => ?_) (fun c_30 => ?_)
        · refine j_iconst hx hb dX4_isShape_78 ?_
          exact m_zret hx hb hr (by decide) hlocks hB (by decide) (by decide) dX4_isShape_79 ⟨ret_f (by unfold okR okK; omega), rfl⟩
        · refine lv_iload_n hx hb dX4_isShape_60 rfl (lv_at hl 3 rfl) ?_
          refine j_iconst hx hb dX4_isShape_61 ?_
          refine j_iconst hx hb dX4_isShape_62 ?_
          refine m_run (va_runS (As := [.int (iI k), .int (iI 0), .int (iI 2)]) (rest := []) ⟨hx, hb, hml, hown, hts⟩ (k_X4_isIn (l := l) ⟨by omega, by omega⟩ ⟨by decide, by decide⟩ ⟨by decide, by decide⟩) (va_cwS 3 hts gX4_isShape_X4_isIn rfl rfl rfl (by decide +kernel) ⟨by decide, by decide⟩) ⟨Kp.blind _ _ _ _ _, fun U hU hW => hK.pass hB U hU hW⟩ rfl rfl hl.1 rfl (lv_room (Nat.le_of_ble_eq_true rfl)) dX4_isShape_63 ⟨Nat.le_of_ble_eq_true rfl, Nat.le_of_ble_eq_true rfl⟩) hB (fun v u H locs hp_31 hB => ?_)
          obtain ⟨rfl, rfl⟩ := hp_31
          show W _ _ _ _ _ _ _ _ _ _ _ _ _ _ _ (F0 m 66 ls [.int (iI (b2 (0 ≤ k ∧ k ≤ 2)))])
          refine j_ifeqP (tgt := 78) hx hb dX4_isShape_66 (by decide) (fun c_32 => ?_) (fun c_32 => ?_)
          · refine j_iconst hx hb dX4_isShape_78 ?_
            exact m_zret hx hb hr (by decide) hlocks hB (by decide) (by decide) dX4_isShape_79 ⟨ret_f (by unfold okR okK; omega), rfl⟩
          · refine lv_iload hx hb dX4_isShape_69 (lv_at hl 0 rfl) ?_
            refine j_if_eq (tgt := 78) hx hb dX4_isShape_71 (by decide) ⟨by decide, by decide⟩ (fun c_33 => absurd c_33 (by decide)) (fun c_33 => ?_)
            refine j_iconst hx hb dX4_isShape_74 ?_
            refine lv_goto (tgt := 79) hx hb dX4_isShape_75 (by decide) ?_
            exact m_zret hx hb hr (by decide) hlocks hB (by decide) (by decide) dX4_isShape_79 ⟨ret_t (by unfold okR okK; omega), rfl⟩

abbrev rmX4_isShaped : Room := { frames := 2, cells := 0, slots := 0, locals := 42 }
set_option maxHeartbeats 4000000 in
set_option maxRecDepth 100000 in
theorem k_X4_isShaped {l : Launch} {D : va_G} {z : Nat} {cI cP cR cJ : ClassId} {h : Hp} {k s_ : Int} (rk : rg k) (rs : rg s_) : Ct l D z (tyL cI cP cR cJ) yX4_isShaped wsX4_isShaped rmX4_isShaped [.int (iI k), .int (iI s_)] h (fun v u => v = some (.int (iI (b2 ((0 ≤ k ∧ k ≤ 999) ∧ 0 ≤ s_ ∧ s_ ≤ 9)))) ∧ h = u) := by
  refine Ct.of (cc := cX4_isShaped) (maxL := 2) (ret := (some .boolean)) (by decide) rfl (Nat.le_of_ble_eq_true rfl) ?_
  intro p e s m args below meth c hx hb hr hts hown hlocks hml hnm hK hB ls hl
  have hl : lv_has ls 2 [(0, .int (iI k)), (1, .int (iI s_))] := hl
  refine lv_iload_n hx hb dX4_isShaped_0 rfl (lv_at hl 0 rfl) ?_
  refine m_run (va_runS (As := [.int (iI k)]) (rest := []) ⟨hx, hb, hml, hown, hts⟩ (k_X4_isKey (l := l) ⟨by omega, by omega⟩) (va_cwS 1 hts gX4_isShaped_X4_isKey rfl rfl rfl (by decide +kernel) ⟨by decide, by decide⟩) ⟨Kp.blind _ _ _ _ _, fun U hU hW => hK.pass hB U hU hW⟩ rfl rfl hl.1 rfl (lv_room (Nat.le_of_ble_eq_true rfl)) dX4_isShaped_1 ⟨Nat.le_of_ble_eq_true rfl, Nat.le_of_ble_eq_true rfl⟩) hB (fun v u H locs hp_1 hB => ?_)
  obtain ⟨rfl, rfl⟩ := hp_1
  show W _ _ _ _ _ _ _ _ _ _ _ _ _ _ _ (F0 m 4 ls [.int (iI (b2 (0 ≤ k ∧ k ≤ 999)))])
  refine j_ifeqP (tgt := 21) hx hb dX4_isShaped_4 (by decide) (fun c_2 => ?_) (fun c_2 => ?_)
  · refine j_iconst hx hb dX4_isShaped_21 ?_
    exact m_zret hx hb hr (by decide) hlocks hB (by decide) (by decide) dX4_isShaped_22 ⟨ret_f (by omega), rfl⟩
  · refine lv_iload_n hx hb dX4_isShaped_7 rfl (lv_at hl 1 rfl) ?_
    refine j_iconst hx hb dX4_isShaped_8 ?_
    refine j_bipush hx hb dX4_isShaped_9 (by decide) ?_
    refine m_run (va_runS (As := [.int (iI s_), .int (iI 0), .int (iI 9)]) (rest := []) ⟨hx, hb, hml, hown, hts⟩ (k_X4_isIn (l := l) ⟨by omega, by omega⟩ ⟨by decide, by decide⟩ ⟨by decide, by decide⟩) (va_cwS 3 hts gX4_isShaped_X4_isIn rfl rfl rfl (by decide +kernel) ⟨by decide, by decide⟩) ⟨Kp.blind _ _ _ _ _, fun U hU hW => hK.pass hB U hU hW⟩ rfl rfl hl.1 rfl (lv_room (Nat.le_of_ble_eq_true rfl)) dX4_isShaped_11 ⟨Nat.le_of_ble_eq_true rfl, Nat.le_of_ble_eq_true rfl⟩) hB (fun v u H locs hp_3 hB => ?_)
    obtain ⟨rfl, rfl⟩ := hp_3
    show W _ _ _ _ _ _ _ _ _ _ _ _ _ _ _ (F0 m 14 ls [.int (iI (b2 (0 ≤ s_ ∧ s_ ≤ 9)))])
    refine j_ifeqP (tgt := 21) hx hb dX4_isShaped_14 (by decide) (fun c_4 => ?_) (fun c_4 => ?_)
    · refine j_iconst hx hb dX4_isShaped_21 ?_
      exact m_zret hx hb hr (by decide) hlocks hB (by decide) (by decide) dX4_isShaped_22 ⟨ret_f (by omega), rfl⟩
    · refine j_iconst hx hb dX4_isShaped_17 ?_
      refine lv_goto (tgt := 22) hx hb dX4_isShaped_18 (by decide) ?_
      exact m_zret hx hb hr (by decide) hlocks hB (by decide) (by decide) dX4_isShaped_22 ⟨ret_t (by omega), rfl⟩

abbrev rmX4_isQuestion : Room := { frames := 2, cells := 0, slots := 0, locals := 42 }
set_option maxHeartbeats 4000000 in
set_option maxRecDepth 100000 in
theorem k_X4_isQuestion {l : Launch} {D : va_G} {z : Nat} {cI cP cR cJ : ClassId} {h : Hp} {lo hi so : Int} (rl : rg lo) (rh : rg hi) (rs : rg so) : Ct l D z (tyL cI cP cR cJ) yX4_isQuestion wsX4_isQuestion rmX4_isQuestion [.int (iI lo), .int (iI hi), .int (iI so)] h (fun v u => v = some (.int (iI (b2 (okQ lo hi so)))) ∧ h = u) := by
  refine Ct.of (cc := cX4_isQuestion) (maxL := 3) (ret := (some .boolean)) (by decide) rfl (Nat.le_of_ble_eq_true rfl) ?_
  intro p e s m args below meth c hx hb hr hts hown hlocks hml hnm hK hB ls hl
  have hl : lv_has ls 3 [(0, .int (iI lo)), (1, .int (iI hi)), (2, .int (iI so))] := hl
  refine lv_iload_n hx hb dX4_isQuestion_0 rfl (lv_at hl 0 rfl) ?_
  refine m_run (va_runS (As := [.int (iI lo)]) (rest := []) ⟨hx, hb, hml, hown, hts⟩ (k_X4_isKey (l := l) ⟨by omega, by omega⟩) (va_cwS 1 hts gX4_isQuestion_X4_isKey rfl rfl rfl (by decide +kernel) ⟨by decide, by decide⟩) ⟨Kp.blind _ _ _ _ _, fun U hU hW => hK.pass hB U hU hW⟩ rfl rfl hl.1 rfl (lv_room (Nat.le_of_ble_eq_true rfl)) dX4_isQuestion_1 ⟨Nat.le_of_ble_eq_true rfl, Nat.le_of_ble_eq_true rfl⟩) hB (fun v u H locs hp_1 hB => ?_)
  obtain ⟨rfl, rfl⟩ := hp_1
  show W _ _ _ _ _ _ _ _ _ _ _ _ _ _ _ (F0 m 4 ls [.int (iI (b2 (0 ≤ lo ∧ lo ≤ 999)))])
  refine j_ifeqP (tgt := 33) hx hb dX4_isQuestion_4 (by decide) (fun c_2 => ?_) (fun c_2 => ?_)
  · refine j_iconst hx hb dX4_isQuestion_33 ?_
    exact m_zret hx hb hr (by decide) hlocks hB (by decide) (by decide) dX4_isQuestion_34 ⟨ret_f (by unfold okQ; omega), rfl⟩
  · refine lv_iload_n hx hb dX4_isQuestion_7 rfl (lv_at hl 1 rfl) ?_
    refine lv_iload_n hx hb dX4_isQuestion_8 rfl (lv_at hl 0 rfl) ?_
    refine j_sipush hx hb dX4_isQuestion_9 (by decide) ?_
    refine m_run (va_runS (As := [.int (iI hi), .int (iI lo), .int (iI 999)]) (rest := []) ⟨hx, hb, hml, hown, hts⟩ (k_X4_isIn (l := l) ⟨by omega, by omega⟩ ⟨by omega, by omega⟩ ⟨by decide, by decide⟩) (va_cwS 3 hts gX4_isQuestion_X4_isIn rfl rfl rfl (by decide +kernel) ⟨by decide, by decide⟩) ⟨Kp.blind _ _ _ _ _, fun U hU hW => hK.pass hB U hU hW⟩ rfl rfl hl.1 rfl (lv_room (Nat.le_of_ble_eq_true rfl)) dX4_isQuestion_12 ⟨Nat.le_of_ble_eq_true rfl, Nat.le_of_ble_eq_true rfl⟩) hB (fun v u H locs hp_3 hB => ?_)
    obtain ⟨rfl, rfl⟩ := hp_3
    show W _ _ _ _ _ _ _ _ _ _ _ _ _ _ _ (F0 m 15 ls [.int (iI (b2 (lo ≤ hi ∧ hi ≤ 999)))])
    refine j_ifeqP (tgt := 33) hx hb dX4_isQuestion_15 (by decide) (fun c_4 => ?_) (fun c_4 => ?_)
    · refine j_iconst hx hb dX4_isQuestion_33 ?_
      exact m_zret hx hb hr (by decide) hlocks hB (by decide) (by decide) dX4_isQuestion_34 ⟨ret_f (by unfold okQ; omega), rfl⟩
    · refine lv_iload_n hx hb dX4_isQuestion_18 rfl (lv_at hl 2 rfl) ?_
      refine j_iconst hx hb dX4_isQuestion_19 ?_
      refine j_sipush hx hb dX4_isQuestion_20 (by decide) ?_
      refine m_run (va_runS (As := [.int (iI so), .int (iI 0), .int (iI 1023)]) (rest := []) ⟨hx, hb, hml, hown, hts⟩ (k_X4_isIn (l := l) ⟨by omega, by omega⟩ ⟨by decide, by decide⟩ ⟨by decide, by decide⟩) (va_cwS 3 hts gX4_isQuestion_X4_isIn rfl rfl rfl (by decide +kernel) ⟨by decide, by decide⟩) ⟨Kp.blind _ _ _ _ _, fun U hU hW => hK.pass hB U hU hW⟩ rfl rfl hl.1 rfl (lv_room (Nat.le_of_ble_eq_true rfl)) dX4_isQuestion_23 ⟨Nat.le_of_ble_eq_true rfl, Nat.le_of_ble_eq_true rfl⟩) hB (fun v u H locs hp_5 hB => ?_)
      obtain ⟨rfl, rfl⟩ := hp_5
      show W _ _ _ _ _ _ _ _ _ _ _ _ _ _ _ (F0 m 26 ls [.int (iI (b2 (0 ≤ so ∧ so ≤ 1023)))])
      refine j_ifeqP (tgt := 33) hx hb dX4_isQuestion_26 (by decide) (fun c_6 => ?_) (fun c_6 => ?_)
      · refine j_iconst hx hb dX4_isQuestion_33 ?_
        exact m_zret hx hb hr (by decide) hlocks hB (by decide) (by decide) dX4_isQuestion_34 ⟨ret_f (by unfold okQ; omega), rfl⟩
      · refine j_iconst hx hb dX4_isQuestion_29 ?_
        refine lv_goto (tgt := 34) hx hb dX4_isQuestion_30 (by decide) ?_
        exact m_zret hx hb hr (by decide) hlocks hB (by decide) (by decide) dX4_isQuestion_34 ⟨ret_t (by unfold okQ; omega), rfl⟩

abbrev rmX4_isPart : Room := { frames := 1, cells := 0, slots := 0, locals := 22 }
set_option maxHeartbeats 4000000 in
set_option maxRecDepth 100000 in
theorem k_X4_isPart {l : Launch} {D : va_G} {z : Nat} {cI cP cR cJ : ClassId} {h : Hp} {xm : Nat} {xa : Nat → Nat} {σ : Sg} {th : Int} (hM : MR cI xm xa σ th h) (hI : Ib σ) {n : Int} (rn : rg n) : Ct l D z (tyL cI cP cR cJ) yX4_isPart wsX4_isPart rmX4_isPart [.ref xm, .int (iI n)] h (fun v u => v = some (.int (iI (b2 (isP σ n)))) ∧ h = u) := by
  refine Ct.of (cc := cX4_isPart) (maxL := 2) (ret := (some .boolean)) (by decide) rfl (Nat.le_of_ble_eq_true rfl) ?_
  intro p e s m args below meth c hx hb hr hts hown hlocks hml hnm hK hB ls hl
  have hl : lv_has ls 2 [(0, .ref xm), (1, .int (iI n))] := hl
  have hnp := hI.hnp
  have hnr := hI.hnr
  have hnrI := hI.nrI
  have hnpI := hI.npI
  have hre := hI.rest
  refine lv_iload_n hx hb dX4_isPart_0 rfl (lv_at hl 1 rfl) ?_
  refine j_iconst hx hb dX4_isPart_1 ?_
  refine lv_aload_n hx hb dX4_isPart_2 rfl (lv_at hl 0 rfl) ?_
  refine m_get hx hb hts (fun _ q => List.mem_cons_of_mem _ (List.mem_append_right _ q)) hown hK hB hM.1 (ci := 4) rfl 6 (by decide) (List.mem_of_getElem? (i := 1) rfl) rfl rfl dX4_isPart_3 ?_
  have bd_1 := hI.bd 9 0
  refine m_run (va_runS (As := [.int (iI n), .int (iI 1), .int (iI (σ 9 0))]) (rest := []) ⟨hx, hb, hml, hown, hts⟩ (k_X4_isIn (l := l) ⟨by omega, by omega⟩ ⟨by decide, by decide⟩ ⟨by omega, by omega⟩) (va_cwS 3 hts gX4_isPart_X4_isIn rfl rfl rfl (by decide +kernel) ⟨by decide, by decide⟩) ⟨Kp.blind _ _ _ _ _, fun U hU hW => hK.pass hB U hU hW⟩ rfl rfl hl.1 rfl (lv_room (Nat.le_of_ble_eq_true rfl)) dX4_isPart_6 ⟨Nat.le_of_ble_eq_true rfl, Nat.le_of_ble_eq_true rfl⟩) hB (fun v u H locs hp_2 hB => ?_)
  obtain ⟨rfl, rfl⟩ := hp_2
  show W _ _ _ _ _ _ _ _ _ _ _ _ _ _ _ (F0 m 9 ls [.int (iI (b2 (1 ≤ n ∧ n ≤ (σ 9 0))))])
  refine j_ifeqP (tgt := 26) hx hb dX4_isPart_9 (by decide) (fun c_3 => ?_) (fun c_3 => ?_)
  · refine j_iconst hx hb dX4_isPart_26 ?_
    exact m_zret hx hb hr (by decide) hlocks hB (by decide) (by decide) dX4_isPart_27 ⟨ret_f (fun q => by have := q.1; have := q.2.1; omega), rfl⟩
  · obtain ⟨i, rfl⟩ : ∃ i : Nat, n = (i : Int) := ⟨n.toNat, by omega⟩
    refine lv_aload_n hx hb dX4_isPart_12 rfl (lv_at hl 0 rfl) ?_
    refine m_get hx hb hts (fun _ q => List.mem_cons_of_mem _ (List.mem_append_right _ q)) hown hK hB hM.1 (ci := 4) rfl 5 (by decide) (List.mem_of_getElem? (i := 2) rfl) rfl rfl dX4_isPart_13 ?_
    refine lv_iload_n hx hb dX4_isPart_16 rfl (lv_at hl 1 rfl) ?_
    refine m_mld hx hb hK hB hM 4 (by decide) (i := i) (show i < 16 by omega) dX4_isPart_17 ?_
    refine j_iconst hx hb dX4_isPart_18 ?_
    have bd_4 := hI.bd 4 i
    refine j_icmp_eq (tgt := 26) hx hb dX4_isPart_19 (by decide) ⟨by omega, by omega⟩ ⟨by decide, by decide⟩ (fun c_5 => ?_) (fun c_5 => ?_)
    · refine j_iconst hx hb dX4_isPart_26 ?_
      exact m_zret hx hb hr (by decide) hlocks hB (by decide) (by decide) dX4_isPart_27 ⟨ret_f (fun q => by have := isP_i.mp q; omega), rfl⟩
    · refine j_iconst hx hb dX4_isPart_22 ?_
      refine lv_goto (tgt := 27) hx hb dX4_isPart_23 (by decide) ?_
      exact m_zret hx hb hr (by decide) hlocks hB (by decide) (by decide) dX4_isPart_27 ⟨ret_t (isP_i.mpr ⟨by omega, by omega, by omega⟩), rfl⟩

abbrev rmX4_isAny : Room := { frames := 2, cells := 0, slots := 0, locals := 43 }
set_option maxHeartbeats 4000000 in
set_option maxRecDepth 100000 in
theorem k_X4_isAny {l : Launch} {D : va_G} {z : Nat} {cI cP cR cJ : ClassId} {h : Hp} {xm : Nat} {xa : Nat → Nat} {σ : Sg} {th : Int} (hM : MR cI xm xa σ th h) (hI : Ib σ) {n : Int} (rn : rg n) : Ct l D z (tyL cI cP cR cJ) yX4_isAny wsX4_isAny rmX4_isAny [.ref xm, .int (iI n)] h (fun v u => v = some (.int (iI (b2 (isA σ n)))) ∧ h = u) := by
  refine Ct.of (cc := cX4_isAny) (maxL := 2) (ret := (some .boolean)) (by decide) rfl (Nat.le_of_ble_eq_true rfl) ?_
  intro p e s m args below meth c hx hb hr hts hown hlocks hml hnm hK hB ls hl
  have hl : lv_has ls 2 [(0, .ref xm), (1, .int (iI n))] := hl
  have hnp := hI.hnp
  have hnr := hI.hnr
  have hnrI := hI.nrI
  have hnpI := hI.npI
  have hre := hI.rest
  refine lv_iload_n hx hb dX4_isAny_0 rfl (lv_at hl 1 rfl) ?_
  refine j_if_eq (tgt := 12) hx hb dX4_isAny_1 (by decide) ⟨by omega, by omega⟩ (fun c_1 => ?_) (fun c_1 => ?_)
  · refine j_iconst hx hb dX4_isAny_12 ?_
    refine lv_goto (tgt := 17) hx hb dX4_isAny_13 (by decide) ?_
    exact m_zret hx hb hr (by decide) hlocks hB (by decide) (by decide) dX4_isAny_17 ⟨ret_t (Or.inl c_1), rfl⟩
  · refine lv_aload_n hx hb dX4_isAny_4 rfl (lv_at hl 0 rfl) ?_
    refine lv_iload_n hx hb dX4_isAny_5 rfl (lv_at hl 1 rfl) ?_
    refine m_run (va_runV (As := [.int (iI n)]) (rest := []) ⟨hx, hb, hml, hown, hts⟩ (k_X4_isPart (l := l) hM hI ⟨by omega, by omega⟩) (cwV 1 hts gX4_isAny_X4_isPart rfl rfl rfl (by decide +kernel) ⟨by decide, by decide⟩) ⟨Kp.blind _ _ _ _ _, m_recv hK hB (ci := 4) rfl hM.1, fun U hU hW => hK.pass hB U hU hW⟩ rfl rfl hl.1 rfl (lv_room (Nat.le_of_ble_eq_true rfl)) dX4_isAny_6 ⟨Nat.le_of_ble_eq_true rfl, Nat.le_of_ble_eq_true rfl⟩) hB (fun v u H locs hp_2 hB => ?_)
    obtain ⟨rfl, rfl⟩ := hp_2
    show W _ _ _ _ _ _ _ _ _ _ _ _ _ _ _ (F0 m 9 ls [.int (iI (b2 (isP σ n)))])
    refine j_ifeqP (tgt := 16) hx hb dX4_isAny_9 (by decide) (fun c_3 => ?_) (fun c_3 => ?_)
    · refine j_iconst hx hb dX4_isAny_16 ?_
      exact m_zret hx hb hr (by decide) hlocks hB (by decide) (by decide) dX4_isAny_17 ⟨ret_f (fun q => q.elim c_1 c_3), rfl⟩
    · refine j_iconst hx hb dX4_isAny_12 ?_
      refine lv_goto (tgt := 17) hx hb dX4_isAny_13 (by decide) ?_
      exact m_zret hx hb hr (by decide) hlocks hB (by decide) (by decide) dX4_isAny_17 ⟨ret_t (Or.inr c_3), rfl⟩

abbrev rmX4_isRow : Room := { frames := 1, cells := 0, slots := 0, locals := 22 }
set_option maxHeartbeats 4000000 in
set_option maxRecDepth 100000 in
theorem k_X4_isRow {l : Launch} {D : va_G} {z : Nat} {cI cP cR cJ : ClassId} {h : Hp} {xm : Nat} {xa : Nat → Nat} {σ : Sg} {th : Int} (hM : MR cI xm xa σ th h) (hI : Ib σ) {n : Int} (rn : rg n) : Ct l D z (tyL cI cP cR cJ) yX4_isRow wsX4_isRow rmX4_isRow [.ref xm, .int (iI n)] h (fun v u => v = some (.int (iI (b2 (isR σ n)))) ∧ h = u) := by
  refine Ct.of (cc := cX4_isRow) (maxL := 2) (ret := (some .boolean)) (by decide) rfl (Nat.le_of_ble_eq_true rfl) ?_
  intro p e s m args below meth c hx hb hr hts hown hlocks hml hnm hK hB ls hl
  have hl : lv_has ls 2 [(0, .ref xm), (1, .int (iI n))] := hl
  have hnp := hI.hnp
  have hnr := hI.hnr
  have hnrI := hI.nrI
  have hnpI := hI.npI
  have hre := hI.rest
  refine lv_iload_n hx hb dX4_isRow_0 rfl (lv_at hl 1 rfl) ?_
  refine j_iconst hx hb dX4_isRow_1 ?_
  refine lv_aload_n hx hb dX4_isRow_2 rfl (lv_at hl 0 rfl) ?_
  refine m_get hx hb hts (fun _ q => List.mem_cons_of_mem _ (List.mem_append_right _ q)) hown hK hB hM.1 (ci := 4) rfl 11 (by decide) (List.mem_of_getElem? (i := 1) rfl) rfl rfl dX4_isRow_3 ?_
  refine j_iconst hx hb dX4_isRow_6 ?_
  refine j_isub hx hb dX4_isRow_7 ?_
  have bd_1 := hI.bd 10 0
  refine m_run (va_runS (As := [.int (iI n), .int (iI 0), .int (iI ((σ 10 0) - 1))]) (rest := []) ⟨hx, hb, hml, hown, hts⟩ (k_X4_isIn (l := l) ⟨by omega, by omega⟩ ⟨by decide, by decide⟩ ⟨by omega, by omega⟩) (va_cwS 3 hts gX4_isRow_X4_isIn rfl rfl rfl (by decide +kernel) ⟨by decide, by decide⟩) ⟨Kp.blind _ _ _ _ _, fun U hU hW => hK.pass hB U hU hW⟩ rfl rfl hl.1 rfl (lv_room (Nat.le_of_ble_eq_true rfl)) dX4_isRow_8 ⟨Nat.le_of_ble_eq_true rfl, Nat.le_of_ble_eq_true rfl⟩) hB (fun v u H locs hp_2 hB => ?_)
  obtain ⟨rfl, rfl⟩ := hp_2
  show W _ _ _ _ _ _ _ _ _ _ _ _ _ _ _ (F0 m 11 ls [.int (iI (b2 (0 ≤ n ∧ n ≤ ((σ 10 0) - 1))))])
  refine j_ifeqP (tgt := 28) hx hb dX4_isRow_11 (by decide) (fun c_3 => ?_) (fun c_3 => ?_)
  · refine j_iconst hx hb dX4_isRow_28 ?_
    exact m_zret hx hb hr (by decide) hlocks hB (by decide) (by decide) dX4_isRow_29 ⟨ret_f (fun q => by have := q.1; have := q.2.1; omega), rfl⟩
  · obtain ⟨j, rfl⟩ : ∃ j : Nat, n = (j : Int) := ⟨n.toNat, by omega⟩
    refine lv_aload_n hx hb dX4_isRow_14 rfl (lv_at hl 0 rfl) ?_
    refine m_get hx hb hts (fun _ q => List.mem_cons_of_mem _ (List.mem_append_right _ q)) hown hK hB hM.1 (ci := 4) rfl 7 (by decide) (List.mem_of_getElem? (i := 2) rfl) rfl rfl dX4_isRow_15 ?_
    refine lv_iload_n hx hb dX4_isRow_18 rfl (lv_at hl 1 rfl) ?_
    refine m_mld hx hb hK hB hM 5 (by decide) (i := j) (show j < 200 by omega) dX4_isRow_19 ?_
    refine j_iconst hx hb dX4_isRow_20 ?_
    have bd_4 := hI.bd 5 j
    refine j_icmp_eq (tgt := 28) hx hb dX4_isRow_21 (by decide) ⟨by omega, by omega⟩ ⟨by decide, by decide⟩ (fun c_5 => ?_) (fun c_5 => ?_)
    · refine j_iconst hx hb dX4_isRow_28 ?_
      exact m_zret hx hb hr (by decide) hlocks hB (by decide) (by decide) dX4_isRow_29 ⟨ret_f (fun q => by have := isR_j.mp q; have := this.2; omega), rfl⟩
    · refine j_iconst hx hb dX4_isRow_24 ?_
      refine lv_goto (tgt := 29) hx hb dX4_isRow_25 (by decide) ?_
      exact m_zret hx hb hr (by decide) hlocks hB (by decide) (by decide) dX4_isRow_29 ⟨ret_t (isR_j.mpr ⟨by omega, by omega⟩), rfl⟩

abbrev rmX4_isAttached : Room := { frames := 0, cells := 0, slots := 0, locals := 0 }
set_option maxHeartbeats 4000000 in
set_option maxRecDepth 100000 in
theorem k_X4_isAttached {l : Launch} {D : va_G} {z : Nat} {cI cP cR cJ : ClassId} {h : Hp} {xm : Nat} {xa : Nat → Nat} {σ : Sg} {th : Int} (hM : MR cI xm xa σ th h) (hI : Ib σ) {i : Nat} (hi : i < 16)  : Ct l D z (tyL cI cP cR cJ) yX4_isAttached wsX4_isAttached rmX4_isAttached [.ref xm, .int (iI (i : Int))] h (fun v u => v = some (.int (iI (b2 (1 ≤ i ∧ σ 4 i = 0)))) ∧ h = u) := by
  refine Ct.of (cc := cX4_isAttached) (maxL := 2) (ret := (some .boolean)) (by decide) rfl (Nat.le_of_ble_eq_true rfl) ?_
  intro p e s m args below meth c hx hb hr hts hown hlocks hml hnm hK hB ls hl
  have hl : lv_has ls 2 [(0, .ref xm), (1, .int (iI (i : Int)))] := hl
  have hnp := hI.hnp
  have hnr := hI.hnr
  have hnrI := hI.nrI
  have hnpI := hI.npI
  have hre := hI.rest
  refine lv_iload_n hx hb dX4_isAttached_0 rfl (lv_at hl 1 rfl) ?_
  refine j_if_le (tgt := 17) hx hb dX4_isAttached_1 (by decide) ⟨by omega, by omega⟩ (fun c_1 => ?_) (fun c_1 => ?_)
  · refine j_iconst hx hb dX4_isAttached_17 ?_
    exact m_zret hx hb hr (by decide) hlocks hB (by decide) (by decide) dX4_isAttached_18 ⟨ret_f (by omega), rfl⟩
  · refine lv_aload_n hx hb dX4_isAttached_4 rfl (lv_at hl 0 rfl) ?_
    refine m_get hx hb hts (fun _ q => List.mem_cons_of_mem _ (List.mem_append_right _ q)) hown hK hB hM.1 (ci := 4) rfl 5 (by decide) (List.mem_of_getElem? (i := 1) rfl) rfl rfl dX4_isAttached_5 ?_
    refine lv_iload_n hx hb dX4_isAttached_8 rfl (lv_at hl 1 rfl) ?_
    refine m_mld hx hb hK hB hM 4 (by decide) (i := i) (show i < 16 by omega) dX4_isAttached_9 ?_
    have bd_3 := hI.bd 4 i
    refine j_if_ne (tgt := 17) hx hb dX4_isAttached_10 (by decide) ⟨by omega, by omega⟩ (fun c_2 => ?_) (fun c_2 => ?_)
    · refine j_iconst hx hb dX4_isAttached_17 ?_
      exact m_zret hx hb hr (by decide) hlocks hB (by decide) (by decide) dX4_isAttached_18 ⟨ret_f (by omega), rfl⟩
    · refine j_iconst hx hb dX4_isAttached_13 ?_
      refine lv_goto (tgt := 18) hx hb dX4_isAttached_14 (by decide) ?_
      exact m_zret hx hb hr (by decide) hlocks hB (by decide) (by decide) dX4_isAttached_18 ⟨ret_t (by omega), rfl⟩

abbrev rmX4_hasKey : Room := { frames := 1, cells := 0, slots := 0, locals := 22 }
set_option maxHeartbeats 4000000 in
set_option maxRecDepth 100000 in
theorem k_X4_hasKey {l : Launch} {D : va_G} {z : Nat} {cI cP cR cJ : ClassId} {h : Hp} {xm : Nat} {xa : Nat → Nat} {σ : Sg} {th : Int} (hM : MR cI xm xa σ th h) (hI : Ib σ) {i : Nat} (hi : i < 16) {k : Int} (rk : rg k) : Ct l D z (tyL cI cP cR cJ) yX4_hasKey wsX4_hasKey rmX4_hasKey [.ref xm, .int (iI (i : Int)), .int (iI k)] h (fun v u => v = some (.int (iI (b2 (σ 0 i ≤ k ∧ k < σ 1 i)))) ∧ h = u) := by
  refine Ct.of (cc := cX4_hasKey) (maxL := 3) (ret := (some .boolean)) (by decide) rfl (Nat.le_of_ble_eq_true rfl) ?_
  intro p e s m args below meth c hx hb hr hts hown hlocks hml hnm hK hB ls hl
  have hl : lv_has ls 3 [(0, .ref xm), (1, .int (iI (i : Int))), (2, .int (iI k))] := hl
  have hnp := hI.hnp
  have hnr := hI.hnr
  have hnrI := hI.nrI
  have hnpI := hI.npI
  have hre := hI.rest
  refine lv_iload_n hx hb dX4_hasKey_0 rfl (lv_at hl 2 rfl) ?_
  refine lv_aload_n hx hb dX4_hasKey_1 rfl (lv_at hl 0 rfl) ?_
  refine m_get hx hb hts (fun _ q => List.mem_cons_of_mem _ (List.mem_append_right _ q)) hown hK hB hM.1 (ci := 4) rfl 1 (by decide) (List.mem_of_getElem? (i := 1) rfl) rfl rfl dX4_hasKey_2 ?_
  refine lv_iload_n hx hb dX4_hasKey_5 rfl (lv_at hl 1 rfl) ?_
  refine m_mld hx hb hK hB hM 0 (by decide) (i := i) (show i < 16 by omega) dX4_hasKey_6 ?_
  refine lv_aload_n hx hb dX4_hasKey_7 rfl (lv_at hl 0 rfl) ?_
  refine m_get hx hb hts (fun _ q => List.mem_cons_of_mem _ (List.mem_append_right _ q)) hown hK hB hM.1 (ci := 4) rfl 2 (by decide) (List.mem_of_getElem? (i := 2) rfl) rfl rfl dX4_hasKey_8 ?_
  refine lv_iload_n hx hb dX4_hasKey_11 rfl (lv_at hl 1 rfl) ?_
  refine m_mld hx hb hK hB hM 1 (by decide) (i := i) (show i < 16 by omega) dX4_hasKey_12 ?_
  refine j_iconst hx hb dX4_hasKey_13 ?_
  refine j_isub hx hb dX4_hasKey_14 ?_
  have bd_1 := hI.bd 0 i
  have bd_2 := hI.bd 1 i
  refine m_run (va_runS (As := [.int (iI k), .int (iI (σ 0 i)), .int (iI ((σ 1 i) - 1))]) (rest := []) ⟨hx, hb, hml, hown, hts⟩ (k_X4_isIn (l := l) ⟨by omega, by omega⟩ ⟨by omega, by omega⟩ ⟨by omega, by omega⟩) (va_cwS 3 hts gX4_hasKey_X4_isIn rfl rfl rfl (by decide +kernel) ⟨by decide, by decide⟩) ⟨Kp.blind _ _ _ _ _, fun U hU hW => hK.pass hB U hU hW⟩ rfl rfl hl.1 rfl (lv_room (Nat.le_of_ble_eq_true rfl)) dX4_hasKey_15 ⟨Nat.le_of_ble_eq_true rfl, Nat.le_of_ble_eq_true rfl⟩) hB (fun v u H locs hp_3 hB => ?_)
  obtain ⟨rfl, rfl⟩ := hp_3
  show W _ _ _ _ _ _ _ _ _ _ _ _ _ _ _ (F0 m 18 ls [.int (iI (b2 ((σ 0 i) ≤ k ∧ k ≤ ((σ 1 i) - 1))))])
  exact m_zret hx hb hr (b2_nb _) hlocks hB (by decide) (by decide) dX4_hasKey_18 ⟨ret_c (by omega), rfl⟩

abbrev rmX4_partWith : Room := { frames := 2, cells := 0, slots := 0, locals := 44 }
set_option maxHeartbeats 4000000 in
set_option maxRecDepth 100000 in
theorem k_X4_partWith {l : Launch} {D : va_G} {z : Nat} {cI cP cR cJ : ClassId} {h : Hp} {xm : Nat} {xa : Nat → Nat} {σ : Sg} {th : Int} (hM : MR cI xm xa σ th h) (hI : Ib σ) {k : Int} (rk : rg k) : Ct l D z (tyL cI cP cR cJ) yX4_partWith wsX4_partWith rmX4_partWith [.ref xm, .int (iI k)] h (fun v u => v = some (.int (iI ((pw σ k : Nat) : Int))) ∧ h = u) := by
  refine Ct.of (cc := cX4_partWith) (maxL := 3) (ret := (some .int)) (by decide) rfl (Nat.le_of_ble_eq_true rfl) ?_
  intro p e s m args below meth c hx hb hr hts hown hlocks hml hnm hK hB ls hl
  have hl : lv_has ls 3 [(0, .ref xm), (1, .int (iI k))] := hl
  have hnp := hI.hnp
  have hnr := hI.hnr
  have hnrI := hI.nrI
  have hnpI := hI.npI
  have hre := hI.rest
  refine j_iconst hx hb dX4_partWith_0 ?_
  refine lv_istore_n (lv' := [(2, .int (iI 1)), (0, .ref xm), (1, .int (iI k))]) hx hb dX4_partWith_1 rfl hl (by decide) rfl (fun ls hl => ?_)
  have lp_2 : ∀ (fuel i : Nat), i ≤ npN σ + 1 → npN σ + 1 + 1 ≤ i + fuel → ∀ (e1 : 1 ≤ i) (ea : ∀ i2 : Nat, i2 < i → 1 ≤ i2 → ¬ (σ 4 i2 = 0 ∧ σ 0 i2 ≤ k ∧ k < σ 1 i2)) (H : Heap) (locs : List Loc), Bk D z s.heap h H locs → ∀ ls : Array Slot, lv_has ls 3 [(2, .int (iI (i : Int))), (0, .ref xm), (1, .int (iI k))] → W p l e rmX4_partWith s m args below meth c H locs 0 0 (MQ below (Qx D z (fun v u => v = some (.int (iI ((pw σ k : Nat) : Int))) ∧ h = u)) args s (rmX4_partWith).cells (rmX4_partWith).slots (zA z)) (F0 m 2 ls []) := by
    intro fuel
    induction fuel with
    | zero => intro i w1 w2; exact absurd w2 (by omega)
    | succ fuel ih =>
      intro i w1 w2 e1 ea H locs hB ls hl
      refine lv_iload_n hx hb dX4_partWith_2 rfl (lv_at hl 0 rfl) ?_
      refine lv_aload_n hx hb dX4_partWith_3 rfl (lv_at hl 1 rfl) ?_
      refine m_get hx hb hts (fun _ q => List.mem_cons_of_mem _ (List.mem_append_right _ q)) hown hK hB hM.1 (ci := 4) rfl 6 (by decide) (List.mem_of_getElem? (i := 1) rfl) rfl rfl dX4_partWith_4 ?_
      have bd_1 := hI.bd 9 0
      refine j_icmp_gt (tgt := 35) hx hb dX4_partWith_7 (by decide) ⟨by omega, by omega⟩ ⟨by omega, by omega⟩ (fun c_2 => ?_) (fun c_2 => ?_)
      · refine j_iconst hx hb dX4_partWith_35 ?_
        exact m_zret hx hb hr rfl hlocks hB (by decide) (by decide) dX4_partWith_36 ⟨ret_e (by rw [pw_no hI (fun i2 a b c => ea i2 (by omega) b)]; rfl), rfl⟩
      · refine lv_aload_n hx hb dX4_partWith_10 rfl (lv_at hl 1 rfl) ?_
        refine lv_iload_n hx hb dX4_partWith_11 rfl (lv_at hl 0 rfl) ?_
        refine m_run (va_runV (As := [.int (iI (i : Int))]) (rest := []) ⟨hx, hb, hml, hown, hts⟩ (k_X4_isAttached (l := l) hM hI (i := i) (by omega)) (cwV 1 hts gX4_partWith_X4_isAttached rfl rfl rfl (by decide +kernel) ⟨by decide, by decide⟩) ⟨Kp.blind _ _ _ _ _, m_recv hK hB (ci := 4) rfl hM.1, fun U hU hW => hK.pass hB U hU hW⟩ rfl rfl hl.1 rfl (lv_room (Nat.le_of_ble_eq_true rfl)) dX4_partWith_12 ⟨Nat.le_of_ble_eq_true rfl, Nat.le_of_ble_eq_true rfl⟩) hB (fun v u H locs hp_3 hB => ?_)
        obtain ⟨rfl, rfl⟩ := hp_3
        show W _ _ _ _ _ _ _ _ _ _ _ _ _ _ _ (F0 m 15 ls [.int (iI (b2 (1 ≤ i ∧ σ 4 i = 0)))])
        refine j_ifeqP (tgt := 29) hx hb dX4_partWith_15 (by decide) (fun c_4 => ?_) (fun c_4 => ?_)
        · refine j_iinc (lv' := [(2, .int (iI ((i + 1 : Nat) : Int))), (0, .ref xm), (1, .int (iI k))]) hx hb dX4_partWith_29 hl (k := 0) rfl (by decide) rfl (fun ls hl => ?_)
          refine lv_goto (tgt := 2) hx hb dX4_partWith_32 (by decide) ?_
          exact ih (i + 1) (by omega) (by omega) (by omega) (fa_s ea (fun _ q => c_4 ⟨by omega, q.1⟩)) _ _ hB ls (lv_sub hl [0, 1, 2] rfl)
        · refine lv_aload_n hx hb dX4_partWith_18 rfl (lv_at hl 1 rfl) ?_
          refine lv_iload_n hx hb dX4_partWith_19 rfl (lv_at hl 0 rfl) ?_
          refine lv_iload_n hx hb dX4_partWith_20 rfl (lv_at hl 2 rfl) ?_
          refine m_run (va_runV (As := [.int (iI (i : Int)), .int (iI k)]) (rest := []) ⟨hx, hb, hml, hown, hts⟩ (k_X4_hasKey (l := l) hM hI (i := i) (by omega) ⟨by omega, by omega⟩) (cwV 2 hts gX4_partWith_X4_hasKey rfl rfl rfl (by decide +kernel) ⟨by decide, by decide⟩) ⟨Kp.blind _ _ _ _ _, m_recv hK hB (ci := 4) rfl hM.1, fun U hU hW => hK.pass hB U hU hW⟩ rfl rfl hl.1 rfl (lv_room (Nat.le_of_ble_eq_true rfl)) dX4_partWith_21 ⟨Nat.le_of_ble_eq_true rfl, Nat.le_of_ble_eq_true rfl⟩) hB (fun v u H locs hp_5 hB => ?_)
          obtain ⟨rfl, rfl⟩ := hp_5
          show W _ _ _ _ _ _ _ _ _ _ _ _ _ _ _ (F0 m 24 ls [.int (iI (b2 (σ 0 i ≤ k ∧ k < σ 1 i)))])
          refine j_ifeqP (tgt := 29) hx hb dX4_partWith_24 (by decide) (fun c_6 => ?_) (fun c_6 => ?_)
          · refine j_iinc (lv' := [(2, .int (iI ((i + 1 : Nat) : Int))), (0, .ref xm), (1, .int (iI k))]) hx hb dX4_partWith_29 hl (k := 0) rfl (by decide) rfl (fun ls hl => ?_)
            refine lv_goto (tgt := 2) hx hb dX4_partWith_32 (by decide) ?_
            exact ih (i + 1) (by omega) (by omega) (by omega) (fa_s ea (fun _ q => c_6 q.2)) _ _ hB ls (lv_sub hl [0, 1, 2] rfl)
          · refine lv_iload_n hx hb dX4_partWith_27 rfl (lv_at hl 0 rfl) ?_
            exact m_zret hx hb hr rfl hlocks hB (by decide) (by decide) dX4_partWith_28 ⟨ret_e (by rw [pw_at hI (i := i) e1 (by omega) ea ⟨c_4.2, c_6⟩]), rfl⟩
  exact lp_2 (npN σ + 1 + 1) 1 (by omega) (by omega) (by omega) (fun i2 h1 h2 => absurd h1 (by omega)) _ _ hB ls (lv_sub hl [0, 1, 2] rfl)

abbrev rmX4_leaves : Room := { frames := 0, cells := 0, slots := 0, locals := 0 }
set_option maxHeartbeats 4000000 in
set_option maxRecDepth 100000 in
theorem k_X4_leaves {l : Launch} {D : va_G} {z : Nat} {cI cP cR cJ : ClassId} {h : Hp} {xm : Nat} {xa : Nat → Nat} {σ : Sg} {th : Int} (hM : MR cI xm xa σ th h) (hI : Ib σ) {i : Nat} (hi : (i : Int) ≤ σ 9 0)  : Ct l D z (tyL cI cP cR cJ) yX4_leaves wsX4_leaves rmX4_leaves [.ref xm, .int (iI (i : Int))] h (fun v u => v = some (.int (iI (lvs (σ 2 i) (σ 3 i)))) ∧ h = u) := by
  refine Ct.of (cc := cX4_leaves) (maxL := 2) (ret := (some .int)) (by decide) rfl (Nat.le_of_ble_eq_true rfl) ?_
  intro p e s m args below meth c hx hb hr hts hown hlocks hml hnm hK hB ls hl
  have hl : lv_has ls 2 [(0, .ref xm), (1, .int (iI (i : Int)))] := hl
  have hnp := hI.hnp
  have hnr := hI.hnr
  have hnrI := hI.nrI
  have hnpI := hI.npI
  have hre := hI.rest
  have hpt := hI.part i hi
  refine lv_iload_n hx hb dX4_leaves_0 rfl (lv_at hl 1 rfl) ?_
  refine j_if_eq (tgt := 13) hx hb dX4_leaves_1 (by decide) ⟨by omega, by omega⟩ (fun c_1 => ?_) (fun c_1 => ?_)
  · refine j_iconst hx hb dX4_leaves_13 ?_
    refine lv_goto (tgt := 37) hx hb dX4_leaves_14 (by decide) ?_
    exact m_zret hx hb hr rfl hlocks hB (by decide) (by decide) dX4_leaves_37 ⟨ret_e (by rw [show i = 0 by omega, hre.2.2.1]; rfl), rfl⟩
  · refine lv_aload_n hx hb dX4_leaves_4 rfl (lv_at hl 0 rfl) ?_
    refine m_get hx hb hts (fun _ q => List.mem_cons_of_mem _ (List.mem_append_right _ q)) hown hK hB hM.1 (ci := 4) rfl 3 (by decide) (List.mem_of_getElem? (i := 1) rfl) rfl rfl dX4_leaves_5 ?_
    refine lv_iload_n hx hb dX4_leaves_8 rfl (lv_at hl 1 rfl) ?_
    refine m_mld hx hb hK hB hM 2 (by decide) (i := i) (show i < 16 by omega) dX4_leaves_9 ?_
    have bd_3 := hI.bd 2 i
    refine j_if_ne (tgt := 17) hx hb dX4_leaves_10 (by decide) ⟨by omega, by omega⟩ (fun c_2 => ?_) (fun c_2 => ?_)
    · refine lv_aload_n hx hb dX4_leaves_17 rfl (lv_at hl 0 rfl) ?_
      refine m_get hx hb hts (fun _ q => List.mem_cons_of_mem _ (List.mem_append_right _ q)) hown hK hB hM.1 (ci := 4) rfl 3 (by decide) (List.mem_of_getElem? (i := 1) rfl) rfl rfl dX4_leaves_18 ?_
      refine lv_iload_n hx hb dX4_leaves_21 rfl (lv_at hl 1 rfl) ?_
      refine m_mld hx hb hK hB hM 2 (by decide) (i := i) (show i < 16 by omega) dX4_leaves_22 ?_
      refine j_iconst hx hb dX4_leaves_23 ?_
      refine j_icmp_ne (tgt := 31) hx hb dX4_leaves_24 (by decide) ⟨by omega, by omega⟩ ⟨by decide, by decide⟩ (fun c_4 => ?_) (fun c_4 => ?_)
      · refine lv_aload_n hx hb dX4_leaves_31 rfl (lv_at hl 0 rfl) ?_
        refine m_get hx hb hts (fun _ q => List.mem_cons_of_mem _ (List.mem_append_right _ q)) hown hK hB hM.1 (ci := 4) rfl 4 (by decide) (List.mem_of_getElem? (i := 2) rfl) rfl rfl dX4_leaves_32 ?_
        refine lv_iload_n hx hb dX4_leaves_35 rfl (lv_at hl 1 rfl) ?_
        refine m_mld hx hb hK hB hM 3 (by decide) (i := i) (show i < 16 by omega) dX4_leaves_36 ?_
        exact m_zret hx hb hr rfl hlocks hB (by decide) (by decide) dX4_leaves_37 ⟨ret_e (by rw [lvs_2 (by omega)]), rfl⟩
      · refine j_iconst hx hb dX4_leaves_27 ?_
        refine lv_goto (tgt := 37) hx hb dX4_leaves_28 (by decide) ?_
        exact m_zret hx hb hr rfl hlocks hB (by decide) (by decide) dX4_leaves_37 ⟨ret_e (by rw [lvs_1 (by omega)]), rfl⟩
    · refine j_iconst hx hb dX4_leaves_13 ?_
      refine lv_goto (tgt := 37) hx hb dX4_leaves_14 (by decide) ?_
      exact m_zret hx hb hr rfl hlocks hB (by decide) (by decide) dX4_leaves_37 ⟨ret_e (by rw [lvs_0 (by omega) (by omega)]), rfl⟩

abbrev rmX4_leaf : Room := { frames := 0, cells := 0, slots := 0, locals := 0 }
set_option maxHeartbeats 4000000 in
set_option maxRecDepth 100000 in
theorem k_X4_leaf {l : Launch} {D : va_G} {z : Nat} {cI cP cR cJ : ClassId} {h : Hp} {xm : Nat} {xa : Nat → Nat} {σ : Sg} {th : Int} (hM : MR cI xm xa σ th h) (hI : Ib σ) {i : Nat} (hi : (i : Int) ≤ σ 9 0) {k s_ : Int} (k0 : 0 ≤ k) (k9 : k ≤ 999) (s0 : 0 ≤ s_) (s9 : s_ ≤ 9) : Ct l D z (tyL cI cP cR cJ) yX4_leaf wsX4_leaf rmX4_leaf [.ref xm, .int (iI (i : Int)), .int (iI k), .int (iI s_)] h (fun v u => v = some (.int (iI (lf (σ 2 i) (σ 3 i) k s_))) ∧ h = u) := by
  refine Ct.of (cc := cX4_leaf) (maxL := 4) (ret := (some .int)) (by decide) rfl (Nat.le_of_ble_eq_true rfl) ?_
  intro p e s m args below meth c hx hb hr hts hown hlocks hml hnm hK hB ls hl
  have hl : lv_has ls 4 [(0, .ref xm), (1, .int (iI (i : Int))), (2, .int (iI k)), (3, .int (iI s_))] := hl
  have hnp := hI.hnp
  have hnr := hI.hnr
  have hnrI := hI.nrI
  have hnpI := hI.npI
  have hre := hI.rest
  have hpt := hI.part i hi
  refine lv_iload_n hx hb dX4_leaf_0 rfl (lv_at hl 1 rfl) ?_
  refine j_if_eq (tgt := 13) hx hb dX4_leaf_1 (by decide) ⟨by omega, by omega⟩ (fun c_1 => ?_) (fun c_1 => ?_)
  · refine j_iconst hx hb dX4_leaf_13 ?_
    exact m_zret hx hb hr rfl hlocks hB (by decide) (by decide) dX4_leaf_14 ⟨ret_e (by rw [show i = 0 by omega, hre.2.2.1]; exact (lf_0 (by omega) (by omega)).symm), rfl⟩
  · refine lv_aload_n hx hb dX4_leaf_4 rfl (lv_at hl 0 rfl) ?_
    refine m_get hx hb hts (fun _ q => List.mem_cons_of_mem _ (List.mem_append_right _ q)) hown hK hB hM.1 (ci := 4) rfl 3 (by decide) (List.mem_of_getElem? (i := 1) rfl) rfl rfl dX4_leaf_5 ?_
    refine lv_iload_n hx hb dX4_leaf_8 rfl (lv_at hl 1 rfl) ?_
    refine m_mld hx hb hK hB hM 2 (by decide) (i := i) (show i < 16 by omega) dX4_leaf_9 ?_
    have bd_3 := hI.bd 2 i
    refine j_if_ne (tgt := 15) hx hb dX4_leaf_10 (by decide) ⟨by omega, by omega⟩ (fun c_2 => ?_) (fun c_2 => ?_)
    · refine lv_aload_n hx hb dX4_leaf_15 rfl (lv_at hl 0 rfl) ?_
      refine m_get hx hb hts (fun _ q => List.mem_cons_of_mem _ (List.mem_append_right _ q)) hown hK hB hM.1 (ci := 4) rfl 3 (by decide) (List.mem_of_getElem? (i := 1) rfl) rfl rfl dX4_leaf_16 ?_
      refine lv_iload_n hx hb dX4_leaf_19 rfl (lv_at hl 1 rfl) ?_
      refine m_mld hx hb hK hB hM 2 (by decide) (i := i) (show i < 16 by omega) dX4_leaf_20 ?_
      refine j_iconst hx hb dX4_leaf_21 ?_
      refine j_icmp_ne (tgt := 40) hx hb dX4_leaf_22 (by decide) ⟨by omega, by omega⟩ ⟨by decide, by decide⟩ (fun c_4 => ?_) (fun c_4 => ?_)
      · refine j_bipush hx hb dX4_leaf_40 (by decide) ?_
        refine lv_iload_n hx hb dX4_leaf_42 rfl (lv_at hl 2 rfl) ?_
        refine j_imul hx hb dX4_leaf_43 ?_
        refine j_iconst hx hb dX4_leaf_44 ?_
        refine j_iadd hx hb dX4_leaf_45 ?_
        refine lv_aload_n hx hb dX4_leaf_46 rfl (lv_at hl 0 rfl) ?_
        refine m_get hx hb hts (fun _ q => List.mem_cons_of_mem _ (List.mem_append_right _ q)) hown hK hB hM.1 (ci := 4) rfl 4 (by decide) (List.mem_of_getElem? (i := 2) rfl) rfl rfl dX4_leaf_47 ?_
        refine lv_iload_n hx hb dX4_leaf_50 rfl (lv_at hl 1 rfl) ?_
        refine m_mld hx hb hK hB hM 3 (by decide) (i := i) (show i < 16 by omega) dX4_leaf_51 ?_
        have bd_5 := hI.bd 3 i
        refine j_irem hx hb ⟨by omega, by omega⟩ ⟨by omega, by omega⟩ dX4_leaf_52 ?_
        exact m_zret hx hb hr rfl hlocks hB (by decide) (by decide) dX4_leaf_53 ⟨ret_e (lf_2 (by omega)).symm, rfl⟩
      · refine j_iconst hx hb dX4_leaf_25 ?_
        refine lv_aload_n hx hb dX4_leaf_26 rfl (lv_at hl 0 rfl) ?_
        refine m_get hx hb hts (fun _ q => List.mem_cons_of_mem _ (List.mem_append_right _ q)) hown hK hB hM.1 (ci := 4) rfl 4 (by decide) (List.mem_of_getElem? (i := 2) rfl) rfl rfl dX4_leaf_27 ?_
        refine lv_iload_n hx hb dX4_leaf_30 rfl (lv_at hl 1 rfl) ?_
        refine m_mld hx hb hK hB hM 3 (by decide) (i := i) (show i < 16 by omega) dX4_leaf_31 ?_
        refine lv_iload_n hx hb dX4_leaf_32 rfl (lv_at hl 3 rfl) ?_
        refine j_topE (show s_ = ((s_.toNat : Nat) : Int) by omega) ?_
        have bd_6 := hI.bd 3 i
        refine j_ishr (n := s_.toNat) hx hb ⟨by omega, by omega⟩ (by omega) dX4_leaf_33 ?_
        refine j_iconst hx hb dX4_leaf_34 ?_
        refine j_iand1 hx hb (Int.ediv_nonneg (by omega) (Int.pow_nonneg (by decide))) dX4_leaf_35 ?_
        refine j_isub hx hb dX4_leaf_36 ?_
        refine lv_goto (tgt := 53) hx hb dX4_leaf_37 (by decide) ?_
        exact m_zret hx hb hr rfl hlocks hB (by decide) (by decide) dX4_leaf_53 ⟨ret_e (lf_1s (by omega)).symm, rfl⟩
    · refine j_iconst hx hb dX4_leaf_13 ?_
      exact m_zret hx hb hr rfl hlocks hB (by decide) (by decide) dX4_leaf_14 ⟨ret_e (lf_0 (by omega) (by omega)).symm, rfl⟩

