/-! the class's cells behind a change of one number -/
section WrC3
variable {cP cR : ClassId} {x xp xr : Nat} {pa ra : Nat → Nat} {σ : Sg} {h : Hp}
theorem CR.w1 (hC : CR cP cR x xp xr pa ra σ h) {i : Nat} (hi : (i : Int) ≤ σ 9 0) {v : Int} : CR cP cR x xp xr pa ra (upS σ 1 i v) (hup h (pa i) (prt i (σ 0 i) v (σ 2 i) (σ 3 i) (σ 4 i))) := by
  have := hC.wpart hi (σ' := upS σ 1 i v) (fun g k q => upS_g (by omega)) (fun g k q => upS_i q)
  rw [upS_g (by decide), upS_s, upS_g (by decide), upS_g (by decide), upS_g (by decide)] at this
  exact this
theorem CR.w4 (hC : CR cP cR x xp xr pa ra σ h) {i : Nat} (hi : (i : Int) ≤ σ 9 0) {v : Int} : CR cP cR x xp xr pa ra (upS σ 4 i v) (hup h (pa i) (prt i (σ 0 i) (σ 1 i) (σ 2 i) (σ 3 i) v)) := by
  have := hC.wpart hi (σ' := upS σ 4 i v) (fun g k q => upS_g (by omega)) (fun g k q => upS_i q)
  rw [upS_g (by decide), upS_g (by decide), upS_g (by decide), upS_g (by decide), upS_s] at this
  exact this
theorem CR.w6 (hC : CR cP cR x xp xr pa ra σ h) {j : Nat} (hl : live σ j) {v : Int} : CR cP cR x xp xr pa ra (upS σ 6 j v) (hup h (ra j) (rwE v (σ 7 j) (σ 8 j) (pa (pn σ j)))) := by
  have := hC.wrow hl (σ' := upS σ 6 j v) (fun g i q => upS_g (by omega)) (fun g i q => upS_i q) ((upS_live (by decide) (by decide)).mpr hl)
  rw [upS_s, upS_g (by decide), upS_g (by decide), upS_pn (by decide)] at this
  exact this
theorem CR.w7 (hC : CR cP cR x xp xr pa ra σ h) {j : Nat} (hl : live σ j) {v : Int} : CR cP cR x xp xr pa ra (upS σ 7 j v) (hup h (ra j) (rwE (σ 6 j) v (σ 8 j) (pa (pn σ j)))) := by
  have := hC.wrow hl (σ' := upS σ 7 j v) (fun g i q => upS_g (by omega)) (fun g i q => upS_i q) ((upS_live (by decide) (by decide)).mpr hl)
  rw [upS_g (by decide), upS_s, upS_g (by decide), upS_pn (by decide)] at this
  exact this
theorem CR.w5 (hC : CR cP cR x xp xr pa ra σ h) {j : Nat} (hl : live σ j) {k : Nat} : CR cP cR x xp xr pa ra (upS σ 5 j (k : Int)) (hup h (ra j) (rwE (σ 6 j) (σ 7 j) (σ 8 j) (pa k))) := by
  have := hC.wrow hl (σ' := upS σ 5 j (k : Int)) (fun g i q => upS_g (by omega)) (fun g i q => upS_i q) ((upS_live5 hl (by omega)).mpr hl)
  rw [upS_g (by decide), upS_g (by decide), upS_g (by decide), show pn (upS σ 5 j (k : Int)) j = k by unfold pn; rw [upS_s]; exact Int.toNat_natCast k] at this
  exact this
end WrC3
/-! the start: all is 0 -/
def sg0 : Sg := fun _ _ => 0
theorem sg0_v (g i : Nat) : sg0 g i = 0 := rfl
theorem sg0_live (j : Nat) : ¬ live sg0 j := fun q => by have := q.1; rw [sg0_v] at this; omega
theorem CR.ini {cP cR : ClassId} {x xp xr q : Nat} {h : Hp} (he : h x = some (tbl q xp 0 xr 0 0)) (hp : h xp = some (arQ cP 16 (va_up (fun _ => none) 0 (some q)))) (hr : h xr = some (arQ cR 200 (fun _ => none))) (hq : h q = some (prt 0 0 0 0 0 0)) : CR cP cR x xp xr (fun _ => q) (fun _ => 0) sg0 h := by
  have z : ∀ i : Nat, (i : Int) ≤ sg0 9 0 → i = 0 := fun i w => by rw [sg0_v] at w; omega
  refine ⟨he, ⟨_, hp, fun i hi => ⟨fun w => ?_, fun w => ?_⟩⟩, ⟨_, hr, fun j hj => ⟨fun w => absurd w (sg0_live j), fun _ => rfl⟩⟩, fun i w => ?_, fun j w => absurd w (sg0_live j), fun i i2 w w2 _ => by rw [z i w, z i2 w2], fun j j2 w => absurd w (sg0_live j)⟩
  · rw [z i w]; exact if_pos rfl
  · exact if_neg (fun q => w (by rw [q, sg0_v]; omega))
  · rw [z i w]; exact hq
theorem Ib.ini : Ib sg0 := by
  refine ⟨by rw [sg0_v]; omega, by rw [sg0_v]; omega, by rw [sg0_v]; omega, fun g i => by rw [sg0_v]; omega, fun g _ => rfl, fun i hi => ?_, fun j hj => absurd hj (sg0_live j)⟩
  rw [sg0_v 0 i, sg0_v 1 i, sg0_v 2 i, sg0_v 3 i, sg0_v 4 i]
  omega
theorem Iv.ini : Iv sg0 := by
  refine ⟨Ib.ini, fun i h1 hi => ?_, fun i _ h1 hi => ?_, fun j hj => absurd hj (sg0_live j)⟩
  · rw [sg0_v] at hi; omega
  · rw [sg0_v] at hi; omega
