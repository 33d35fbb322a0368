/-! the class's cells behind a change of one number -/
section WrC3
variable {cP cR : ClassId} {x xp xr : Nat} {pa ra : Nat → Nat} {σ : Sg} {h : Hp}
theorem CR.w1 (hC : CR cP cR x xp xr pa ra σ h) {i : Nat} (hi : (i : Int) ≤ σ 9 0) {v : Int} : CR cP cR x xp xr pa ra (upS σ 1 i v) (hup h (pa i) (prt i (σ 0 i) v (σ 2 i) (σ 3 i) (σ 4 i))) := by
  have := hC.wpart hi (σ' := upS σ 1 i v) (fun g k q => upS_g (by omega)) (fun g k q => upS_i q)
  rw [upS_g (by decide), upS_s, upS_g (by decide), upS_g (by decide), upS_g (by decide)] at this
  exact this
theorem CR.w4 (hC : CR cP cR x xp xr pa ra σ h) {i : Nat} (hi : (i : Int) ≤ σ 9 0) {v : Int} : CR cP cR x xp xr pa ra (upS σ 4 i v) (hup h (pa i) (prt i (σ 0 i) (σ 1 i) (σ 2 i) (σ 3 i) v)) := by
  have := hC.wpart hi (σ' := upS σ 4 i v) (fun g k q => upS_g (by omega)) (fun g k q => upS_i q)
  rw [upS_g (by decide), upS_g (by decide), upS_g (by decide), upS_g (by decide), upS_s] at this
  exact this
theorem CR.w6 (hC : CR cP cR x xp xr pa ra σ h) {j : Nat} (hl : live σ j) {v : Int} : CR cP cR x xp xr pa ra (upS σ 6 j v) (hup h (ra j) (rwE v (σ 7 j) (σ 8 j) (pa (pn σ j)))) := by
  have := hC.wrow hl (σ' := upS σ 6 j v) (fun g i q => upS_g (by omega)) (fun g i q => upS_i q) ((upS_live (by decide) (by decide)).mpr hl)
  rw [upS_s, upS_g (by decide), upS_g (by decide), upS_pn (by decide)] at this
  exact this
theorem CR.w7 (hC : CR cP cR x xp xr pa ra σ h) {j : Nat} (hl : live σ j) {v : Int} : CR cP cR x xp xr pa ra (upS σ 7 j v) (hup h (ra j) (rwE (σ 6 j) v (σ 8 j) (pa (pn σ j)))) := by
  have := hC.wrow hl (σ' := upS σ 7 j v) (fun g i q => upS_g (by omega)) (fun g i q => upS_i q) ((upS_live (by decide) (by decide)).mpr hl)
  rw [upS_g (by decide), upS_s, upS_g (by decide), upS_pn (by decide)] at this
  exact this
theorem CR.w5 (hC : CR cP cR x xp xr pa ra σ h) {j : Nat} (hl : live σ j) {k : Nat} : CR cP cR x xp xr pa ra (upS σ 5 j (k : Int)) (hup h (ra j) (rwE (σ 6 j) (σ 7 j) (σ 8 j) (pa k))) := by
  have := hC.wrow hl (σ' := upS σ 5 j (k : Int)) (fun g i q => upS_g (by omega)) (fun g i q => upS_i q) ((upS_live5 hl (by omega)).mpr hl)
  rw [upS_g (by decide), upS_g (by decide), upS_g (by decide), show pn (upS σ 5 j (k : Int)) j = k by unfold pn; rw [upS_s]; exact Int.toNat_natCast k] at this
  exact this
end WrC3
