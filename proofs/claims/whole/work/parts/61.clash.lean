theorem cl_makePart_0_1 {σ : Sg} {f t k d : Int} (cA : (okR f t ∧ okK k d) ∧ ¬ ovl σ f t ∧ ¬ inR σ f t ∧ σ 9 0 < 15) (cB : ¬ (okR f t ∧ okK k d)) : False := by
  first | (exact cA cB) | (exact cB cA) | (exact cA cB.1) | (exact cB cA.1) | (exact cB.2 cA.2) | (exact cA.2 cB.2) | (simp_all; done) | (simp_all; omega) | grind
theorem cl_makePart_0_2 {σ : Sg} {f t k d : Int} (cA : (okR f t ∧ okK k d) ∧ ¬ ovl σ f t ∧ ¬ inR σ f t ∧ σ 9 0 < 15) (cB : (okR f t ∧ okK k d) ∧ ¬ (¬ ovl σ f t ∧ ¬ inR σ f t ∧ σ 9 0 < 15)) : False := by
  first | (exact cA cB) | (exact cB cA) | (exact cA cB.1) | (exact cB cA.1) | (exact cB.2 cA.2) | (exact cA.2 cB.2) | (simp_all; done) | (simp_all; omega) | grind
theorem cl_makePart_1_0 {σ : Sg} {f t k d : Int} (cA : ¬ (okR f t ∧ okK k d)) (cB : (okR f t ∧ okK k d) ∧ ¬ ovl σ f t ∧ ¬ inR σ f t ∧ σ 9 0 < 15) : False := by
  first | (exact cA cB) | (exact cB cA) | (exact cA cB.1) | (exact cB cA.1) | (exact cB.2 cA.2) | (exact cA.2 cB.2) | (simp_all; done) | (simp_all; omega) | grind
theorem cl_makePart_1_2 {σ : Sg} {f t k d : Int} (cA : ¬ (okR f t ∧ okK k d)) (cB : (okR f t ∧ okK k d) ∧ ¬ (¬ ovl σ f t ∧ ¬ inR σ f t ∧ σ 9 0 < 15)) : False := by
  first | (exact cA cB) | (exact cB cA) | (exact cA cB.1) | (exact cB cA.1) | (exact cB.2 cA.2) | (exact cA.2 cB.2) | (simp_all; done) | (simp_all; omega) | grind
theorem cl_makePart_2_0 {σ : Sg} {f t k d : Int} (cA : okR f t ∧ okK k d ∧ (ovl σ f t ∨ inR σ f t ∨ ¬ σ 9 0 < 15)) (cB : (okR f t ∧ okK k d) ∧ ¬ ovl σ f t ∧ ¬ inR σ f t ∧ σ 9 0 < 15) : False := by
  first | (exact cA cB) | (exact cB cA) | (exact cA cB.1) | (exact cB cA.1) | (exact cB.2 cA.2) | (exact cA.2 cB.2) | (simp_all; done) | (simp_all; omega) | grind
theorem cl_makePart_2_1 {σ : Sg} {f t k d : Int} (cA : okR f t ∧ okK k d ∧ (ovl σ f t ∨ inR σ f t ∨ ¬ σ 9 0 < 15)) (cB : ¬ (okR f t ∧ okK k d)) : False := by
  first | (exact cA cB) | (exact cB cA) | (exact cA cB.1) | (exact cB cA.1) | (exact cB.2 cA.2) | (exact cA.2 cB.2) | (simp_all; done) | (simp_all; omega) | grind
theorem cl_carveOut_0_1 {σ : Sg} {f t k d : Int} (cA : (okR f t ∧ okK k d) ∧ ¬ ovl σ f t ∧ σ 9 0 < 15) (cB : ¬ (okR f t ∧ okK k d)) : False := by
  first | (exact cA cB) | (exact cB cA) | (exact cA cB.1) | (exact cB cA.1) | (exact cB.2 cA.2) | (exact cA.2 cB.2) | (simp_all; done) | (simp_all; omega) | grind
theorem cl_carveOut_0_2 {σ : Sg} {f t k d : Int} (cA : (okR f t ∧ okK k d) ∧ ¬ ovl σ f t ∧ σ 9 0 < 15) (cB : (okR f t ∧ okK k d) ∧ ¬ (¬ ovl σ f t ∧ σ 9 0 < 15)) : False := by
  first | (exact cA cB) | (exact cB cA) | (exact cA cB.1) | (exact cB cA.1) | (exact cB.2 cA.2) | (exact cA.2 cB.2) | (simp_all; done) | (simp_all; omega) | grind
theorem cl_carveOut_1_0 {σ : Sg} {f t k d : Int} (cA : ¬ (okR f t ∧ okK k d)) (cB : (okR f t ∧ okK k d) ∧ ¬ ovl σ f t ∧ σ 9 0 < 15) : False := by
  first | (exact cA cB) | (exact cB cA) | (exact cA cB.1) | (exact cB cA.1) | (exact cB.2 cA.2) | (exact cA.2 cB.2) | (simp_all; done) | (simp_all; omega) | grind
theorem cl_carveOut_1_2 {σ : Sg} {f t k d : Int} (cA : ¬ (okR f t ∧ okK k d)) (cB : (okR f t ∧ okK k d) ∧ ¬ (¬ ovl σ f t ∧ σ 9 0 < 15)) : False := by
  first | (exact cA cB) | (exact cB cA) | (exact cA cB.1) | (exact cB cA.1) | (exact cB.2 cA.2) | (exact cA.2 cB.2) | (simp_all; done) | (simp_all; omega) | grind
theorem cl_carveOut_2_0 {σ : Sg} {f t k d : Int} (cA : okR f t ∧ okK k d ∧ (ovl σ f t ∨ ¬ σ 9 0 < 15)) (cB : (okR f t ∧ okK k d) ∧ ¬ ovl σ f t ∧ σ 9 0 < 15) : False := by
  first | (exact cA cB) | (exact cB cA) | (exact cA cB.1) | (exact cB cA.1) | (exact cB.2 cA.2) | (exact cA.2 cB.2) | (simp_all; done) | (simp_all; omega) | grind
theorem cl_carveOut_2_1 {σ : Sg} {f t k d : Int} (cA : okR f t ∧ okK k d ∧ (ovl σ f t ∨ ¬ σ 9 0 < 15)) (cB : ¬ (okR f t ∧ okK k d)) : False := by
  first | (exact cA cB) | (exact cB cA) | (exact cA cB.1) | (exact cB cA.1) | (exact cB.2 cA.2) | (exact cA.2 cB.2) | (simp_all; done) | (simp_all; omega) | grind
theorem cl_split_0_1 {σ : Sg} {n ky : Int} (cA : isP σ n ∧ (σ 0 n.toNat < ky ∧ ky < σ 1 n.toNat) ∧ σ 4 n.toNat = 0 ∧ σ 9 0 < 15) (cB : ¬ isP σ n) : False := by
  first | (exact cA cB) | (exact cB cA) | (exact cA cB.1) | (exact cB cA.1) | (exact cB.2 cA.2) | (exact cA.2 cB.2) | (simp_all; done) | (simp_all; omega) | grind
theorem cl_split_0_2 {σ : Sg} {n ky : Int} (cA : isP σ n ∧ (σ 0 n.toNat < ky ∧ ky < σ 1 n.toNat) ∧ σ 4 n.toNat = 0 ∧ σ 9 0 < 15) (cB : isP σ n ∧ ¬ (σ 0 n.toNat < ky ∧ ky < σ 1 n.toNat)) : False := by
  first | (exact cA cB) | (exact cB cA) | (exact cA cB.1) | (exact cB cA.1) | (exact cB.2 cA.2) | (exact cA.2 cB.2) | (simp_all; done) | (simp_all; omega) | grind
theorem cl_split_0_3 {σ : Sg} {n ky : Int} (cA : isP σ n ∧ (σ 0 n.toNat < ky ∧ ky < σ 1 n.toNat) ∧ σ 4 n.toNat = 0 ∧ σ 9 0 < 15) (cB : isP σ n ∧ (σ 0 n.toNat < ky ∧ ky < σ 1 n.toNat) ∧ ¬ (σ 4 n.toNat = 0 ∧ σ 9 0 < 15)) : False := by
  first | (exact cA cB) | (exact cB cA) | (exact cA cB.1) | (exact cB cA.1) | (exact cB.2 cA.2) | (exact cA.2 cB.2) | (simp_all; done) | (simp_all; omega) | grind
theorem cl_split_1_0 {σ : Sg} {n ky : Int} (cA : ¬ isP σ n) (cB : isP σ n ∧ (σ 0 n.toNat < ky ∧ ky < σ 1 n.toNat) ∧ σ 4 n.toNat = 0 ∧ σ 9 0 < 15) : False := by
  first | (exact cA cB) | (exact cB cA) | (exact cA cB.1) | (exact cB cA.1) | (exact cB.2 cA.2) | (exact cA.2 cB.2) | (simp_all; done) | (simp_all; omega) | grind
theorem cl_split_1_2 {σ : Sg} {n ky : Int} (cA : ¬ isP σ n) (cB : isP σ n ∧ ¬ (σ 0 n.toNat < ky ∧ ky < σ 1 n.toNat)) : False := by
  first | (exact cA cB) | (exact cB cA) | (exact cA cB.1) | (exact cB cA.1) | (exact cB.2 cA.2) | (exact cA.2 cB.2) | (simp_all; done) | (simp_all; omega) | grind
theorem cl_split_1_3 {σ : Sg} {n ky : Int} (cA : ¬ isP σ n) (cB : isP σ n ∧ (σ 0 n.toNat < ky ∧ ky < σ 1 n.toNat) ∧ ¬ (σ 4 n.toNat = 0 ∧ σ 9 0 < 15)) : False := by
  first | (exact cA cB) | (exact cB cA) | (exact cA cB.1) | (exact cB cA.1) | (exact cB.2 cA.2) | (exact cA.2 cB.2) | (simp_all; done) | (simp_all; omega) | grind
theorem cl_split_2_0 {σ : Sg} {n ky : Int} (cA : isP σ n ∧ ¬ (σ 0 n.toNat < ky ∧ ky < σ 1 n.toNat)) (cB : isP σ n ∧ (σ 0 n.toNat < ky ∧ ky < σ 1 n.toNat) ∧ σ 4 n.toNat = 0 ∧ σ 9 0 < 15) : False := by
  first | (exact cA cB) | (exact cB cA) | (exact cA cB.1) | (exact cB cA.1) | (exact cB.2 cA.2) | (exact cA.2 cB.2) | (simp_all; done) | (simp_all; omega) | grind
theorem cl_split_2_1 {σ : Sg} {n ky : Int} (cA : isP σ n ∧ ¬ (σ 0 n.toNat < ky ∧ ky < σ 1 n.toNat)) (cB : ¬ isP σ n) : False := by
  first | (exact cA cB) | (exact cB cA) | (exact cA cB.1) | (exact cB cA.1) | (exact cB.2 cA.2) | (exact cA.2 cB.2) | (simp_all; done) | (simp_all; omega) | grind
theorem cl_split_2_3 {σ : Sg} {n ky : Int} (cA : isP σ n ∧ ¬ (σ 0 n.toNat < ky ∧ ky < σ 1 n.toNat)) (cB : isP σ n ∧ (σ 0 n.toNat < ky ∧ ky < σ 1 n.toNat) ∧ ¬ (σ 4 n.toNat = 0 ∧ σ 9 0 < 15)) : False := by
  first | (exact cA cB) | (exact cB cA) | (exact cA cB.1) | (exact cB cA.1) | (exact cB.2 cA.2) | (exact cA.2 cB.2) | (simp_all; done) | (simp_all; omega) | grind
theorem cl_split_3_0 {σ : Sg} {n ky : Int} (cA : isP σ n ∧ (σ 0 n.toNat < ky ∧ ky < σ 1 n.toNat) ∧ (σ 4 n.toNat ≠ 0 ∨ ¬ σ 9 0 < 15)) (cB : isP σ n ∧ (σ 0 n.toNat < ky ∧ ky < σ 1 n.toNat) ∧ σ 4 n.toNat = 0 ∧ σ 9 0 < 15) : False := by
  first | (exact cA cB) | (exact cB cA) | (exact cA cB.1) | (exact cB cA.1) | (exact cB.2 cA.2) | (exact cA.2 cB.2) | (simp_all; done) | (simp_all; omega) | grind
theorem cl_split_3_1 {σ : Sg} {n ky : Int} (cA : isP σ n ∧ (σ 0 n.toNat < ky ∧ ky < σ 1 n.toNat) ∧ (σ 4 n.toNat ≠ 0 ∨ ¬ σ 9 0 < 15)) (cB : ¬ isP σ n) : False := by
  first | (exact cA cB) | (exact cB cA) | (exact cA cB.1) | (exact cB cA.1) | (exact cB.2 cA.2) | (exact cA.2 cB.2) | (simp_all; done) | (simp_all; omega) | grind
theorem cl_split_3_2 {σ : Sg} {n ky : Int} (cA : isP σ n ∧ (σ 0 n.toNat < ky ∧ ky < σ 1 n.toNat) ∧ (σ 4 n.toNat ≠ 0 ∨ ¬ σ 9 0 < 15)) (cB : isP σ n ∧ ¬ (σ 0 n.toNat < ky ∧ ky < σ 1 n.toNat)) : False := by
  first | (exact cA cB) | (exact cB cA) | (exact cA cB.1) | (exact cB cA.1) | (exact cB.2 cA.2) | (exact cA.2 cB.2) | (simp_all; done) | (simp_all; omega) | grind
theorem cl_merge_0_1 {σ : Sg} {n n2 : Int} (cA : (isP σ n ∧ isP σ n2) ∧ (σ 4 n.toNat = 0 ∧ σ 4 n2.toNat = 0 ∧ σ 0 n2.toNat = σ 1 n.toNat ∧ σ 2 n2.toNat = σ 2 n.toNat ∧ σ 3 n2.toNat = σ 3 n.toNat)) (cB : ¬ (isP σ n ∧ isP σ n2)) : False := by
  first | (exact cA cB) | (exact cB cA) | (exact cA cB.1) | (exact cB cA.1) | (exact cB.2 cA.2) | (exact cA.2 cB.2) | (simp_all; done) | (simp_all; omega) | grind
theorem cl_merge_0_2 {σ : Sg} {n n2 : Int} (cA : (isP σ n ∧ isP σ n2) ∧ (σ 4 n.toNat = 0 ∧ σ 4 n2.toNat = 0 ∧ σ 0 n2.toNat = σ 1 n.toNat ∧ σ 2 n2.toNat = σ 2 n.toNat ∧ σ 3 n2.toNat = σ 3 n.toNat)) (cB : (isP σ n ∧ isP σ n2) ∧ ¬ (σ 4 n.toNat = 0 ∧ σ 4 n2.toNat = 0 ∧ σ 0 n2.toNat = σ 1 n.toNat ∧ σ 2 n2.toNat = σ 2 n.toNat ∧ σ 3 n2.toNat = σ 3 n.toNat)) : False := by
  first | (exact cA cB) | (exact cB cA) | (exact cA cB.1) | (exact cB cA.1) | (exact cB.2 cA.2) | (exact cA.2 cB.2) | (simp_all; done) | (simp_all; omega) | grind
theorem cl_merge_1_0 {σ : Sg} {n n2 : Int} (cA : ¬ (isP σ n ∧ isP σ n2)) (cB : (isP σ n ∧ isP σ n2) ∧ (σ 4 n.toNat = 0 ∧ σ 4 n2.toNat = 0 ∧ σ 0 n2.toNat = σ 1 n.toNat ∧ σ 2 n2.toNat = σ 2 n.toNat ∧ σ 3 n2.toNat = σ 3 n.toNat)) : False := by
  first | (exact cA cB) | (exact cB cA) | (exact cA cB.1) | (exact cB cA.1) | (exact cB.2 cA.2) | (exact cA.2 cB.2) | (simp_all; done) | (simp_all; omega) | grind
theorem cl_merge_1_2 {σ : Sg} {n n2 : Int} (cA : ¬ (isP σ n ∧ isP σ n2)) (cB : (isP σ n ∧ isP σ n2) ∧ ¬ (σ 4 n.toNat = 0 ∧ σ 4 n2.toNat = 0 ∧ σ 0 n2.toNat = σ 1 n.toNat ∧ σ 2 n2.toNat = σ 2 n.toNat ∧ σ 3 n2.toNat = σ 3 n.toNat)) : False := by
  first | (exact cA cB) | (exact cB cA) | (exact cA cB.1) | (exact cB cA.1) | (exact cB.2 cA.2) | (exact cA.2 cB.2) | (simp_all; done) | (simp_all; omega) | grind
theorem cl_merge_2_0 {σ : Sg} {n n2 : Int} (cA : (isP σ n ∧ isP σ n2) ∧ ¬ (σ 4 n.toNat = 0 ∧ σ 4 n2.toNat = 0 ∧ σ 0 n2.toNat = σ 1 n.toNat ∧ σ 2 n2.toNat = σ 2 n.toNat ∧ σ 3 n2.toNat = σ 3 n.toNat)) (cB : (isP σ n ∧ isP σ n2) ∧ (σ 4 n.toNat = 0 ∧ σ 4 n2.toNat = 0 ∧ σ 0 n2.toNat = σ 1 n.toNat ∧ σ 2 n2.toNat = σ 2 n.toNat ∧ σ 3 n2.toNat = σ 3 n.toNat)) : False := by
  first | (exact cA cB) | (exact cB cA) | (exact cA cB.1) | (exact cB cA.1) | (exact cB.2 cA.2) | (exact cA.2 cB.2) | (simp_all; done) | (simp_all; omega) | grind
theorem cl_merge_2_1 {σ : Sg} {n n2 : Int} (cA : (isP σ n ∧ isP σ n2) ∧ ¬ (σ 4 n.toNat = 0 ∧ σ 4 n2.toNat = 0 ∧ σ 0 n2.toNat = σ 1 n.toNat ∧ σ 2 n2.toNat = σ 2 n.toNat ∧ σ 3 n2.toNat = σ 3 n.toNat)) (cB : ¬ (isP σ n ∧ isP σ n2)) : False := by
  first | (exact cA cB) | (exact cB cA) | (exact cA cB.1) | (exact cB cA.1) | (exact cB.2 cA.2) | (exact cA.2 cB.2) | (simp_all; done) | (simp_all; omega) | grind
theorem cl_detach_0_1 {σ : Sg} {n : Int} (cA : isP σ n ∧ σ 4 n.toNat = 0) (cB : ¬ isP σ n) : False := by
  first | (exact cA cB) | (exact cB cA) | (exact cA cB.1) | (exact cB cA.1) | (exact cB.2 cA.2) | (exact cA.2 cB.2) | (simp_all; done) | (simp_all; omega) | grind
theorem cl_detach_0_2 {σ : Sg} {n : Int} (cA : isP σ n ∧ σ 4 n.toNat = 0) (cB : isP σ n ∧ σ 4 n.toNat ≠ 0) : False := by
  first | (exact cA cB) | (exact cB cA) | (exact cA cB.1) | (exact cB cA.1) | (exact cB.2 cA.2) | (exact cA.2 cB.2) | (simp_all; done) | (simp_all; omega) | grind
theorem cl_detach_1_0 {σ : Sg} {n : Int} (cA : ¬ isP σ n) (cB : isP σ n ∧ σ 4 n.toNat = 0) : False := by
  first | (exact cA cB) | (exact cB cA) | (exact cA cB.1) | (exact cB cA.1) | (exact cB.2 cA.2) | (exact cA.2 cB.2) | (simp_all; done) | (simp_all; omega) | grind
theorem cl_detach_1_2 {σ : Sg} {n : Int} (cA : ¬ isP σ n) (cB : isP σ n ∧ σ 4 n.toNat ≠ 0) : False := by
  first | (exact cA cB) | (exact cB cA) | (exact cA cB.1) | (exact cB cA.1) | (exact cB.2 cA.2) | (exact cA.2 cB.2) | (simp_all; done) | (simp_all; omega) | grind
theorem cl_detach_2_0 {σ : Sg} {n : Int} (cA : isP σ n ∧ σ 4 n.toNat ≠ 0) (cB : isP σ n ∧ σ 4 n.toNat = 0) : False := by
  first | (exact cA cB) | (exact cB cA) | (exact cA cB.1) | (exact cB cA.1) | (exact cB.2 cA.2) | (exact cA.2 cB.2) | (simp_all; done) | (simp_all; omega) | grind
theorem cl_detach_2_1 {σ : Sg} {n : Int} (cA : isP σ n ∧ σ 4 n.toNat ≠ 0) (cB : ¬ isP σ n) : False := by
  first | (exact cA cB) | (exact cB cA) | (exact cA cB.1) | (exact cB cA.1) | (exact cB.2 cA.2) | (exact cA.2 cB.2) | (simp_all; done) | (simp_all; omega) | grind
theorem cl_attach_0_1 {σ : Sg} {n : Int} (cA : isP σ n ∧ (σ 4 n.toNat = 1 ∧ ¬ ovl σ (σ 0 n.toNat) (σ 1 n.toNat) ∧ ¬ inR σ (σ 0 n.toNat) (σ 1 n.toNat))) (cB : ¬ isP σ n) : False := by
  first | (exact cA cB) | (exact cB cA) | (exact cA cB.1) | (exact cB cA.1) | (exact cB.2 cA.2) | (exact cA.2 cB.2) | (simp_all; done) | (simp_all; omega) | grind
theorem cl_attach_0_2 {σ : Sg} {n : Int} (cA : isP σ n ∧ (σ 4 n.toNat = 1 ∧ ¬ ovl σ (σ 0 n.toNat) (σ 1 n.toNat) ∧ ¬ inR σ (σ 0 n.toNat) (σ 1 n.toNat))) (cB : isP σ n ∧ ¬ (σ 4 n.toNat = 1 ∧ ¬ ovl σ (σ 0 n.toNat) (σ 1 n.toNat) ∧ ¬ inR σ (σ 0 n.toNat) (σ 1 n.toNat))) : False := by
  first | (exact cA cB) | (exact cB cA) | (exact cA cB.1) | (exact cB cA.1) | (exact cB.2 cA.2) | (exact cA.2 cB.2) | (simp_all; done) | (simp_all; omega) | grind
theorem cl_attach_1_0 {σ : Sg} {n : Int} (cA : ¬ isP σ n) (cB : isP σ n ∧ (σ 4 n.toNat = 1 ∧ ¬ ovl σ (σ 0 n.toNat) (σ 1 n.toNat) ∧ ¬ inR σ (σ 0 n.toNat) (σ 1 n.toNat))) : False := by
  first | (exact cA cB) | (exact cB cA) | (exact cA cB.1) | (exact cB cA.1) | (exact cB.2 cA.2) | (exact cA.2 cB.2) | (simp_all; done) | (simp_all; omega) | grind
theorem cl_attach_1_2 {σ : Sg} {n : Int} (cA : ¬ isP σ n) (cB : isP σ n ∧ ¬ (σ 4 n.toNat = 1 ∧ ¬ ovl σ (σ 0 n.toNat) (σ 1 n.toNat) ∧ ¬ inR σ (σ 0 n.toNat) (σ 1 n.toNat))) : False := by
  first | (exact cA cB) | (exact cB cA) | (exact cA cB.1) | (exact cB cA.1) | (exact cB.2 cA.2) | (exact cA.2 cB.2) | (simp_all; done) | (simp_all; omega) | grind
theorem cl_attach_2_0 {σ : Sg} {n : Int} (cA : isP σ n ∧ ¬ (σ 4 n.toNat = 1 ∧ ¬ ovl σ (σ 0 n.toNat) (σ 1 n.toNat) ∧ ¬ inR σ (σ 0 n.toNat) (σ 1 n.toNat))) (cB : isP σ n ∧ (σ 4 n.toNat = 1 ∧ ¬ ovl σ (σ 0 n.toNat) (σ 1 n.toNat) ∧ ¬ inR σ (σ 0 n.toNat) (σ 1 n.toNat))) : False := by
  first | (exact cA cB) | (exact cB cA) | (exact cA cB.1) | (exact cB cA.1) | (exact cB.2 cA.2) | (exact cA.2 cB.2) | (simp_all; done) | (simp_all; omega) | grind
theorem cl_attach_2_1 {σ : Sg} {n : Int} (cA : isP σ n ∧ ¬ (σ 4 n.toNat = 1 ∧ ¬ ovl σ (σ 0 n.toNat) (σ 1 n.toNat) ∧ ¬ inR σ (σ 0 n.toNat) (σ 1 n.toNat))) (cB : ¬ isP σ n) : False := by
  first | (exact cA cB) | (exact cB cA) | (exact cA cB.1) | (exact cB cA.1) | (exact cB.2 cA.2) | (exact cA.2 cB.2) | (simp_all; done) | (simp_all; omega) | grind
theorem cl_exchange_0_1 {σ : Sg} {n n2 : Int} (cA : (isP σ n ∧ isP σ n2) ∧ (σ 4 n.toNat = 0 ∧ σ 4 n2.toNat = 1 ∧ ¬ forn σ n.toNat n2.toNat ∧ ¬ forn σ n2.toNat n.toNat)) (cB : ¬ (isP σ n ∧ isP σ n2)) : False := by
  first | (exact cA cB) | (exact cB cA) | (exact cA cB.1) | (exact cB cA.1) | (exact cB.2 cA.2) | (exact cA.2 cB.2) | (simp_all; done) | (simp_all; omega) | grind
theorem cl_exchange_0_2 {σ : Sg} {n n2 : Int} (cA : (isP σ n ∧ isP σ n2) ∧ (σ 4 n.toNat = 0 ∧ σ 4 n2.toNat = 1 ∧ ¬ forn σ n.toNat n2.toNat ∧ ¬ forn σ n2.toNat n.toNat)) (cB : (isP σ n ∧ isP σ n2) ∧ ¬ (σ 4 n.toNat = 0 ∧ σ 4 n2.toNat = 1 ∧ ¬ forn σ n.toNat n2.toNat ∧ ¬ forn σ n2.toNat n.toNat)) : False := by
  first | (exact cA cB) | (exact cB cA) | (exact cA cB.1) | (exact cB cA.1) | (exact cB.2 cA.2) | (exact cA.2 cB.2) | (simp_all; done) | (simp_all; omega) | grind
theorem cl_exchange_1_0 {σ : Sg} {n n2 : Int} (cA : ¬ (isP σ n ∧ isP σ n2)) (cB : (isP σ n ∧ isP σ n2) ∧ (σ 4 n.toNat = 0 ∧ σ 4 n2.toNat = 1 ∧ ¬ forn σ n.toNat n2.toNat ∧ ¬ forn σ n2.toNat n.toNat)) : False := by
  first | (exact cA cB) | (exact cB cA) | (exact cA cB.1) | (exact cB cA.1) | (exact cB.2 cA.2) | (exact cA.2 cB.2) | (simp_all; done) | (simp_all; omega) | grind
theorem cl_exchange_1_2 {σ : Sg} {n n2 : Int} (cA : ¬ (isP σ n ∧ isP σ n2)) (cB : (isP σ n ∧ isP σ n2) ∧ ¬ (σ 4 n.toNat = 0 ∧ σ 4 n2.toNat = 1 ∧ ¬ forn σ n.toNat n2.toNat ∧ ¬ forn σ n2.toNat n.toNat)) : False := by
  first | (exact cA cB) | (exact cB cA) | (exact cA cB.1) | (exact cB cA.1) | (exact cB.2 cA.2) | (exact cA.2 cB.2) | (simp_all; done) | (simp_all; omega) | grind
theorem cl_exchange_2_0 {σ : Sg} {n n2 : Int} (cA : (isP σ n ∧ isP σ n2) ∧ ¬ (σ 4 n.toNat = 0 ∧ σ 4 n2.toNat = 1 ∧ ¬ forn σ n.toNat n2.toNat ∧ ¬ forn σ n2.toNat n.toNat)) (cB : (isP σ n ∧ isP σ n2) ∧ (σ 4 n.toNat = 0 ∧ σ 4 n2.toNat = 1 ∧ ¬ forn σ n.toNat n2.toNat ∧ ¬ forn σ n2.toNat n.toNat)) : False := by
  first | (exact cA cB) | (exact cB cA) | (exact cA cB.1) | (exact cB cA.1) | (exact cB.2 cA.2) | (exact cA.2 cB.2) | (simp_all; done) | (simp_all; omega) | grind
theorem cl_exchange_2_1 {σ : Sg} {n n2 : Int} (cA : (isP σ n ∧ isP σ n2) ∧ ¬ (σ 4 n.toNat = 0 ∧ σ 4 n2.toNat = 1 ∧ ¬ forn σ n.toNat n2.toNat ∧ ¬ forn σ n2.toNat n.toNat)) (cB : ¬ (isP σ n ∧ isP σ n2)) : False := by
  first | (exact cA cB) | (exact cB cA) | (exact cA cB.1) | (exact cB cA.1) | (exact cB.2 cA.2) | (exact cA.2 cB.2) | (simp_all; done) | (simp_all; omega) | grind
theorem cl_insert_0_1 {σ : Sg} {ky sr vl : Int} (cA : (0 ≤ ky ∧ ky ≤ 999) ∧ (0 ≤ sr ∧ sr ≤ 9) ∧ (0 ≤ vl ∧ vl ≤ 99) ∧ σ 10 0 < 200) (cB : ¬ ((0 ≤ ky ∧ ky ≤ 999) ∧ (0 ≤ sr ∧ sr ≤ 9) ∧ (0 ≤ vl ∧ vl ≤ 99))) : False := by
  first | (exact cA cB) | (exact cB cA) | (exact cA cB.1) | (exact cB cA.1) | (exact cB.2 cA.2) | (exact cA.2 cB.2) | (simp_all; done) | (simp_all; omega) | grind
theorem cl_insert_0_2 {σ : Sg} {ky sr vl : Int} (cA : (0 ≤ ky ∧ ky ≤ 999) ∧ (0 ≤ sr ∧ sr ≤ 9) ∧ (0 ≤ vl ∧ vl ≤ 99) ∧ σ 10 0 < 200) (cB : ((0 ≤ ky ∧ ky ≤ 999) ∧ (0 ≤ sr ∧ sr ≤ 9) ∧ (0 ≤ vl ∧ vl ≤ 99)) ∧ ¬ σ 10 0 < 200) : False := by
  first | (exact cA cB) | (exact cB cA) | (exact cA cB.1) | (exact cB cA.1) | (exact cB.2 cA.2) | (exact cA.2 cB.2) | (simp_all; done) | (simp_all; omega) | grind
theorem cl_insert_1_0 {σ : Sg} {ky sr vl : Int} (cA : ¬ ((0 ≤ ky ∧ ky ≤ 999) ∧ (0 ≤ sr ∧ sr ≤ 9) ∧ (0 ≤ vl ∧ vl ≤ 99))) (cB : ((0 ≤ ky ∧ ky ≤ 999) ∧ (0 ≤ sr ∧ sr ≤ 9) ∧ (0 ≤ vl ∧ vl ≤ 99)) ∧ σ 10 0 < 200) : False := by
  first | (exact cA cB) | (exact cB cA) | (exact cA cB.1) | (exact cB cA.1) | (exact cB.2 cA.2) | (exact cA.2 cB.2) | (simp_all; done) | (simp_all; omega) | grind
theorem cl_insert_1_2 {σ : Sg} {ky sr vl : Int} (cA : ¬ ((0 ≤ ky ∧ ky ≤ 999) ∧ (0 ≤ sr ∧ sr ≤ 9) ∧ (0 ≤ vl ∧ vl ≤ 99))) (cB : ((0 ≤ ky ∧ ky ≤ 999) ∧ (0 ≤ sr ∧ sr ≤ 9) ∧ (0 ≤ vl ∧ vl ≤ 99)) ∧ ¬ σ 10 0 < 200) : False := by
  first | (exact cA cB) | (exact cB cA) | (exact cA cB.1) | (exact cB cA.1) | (exact cB.2 cA.2) | (exact cA.2 cB.2) | (simp_all; done) | (simp_all; omega) | grind
theorem cl_insert_2_0 {σ : Sg} {ky sr vl : Int} (cA : ((0 ≤ ky ∧ ky ≤ 999) ∧ (0 ≤ sr ∧ sr ≤ 9) ∧ (0 ≤ vl ∧ vl ≤ 99)) ∧ ¬ σ 10 0 < 200) (cB : ((0 ≤ ky ∧ ky ≤ 999) ∧ (0 ≤ sr ∧ sr ≤ 9) ∧ (0 ≤ vl ∧ vl ≤ 99)) ∧ σ 10 0 < 200) : False := by
  first | (exact cA cB) | (exact cB cA) | (exact cA cB.1) | (exact cB cA.1) | (exact cB.2 cA.2) | (exact cA.2 cB.2) | (simp_all; done) | (simp_all; omega) | grind
theorem cl_insert_2_1 {σ : Sg} {ky sr vl : Int} (cA : ((0 ≤ ky ∧ ky ≤ 999) ∧ (0 ≤ sr ∧ sr ≤ 9) ∧ (0 ≤ vl ∧ vl ≤ 99)) ∧ ¬ σ 10 0 < 200) (cB : ¬ ((0 ≤ ky ∧ ky ≤ 999) ∧ (0 ≤ sr ∧ sr ≤ 9) ∧ (0 ≤ vl ∧ vl ≤ 99))) : False := by
  first | (exact cA cB) | (exact cB cA) | (exact cA cB.1) | (exact cB cA.1) | (exact cB.2 cA.2) | (exact cA.2 cB.2) | (simp_all; done) | (simp_all; omega) | grind
theorem cl_change_0_1 {σ : Sg} {n ky sr : Int} (cA : isR σ n ∧ ((0 ≤ ky ∧ ky ≤ 999) ∧ 0 ≤ sr ∧ sr ≤ 9) ∧ σ 4 (pn σ n.toNat) = 0) (cB : ¬ isR σ n) : False := by
  first | (exact cA cB) | (exact cB cA) | (exact cA cB.1) | (exact cB cA.1) | (exact cB.2 cA.2) | (exact cA.2 cB.2) | (simp_all; done) | (simp_all; omega) | grind
theorem cl_change_0_2 {σ : Sg} {n ky sr : Int} (cA : isR σ n ∧ ((0 ≤ ky ∧ ky ≤ 999) ∧ 0 ≤ sr ∧ sr ≤ 9) ∧ σ 4 (pn σ n.toNat) = 0) (cB : isR σ n ∧ ¬ ((0 ≤ ky ∧ ky ≤ 999) ∧ 0 ≤ sr ∧ sr ≤ 9)) : False := by
  first | (exact cA cB) | (exact cB cA) | (exact cA cB.1) | (exact cB cA.1) | (exact cB.2 cA.2) | (exact cA.2 cB.2) | (simp_all; done) | (simp_all; omega) | grind
theorem cl_change_0_3 {σ : Sg} {n ky sr : Int} (cA : isR σ n ∧ ((0 ≤ ky ∧ ky ≤ 999) ∧ 0 ≤ sr ∧ sr ≤ 9) ∧ σ 4 (pn σ n.toNat) = 0) (cB : isR σ n ∧ ((0 ≤ ky ∧ ky ≤ 999) ∧ 0 ≤ sr ∧ sr ≤ 9) ∧ σ 4 (pn σ n.toNat) ≠ 0) : False := by
  first | (exact cA cB) | (exact cB cA) | (exact cA cB.1) | (exact cB cA.1) | (exact cB.2 cA.2) | (exact cA.2 cB.2) | (simp_all; done) | (simp_all; omega) | grind
theorem cl_change_1_0 {σ : Sg} {n ky sr : Int} (cA : ¬ isR σ n) (cB : isR σ n ∧ ((0 ≤ ky ∧ ky ≤ 999) ∧ 0 ≤ sr ∧ sr ≤ 9) ∧ σ 4 (pn σ n.toNat) = 0) : False := by
  first | (exact cA cB) | (exact cB cA) | (exact cA cB.1) | (exact cB cA.1) | (exact cB.2 cA.2) | (exact cA.2 cB.2) | (simp_all; done) | (simp_all; omega) | grind
theorem cl_change_1_2 {σ : Sg} {n ky sr : Int} (cA : ¬ isR σ n) (cB : isR σ n ∧ ¬ ((0 ≤ ky ∧ ky ≤ 999) ∧ 0 ≤ sr ∧ sr ≤ 9)) : False := by
  first | (exact cA cB) | (exact cB cA) | (exact cA cB.1) | (exact cB cA.1) | (exact cB.2 cA.2) | (exact cA.2 cB.2) | (simp_all; done) | (simp_all; omega) | grind
theorem cl_change_1_3 {σ : Sg} {n ky sr : Int} (cA : ¬ isR σ n) (cB : isR σ n ∧ ((0 ≤ ky ∧ ky ≤ 999) ∧ 0 ≤ sr ∧ sr ≤ 9) ∧ σ 4 (pn σ n.toNat) ≠ 0) : False := by
  first | (exact cA cB) | (exact cB cA) | (exact cA cB.1) | (exact cB cA.1) | (exact cB.2 cA.2) | (exact cA.2 cB.2) | (simp_all; done) | (simp_all; omega) | grind
theorem cl_change_2_0 {σ : Sg} {n ky sr : Int} (cA : isR σ n ∧ ¬ ((0 ≤ ky ∧ ky ≤ 999) ∧ 0 ≤ sr ∧ sr ≤ 9)) (cB : isR σ n ∧ ((0 ≤ ky ∧ ky ≤ 999) ∧ 0 ≤ sr ∧ sr ≤ 9) ∧ σ 4 (pn σ n.toNat) = 0) : False := by
  first | (exact cA cB) | (exact cB cA) | (exact cA cB.1) | (exact cB cA.1) | (exact cB.2 cA.2) | (exact cA.2 cB.2) | (simp_all; done) | (simp_all; omega) | grind
theorem cl_change_2_1 {σ : Sg} {n ky sr : Int} (cA : isR σ n ∧ ¬ ((0 ≤ ky ∧ ky ≤ 999) ∧ 0 ≤ sr ∧ sr ≤ 9)) (cB : ¬ isR σ n) : False := by
  first | (exact cA cB) | (exact cB cA) | (exact cA cB.1) | (exact cB cA.1) | (exact cB.2 cA.2) | (exact cA.2 cB.2) | (simp_all; done) | (simp_all; omega) | grind
theorem cl_change_2_3 {σ : Sg} {n ky sr : Int} (cA : isR σ n ∧ ¬ ((0 ≤ ky ∧ ky ≤ 999) ∧ 0 ≤ sr ∧ sr ≤ 9)) (cB : isR σ n ∧ ((0 ≤ ky ∧ ky ≤ 999) ∧ 0 ≤ sr ∧ sr ≤ 9) ∧ σ 4 (pn σ n.toNat) ≠ 0) : False := by
  first | (exact cA cB) | (exact cB cA) | (exact cA cB.1) | (exact cB cA.1) | (exact cB.2 cA.2) | (exact cA.2 cB.2) | (simp_all; done) | (simp_all; omega) | grind
theorem cl_change_3_0 {σ : Sg} {n ky sr : Int} (cA : isR σ n ∧ ((0 ≤ ky ∧ ky ≤ 999) ∧ 0 ≤ sr ∧ sr ≤ 9) ∧ σ 4 (pn σ n.toNat) ≠ 0) (cB : isR σ n ∧ ((0 ≤ ky ∧ ky ≤ 999) ∧ 0 ≤ sr ∧ sr ≤ 9) ∧ σ 4 (pn σ n.toNat) = 0) : False := by
  first | (exact cA cB) | (exact cB cA) | (exact cA cB.1) | (exact cB cA.1) | (exact cB.2 cA.2) | (exact cA.2 cB.2) | (simp_all; done) | (simp_all; omega) | grind
theorem cl_change_3_1 {σ : Sg} {n ky sr : Int} (cA : isR σ n ∧ ((0 ≤ ky ∧ ky ≤ 999) ∧ 0 ≤ sr ∧ sr ≤ 9) ∧ σ 4 (pn σ n.toNat) ≠ 0) (cB : ¬ isR σ n) : False := by
  first | (exact cA cB) | (exact cB cA) | (exact cA cB.1) | (exact cB cA.1) | (exact cB.2 cA.2) | (exact cA.2 cB.2) | (simp_all; done) | (simp_all; omega) | grind
theorem cl_change_3_2 {σ : Sg} {n ky sr : Int} (cA : isR σ n ∧ ((0 ≤ ky ∧ ky ≤ 999) ∧ 0 ≤ sr ∧ sr ≤ 9) ∧ σ 4 (pn σ n.toNat) ≠ 0) (cB : isR σ n ∧ ¬ ((0 ≤ ky ∧ ky ≤ 999) ∧ 0 ≤ sr ∧ sr ≤ 9)) : False := by
  first | (exact cA cB) | (exact cB cA) | (exact cA cB.1) | (exact cB cA.1) | (exact cB.2 cA.2) | (exact cA.2 cB.2) | (simp_all; done) | (simp_all; omega) | grind
theorem cl_remove_0_1 {σ : Sg} {n : Int} (cA : isR σ n) (cB : ¬ isR σ n) : False := by
  first | (exact cA cB) | (exact cB cA) | (exact cA cB.1) | (exact cB cA.1) | (exact cB.2 cA.2) | (exact cA.2 cB.2) | (simp_all; done) | (simp_all; omega) | grind
theorem cl_remove_1_0 {σ : Sg} {n : Int} (cA : ¬ isR σ n) (cB : isR σ n) : False := by
  first | (exact cA cB) | (exact cB cA) | (exact cA cB.1) | (exact cB cA.1) | (exact cB.2 cA.2) | (exact cA.2 cB.2) | (simp_all; done) | (simp_all; omega) | grind
theorem cl_stateOf_0_1 {σ : Sg} {n : Int} (cA : 0 ≤ n ∧ n ≤ σ 9 0) (cB : ¬ (0 ≤ n ∧ n ≤ σ 9 0)) : False := by
  first | (exact cA cB) | (exact cB cA) | (exact cA cB.1) | (exact cB cA.1) | (exact cB.2 cA.2) | (exact cA.2 cB.2) | (simp_all; done) | (simp_all; omega) | grind
theorem cl_stateOf_1_0 {σ : Sg} {n : Int} (cA : ¬ (0 ≤ n ∧ n ≤ σ 9 0)) (cB : 0 ≤ n ∧ n ≤ σ 9 0) : False := by
  first | (exact cA cB) | (exact cB cA) | (exact cA cB.1) | (exact cB cA.1) | (exact cB.2 cA.2) | (exact cA.2 cB.2) | (simp_all; done) | (simp_all; omega) | grind
theorem cl_partOf_0_1 {σ : Sg} {ky : Int} (cA : 0 ≤ ky ∧ ky ≤ 999) (cB : ¬ (0 ≤ ky ∧ ky ≤ 999)) : False := by
  first | (exact cA cB) | (exact cB cA) | (exact cA cB.1) | (exact cB cA.1) | (exact cB.2 cA.2) | (exact cA.2 cB.2) | (simp_all; done) | (simp_all; omega) | grind
theorem cl_partOf_1_0 {σ : Sg} {ky : Int} (cA : ¬ (0 ≤ ky ∧ ky ≤ 999)) (cB : 0 ≤ ky ∧ ky ≤ 999) : False := by
  first | (exact cA cB) | (exact cB cA) | (exact cA cB.1) | (exact cB cA.1) | (exact cB.2 cA.2) | (exact cA.2 cB.2) | (simp_all; done) | (simp_all; omega) | grind
theorem cl_leafOf_0_1 {σ : Sg} {n : Int} (cA : isR σ n) (cB : ¬ isR σ n) : False := by
  first | (exact cA cB) | (exact cB cA) | (exact cA cB.1) | (exact cB cA.1) | (exact cB.2 cA.2) | (exact cA.2 cB.2) | (simp_all; done) | (simp_all; omega) | grind
theorem cl_leafOf_1_0 {σ : Sg} {n : Int} (cA : ¬ isR σ n) (cB : isR σ n) : False := by
  first | (exact cA cB) | (exact cB cA) | (exact cA cB.1) | (exact cB cA.1) | (exact cB.2 cA.2) | (exact cA.2 cB.2) | (simp_all; done) | (simp_all; omega) | grind
theorem cl_rowsIn_0_1 {σ : Sg} {n le : Int} (cA : isL σ n le) (cB : ¬ isL σ n le) : False := by
  first | (exact cA cB) | (exact cB cA) | (exact cA cB.1) | (exact cB cA.1) | (exact cB.2 cA.2) | (exact cA.2 cB.2) | (simp_all; done) | (simp_all; omega) | grind
theorem cl_rowsIn_1_0 {σ : Sg} {n le : Int} (cA : ¬ isL σ n le) (cB : isL σ n le) : False := by
  first | (exact cA cB) | (exact cB cA) | (exact cA cB.1) | (exact cB cA.1) | (exact cB.2 cA.2) | (exact cA.2 cB.2) | (simp_all; done) | (simp_all; omega) | grind
theorem cl_count_0_1 {σ : Sg} {lo hi so : Int} (cA : okQ lo hi so) (cB : ¬ okQ lo hi so) : False := by
  first | (exact cA cB) | (exact cB cA) | (exact cA cB.1) | (exact cB cA.1) | (exact cB.2 cA.2) | (exact cA.2 cB.2) | (simp_all; done) | (simp_all; omega) | grind
theorem cl_count_1_0 {σ : Sg} {lo hi so : Int} (cA : ¬ okQ lo hi so) (cB : okQ lo hi so) : False := by
  first | (exact cA cB) | (exact cB cA) | (exact cA cB.1) | (exact cB cA.1) | (exact cB.2 cA.2) | (exact cA.2 cB.2) | (simp_all; done) | (simp_all; omega) | grind
theorem cl_countPlain_0_1 {σ : Sg} {lo hi so : Int} (cA : okQ lo hi so) (cB : ¬ okQ lo hi so) : False := by
  first | (exact cA cB) | (exact cB cA) | (exact cA cB.1) | (exact cB cA.1) | (exact cB.2 cA.2) | (exact cA.2 cB.2) | (simp_all; done) | (simp_all; omega) | grind
theorem cl_countPlain_1_0 {σ : Sg} {lo hi so : Int} (cA : ¬ okQ lo hi so) (cB : okQ lo hi so) : False := by
  first | (exact cA cB) | (exact cB cA) | (exact cA cB.1) | (exact cB cA.1) | (exact cB.2 cA.2) | (exact cA.2 cB.2) | (simp_all; done) | (simp_all; omega) | grind
theorem cl_read_0_1 {σ : Sg} {lo hi so : Int} (cA : okQ lo hi so) (cB : ¬ okQ lo hi so) : False := by
  first | (exact cA cB) | (exact cB cA) | (exact cA cB.1) | (exact cB cA.1) | (exact cB.2 cA.2) | (exact cA.2 cB.2) | (simp_all; done) | (simp_all; omega) | grind
theorem cl_read_1_0 {σ : Sg} {lo hi so : Int} (cA : ¬ okQ lo hi so) (cB : okQ lo hi so) : False := by
  first | (exact cA cB) | (exact cB cA) | (exact cA cB.1) | (exact cB cA.1) | (exact cB.2 cA.2) | (exact cA.2 cB.2) | (simp_all; done) | (simp_all; omega) | grind
theorem cl_matters_0_1 {σ : Sg} {n le lo hi so : Int} (cA : isL σ n le ∧ okQ lo hi so) (cB : ¬ isL σ n le) : False := by
  first | (exact cA cB) | (exact cB cA) | (exact cA cB.1) | (exact cB cA.1) | (exact cB.2 cA.2) | (exact cA.2 cB.2) | (simp_all; done) | (simp_all; omega) | grind
theorem cl_matters_0_2 {σ : Sg} {n le lo hi so : Int} (cA : isL σ n le ∧ okQ lo hi so) (cB : isL σ n le ∧ ¬ okQ lo hi so) : False := by
  first | (exact cA cB) | (exact cB cA) | (exact cA cB.1) | (exact cB cA.1) | (exact cB.2 cA.2) | (exact cA.2 cB.2) | (simp_all; done) | (simp_all; omega) | grind
theorem cl_matters_1_0 {σ : Sg} {n le lo hi so : Int} (cA : ¬ isL σ n le) (cB : isL σ n le ∧ okQ lo hi so) : False := by
  first | (exact cA cB) | (exact cB cA) | (exact cA cB.1) | (exact cB cA.1) | (exact cB.2 cA.2) | (exact cA.2 cB.2) | (simp_all; done) | (simp_all; omega) | grind
theorem cl_matters_1_2 {σ : Sg} {n le lo hi so : Int} (cA : ¬ isL σ n le) (cB : isL σ n le ∧ ¬ okQ lo hi so) : False := by
  first | (exact cA cB) | (exact cB cA) | (exact cA cB.1) | (exact cB cA.1) | (exact cB.2 cA.2) | (exact cA.2 cB.2) | (simp_all; done) | (simp_all; omega) | grind
theorem cl_matters_2_0 {σ : Sg} {n le lo hi so : Int} (cA : isL σ n le ∧ ¬ okQ lo hi so) (cB : isL σ n le ∧ okQ lo hi so) : False := by
  first | (exact cA cB) | (exact cB cA) | (exact cA cB.1) | (exact cB cA.1) | (exact cB.2 cA.2) | (exact cA.2 cB.2) | (simp_all; done) | (simp_all; omega) | grind
theorem cl_matters_2_1 {σ : Sg} {n le lo hi so : Int} (cA : isL σ n le ∧ ¬ okQ lo hi so) (cB : ¬ isL σ n le) : False := by
  first | (exact cA cB) | (exact cB cA) | (exact cA cB.1) | (exact cB cA.1) | (exact cB.2 cA.2) | (exact cA.2 cB.2) | (simp_all; done) | (simp_all; omega) | grind
theorem cl_find_0_1 {σ : Sg} {vl : Int} (cA : (0 ≤ vl ∧ vl ≤ 99) ∧ σ 11 0 = 0) (cB : ¬ (0 ≤ vl ∧ vl ≤ 99)) : False := by
  first | (exact cA cB) | (exact cB cA) | (exact cA cB.1) | (exact cB cA.1) | (exact cB.2 cA.2) | (exact cA.2 cB.2) | (simp_all; done) | (simp_all; omega) | grind
theorem cl_find_0_2 {σ : Sg} {vl : Int} (cA : (0 ≤ vl ∧ vl ≤ 99) ∧ σ 11 0 = 0) (cB : (0 ≤ vl ∧ vl ≤ 99) ∧ σ 11 0 ≠ 0) : False := by
  first | (exact cA cB) | (exact cB cA) | (exact cA cB.1) | (exact cB cA.1) | (exact cB.2 cA.2) | (exact cA.2 cB.2) | (simp_all; done) | (simp_all; omega) | grind
theorem cl_find_1_0 {σ : Sg} {vl : Int} (cA : ¬ (0 ≤ vl ∧ vl ≤ 99)) (cB : (0 ≤ vl ∧ vl ≤ 99) ∧ σ 11 0 = 0) : False := by
  first | (exact cA cB) | (exact cB cA) | (exact cA cB.1) | (exact cB cA.1) | (exact cB.2 cA.2) | (exact cA.2 cB.2) | (simp_all; done) | (simp_all; omega) | grind
theorem cl_find_1_2 {σ : Sg} {vl : Int} (cA : ¬ (0 ≤ vl ∧ vl ≤ 99)) (cB : (0 ≤ vl ∧ vl ≤ 99) ∧ σ 11 0 ≠ 0) : False := by
  first | (exact cA cB) | (exact cB cA) | (exact cA cB.1) | (exact cB cA.1) | (exact cB.2 cA.2) | (exact cA.2 cB.2) | (simp_all; done) | (simp_all; omega) | grind
theorem cl_find_2_0 {σ : Sg} {vl : Int} (cA : (0 ≤ vl ∧ vl ≤ 99) ∧ σ 11 0 ≠ 0) (cB : (0 ≤ vl ∧ vl ≤ 99) ∧ σ 11 0 = 0) : False := by
  first | (exact cA cB) | (exact cB cA) | (exact cA cB.1) | (exact cB cA.1) | (exact cB.2 cA.2) | (exact cA.2 cB.2) | (simp_all; done) | (simp_all; omega) | grind
theorem cl_find_2_1 {σ : Sg} {vl : Int} (cA : (0 ≤ vl ∧ vl ≤ 99) ∧ σ 11 0 ≠ 0) (cB : ¬ (0 ≤ vl ∧ vl ≤ 99)) : False := by
  first | (exact cA cB) | (exact cB cA) | (exact cA cB.1) | (exact cB cA.1) | (exact cB.2 cA.2) | (exact cA.2 cB.2) | (simp_all; done) | (simp_all; omega) | grind
theorem cl_findIn_0_1 {σ : Sg} {n vl : Int} (cA : isA σ n ∧ (0 ≤ vl ∧ vl ≤ 99)) (cB : ¬ isA σ n) : False := by
  first | (exact cA cB) | (exact cB cA) | (exact cA cB.1) | (exact cB cA.1) | (exact cB.2 cA.2) | (exact cA.2 cB.2) | (simp_all; done) | (simp_all; omega) | grind
theorem cl_findIn_0_2 {σ : Sg} {n vl : Int} (cA : isA σ n ∧ (0 ≤ vl ∧ vl ≤ 99)) (cB : isA σ n ∧ ¬ (0 ≤ vl ∧ vl ≤ 99)) : False := by
  first | (exact cA cB) | (exact cB cA) | (exact cA cB.1) | (exact cB cA.1) | (exact cB.2 cA.2) | (exact cA.2 cB.2) | (simp_all; done) | (simp_all; omega) | grind
theorem cl_findIn_1_0 {σ : Sg} {n vl : Int} (cA : ¬ isA σ n) (cB : isA σ n ∧ (0 ≤ vl ∧ vl ≤ 99)) : False := by
  first | (exact cA cB) | (exact cB cA) | (exact cA cB.1) | (exact cB cA.1) | (exact cB.2 cA.2) | (exact cA.2 cB.2) | (simp_all; done) | (simp_all; omega) | grind
theorem cl_findIn_1_2 {σ : Sg} {n vl : Int} (cA : ¬ isA σ n) (cB : isA σ n ∧ ¬ (0 ≤ vl ∧ vl ≤ 99)) : False := by
  first | (exact cA cB) | (exact cB cA) | (exact cA cB.1) | (exact cB cA.1) | (exact cB.2 cA.2) | (exact cA.2 cB.2) | (simp_all; done) | (simp_all; omega) | grind
theorem cl_findIn_2_0 {σ : Sg} {n vl : Int} (cA : isA σ n ∧ ¬ (0 ≤ vl ∧ vl ≤ 99)) (cB : isA σ n ∧ (0 ≤ vl ∧ vl ≤ 99)) : False := by
  first | (exact cA cB) | (exact cB cA) | (exact cA cB.1) | (exact cB cA.1) | (exact cB.2 cA.2) | (exact cA.2 cB.2) | (simp_all; done) | (simp_all; omega) | grind
theorem cl_findIn_2_1 {σ : Sg} {n vl : Int} (cA : isA σ n ∧ ¬ (0 ≤ vl ∧ vl ≤ 99)) (cB : ¬ isA σ n) : False := by
  first | (exact cA cB) | (exact cB cA) | (exact cA cB.1) | (exact cB cA.1) | (exact cB.2 cA.2) | (exact cA.2 cB.2) | (simp_all; done) | (simp_all; omega) | grind
