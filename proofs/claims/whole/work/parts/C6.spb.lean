section SR9
variable {g h h' h1 h2 u : am_F} {Q : am_V → am_S → Prop} {so j bj x y z o c w r t mm df T : Int} {n nb L s K nx b m a q B S i gg l M Z v ch N d p p0 k : Nat} {X : Nat → Int}
def rS3 (h g : am_F) : Prop := ∀ a k, ¬ (a = 149 ∧ (k = 6 ∨ k = 11 ∨ k = 12)) → a ≠ 152 → ¬ (a = 150 ∧ (k = 0 ∨ k = 1 ∨ (5 ≤ k ∧ k < 66))) → g a k = h a k
theorem s_Rshop (hl : l ≤ 100) (hX : ∀ i : Nat, i < l → 32 ≤ X i ∧ X i ≤ 126) (e1 : h 149 6 = (l : Int)) (e6 : ∀ i : Nat, i < l → h 154 i = X i) (hl2 : ¬ shO X l → shAt X l ≤ 100) (hq0 : ¬ shO X l → ∀ g, (∀ a k, ¬ (a = 149 ∧ (k = 6 ∨ k = 11 ∨ k = 12)) → a ≠ 152 → g a k = h a k) → g 149 6 = 0 → Q (aI (-20 - (shAt X l : Int))) (sT g)) (hq1 : shO X l → ∀ g, rS3 h g → g 149 6 = 0 → g 150 0 = ((shB X l).2.1 : Int) → g 150 1 = ((shG X l).2.1 : Int) → g 150 5 = 0 → (shB X l).2.1 ≤ 3 → (shG X l).2.1 ≤ 8 → (∀ j : Nat, j < (shB X l).2.1 → bC X l 150 g j) → (∀ j : Nat, j < (shG X l).2.1 → thR X l (shB X l).2.2 150 g j) → Q (aI ((shG X l).2.1 : Int)) (sT g)) : wp 99 (am_ju 99 0) [aP 149] [] (sT h) Q := by
  have l1 := ln_152
  have k1 := kd_152
  have l2 := ln_150
  have k2 := kd_150
  rw [ju_99_0]
  simp (disch := first | assumption | omega | exact w8_0 | exact w8_1 _ | exact w8_2 _ _ | exact w8_3 _ _ _ | exact w8_4 _ _ _ _ | exact nl_I _ | exact nl_P _ | exact nl_X | decide | exact w8_5 _ _ _ _ _) only [r_aLD0, r_gR, cl_90, r_iCONST, r_iASTc, r_pI, cl_98, r_gI, r_IF2, r_bPUSH, r_iSUB, r_iRET, r_iALDc, r_iALDs, eq_self, Int.reduceLT, Int.reduceLE, Int.reduceEq, true_or, or_true, and_self, true_and, and_true, w8_0, w8_1, w8_2, w8_3, w8_4, nl_I, nl_P, nl_X, pu_I, pu_J, pu_V, w3_id, Int.add_zero, kd_149, rR_149_0, rR_149_2, s_copies kd_150 ln_150 kd_152 ln_152 (by decide)]
  have A1 : ∀ a k, ¬ (a = 149 ∧ (k = 11 ∨ k = 12)) → a ≠ 152 → up (up (up (up (up (cpy h 150 0 152 0 238) 152 0 0) 152 1 0) 152 5 0) 149 11 0) 149 12 (-1) a k = h a k := fun a k z1 z2 => by
    rw [up, if_neg (by omega), up, if_neg (by omega), up_ne z2, up_ne z2, up_ne z2, cpy_n z2]
  have A2 : ∀ k : Int, 0 ≤ k → k < 238 → k ≠ 0 → k ≠ 1 → k ≠ 5 → up (up (up (up (up (cpy h 150 0 152 0 238) 152 0 0) 152 1 0) 152 5 0) 149 11 0) 149 12 (-1) 152 k = h 150 k := fun k z1 z2 z3 z4 z5 => by
    rw [up_ne (by decide), up_ne (by decide), up_k z5, up_k z4, up_k z3, cpy_d z1 z2]
  have A3 : up (up (up (up (up (cpy h 150 0 152 0 238) 152 0 0) 152 1 0) 152 5 0) 149 11 0) 149 12 (-1) 149 11 = ((0 : Nat) : Int) := by rw [up_k (by decide)]; exact up_s
  have A4 : up (up (up (up (up (cpy h 150 0 152 0 238) 152 0 0) 152 1 0) 152 5 0) 149 11 0) 149 12 (-1) 149 12 = -1 := up_s
  have A5 : up (up (up (up (up (cpy h 150 0 152 0 238) 152 0 0) 152 1 0) 152 5 0) 149 11 0) 149 12 (-1) 152 0 = ((0 : Nat) : Int) := by rw [up_ne (by decide), up_ne (by decide), up_k (by decide), up_k (by decide)]; exact up_s
  have A6 : up (up (up (up (up (cpy h 150 0 152 0 238) 152 0 0) 152 1 0) 152 5 0) 149 11 0) 149 12 (-1) 152 1 = ((0 : Nat) : Int) := by rw [up_ne (by decide), up_ne (by decide), up_k (by decide)]; exact up_s
  generalize up (up (up (up (up (cpy h 150 0 152 0 238) 152 0 0) 152 1 0) 152 5 0) 149 11 0) 149 12 (-1) = u at A1 A2 A3 A4 A5 A6 ⊢
  refine s_RreadsShop (X := X) hl hX (by rw [A1 _ _ (by decide) (by decide)]; exact e1) A3 A4 (fun i hi => by rw [A1 _ _ (by omega) (by decide)]; exact e6 i hi) A5 A6 (fun hO g a1 a2 a3 a4 a5 a6 a7 a8 a9 => ?_) (fun hO g a1 a2 => ?_)
  · have B12 : up g 149 6 0 149 12 = -1 := by rw [up_k (by decide)]; exact a2
    simp only [r_aLD0, r_gR, cl_90, r_iCONST, r_iAST, r_pI, cl_98, r_gI, r_IF2, r_bPUSH, r_iSUB, r_iRET, r_iALD, r_iALDs, eq_self, Int.reduceLT, Int.reduceLE, Int.reduceEq, true_or, or_true, and_self, true_and, and_true, w8_0, w8_1, w8_2, w8_3, w8_4, nl_I, nl_P, nl_X, pu_I, pu_J, pu_V, kd_149, B12, Int.reduceLT, Int.reduceNeg, if_true]
    rw [ju_99_39]
    have B1 : ∀ k : Int, 0 ≤ k → k < 238 → cpy (up g 149 6 0) 152 0 150 0 238 150 k = g 152 k := fun k z1 z2 => by rw [cpy_d z1 z2, up_ne (by decide)]
    have B2 : cpy (up g 149 6 0) 152 0 150 0 238 150 1 = ((shG X l).2.1 : Int) := by rw [B1 _ (by decide) (by decide)]; exact a5
    simp (disch := first | assumption | omega | exact w8_0 | exact w8_1 _ | exact w8_2 _ _ | exact w8_3 _ _ _ | exact w8_4 _ _ _ _ | exact nl_I _ | exact nl_P _ | exact nl_X | decide | exact w8_5 _ _ _ _ _) only [r_aLD0, r_gR, cl_90, r_iCONST, r_iASTc, r_pI, cl_98, r_gI, r_IF2, r_bPUSH, r_iSUB, r_iRET, r_iALDc, r_iALDs, eq_self, Int.reduceLT, Int.reduceLE, Int.reduceEq, true_or, or_true, and_self, true_and, and_true, w8_0, w8_1, w8_2, w8_3, w8_4, nl_I, nl_P, nl_X, pu_I, pu_J, pu_V, w3_id, Int.add_zero, kd_149, rR_149_0, rR_149_2, s_copies kd_152 ln_152 kd_150 ln_150 (by decide), B2]
    refine hq1 hO _ (fun a k z1 z2 z3 => ?_) (by rw [cpy_n (by decide)]; exact up_s) (by rw [B1 _ (by decide) (by decide)]; exact a3) B2 (by rw [B1 _ (by decide) (by decide)]; exact a7) a4 a6 (fun j hj => ?_) (fun j hj => ?_)
    · by_cases z : a = 150
      · subst z
        by_cases zk : 0 ≤ k ∧ k < 238
        · rw [B1 _ zk.1 zk.2, a1 _ _ (by omega) (by omega), A2 _ zk.1 zk.2 (by omega) (by omega) (by omega)]
        · have : cpy (up g 149 6 0) 152 0 150 0 238 150 k = up g 149 6 0 150 k := by unfold cpy; rw [if_neg (by omega)]
          rw [this, up_ne (by decide), a1 _ _ (by omega) (by omega), A1 _ _ (by omega) (by decide)]
      · rw [cpy_n z, up, if_neg (by omega), a1 _ _ (by omega) (by omega), A1 _ _ (by omega) z2]
    · have z := a8 j hj
      unfold bC at z ⊢
      rw [B1 _ (by omega) (by omega), B1 _ (by omega) (by omega), B1 _ (by omega) (by omega), B1 _ (by omega) (by omega)]
      exact z
    · have z := a9 j hj
      unfold thR at z ⊢
      rw [B1 _ (by omega) (by omega), B1 _ (by omega) (by omega), B1 _ (by omega) (by omega), B1 _ (by omega) (by omega), B1 _ (by omega) (by omega), B1 _ (by omega) (by omega)]
      exact z
  · have B12 : up g 149 6 0 149 12 = (shAt X l : Int) := by rw [up_k (by decide)]; exact a2
    have hl2 := hl2 hO
    have hw : w3 (-20 - (shAt X l : Int)) = -20 - (shAt X l : Int) := w3_id (by omega) (by omega)
    simp only [r_aLD0, r_gR, cl_90, r_iCONST, r_iAST, r_pI, cl_98, r_gI, r_IF2, r_bPUSH, r_iSUB, r_iRET, r_iALD, r_iALDs, eq_self, Int.reduceLT, Int.reduceLE, Int.reduceEq, true_or, or_true, and_self, true_and, and_true, w8_0, w8_1, w8_2, w8_3, w8_4, nl_I, nl_P, nl_X, pu_I, pu_J, pu_V, kd_149, B12, hw]
    rw [if_neg (by omega)]
    refine hq0 hO _ (fun a k z1 z2 => ?_) up_s
    rw [up, if_neg (by omega), a1 _ _ (by omega) (by omega), A1 _ _ (by omega) z2]
theorem kiW_r (c : Int) : kiW c ≤ 3 := by
  unfold kiW
  repeat' split
  all_goals omega
theorem thV_r (hn : nb ≤ 3) (hO : tOK X l nb (thp X l p0 k)) : (1 ≤ thV X l p0 0 k ∧ thV X l p0 0 k ≤ 30) ∧ (0 ≤ thV X l p0 1 k ∧ thV X l p0 1 k ≤ 5) ∧ (0 ≤ thV X l p0 2 k ∧ thV X l p0 2 k ≤ 5) ∧ thV X l p0 3 k = thV X l p0 0 k ∧ (0 ≤ thV X l p0 5 k ∧ thV X l p0 5 k ≤ 3) := by
  obtain ⟨o0, o1, o2, o3⟩ := hO
  have mk : ∀ {c mm df : Int} {p : Nat}, mkO X l c mm p → 0 ≤ df → (0 ≤ mkV X l c df p ∧ (mkV X l c df p < mm ∨ mkV X l c df p = df)) := fun {c mm df p} z1 z2 => by
    unfold mkV
    split
    · next e => exact ⟨(z1 e).1, Or.inl (z1 e).2⟩
    · exact ⟨z2, Or.inr rfl⟩
  have m1 := mk o1 (df := 0) (by decide)
  have m2 := mk o2 (df := 0) (by decide)
  have m3 := mk o3 (df := 3) (by decide)
  refine ⟨o0, ?_, ?_, rfl, ?_⟩
  · show 0 ≤ mkV X l 119 0 (tp1 X l (thp X l p0 k)) ∧ mkV X l 119 0 (tp1 X l (thp X l p0 k)) ≤ 5
    omega
  · show 0 ≤ mkV X l 101 0 (tp2 X l (thp X l p0 k)) ∧ mkV X l 101 0 (tp2 X l (thp X l p0 k)) ≤ 5
    omega
  · show 0 ≤ mkV X l 64 3 (tp4 X l (thp X l p0 k)) ∧ mkV X l 64 3 (tp4 X l (thp X l p0 k)) ≤ 3
    omega
end SR9
