section CY
variable {h h' h1 h2 : am_F} {Q : am_V → am_S → Prop} {c d v x y i j m o p : Int} {l t q r : Nat}
abbrev spn (h : am_F) (c i m : Int) : Prop := 0 ≤ i ∧ 0 ≤ m ∧ m ≤ h c 3 ∧ i ≤ h c 3 - m
theorem s_Tcopy (hS : SH h) : wp 229 (am_ju 229 0) [aP 0, aI x, aI i, aI y, aI j, aI m, aX, aX] [] (sT h) Q ↔ (if (0 ≤ x ∧ x < 4) ∧ 0 ≤ y ∧ y < 4 then (if h (72 + 2 * x) 1 ≠ 0 ∨ h (72 + 2 * y) 1 ≠ 0 then Q (aI (-11)) (sT h) else if h (72 + 2 * x) 2 ≠ h (72 + 2 * y) 2 then Q (aI (-12)) (sT h) else if spn h (72 + 2 * x) i m ∧ spn h (72 + 2 * y) j m then Q (aI m) (sT (cpy h (73 + 2 * x) i (73 + 2 * y) j m)) else Q (aI (-13)) (sT h)) else Q (aI (-1)) (sT h)) := by
  simp only [ju_229_0, ju_229_8, r_iLD1, r_iCONST, cl_12, r_IF0, r_iLD3, r_IF1, r_iRET, r_aLD0, r_gR, r_aALD, r_aST6, r_aST7, r_aLD6, r_gI, r_aLD7, r_bPUSH, r_IC0, r_iLD2, r_iLD5, cl_205, r_iLD4, r_ACPY, eq_self, Int.reduceLT, Int.reduceLE, Int.reduceEq, true_or, or_true, and_self, true_and, and_true, w8_0, w8_1, w8_2, w8_3, w8_4, nl_I, nl_P, nl_X, pu_I, pu_J, pu_V, s_isBelow]
  by_cases e : 0 ≤ x ∧ x < 4
  · by_cases e2 : 0 ≤ y ∧ y < 4
    · obtain ⟨q, rfl⟩ := Int.eq_ofNat_of_zero_le e.1
      obtain ⟨r, rfl⟩ := Int.eq_ofNat_of_zero_le e2.1
      have hq : q < 4 := by omega
      have hr : r < 4 := by omega
      obtain ⟨k1, r1, r2, k2, l2⟩ := sh_q q hq
      obtain ⟨k1', r1', r2', k2', l2'⟩ := sh_q r hr
      obtain ⟨s1, s2, s3, s4⟩ := hS q hq
      obtain ⟨s1', s2', s3', s4'⟩ := hS r hr
      have kk : kd 71 = 22 ∨ kd 71 = 23 := Or.inr kd_71
      have q0 : (0 : Int) ≤ (q : Int) := by omega
      have q4 : (q : Int) < 4 := by omega
      have r0 : (0 : Int) ≤ rR 71 q := by rw [r1]; omega
      have q0' : (0 : Int) ≤ (r : Int) := by omega
      have q4' : (r : Int) < 4 := by omega
      have r0' : (0 : Int) ≤ rR 71 r := by rw [r1']; omega
      have hl : 0 ≤ h (72 + 2 * (q : Int)) 3 ∧ h (72 + 2 * (q : Int)) 3 ≤ 24 := by rw [s1]; exact s2
      have hl' : 0 ≤ h (72 + 2 * (r : Int)) 3 ∧ h (72 + 2 * (r : Int)) 3 ≤ 24 := by rw [s1']; exact s2'
      have z1 : (0 : Int) ≤ 73 + 2 * q := by omega
      have z2 : (0 : Int) ≤ 73 + 2 * r := by omega
      rw [if_neg (by simp [e]), if_pos (by simp [e2]), if_pos ⟨e, e2⟩]
      simp (disch := first | assumption | omega | exact w8_0 | exact w8_1 _ | exact w8_2 _ _ | exact w8_3 _ _ _ | exact w8_4 _ _ _ _ | exact nl_I _ | exact nl_P _ | exact nl_X | decide | exact w8_5 _ _ _ _ _) only [ju_229_10, ju_229_26, r_iLD1, r_iCONST, cl_12, r_IF0, r_iLD3, r_IF1, r_iRET, r_aLD0, r_gR, r_aALD, r_aST6, r_aST7, r_aLD6, r_gI, r_aLD7, r_bPUSH, r_IC0, r_iLD2, r_iLD5, cl_205, r_iLD4, r_ACPY, eq_self, Int.reduceLT, Int.reduceLE, Int.reduceEq, true_or, or_true, and_self, true_and, and_true, w8_0, w8_1, w8_2, w8_3, w8_4, nl_I, nl_P, nl_X, pu_I, pu_J, pu_V, w3_id, Int.add_zero, kd_0, rR_0_10, kk, r0, r1, r0', r1', ln_71, q0, q4, q0', q4', and_self, true_and]
      by_cases a1 : h (72 + 2 * (q : Int)) 1 = 0
      · rw [if_neg (by simpa using a1)]
        by_cases a2 : h (72 + 2 * (r : Int)) 1 = 0
        · rw [if_pos a2, if_neg (by simp [a1, a2])]
          simp (disch := first | assumption | omega | exact w8_0 | exact w8_1 _ | exact w8_2 _ _ | exact w8_3 _ _ _ | exact w8_4 _ _ _ _ | exact nl_I _ | exact nl_P _ | exact nl_X | decide | exact w8_5 _ _ _ _ _) only [ju_229_28, r_iLD1, r_iCONST, cl_12, r_IF0, r_iLD3, r_IF1, r_iRET, r_aLD0, r_gR, r_aALD, r_aST6, r_aST7, r_aLD6, r_gI, r_aLD7, r_bPUSH, r_IC0, r_iLD2, r_iLD5, cl_205, r_iLD4, r_ACPY, eq_self, Int.reduceLT, Int.reduceLE, Int.reduceEq, true_or, or_true, and_self, true_and, and_true, w8_0, w8_1, w8_2, w8_3, w8_4, nl_I, nl_P, nl_X, pu_I, pu_J, pu_V, w3_id, Int.add_zero]
          by_cases a3 : h (72 + 2 * (q : Int)) 2 = h (72 + 2 * (r : Int)) 2
          · rw [if_pos a3, if_neg (by simpa using a3)]
            simp (disch := first | assumption | omega | exact w8_0 | exact w8_1 _ | exact w8_2 _ _ | exact w8_3 _ _ _ | exact w8_4 _ _ _ _ | exact nl_I _ | exact nl_P _ | exact nl_X | decide | exact w8_5 _ _ _ _ _) only [ju_229_35, ju_229_45, r_iLD1, r_iCONST, cl_12, r_IF0, r_iLD3, r_IF1, r_iRET, r_aLD0, r_gR, r_aALD, r_aST6, r_aST7, r_aLD6, r_gI, r_aLD7, r_bPUSH, r_IC0, r_iLD2, r_iLD5, cl_205, r_iLD4, r_ACPY, eq_self, Int.reduceLT, Int.reduceLE, Int.reduceEq, true_or, or_true, and_self, true_and, and_true, w8_0, w8_1, w8_2, w8_3, w8_4, nl_I, nl_P, nl_X, pu_I, pu_J, pu_V, w3_id, Int.add_zero, s_spans k1 hl, s_spans k1' hl']
            by_cases a4 : spn h (72 + 2 * (q : Int)) i m
            · by_cases a5 : spn h (72 + 2 * (r : Int)) j m
              · have kc : (kd (73 + 2 * (q : Int)) = 20 ∧ kd (73 + 2 * (r : Int)) = 20) ∨ (kd (73 + 2 * (q : Int)) = 21 ∧ kd (73 + 2 * (r : Int)) = 21) := Or.inr ⟨k2, k2'⟩
                rw [if_neg (by simp [a4]), if_pos (by simp [a5]), if_pos ⟨a4, a5⟩]
                simp (disch := first | assumption | omega | exact w8_0 | exact w8_1 _ | exact w8_2 _ _ | exact w8_3 _ _ _ | exact w8_4 _ _ _ _ | exact nl_I _ | exact nl_P _ | exact nl_X | decide | exact w8_5 _ _ _ _ _) only [ju_229_47, r_iLD1, r_iCONST, cl_12, r_IF0, r_iLD3, r_IF1, r_iRET, r_aLD0, r_gR, r_aALD, r_aST6, r_aST7, r_aLD6, r_gI, r_aLD7, r_bPUSH, r_IC0, r_iLD2, r_iLD5, cl_205, r_iLD4, r_ACPY, eq_self, Int.reduceLT, Int.reduceLE, Int.reduceEq, true_or, or_true, and_self, true_and, and_true, w8_0, w8_1, w8_2, w8_3, w8_4, nl_I, nl_P, nl_X, pu_I, pu_J, pu_V, w3_id, Int.add_zero, r2, r2', kc, l2, l2']
                exact and_iff_right ⟨by omega, by omega, by omega, by omega, by omega⟩
              · rw [if_neg (by simp [a4]), if_neg (by simp [a5]), if_neg (fun z => a5 z.2)]
            · rw [if_pos (by simp [a4]), if_neg (fun z => a4 z.1)]
          · rw [if_neg a3, if_pos a3]
        · rw [if_neg a2, if_pos (Or.inr a2)]
      · rw [if_pos a1, if_pos (Or.inl a1)]
    · rw [if_neg (by simp [e]), if_neg (by simp [e2]), if_neg (fun z => e2 z.2)]
  · rw [if_pos (by simp [e]), if_neg (fun z => e z.1)]
theorem lp_cp1 (hx : 0 ≤ x ∧ x < 4) (hi : 0 ≤ i) {M : Nat} (hM : i + M ≤ 24) : ∀ (k t : Nat), t + k = M → (wp 230 (am_ju 230 57) [aP 149, aI x, aI i, aI y, aI j, aI (M : Int), aI (t : Int)] [] (sT (cpy h 157 (24 * x + i) 158 0 (t : Int))) Q ↔ wp 230 (am_ju 230 76) [aP 149, aI x, aI i, aI y, aI j, aI (M : Int), aI (M : Int)] [] (sT (cpy h 157 (24 * x + i) 158 0 (M : Int))) Q) := by
  intro k
  have l1 := ln_157
  have k1 := kd_157
  have l2 := ln_158
  have k2 := kd_158
  obtain ⟨x0, x4⟩ := hx
  induction k with
  | zero =>
    intro t ht
    have ht : t = M := by omega
    subst ht
    rw [ju_230_57]
    simp only [r_iLD1, cl_210, r_IF0, r_iLD3, r_IF1, r_iCONST, r_iRET, r_aLD0, r_gR, r_iALD, r_iALDs, r_IF2, r_IF3, r_bPUSH, r_IC0, r_iLD5, r_iLD2, cl_212, r_iLD4, r_iST6, r_iLD6, r_IC3, r_iMUL, r_iADD, r_lALD, r_lAST, r_IINC6, r_GOTO, eq_self, Int.reduceLT, Int.reduceLE, Int.reduceEq, true_or, or_true, and_self, true_and, and_true, w8_0, w8_1, w8_2, w8_3, w8_4, nl_I, nl_P, nl_X, pu_I, pu_J, pu_V]
    rw [if_pos (by omega)]
  | succ k ih =>
    intro t ht
    have hw : w3 ((t : Int) + 1) = ((t + 1 : Nat) : Int) := w3_id (by omega) (by omega)
    have cs := cpo_s (h := h) (c := 157) (o := 24 * x + i) (d := 158) (p := 0) (t := t) (by decide)
    rw [Int.zero_add] at cs
    rw [ju_230_57]
    simp (disch := first | assumption | omega | exact w8_0 | exact w8_1 _ | exact w8_2 _ _ | exact w8_3 _ _ _ | exact w8_4 _ _ _ _ | exact nl_I _ | exact nl_P _ | exact nl_X | decide | exact w8_5 _ _ _ _ _) only [r_iLD1, cl_210, r_IF0, r_iLD3, r_IF1, r_iCONST, r_iRET, r_aLD0, r_gR, r_iALDc, r_iALDs, r_IF2, r_IF3, r_bPUSH, r_IC0, r_iLD5, r_iLD2, cl_212, r_iLD4, r_iST6, r_iLD6, r_IC3, r_iMUL, r_iADD, r_lALDc, r_lASTc, r_IINC6, r_GOTO, eq_self, Int.reduceLT, Int.reduceLE, Int.reduceEq, true_or, or_true, and_self, true_and, and_true, w8_0, w8_1, w8_2, w8_3, w8_4, nl_I, nl_P, nl_X, pu_I, pu_J, pu_V, w3_id, Int.add_zero, kd_149, rR_149_9, rR_149_10, hw]
    rw [if_neg (by omega), cs]
    exact ih (t + 1) (by omega)
theorem lp_cp2 (hy : 0 ≤ y ∧ y < 4) (hj : 0 ≤ j) {M : Nat} (hM : j + M ≤ 24) (hM2 : M ≤ 24) : ∀ (k t : Nat), t + k = M → (wp 230 (am_ju 230 78) [aP 149, aI x, aI i, aI y, aI j, aI (M : Int), aI (t : Int)] [] (sT (cpy h 158 0 157 (24 * y + j) (t : Int))) Q ↔ Q (aI (M : Int)) (sT (cpy h 158 0 157 (24 * y + j) (M : Int)))) := by
  intro k
  have l1 := ln_157
  have k1 := kd_157
  have l2 := ln_158
  have k2 := kd_158
  obtain ⟨y0, y4⟩ := hy
  induction k with
  | zero =>
    intro t ht
    have ht : t = M := by omega
    subst ht
    rw [ju_230_78]
    simp only [ju_230_97, r_iLD1, cl_210, r_IF0, r_iLD3, r_IF1, r_iCONST, r_iRET, r_aLD0, r_gR, r_iALD, r_iALDs, r_IF2, r_IF3, r_bPUSH, r_IC0, r_iLD5, r_iLD2, cl_212, r_iLD4, r_iST6, r_iLD6, r_IC3, r_iMUL, r_iADD, r_lALD, r_lAST, r_IINC6, r_GOTO, eq_self, Int.reduceLT, Int.reduceLE, Int.reduceEq, true_or, or_true, and_self, true_and, and_true, w8_0, w8_1, w8_2, w8_3, w8_4, nl_I, nl_P, nl_X, pu_I, pu_J, pu_V]
    rw [if_pos (by omega)]
  | succ k ih =>
    intro t ht
    have hw : w3 ((t : Int) + 1) = ((t + 1 : Nat) : Int) := w3_id (by omega) (by omega)
    have cs := cpo_s (h := h) (c := 158) (o := 0) (d := 157) (p := 24 * y + j) (t := t) (by decide)
    rw [Int.zero_add] at cs
    rw [ju_230_78]
    simp (disch := first | assumption | omega | exact w8_0 | exact w8_1 _ | exact w8_2 _ _ | exact w8_3 _ _ _ | exact w8_4 _ _ _ _ | exact nl_I _ | exact nl_P _ | exact nl_X | decide | exact w8_5 _ _ _ _ _) only [r_iLD1, cl_210, r_IF0, r_iLD3, r_IF1, r_iCONST, r_iRET, r_aLD0, r_gR, r_iALDc, r_iALDs, r_IF2, r_IF3, r_bPUSH, r_IC0, r_iLD5, r_iLD2, cl_212, r_iLD4, r_iST6, r_iLD6, r_IC3, r_iMUL, r_iADD, r_lALDc, r_lASTc, r_IINC6, r_GOTO, eq_self, Int.reduceLT, Int.reduceLE, Int.reduceEq, true_or, or_true, and_self, true_and, and_true, w8_0, w8_1, w8_2, w8_3, w8_4, nl_I, nl_P, nl_X, pu_I, pu_J, pu_V, w3_id, Int.add_zero, kd_149, rR_149_9, rR_149_10, hw]
    rw [if_neg (by omega), cs]
    exact ih (t + 1) (by omega)
def cpR (h : am_F) (x i y j m : Int) : am_F := cpy (cpy h 157 (24 * x + i) 158 0 m) 158 0 157 (24 * y + j) m
theorem lack_0 (hl : lack h q y i m = 0) : 0 ≤ i ∧ i ≤ h 156 q ∧ m ≤ h 156 q - i := by
  unfold lack at hl
  by_cases e1 : h 155 q < 0
  · rw [if_pos e1] at hl; omega
  · rw [if_neg e1] at hl
    by_cases e2 : h 155 q = y
    · rw [if_neg (by omega)] at hl
      by_cases e3 : i < 0 ∨ h 156 q < i ∨ h 156 q - i < m
      · rw [if_pos e3] at hl; omega
      · omega
    · rw [if_pos e2] at hl; omega
theorem s_Rcopy (hL : ∀ q : Nat, q < 4 → 0 ≤ h 156 q ∧ h 156 q ≤ 24) : wp 230 (am_ju 230 0) [aP 149, aI x, aI i, aI y, aI j, aI m, aX] [] (sT h) Q ↔ (if (0 ≤ x ∧ x < 4) ∧ 0 ≤ y ∧ y < 4 then (if h 155 x < 0 ∨ h 155 y < 0 then Q (aI (-11)) (sT h) else if h 155 x ≠ h 155 y then Q (aI (-12)) (sT h) else if 0 ≤ m ∧ lack h x (h 155 x) i m = 0 ∧ lack h y (h 155 y) j m = 0 then Q (aI m) (sT (cpR h x i y j m)) else Q (aI (-13)) (sT h)) else Q (aI (-1)) (sT h)) := by
  have l1 := ln_155
  have k1 := kd_155
  simp only [ju_230_0, ju_230_6, r_iLD1, cl_210, r_IF0, r_iLD3, r_IF1, r_iCONST, r_iRET, r_aLD0, r_gR, r_iALD, r_iALDs, r_IF2, r_IF3, r_bPUSH, r_IC0, r_iLD5, r_iLD2, cl_212, r_iLD4, r_iST6, r_iLD6, r_IC3, r_iMUL, r_iADD, r_lALD, r_lAST, r_IINC6, r_GOTO, eq_self, Int.reduceLT, Int.reduceLE, Int.reduceEq, true_or, or_true, and_self, true_and, and_true, w8_0, w8_1, w8_2, w8_3, w8_4, nl_I, nl_P, nl_X, pu_I, pu_J, pu_V, s_isSheet]
  by_cases e : 0 ≤ x ∧ x < 4
  · by_cases e2 : 0 ≤ y ∧ y < 4
    · obtain ⟨q, rfl⟩ := Int.eq_ofNat_of_zero_le e.1
      obtain ⟨r, rfl⟩ := Int.eq_ofNat_of_zero_le e2.1
      have hq := hL q (by omega)
      have hr := hL r (by omega)
      have q0 : (0 : Int) ≤ (q : Int) := by omega
      have q4 : (q : Int) < 4 := by omega
      have q0' : (0 : Int) ≤ (r : Int) := by omega
      have q4' : (r : Int) < 4 := by omega
      rw [if_neg (by simp [e]), if_pos (by simp [e2]), if_pos ⟨e, e2⟩]
      simp (disch := first | assumption | omega | exact w8_0 | exact w8_1 _ | exact w8_2 _ _ | exact w8_3 _ _ _ | exact w8_4 _ _ _ _ | exact nl_I _ | exact nl_P _ | exact nl_X | decide | exact w8_5 _ _ _ _ _) only [ju_230_8, ju_230_18, r_iLD1, cl_210, r_IF0, r_iLD3, r_IF1, r_iCONST, r_iRET, r_aLD0, r_gR, r_iALDc, r_iALDs, r_IF2, r_IF3, r_bPUSH, r_IC0, r_iLD5, r_iLD2, cl_212, r_iLD4, r_iST6, r_iLD6, r_IC3, r_iMUL, r_iADD, r_lALDc, r_lASTc, r_IINC6, r_GOTO, eq_self, Int.reduceLT, Int.reduceLE, Int.reduceEq, true_or, or_true, and_self, true_and, and_true, w8_0, w8_1, w8_2, w8_3, w8_4, nl_I, nl_P, nl_X, pu_I, pu_J, pu_V, w3_id, Int.add_zero, kd_149, rR_149_7]
      by_cases a1 : h 155 q < 0
      · rw [if_pos a1, if_pos (Or.inl a1)]
      · rw [if_neg a1]
        by_cases a2 : h 155 r < 0
        · rw [if_neg (by omega), if_pos (Or.inr a2)]
        · rw [if_pos (by omega), if_neg (show ¬ (h 155 q < 0 ∨ h 155 r < 0) by omega)]
          simp (disch := first | assumption | omega | exact w8_0 | exact w8_1 _ | exact w8_2 _ _ | exact w8_3 _ _ _ | exact w8_4 _ _ _ _ | exact nl_I _ | exact nl_P _ | exact nl_X | decide | exact w8_5 _ _ _ _ _) only [ju_230_20, r_iLD1, cl_210, r_IF0, r_iLD3, r_IF1, r_iCONST, r_iRET, r_aLD0, r_gR, r_iALDc, r_iALDs, r_IF2, r_IF3, r_bPUSH, r_IC0, r_iLD5, r_iLD2, cl_212, r_iLD4, r_iST6, r_iLD6, r_IC3, r_iMUL, r_iADD, r_lALDc, r_lASTc, r_IINC6, r_GOTO, eq_self, Int.reduceLT, Int.reduceLE, Int.reduceEq, true_or, or_true, and_self, true_and, and_true, w8_0, w8_1, w8_2, w8_3, w8_4, nl_I, nl_P, nl_X, pu_I, pu_J, pu_V, w3_id, Int.add_zero, kd_149, rR_149_7]
          by_cases a3 : h 155 q = h 155 r
          · rw [if_pos a3, if_neg (by simpa using a3)]
            simp (disch := first | assumption | omega | exact w8_0 | exact w8_1 _ | exact w8_2 _ _ | exact w8_3 _ _ _ | exact w8_4 _ _ _ _ | exact nl_I _ | exact nl_P _ | exact nl_X | decide | exact w8_5 _ _ _ _ _) only [ju_230_31, ju_230_53, r_iLD1, cl_210, r_IF0, r_iLD3, r_IF1, r_iCONST, r_iRET, r_aLD0, r_gR, r_iALDc, r_iALDs, r_IF2, r_IF3, r_bPUSH, r_IC0, r_iLD5, r_iLD2, cl_212, r_iLD4, r_iST6, r_iLD6, r_IC3, r_iMUL, r_iADD, r_lALDc, r_lASTc, r_IINC6, r_GOTO, eq_self, Int.reduceLT, Int.reduceLE, Int.reduceEq, true_or, or_true, and_self, true_and, and_true, w8_0, w8_1, w8_2, w8_3, w8_4, nl_I, nl_P, nl_X, pu_I, pu_J, pu_V, w3_id, Int.add_zero, kd_149, rR_149_7, s_lacks e hq, s_lacks e2 hr]
            by_cases a4 : 0 ≤ m
            · rw [if_neg (show ¬ m < 0 by omega)]
              by_cases a5 : lack h q (h 155 q) i m = 0
              · rw [if_neg (by simpa using a5)]
                by_cases a6 : lack h r (h 155 r) j m = 0
                · obtain ⟨M, rfl⟩ := Int.eq_ofNat_of_zero_le a4
                  have y1 := lack_0 a5
                  have y2 := lack_0 a6
                  rw [if_pos a6, if_pos ⟨a4, a5, a6⟩]
                  simp (disch := first | assumption | omega | exact w8_0 | exact w8_1 _ | exact w8_2 _ _ | exact w8_3 _ _ _ | exact w8_4 _ _ _ _ | exact nl_I _ | exact nl_P _ | exact nl_X | decide | exact w8_5 _ _ _ _ _) only [ju_230_55, r_iLD1, cl_210, r_IF0, r_iLD3, r_IF1, r_iCONST, r_iRET, r_aLD0, r_gR, r_iALDc, r_iALDs, r_IF2, r_IF3, r_bPUSH, r_IC0, r_iLD5, r_iLD2, cl_212, r_iLD4, r_iST6, r_iLD6, r_IC3, r_iMUL, r_iADD, r_lALDc, r_lASTc, r_IINC6, r_GOTO, eq_self, Int.reduceLT, Int.reduceLE, Int.reduceEq, true_or, or_true, and_self, true_and, and_true, w8_0, w8_1, w8_2, w8_3, w8_4, nl_I, nl_P, nl_X, pu_I, pu_J, pu_V, w3_id, Int.add_zero]
                  have w1 := lp_cp1 (h := h) (Q := Q) (y := (r : Int)) (j := j) (x := (q : Int)) (i := i) e y1.1 (M := M) (by omega) M 0 (Nat.zero_add M)
                  rw [cpo_0] at w1
                  refine Iff.trans w1 ?_
                  rw [ju_230_76]
                  simp only [r_iLD1, cl_210, r_IF0, r_iLD3, r_IF1, r_iCONST, r_iRET, r_aLD0, r_gR, r_iALD, r_iALDs, r_IF2, r_IF3, r_bPUSH, r_IC0, r_iLD5, r_iLD2, cl_212, r_iLD4, r_iST6, r_iLD6, r_IC3, r_iMUL, r_iADD, r_lALD, r_lAST, r_IINC6, r_GOTO, eq_self, Int.reduceLT, Int.reduceLE, Int.reduceEq, true_or, or_true, and_self, true_and, and_true, w8_0, w8_1, w8_2, w8_3, w8_4, nl_I, nl_P, nl_X, pu_I, pu_J, pu_V]
                  have w2 := lp_cp2 (h := cpy h 157 (24 * (q : Int) + i) 158 0 (M : Int)) (Q := Q) (x := (q : Int)) (i := i) (y := (r : Int)) (j := j) e2 y2.1 (M := M) (by omega) (by omega) M 0 (Nat.zero_add M)
                  rw [cpo_0] at w2
                  exact w2
                · rw [if_neg a6, if_neg (fun z => a6 z.2.2)]
              · rw [if_pos a5, if_neg (fun z => a5 z.2.1)]
            · rw [if_pos (by omega), if_neg (fun z => a4 z.1)]
          · rw [if_neg a3, if_pos a3]
    · rw [if_neg (by simp [e]), if_neg (by simp [e2]), if_neg (fun z => e2 z.2)]
  · rw [if_pos (by simp [e]), if_neg (fun z => e z.1)]
theorem b_copy (hI : INV h) : Both 229 230 [aP 0, aI x, aI i, aI y, aI j, aI m, aX, aX] [aP 149, aI x, aI i, aI y, aI j, aI m, aX] h := by
  have hS := hI.2.2.2
  have hL : ∀ q : Nat, q < 4 → 0 ≤ h 156 q ∧ h 156 q ≤ 24 := fun q hq => (hS q hq).2.1
  unfold Both
  rw [s_Tcopy hS]
  by_cases e : (0 ≤ x ∧ x < 4) ∧ 0 ≤ y ∧ y < 4
  · rw [if_pos e]
    obtain ⟨q, rfl⟩ := Int.eq_ofNat_of_zero_le e.1.1
    obtain ⟨r, rfl⟩ := Int.eq_ofNat_of_zero_le e.2.1
    have hq : q < 4 := by omega
    have hr : r < 4 := by omega
    obtain ⟨s1, s2, s3, s4⟩ := hS q hq
    obtain ⟨s1', s2', s3', s4'⟩ := hS r hr
    have e1 : (h (72 + 2 * (q : Int)) 1 ≠ 0 ∨ h (72 + 2 * (r : Int)) 1 ≠ 0) ↔ (h 155 q < 0 ∨ h 155 r < 0) := by omega
    by_cases a1 : h 155 q < 0 ∨ h 155 r < 0
    · rw [if_pos (e1.mpr a1)]
      refine ⟨_, _, rfl, rfl, rfl, ?_⟩
      rw [s_Rcopy hL, if_pos e, if_pos a1]
      exact ⟨_, rfl, rfl, rfl, hI⟩
    · rw [if_neg (fun z => a1 (e1.mp z))]
      have e2 : h (72 + 2 * (q : Int)) 2 = h 155 q := by omega
      have e2' : h (72 + 2 * (r : Int)) 2 = h 155 r := by omega
      rw [e2, e2']
      by_cases a2 : h 155 q = h 155 r
      · rw [if_neg (show ¬ (h 155 q ≠ h 155 r) by omega)]
        have w : ∀ (q : Nat) (i : Int), q < 4 → ¬ h 155 q < 0 → ((0 ≤ m ∧ lack h q (h 155 q) i m = 0) ↔ spn h (72 + 2 * q) i m) := by
          intro q i hq hn
          obtain ⟨t1, t2, t3, t4⟩ := hS q hq
          have f2 : h (72 + 2 * (q : Int)) 2 = h 155 q := by omega
          constructor
          · rintro ⟨z1, z2⟩
            rw [← q_lack hS hq z1] at z2
            exact (refu_0 z2).2.2
          · intro z
            refine ⟨z.2.1, ?_⟩
            rw [← q_lack hS hq z.2.1]
            unfold refu
            rw [if_neg (show ¬ (h (72 + 2 * (q : Int)) 1 ≠ 0) by omega), if_neg (show ¬ (h 155 q ≠ h (72 + 2 * (q : Int)) 2) by omega), if_pos z]
        have w1 := w q i hq (fun z => a1 (Or.inl z))
        have w2 := w r j hr (fun z => a1 (Or.inr z))
        by_cases a3 : spn h (72 + 2 * (q : Int)) i m ∧ spn h (72 + 2 * (r : Int)) j m
        · rw [if_pos a3]
          obtain ⟨b1, b2⟩ := a3
          have c1 := w1.mpr b1
          have c2 := w2.mpr b2
          have f1 : ∀ a, (a < 72 ∨ 79 < a) → cpy h (73 + 2 * (q : Int)) i (73 + 2 * (r : Int)) j m a = h a := fun a ha => cpo_ne (by omega)
          have hL1 : ∀ q' : Nat, q' < 4 → 0 ≤ cpy h (73 + 2 * (q : Int)) i (73 + 2 * (r : Int)) j m 156 q' ∧ cpy h (73 + 2 * (q : Int)) i (73 + 2 * (r : Int)) j m 156 q' ≤ 24 := fun q' hq' => by rw [f1 156 (by omega)]; exact hL q' hq'
          have lk : ∀ x y i, lack (cpy h (73 + 2 * (q : Int)) i (73 + 2 * (r : Int)) j m) x y i m = lack h x y i m ∨ True := fun x y i => Or.inr trivial
          refine ⟨_, _, rfl, rfl, f1 _ (by omega), ?_⟩
          generalize hg : cpy h (73 + 2 * (q : Int)) i (73 + 2 * (r : Int)) j m = g at f1 hL1 ⊢
          have lk : ∀ x y i, lack g x y i m = lack h x y i m := fun x y i => by unfold lack; rw [f1 155 (by omega), f1 156 (by omega)]
          rw [s_Rcopy hL1, if_pos e, f1 155 (by omega), if_neg a1, if_neg (show ¬ (h 155 q ≠ h 155 r) by omega), lk, lk, if_pos ⟨c1.1, c1.2, c2.2⟩]
          have f2 : ∀ a, (a < 157 ∨ 158 < a) → cpR g q i r j m a = g a := fun a ha => by unfold cpR; rw [cpo_ne (by omega), cpo_ne (by omega)]
          refine ⟨_, rfl, rfl, by rw [f2 _ (by omega), f1 _ (by omega)], INV_s hI (fun a k q1 q2 q3 => ?_) (fun u hu => ?_)⟩
          · rw [f2 a (by unfold scr at q3; omega), f1 a q1]
          · have hs := hS u hu
            unfold SQ at hs ⊢
            have gu : g (72 + 2 * (u : Int)) = h (72 + 2 * (u : Int)) := by rw [← hg, cpo_ne (by omega)]
            rw [f2 _ (by omega), f2 156 (by omega), f2 155 (by omega), f2 _ (by omega), f1 155 (by omega), f1 156 (by omega), gu]
            refine ⟨hs.1, hs.2.1, hs.2.2.1, fun k hk => ?_⟩
            have g157 : g 157 = h 157 := f1 157 (by omega)
            have e157 : cpR g q i r j m 157 (24 * u + k) = if 24 * (r : Int) + j ≤ 24 * u + k ∧ 24 * (u : Int) + k < 24 * r + j + m then h 157 (24 * q + i + (24 * u + k - (24 * r + j))) else h 157 (24 * u + k) := by
              unfold cpR
              rw [cpo_k]
              by_cases z : 24 * (r : Int) + j ≤ 24 * u + k ∧ 24 * (u : Int) + k < 24 * r + j + m
              · rw [if_pos z, if_pos z, cpo_k, if_pos (by omega), g157]; congr 1; omega
              · rw [if_neg z, if_neg z, cpo_ne (by decide), g157]
            rw [e157]
            by_cases z : u = r
            · subst z
              rw [← hg, cpo_k]
              by_cases y : j ≤ (k : Int) ∧ (k : Int) < j + m
              · rw [if_pos y, if_pos (by omega)]
                obtain ⟨k', ek⟩ := Int.eq_ofNat_of_zero_le (show 0 ≤ i + ((k : Int) - j) by omega)
                rw [ek, s4 k' (by omega)]
                congr 1; omega
              · rw [if_neg y, if_neg (by omega)]
                exact hs.2.2.2 k hk
            · rw [if_neg (by omega), ← hg, cpo_ne (by omega)]
              exact hs.2.2.2 k hk
        · rw [if_neg a3]
          refine ⟨_, _, rfl, rfl, rfl, ?_⟩
          rw [s_Rcopy hL, if_pos e, if_neg a1, if_neg (show ¬ (h 155 q ≠ h 155 r) by omega), if_neg (fun z => a3 ⟨w1.mp ⟨z.1, z.2.1⟩, w2.mp ⟨z.1, z.2.2⟩⟩)]
          exact ⟨_, rfl, rfl, rfl, hI⟩
      · rw [if_pos a2]
        refine ⟨_, _, rfl, rfl, rfl, ?_⟩
        rw [s_Rcopy hL, if_pos e, if_neg a1, if_pos a2]
        exact ⟨_, rfl, rfl, rfl, hI⟩
  · rw [if_neg e]
    refine ⟨_, _, rfl, rfl, rfl, ?_⟩
    rw [s_Rcopy hL, if_neg e]
    exact ⟨_, rfl, rfl, rfl, hI⟩
end CY
