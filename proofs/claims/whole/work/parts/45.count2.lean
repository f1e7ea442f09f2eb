section ES
variable {h h' : am_F} {Q : am_V → am_S → Prop} {x y t b i pl j : Int} {n nb L s : Nat}
/-- how many of the first n things lie on the ground, by the row -/
def gN (h : am_F) (n : Nat) : Int := sumF (fun t => if 10 ≤ h 150 (18 + 6 * t + 5) then 1 else 0) n
theorem gN_r : ∀ n : Nat, 0 ≤ gN h n ∧ gN h n ≤ n := by
  intro n
  induction n with
  | zero => exact ⟨Int.le_refl 0, Int.le_refl 0⟩
  | succ n ih =>
    unfold gN at ih ⊢
    rw [sumF]
    split <;> omega
theorem lp_Rground (h8 : n ≤ 8) (hn : h 150 1 = (n : Int)) : ∀ (k t : Nat), t + k = n → (wp 106 (am_ju 106 4) [aP 149, aI (gN h t), aI (t : Int)] [] (sT h) Q ↔ Q (aI (gN h n)) (sT h)) := by
  intro k
  have hl := ln_150
  have hk := kd_150
  induction k with
  | zero =>
    intro t ht
    have ht : t = n := by omega
    subst ht
    simp only [ju_106_4, ju_106_27, r_iCONST, r_iST1, r_iST2, r_iLD2, r_aLD0, r_gR, r_iALD, r_iALDs, r_IC3, r_iLD1, cl_25, r_iADD, r_bPUSH, r_IC2, r_GOTO, r_IINC2, r_iRET, eq_self, Int.reduceLT, Int.reduceLE, Int.reduceEq, true_or, or_true, and_self, true_and, and_true, w8_0, w8_1, w8_2, w8_3, w8_4, nl_I, nl_P, nl_X, pu_I, pu_J, pu_V, kd_149, ln_149, rR_149_0, rR_149_1, rR_149_2, rR_149_3, rR_149_5, rR_149_7, rR_149_8, rR_149_9, rR_149_10, rR_149_16, rR_149_17, rR_149_18, kd_150, ln_150, hn]
    rw [if_pos (by omega)]
  | succ k ih =>
    intro t ht
    have t2 : (t : Int) < 8 := by omega
    have hr := gN_r (h := h) t
    have hw : w3 ((t : Int) + 1) = ((t + 1 : Nat) : Int) := w3_id (by omega) (by omega)
    have hv : w3 (18 + 6 * (t : Int) + 5) = 18 + 6 * (t : Int) + 5 := w3_id (by omega) (by omega)
    have hs : gN h (t + 1) = gN h t + (if 10 ≤ h 150 (18 + 6 * t + 5) then 1 else 0) := rfl
    have ih := ih (t + 1) (by omega)
    rw [hs] at ih
    rw [ju_106_4]
    simp (disch := first | assumption | omega | exact w8_0 | exact w8_1 _ | exact w8_2 _ _ | exact w8_3 _ _ _ | exact w8_4 _ _ _ _ | exact nl_I _ | exact nl_P _ | exact nl_X | decide | exact w8_5 _ _ _ _ _) only [r_iCONST, r_iST1, r_iST2, r_iLD2, r_aLD0, r_gR, r_iALDc, r_iALDs, r_IC3, r_iLD1, cl_25, r_iADD, r_bPUSH, r_IC2, r_GOTO, r_IINC2, r_iRET, eq_self, Int.reduceLT, Int.reduceLE, Int.reduceEq, true_or, or_true, and_self, true_and, and_true, w8_0, w8_1, w8_2, w8_3, w8_4, nl_I, nl_P, nl_X, pu_I, pu_J, pu_V, w3_id, Int.add_zero, kd_149, rR_149_0, hn]
    rw [if_neg (by omega)]
    simp (disch := first | assumption | omega | exact w8_0 | exact w8_1 _ | exact w8_2 _ _ | exact w8_3 _ _ _ | exact w8_4 _ _ _ _ | exact nl_I _ | exact nl_P _ | exact nl_X | decide | exact w8_5 _ _ _ _ _) only [r_iCONST, r_iST1, r_iST2, r_iLD2, r_aLD0, r_gR, r_iALDc, r_iALDs, r_IC3, r_iLD1, cl_25, r_iADD, r_bPUSH, r_IC2, r_GOTO, r_IINC2, r_iRET, eq_self, Int.reduceLT, Int.reduceLE, Int.reduceEq, true_or, or_true, and_self, true_and, and_true, w8_0, w8_1, w8_2, w8_3, w8_4, nl_I, nl_P, nl_X, pu_I, pu_J, pu_V, w3_id, Int.add_zero, kd_149, rR_149_0, s_thingAt (h := h) (b := (t : Int)) ⟨by omega, by omega⟩, hv]
    by_cases hp : 10 ≤ h 150 (18 + 6 * t + 5)
    · rw [if_neg (by omega)]
      simp (disch := first | assumption | omega | exact w8_0 | exact w8_1 _ | exact w8_2 _ _ | exact w8_3 _ _ _ | exact w8_4 _ _ _ _ | exact nl_I _ | exact nl_P _ | exact nl_X | decide | exact w8_5 _ _ _ _ _) only [ju_106_23, r_iCONST, r_iST1, r_iST2, r_iLD2, r_aLD0, r_gR, r_iALDc, r_iALDs, r_IC3, r_iLD1, cl_25, r_iADD, r_bPUSH, r_IC2, r_GOTO, r_IINC2, r_iRET, eq_self, Int.reduceLT, Int.reduceLE, Int.reduceEq, true_or, or_true, and_self, true_and, and_true, w8_0, w8_1, w8_2, w8_3, w8_4, nl_I, nl_P, nl_X, pu_I, pu_J, pu_V, w3_id, Int.add_zero, hw]
      rw [if_pos hp] at ih
      exact ih
    · rw [if_pos (by omega)]
      simp (disch := first | assumption | omega | exact w8_0 | exact w8_1 _ | exact w8_2 _ _ | exact w8_3 _ _ _ | exact w8_4 _ _ _ _ | exact nl_I _ | exact nl_P _ | exact nl_X | decide | exact w8_5 _ _ _ _ _) only [ju_106_22, ju_106_23, r_iCONST, r_iST1, r_iST2, r_iLD2, r_aLD0, r_gR, r_iALDc, r_iALDs, r_IC3, r_iLD1, cl_25, r_iADD, r_bPUSH, r_IC2, r_GOTO, r_IINC2, r_iRET, eq_self, Int.reduceLT, Int.reduceLE, Int.reduceEq, true_or, or_true, and_self, true_and, and_true, w8_0, w8_1, w8_2, w8_3, w8_4, nl_I, nl_P, nl_X, pu_I, pu_J, pu_V, w3_id, Int.add_zero, hw]
      rw [if_neg hp, Int.add_zero] at ih
      exact ih
theorem s_Rground (h8 : n ≤ 8) (hn : h 150 1 = (n : Int)) : wp 106 (am_ju 106 0) [aP 149, aX, aX] [] (sT h) Q ↔ Q (aI (gN h n)) (sT h) := by
  rw [ju_106_0]
  simp only [r_iCONST, r_iST1, r_iST2, r_iLD2, r_aLD0, r_gR, r_iALD, r_iALDs, r_IC3, r_iLD1, cl_25, r_iADD, r_bPUSH, r_IC2, r_GOTO, r_IINC2, r_iRET, eq_self, Int.reduceLT, Int.reduceLE, Int.reduceEq, true_or, or_true, and_self, true_and, and_true, w8_0, w8_1, w8_2, w8_3, w8_4, nl_I, nl_P, nl_X, pu_I, pu_J, pu_V]
  exact lp_Rground h8 hn n 0 (Nat.zero_add n)
theorem lp_Rbuses (hL : h 150 2 = (L : Int)) (h20 : L ≤ 20) : ∀ (m s : Nat) (a : Int), s + m = L → 0 ≤ a ∧ a ≤ s → (wp 107 (am_ju 107 7) [aP 149, aI a, aI (s : Int)] [] (sT h) Q ↔ Q (aI (a + bN (fun s => h 150 (66 + s)) m s)) (sT h)) := by
  intro m
  have hl := ln_150
  have hk := kd_150
  induction m with
  | zero =>
    intro s a hs ha
    simp only [ju_107_7, ju_107_29, r_iCONST, r_iST1, r_aLD0, r_gR, r_iALD, r_iALDs, r_iST2, r_iLD2, r_IC3, r_iLD1, r_bPUSH, r_iADD, r_IC1, r_GOTO, r_IINC2, r_iRET, eq_self, Int.reduceLT, Int.reduceLE, Int.reduceEq, true_or, or_true, and_self, true_and, and_true, w8_0, w8_1, w8_2, w8_3, w8_4, nl_I, nl_P, nl_X, pu_I, pu_J, pu_V, kd_149, ln_149, rR_149_0, rR_149_1, rR_149_2, rR_149_3, rR_149_5, rR_149_7, rR_149_8, rR_149_9, rR_149_10, rR_149_16, rR_149_17, rR_149_18, kd_150, ln_150, hL]
    rw [if_pos (by omega), bN, Int.add_zero]
  | succ m ih =>
    intro s a hs ha
    have hw : w3 ((s : Int) + 1) = ((s + 1 : Nat) : Int) := w3_id (by omega) (by omega)
    have hv : w3 (66 + (s : Int)) = 66 + (s : Int) := w3_id (by omega) (by omega)
    have s2 : (s : Int) < 20 := by omega
    obtain ⟨a1, a2⟩ := ha
    rw [ju_107_7]
    simp (disch := first | assumption | omega | exact w8_0 | exact w8_1 _ | exact w8_2 _ _ | exact w8_3 _ _ _ | exact w8_4 _ _ _ _ | exact nl_I _ | exact nl_P _ | exact nl_X | decide | exact w8_5 _ _ _ _ _) only [r_iCONST, r_iST1, r_aLD0, r_gR, r_iALDc, r_iALDs, r_iST2, r_iLD2, r_IC3, r_iLD1, r_bPUSH, r_iADD, r_IC1, r_GOTO, r_IINC2, r_iRET, eq_self, Int.reduceLT, Int.reduceLE, Int.reduceEq, true_or, or_true, and_self, true_and, and_true, w8_0, w8_1, w8_2, w8_3, w8_4, nl_I, nl_P, nl_X, pu_I, pu_J, pu_V, w3_id, Int.add_zero, kd_149, rR_149_0, hL, hv]
    rw [if_neg (by omega), bN]
    by_cases hp : h 150 (66 + (s : Int)) = 3
    · rw [if_neg (by simpa using hp), if_pos hp]
      simp (disch := first | assumption | omega | exact w8_0 | exact w8_1 _ | exact w8_2 _ _ | exact w8_3 _ _ _ | exact w8_4 _ _ _ _ | exact nl_I _ | exact nl_P _ | exact nl_X | decide | exact w8_5 _ _ _ _ _) only [ju_107_25, r_iCONST, r_iST1, r_aLD0, r_gR, r_iALDc, r_iALDs, r_iST2, r_iLD2, r_IC3, r_iLD1, r_bPUSH, r_iADD, r_IC1, r_GOTO, r_IINC2, r_iRET, eq_self, Int.reduceLT, Int.reduceLE, Int.reduceEq, true_or, or_true, and_self, true_and, and_true, w8_0, w8_1, w8_2, w8_3, w8_4, nl_I, nl_P, nl_X, pu_I, pu_J, pu_V, w3_id, Int.add_zero, hw]
      have := ih (s + 1) (a + 1) (by omega) ⟨by omega, by omega⟩
      rw [Int.add_assoc] at this
      exact this
    · rw [if_pos hp, if_neg hp, Int.zero_add]
      simp (disch := first | assumption | omega | exact w8_0 | exact w8_1 _ | exact w8_2 _ _ | exact w8_3 _ _ _ | exact w8_4 _ _ _ _ | exact nl_I _ | exact nl_P _ | exact nl_X | decide | exact w8_5 _ _ _ _ _) only [ju_107_24, ju_107_25, r_iCONST, r_iST1, r_aLD0, r_gR, r_iALDc, r_iALDs, r_iST2, r_iLD2, r_IC3, r_iLD1, r_bPUSH, r_iADD, r_IC1, r_GOTO, r_IINC2, r_iRET, eq_self, Int.reduceLT, Int.reduceLE, Int.reduceEq, true_or, or_true, and_self, true_and, and_true, w8_0, w8_1, w8_2, w8_3, w8_4, nl_I, nl_P, nl_X, pu_I, pu_J, pu_V, w3_id, Int.add_zero, hw]
      exact ih (s + 1) a (by omega) ⟨by omega, by omega⟩
theorem s_Rbuses (hL : h 150 2 = (L : Int)) (h20 : L ≤ 20) (hs : h 150 3 = (s : Int)) (hsL : s ≤ L) : wp 107 (am_ju 107 0) [aP 149, aX, aX] [] (sT h) Q ↔ Q (aI (bN (fun s => h 150 (66 + s)) (L - s) s)) (sT h) := by
  rw [ju_107_0]
  simp only [r_iCONST, r_iST1, r_aLD0, r_gR, r_iALD, r_iALDs, r_iST2, r_iLD2, r_IC3, r_iLD1, r_bPUSH, r_iADD, r_IC1, r_GOTO, r_IINC2, r_iRET, eq_self, Int.reduceLT, Int.reduceLE, Int.reduceEq, true_or, or_true, and_self, true_and, and_true, w8_0, w8_1, w8_2, w8_3, w8_4, nl_I, nl_P, nl_X, pu_I, pu_J, pu_V, kd_149, ln_149, rR_149_0, rR_149_1, rR_149_2, rR_149_3, rR_149_5, rR_149_7, rR_149_8, rR_149_9, rR_149_10, rR_149_16, rR_149_17, rR_149_18, kd_150, ln_150, hs]
  rw [lp_Rbuses hL h20 (L - s) s 0 (by omega) ⟨by omega, by omega⟩, Int.zero_add]
end ES
