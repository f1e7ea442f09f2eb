section EZ
variable {h h' : am_F} {Q : am_V → am_S → Prop} {x y t b : Int} {n nb L s : Nat}
theorem s_Tseed : wp 132 (am_ju 132 0) [aP 0, aI x, aX] [] (sT h) Q ↔ Q (aI (if 0 ≤ x then h 90 5 else -1)) (sT (if 0 ≤ x then up h 90 5 x else h)) := by
  simp only [ju_132_0, ju_132_4, r_iLD1, r_IF3, r_iCONST, r_iRET, r_aLD0, r_gR, r_gI, r_iST2, r_pI, r_iLD2, eq_self, Int.reduceLT, Int.reduceLE, Int.reduceEq, true_or, or_true, and_self, true_and, and_true, w8_0, w8_1, w8_2, w8_3, w8_4, nl_I, nl_P, nl_X, pu_I, pu_J, pu_V, kd_0, ln_0, rR_0_0, rR_0_1, rR_0_3, rR_0_4, rR_0_5, rR_0_6, rR_0_7, rR_0_8, rR_0_9, rR_0_10, kd_80, ln_80, rR_80_0, rR_80_1, rR_80_2, rR_80_3, kd_90, ln_90, rR_90_0, rR_90_1, rR_90_2, rR_90_3]
  by_cases e : 0 ≤ x <;> simp [e]
theorem s_Rseed : wp 133 (am_ju 133 0) [aP 149, aI x, aX] [] (sT h) Q ↔ Q (aI (if 0 ≤ x then h 150 4 else -1)) (sT (if 0 ≤ x then up h 150 4 x else h)) := by
  simp only [ju_133_0, ju_133_4, r_iLD1, r_IF3, r_iCONST, r_iRET, r_aLD0, r_gR, r_iALD, r_iALDs, r_iST2, r_iAST, r_iLD2, eq_self, Int.reduceLT, Int.reduceLE, Int.reduceEq, true_or, or_true, and_self, true_and, and_true, w8_0, w8_1, w8_2, w8_3, w8_4, nl_I, nl_P, nl_X, pu_I, pu_J, pu_V, kd_149, ln_149, rR_149_0, rR_149_1, rR_149_2, rR_149_3, rR_149_5, rR_149_7, rR_149_8, rR_149_9, rR_149_10, rR_149_16, rR_149_17, rR_149_18, kd_150, ln_150]
  by_cases e : 0 ≤ x <;> simp [e]
theorem s_isThing (h8 : n ≤ 8) (hn : h 150 1 = (n : Int)) : wp 32 (am_ju 32 0) [aP 149, aI x] [] (sT h) Q ↔ Q (aI (if 0 ≤ x ∧ x < n then 1 else 0)) (sT h) := by
  simp only [ju_32_0, r_iLD1, r_iCONST, r_aLD0, r_gR, r_iALD, r_iALDs, r_iSUB, cl_17, r_zRET, eq_self, Int.reduceLT, Int.reduceLE, Int.reduceEq, true_or, or_true, and_self, true_and, and_true, w8_0, w8_1, w8_2, w8_3, w8_4, nl_I, nl_P, nl_X, pu_I, pu_J, pu_V, kd_149, ln_149, rR_149_0, rR_149_1, rR_149_2, rR_149_3, rR_149_5, rR_149_7, rR_149_8, rR_149_9, rR_149_10, rR_149_16, rR_149_17, rR_149_18, kd_150, ln_150, s_in, hn]
  rw [w3_id (by omega) (by omega)]
  by_cases e : 0 ≤ x ∧ x < n
  · rw [if_pos e, if_pos ⟨e.1, by omega⟩]; simp [r_iLD1, r_iCONST, r_aLD0, r_gR, r_iALD, r_iALDs, r_iSUB, cl_17, r_zRET, eq_self, Int.reduceLT, Int.reduceLE, Int.reduceEq, true_or, or_true, and_self, true_and, and_true, w8_0, w8_1, w8_2, w8_3, w8_4, nl_I, nl_P, nl_X, pu_I, pu_J, pu_V]
  · rw [if_neg e, if_neg (fun z => e ⟨z.1, by omega⟩)]; simp [r_iLD1, r_iCONST, r_aLD0, r_gR, r_iALD, r_iALDs, r_iSUB, cl_17, r_zRET, eq_self, Int.reduceLT, Int.reduceLE, Int.reduceEq, true_or, or_true, and_self, true_and, and_true, w8_0, w8_1, w8_2, w8_3, w8_4, nl_I, nl_P, nl_X, pu_I, pu_J, pu_V]
theorem s_isBag (h3 : nb ≤ 3) (hn : h 150 0 = (nb : Int)) : wp 33 (am_ju 33 0) [aP 149, aI x] [] (sT h) Q ↔ Q (aI (if 0 ≤ x ∧ x < nb then 1 else 0)) (sT h) := by
  simp only [ju_33_0, r_iLD1, r_iCONST, r_aLD0, r_gR, r_iALD, r_iALDs, r_iSUB, cl_17, r_zRET, eq_self, Int.reduceLT, Int.reduceLE, Int.reduceEq, true_or, or_true, and_self, true_and, and_true, w8_0, w8_1, w8_2, w8_3, w8_4, nl_I, nl_P, nl_X, pu_I, pu_J, pu_V, kd_149, ln_149, rR_149_0, rR_149_1, rR_149_2, rR_149_3, rR_149_5, rR_149_7, rR_149_8, rR_149_9, rR_149_10, rR_149_16, rR_149_17, rR_149_18, kd_150, ln_150, s_in, hn]
  rw [w3_id (by omega) (by omega)]
  by_cases e : 0 ≤ x ∧ x < nb
  · rw [if_pos e, if_pos ⟨e.1, by omega⟩]; simp [r_iLD1, r_iCONST, r_aLD0, r_gR, r_iALD, r_iALDs, r_iSUB, cl_17, r_zRET, eq_self, Int.reduceLT, Int.reduceLE, Int.reduceEq, true_or, or_true, and_self, true_and, and_true, w8_0, w8_1, w8_2, w8_3, w8_4, nl_I, nl_P, nl_X, pu_I, pu_J, pu_V]
  · rw [if_neg e, if_neg (fun z => e ⟨z.1, by omega⟩)]; simp [r_iLD1, r_iCONST, r_aLD0, r_gR, r_iALD, r_iALDs, r_iSUB, cl_17, r_zRET, eq_self, Int.reduceLT, Int.reduceLE, Int.reduceEq, true_or, or_true, and_self, true_and, and_true, w8_0, w8_1, w8_2, w8_3, w8_4, nl_I, nl_P, nl_X, pu_I, pu_J, pu_V]
theorem s_moveTo (ht : 0 ≤ t ∧ t < 8) : wp 21 (am_ju 21 0) [aP 90, aI t, aI y, aX] [] (sT h) Q ↔ Q (aI (h 94 t)) (sT (up h 94 t y)) := by
  obtain ⟨h1, h2⟩ := ht
  have hl := ln_94
  have hk := kd_94
  simp (disch := first | assumption | omega | exact w8_0 | exact w8_1 _ | exact w8_2 _ _ | exact w8_3 _ _ _ | exact w8_4 _ _ _ _ | exact nl_I _ | exact nl_P _ | exact nl_X | decide | exact w8_5 _ _ _ _ _) only [ju_21_0, ju_21_6, r_iLD1, r_bPUSH, cl_12, r_IF1, r_iCONST, r_iRET, r_aLD0, r_gR, r_iALDc, r_iALDs, r_iST3, r_iLD2, r_iASTc, r_iLD3, eq_self, Int.reduceLT, Int.reduceLE, Int.reduceEq, true_or, or_true, and_self, true_and, and_true, w8_0, w8_1, w8_2, w8_3, w8_4, nl_I, nl_P, nl_X, pu_I, pu_J, pu_V, w3_id, Int.add_zero, kd_90, ln_90, rR_90_0, rR_90_1, rR_90_2, rR_90_3, s_isBelow, h1, h2, and_self, if_true, not_false_eq_true]
theorem s_Tgive (h8 : n ≤ 8) (hn : h 81 7 = (n : Int)) : wp 37 (am_ju 37 0) [aP 0, aI t] [] (sT h) Q ↔ Q (aI (if 0 ≤ t ∧ t < n then h 94 t else -1)) (sT (if 0 ≤ t ∧ t < n then up h 94 t 3 else h)) := by
  simp only [ju_37_0, ju_37_8, r_aLD0, r_gR, r_iLD1, cl_27, r_IF1, r_iCONST, r_iRET, cl_21, eq_self, Int.reduceLT, Int.reduceLE, Int.reduceEq, true_or, or_true, and_self, true_and, and_true, w8_0, w8_1, w8_2, w8_3, w8_4, nl_I, nl_P, nl_X, pu_I, pu_J, pu_V, kd_0, ln_0, rR_0_0, rR_0_1, rR_0_3, rR_0_4, rR_0_5, rR_0_6, rR_0_7, rR_0_8, rR_0_9, rR_0_10, kd_80, ln_80, rR_80_0, rR_80_1, rR_80_2, rR_80_3, kd_81, ln_81, rR_81_0, rR_81_1, rR_81_2, rR_81_3, rR_81_4, rR_81_5, kd_90, ln_90, rR_90_0, rR_90_1, rR_90_2, rR_90_3, s_hasThing kd_81, hn]
  by_cases e : 0 ≤ t ∧ t < n
  · simp only [e, and_self, if_true, ne_eq, Int.reduceEq, not_false_eq_true, s_moveTo (h := h) (y := 3) (t := t) ⟨e.1, by omega⟩, r_aLD0, r_gR, r_iLD1, cl_27, r_IF1, r_iCONST, r_iRET, cl_21, eq_self, Int.reduceLT, Int.reduceLE, Int.reduceEq, true_or, or_true, and_self, true_and, and_true, w8_0, w8_1, w8_2, w8_3, w8_4, nl_I, nl_P, nl_X, pu_I, pu_J, pu_V, kd_90, ln_90, rR_90_0, rR_90_1, rR_90_2, rR_90_3]
  · simp [e, r_aLD0, r_gR, r_iLD1, cl_27, r_IF1, r_iCONST, r_iRET, cl_21, eq_self, Int.reduceLT, Int.reduceLE, Int.reduceEq, true_or, or_true, and_self, true_and, and_true, w8_0, w8_1, w8_2, w8_3, w8_4, nl_I, nl_P, nl_X, pu_I, pu_J, pu_V]
theorem s_Rgive (h8 : n ≤ 8) (hn : h 150 1 = (n : Int)) : wp 38 (am_ju 38 0) [aP 149, aI t, aX] [] (sT h) Q ↔ Q (aI (if 0 ≤ t ∧ t < n then h 150 (18 + 6 * t + 5) else -1)) (sT (if 0 ≤ t ∧ t < n then up h 150 (18 + 6 * t + 5) 3 else h)) := by
  simp only [ju_38_0, ju_38_6, r_aLD0, r_iLD1, cl_32, r_IF1, r_iCONST, r_iRET, r_gR, cl_25, r_iADD, r_iALD, r_iALDs, r_iST2, r_iAST, r_iLD2, eq_self, Int.reduceLT, Int.reduceLE, Int.reduceEq, true_or, or_true, and_self, true_and, and_true, w8_0, w8_1, w8_2, w8_3, w8_4, nl_I, nl_P, nl_X, pu_I, pu_J, pu_V, kd_149, ln_149, rR_149_0, rR_149_1, rR_149_2, rR_149_3, rR_149_5, rR_149_7, rR_149_8, rR_149_9, rR_149_10, rR_149_16, rR_149_17, rR_149_18, kd_150, ln_150, s_isThing h8 hn]
  by_cases e : 0 ≤ t ∧ t < n
  · have h1 : 0 ≤ t := e.1
    have h2 : t < 8 := by omega
    have hw : w3 (18 + 6 * t + 5) = 18 + 6 * t + 5 := w3_id (by omega) (by omega)
    have hl := ln_150
    have hk := kd_150
    simp (disch := first | assumption | omega | exact w8_0 | exact w8_1 _ | exact w8_2 _ _ | exact w8_3 _ _ _ | exact w8_4 _ _ _ _ | exact nl_I _ | exact nl_P _ | exact nl_X | decide | exact w8_5 _ _ _ _ _) only [e, and_self, if_true, ne_eq, Int.reduceEq, not_false_eq_true, not_true_eq_false, if_false, s_thingAt (h := h) (b := t) ⟨by omega, by omega⟩, r_aLD0, r_iLD1, cl_32, r_IF1, r_iCONST, r_iRET, r_gR, cl_25, r_iADD, r_iALDc, r_iALDs, r_iST2, r_iASTc, r_iLD2, eq_self, Int.reduceLT, Int.reduceLE, Int.reduceEq, true_or, or_true, and_self, true_and, and_true, w8_0, w8_1, w8_2, w8_3, w8_4, nl_I, nl_P, nl_X, pu_I, pu_J, pu_V, w3_id, Int.add_zero, kd_149, rR_149_0, hw]
  · simp [e, r_aLD0, r_iLD1, cl_32, r_IF1, r_iCONST, r_iRET, r_gR, cl_25, r_iADD, r_iALD, r_iALDs, r_iST2, r_iAST, r_iLD2, eq_self, Int.reduceLT, Int.reduceLE, Int.reduceEq, true_or, or_true, and_self, true_and, and_true, w8_0, w8_1, w8_2, w8_3, w8_4, nl_I, nl_P, nl_X, pu_I, pu_J, pu_V]
end EZ
