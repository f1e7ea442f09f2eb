section RC
variable {m : Nat} {is : List am_I} {L S : List am_V} {h : am_F} {Q : am_V → am_S → Prop} {i v c : Int}
theorem r_iALDc (hk : kd c = 20) (h0 : 0 ≤ i) (h1 : i < ln c) : wp m (iALD :: is) L (aI i :: aP c :: S) (sT h) Q ↔ wp m is L (aI (h c i) :: S) (sT h) Q := by rw [r_iALD hk]; exact and_iff_right ⟨h0, h1⟩
theorem r_iASTc (hk : kd c = 20) (h0 : 0 ≤ i) (h1 : i < ln c) : wp m (iAST :: is) L (aI v :: aI i :: aP c :: S) (sT h) Q ↔ wp m is L S (sT (up h c i v)) Q := by rw [r_iAST hk]; exact and_iff_right ⟨h0, h1⟩
theorem r_lALDc (hk : kd c = 21) (h0 : 0 ≤ i) (h1 : i < ln c) : wp m (lALD :: is) L (aI i :: aP c :: S) (sT h) Q ↔ wp m is L (aJ (h c i) :: S) (sT h) Q := by rw [r_lALD hk]; exact and_iff_right ⟨h0, h1⟩
theorem r_lASTc (hk : kd c = 21) (h0 : 0 ≤ i) (h1 : i < ln c) : wp m (lAST :: is) L (aJ v :: aI i :: aP c :: S) (sT h) Q ↔ wp m is L S (sT (up h c i v)) Q := by rw [r_lAST hk]; exact and_iff_right ⟨h0, h1⟩
end RC
section MD
variable {h : am_F} {Q : am_V → am_S → Prop} {c b x y z pl j so v : Int}
theorem s_in : wp 17 (am_ju 17 0) [aI x, aI y, aI z] [] (sT h) Q ↔ Q (aI (if y ≤ x ∧ x ≤ z then 1 else 0)) (sT h) := by
  simp only [ju_17_0, ju_17_8, ju_17_9, r_iLD0, r_iLD1, r_IC2, r_iLD2, r_IC4, r_iCONST, r_GOTO, r_zRET, eq_self, Int.reduceLT, Int.reduceLE, Int.reduceEq, true_or, or_true, and_self, true_and, and_true, w8_0, w8_1, w8_2, w8_3, w8_4, nl_I, nl_P, nl_X, pu_I, pu_J, pu_V, r_zRET0, r_zRET1]
  by_cases h1 : x < y
  · simp [h1, show ¬ y ≤ x by omega]
  · by_cases h2 : z < x
    · simp [h1, h2, show ¬ x ≤ z by omega]
    · simp [h1, h2, show y ≤ x by omega, show x ≤ z by omega]
theorem s_rhas {a t : Nat} (ha : a < 2 ^ 31) (ht : t < 31) : wp 34 (am_ju 34 0) [aI (a : Int), aI (t : Int)] [] (sT h) Q ↔ Q (aI (if a.testBit t = true then 1 else 0)) (sT h) := by
  simp only [ju_34_0, ju_34_9, ju_34_10, r_iLD0, r_iLD1, r_iSHR, r_iCONST, r_iAND, r_IC1, r_GOTO, r_zRET, eq_self, Int.reduceLT, Int.reduceLE, Int.reduceEq, true_or, or_true, and_self, true_and, and_true, w8_0, w8_1, w8_2, w8_3, w8_4, nl_I, nl_P, nl_X, pu_I, pu_J, pu_V, bBit_n a t ht ha, r_zRET0, r_zRET1]
  by_cases hb : a.testBit t = true <;> simp [hb]
theorem s_rhas0 {a : Nat} (ha : a < 2 ^ 31) : wp 34 (am_ju 34 0) [aI (a : Int), aI 0] [] (sT h) Q ↔ Q (aI (if a.testBit 0 = true then 1 else 0)) (sT h) := s_rhas (t := 0) ha (by decide)
theorem s_rhas1 {a : Nat} (ha : a < 2 ^ 31) : wp 34 (am_ju 34 0) [aI (a : Int), aI 1] [] (sT h) Q ↔ Q (aI (if a.testBit 1 = true then 1 else 0)) (sT h) := s_rhas (t := 1) ha (by decide)
theorem s_rhas2 {a : Nat} (ha : a < 2 ^ 31) : wp 34 (am_ju 34 0) [aI (a : Int), aI 2] [] (sT h) Q ↔ Q (aI (if a.testBit 2 = true then 1 else 0)) (sT h) := s_rhas (t := 2) ha (by decide)
theorem s_bagAt (hb : -100 ≤ b ∧ b ≤ 100) : wp 18 (am_ju 18 0) [aI b] [] (sT h) Q ↔ Q (aI (6 + 4 * b)) (sT h) := by
  simp (disch := first | assumption | omega | exact w8_0 | exact w8_1 _ | exact w8_2 _ _ | exact w8_3 _ _ _ | exact w8_4 _ _ _ _ | exact nl_I _ | exact nl_P _ | exact nl_X | decide) only [ju_18_0, r_bPUSH, r_iCONST, r_iLD0, r_iMUL, r_iADD, r_iRET, eq_self, Int.reduceLT, Int.reduceLE, Int.reduceEq, true_or, or_true, and_self, true_and, and_true, w8_0, w8_1, w8_2, w8_3, w8_4, nl_I, nl_P, nl_X, pu_I, pu_J, pu_V, w3_id, Int.add_zero]
theorem s_thingAt (hb : -100 ≤ b ∧ b ≤ 100) : wp 25 (am_ju 25 0) [aI b] [] (sT h) Q ↔ Q (aI (18 + 6 * b)) (sT h) := by
  simp (disch := first | assumption | omega | exact w8_0 | exact w8_1 _ | exact w8_2 _ _ | exact w8_3 _ _ _ | exact w8_4 _ _ _ _ | exact nl_I _ | exact nl_P _ | exact nl_X | decide) only [ju_25_0, r_bPUSH, r_iLD0, r_iMUL, r_iADD, r_iRET, eq_self, Int.reduceLT, Int.reduceLE, Int.reduceEq, true_or, or_true, and_self, true_and, and_true, w8_0, w8_1, w8_2, w8_3, w8_4, nl_I, nl_P, nl_X, pu_I, pu_J, pu_V, w3_id, Int.add_zero]
theorem s_least : wp 122 (am_ju 122 0) [aI x, aI y] [] (sT h) Q ↔ Q (aI (if y ≤ x then y else x)) (sT h) := by
  simp only [ju_122_0, ju_122_5, ju_122_6, r_iLD0, r_iLD1, r_IC3, r_GOTO, r_iRET, eq_self, Int.reduceLT, Int.reduceLE, Int.reduceEq, true_or, or_true, and_self, true_and, and_true, w8_0, w8_1, w8_2, w8_3, w8_4, nl_I, nl_P, nl_X, pu_I, pu_J, pu_V]
  by_cases h1 : y ≤ x <;> simp [h1]
theorem s_strengthOf (hk : kd c = 20) (hl : ln c = 238) (hb : 0 ≤ b ∧ b < 3) {k w r : Int} (ek : h c (6 + 4 * b) = k) (ew : h c (6 + 4 * b + 1) = w) (er : h c (6 + 4 * b + 2) = r) (hkk : 0 ≤ k ∧ k ≤ 3) (hw : 0 ≤ w ∧ w ≤ 999) (hr : 0 ≤ r ∧ r ≤ 999) (hp : 0 ≤ pl ∧ pl ≤ 3) : wp 53 (am_ju 53 0) [aP c, aI b, aI pl, aX, aX, aX] [] (sT h) Q ↔ Q (aI (stren k w r pl)) (sT h) := by
  have hp4 : pl = 0 ∨ pl = 1 ∨ pl = 2 ∨ pl = 3 := by omega
  rw [ju_53_0]
  simp (disch := first | assumption | omega | exact w8_0 | exact w8_1 _ | exact w8_2 _ _ | exact w8_3 _ _ _ | exact w8_4 _ _ _ _ | exact nl_I _ | exact nl_P _ | exact nl_X | decide) only [r_iLD1, cl_18, r_iST3, r_aLD0, r_iLD3, r_iCONST, r_iADD, r_iALDc, r_iALDs, r_iST4, r_iLD4, r_IC4, r_bPUSH, r_iSUB, r_iLD2, r_IF1, r_GOTO, r_iMUL, r_iST5, r_iLD5, cl_17, r_IF0, r_IC1, r_IF3, r_iRET, eq_self, Int.reduceLT, Int.reduceLE, Int.reduceEq, true_or, or_true, and_self, true_and, and_true, w8_0, w8_1, w8_2, w8_3, w8_4, nl_I, nl_P, nl_X, pu_I, pu_J, pu_V, w3_id, Int.add_zero, s_bagAt, ek, ew, er]
  by_cases h1 : 1 < k
  · rw [if_pos h1]
    simp (disch := first | assumption | omega | exact w8_0 | exact w8_1 _ | exact w8_2 _ _ | exact w8_3 _ _ _ | exact w8_4 _ _ _ _ | exact nl_I _ | exact nl_P _ | exact nl_X | decide) only [ju_53_53, ju_53_67, ju_53_68, r_iLD1, cl_18, r_iST3, r_aLD0, r_iLD3, r_iCONST, r_iADD, r_iALDc, r_iALDs, r_iST4, r_iLD4, r_IC4, r_bPUSH, r_iSUB, r_iLD2, r_IF1, r_GOTO, r_iMUL, r_iST5, r_iLD5, cl_17, r_IF0, r_IC1, r_IF3, r_iRET, eq_self, Int.reduceLT, Int.reduceLE, Int.reduceEq, true_or, or_true, and_self, true_and, and_true, w8_0, w8_1, w8_2, w8_3, w8_4, nl_I, nl_P, nl_X, pu_I, pu_J, pu_V, w3_id, Int.add_zero, s_bagAt, ek, ew, er]
    sorry
  · sorry
end MD
