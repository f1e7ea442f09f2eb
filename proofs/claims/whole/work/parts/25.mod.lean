section RC
variable {m : Nat} {is : List am_I} {L S : List am_V} {h : am_F} {Q : am_V → am_S → Prop} {i v c : Int}
theorem r_iALDc (hk : kd c = 20) (h0 : 0 ≤ i) (h1 : i < ln c) : wp m (iALD :: is) L (aI i :: aP c :: S) (sT h) Q ↔ wp m is L (aI (h c i) :: S) (sT h) Q := by rw [r_iALD hk]; exact and_iff_right ⟨h0, h1⟩
theorem r_iASTc (hk : kd c = 20) (h0 : 0 ≤ i) (h1 : i < ln c) : wp m (iAST :: is) L (aI v :: aI i :: aP c :: S) (sT h) Q ↔ wp m is L S (sT (up h c i v)) Q := by rw [r_iAST hk]; exact and_iff_right ⟨h0, h1⟩
theorem r_lALDc (hk : kd c = 21) (h0 : 0 ≤ i) (h1 : i < ln c) : wp m (lALD :: is) L (aI i :: aP c :: S) (sT h) Q ↔ wp m is L (aJ (h c i) :: S) (sT h) Q := by rw [r_lALD hk]; exact and_iff_right ⟨h0, h1⟩
theorem r_lASTc (hk : kd c = 21) (h0 : 0 ≤ i) (h1 : i < ln c) : wp m (lAST :: is) L (aJ v :: aI i :: aP c :: S) (sT h) Q ↔ wp m is L S (sT (up h c i v)) Q := by rw [r_lAST hk]; exact and_iff_right ⟨h0, h1⟩
end RC
section MD
variable {h : am_F} {Q : am_V → am_S → Prop} {c b x y z pl j so v : Int}
theorem s_in : wp 17 (am_ju 17 0) [aI x, aI y, aI z] [] (sT h) Q ↔ Q (aI (if y ≤ x ∧ x ≤ z then 1 else 0)) (sT h) := by
  simp only [ju_17_0, ju_17_8, ju_17_9, r_iLD0, r_iLD1, r_IC2, r_iLD2, r_IC4, r_iCONST, r_GOTO, r_zRET, eq_self, Int.reduceLT, Int.reduceLE, Int.reduceEq, true_or, or_true, and_self, true_and, and_true, w8_0, w8_1, w8_2, w8_3, w8_4, nl_I, nl_P, nl_X, pu_I, pu_J, pu_V, r_zRET0, r_zRET1]
  by_cases h1 : x < y
  · simp [h1, show ¬ y ≤ x by omega]
  · by_cases h2 : z < x
    · simp [h1, h2, show ¬ x ≤ z by omega]
    · simp [h1, h2, show y ≤ x by omega, show x ≤ z by omega]
theorem s_rhas {a t : Nat} (ha : a < 2 ^ 31) (ht : t < 31) : wp 34 (am_ju 34 0) [aI (a : Int), aI (t : Int)] [] (sT h) Q ↔ Q (aI (if a.testBit t = true then 1 else 0)) (sT h) := by
  simp only [ju_34_0, ju_34_9, ju_34_10, r_iLD0, r_iLD1, r_iSHR, r_iCONST, r_iAND, r_IC1, r_GOTO, r_zRET, eq_self, Int.reduceLT, Int.reduceLE, Int.reduceEq, true_or, or_true, and_self, true_and, and_true, w8_0, w8_1, w8_2, w8_3, w8_4, nl_I, nl_P, nl_X, pu_I, pu_J, pu_V, bBit_n a t ht ha, r_zRET0, r_zRET1]
  by_cases hb : a.testBit t = true <;> simp [hb]
theorem s_rhas0 {a : Nat} (ha : a < 2 ^ 31) : wp 34 (am_ju 34 0) [aI (a : Int), aI 0] [] (sT h) Q ↔ Q (aI (if a.testBit 0 = true then 1 else 0)) (sT h) := s_rhas (t := 0) ha (by decide)
theorem s_rhas1 {a : Nat} (ha : a < 2 ^ 31) : wp 34 (am_ju 34 0) [aI (a : Int), aI 1] [] (sT h) Q ↔ Q (aI (if a.testBit 1 = true then 1 else 0)) (sT h) := s_rhas (t := 1) ha (by decide)
theorem s_rhas2 {a : Nat} (ha : a < 2 ^ 31) : wp 34 (am_ju 34 0) [aI (a : Int), aI 2] [] (sT h) Q ↔ Q (aI (if a.testBit 2 = true then 1 else 0)) (sT h) := s_rhas (t := 2) ha (by decide)
theorem s_bagAt (hb : -100 ≤ b ∧ b ≤ 100) : wp 18 (am_ju 18 0) [aI b] [] (sT h) Q ↔ Q (aI (6 + 4 * b)) (sT h) := by
  simp (disch := first | assumption | omega | exact w8_0 | exact w8_1 _ | exact w8_2 _ _ | exact w8_3 _ _ _ | exact w8_4 _ _ _ _ | exact nl_I _ | exact nl_P _ | exact nl_X | decide | exact w8_5 _ _ _ _ _) only [ju_18_0, r_bPUSH, r_iCONST, r_iLD0, r_iMUL, r_iADD, r_iRET, eq_self, Int.reduceLT, Int.reduceLE, Int.reduceEq, true_or, or_true, and_self, true_and, and_true, w8_0, w8_1, w8_2, w8_3, w8_4, nl_I, nl_P, nl_X, pu_I, pu_J, pu_V, w3_id, Int.add_zero]
theorem s_thingAt (hb : -100 ≤ b ∧ b ≤ 100) : wp 25 (am_ju 25 0) [aI b] [] (sT h) Q ↔ Q (aI (18 + 6 * b)) (sT h) := by
  simp (disch := first | assumption | omega | exact w8_0 | exact w8_1 _ | exact w8_2 _ _ | exact w8_3 _ _ _ | exact w8_4 _ _ _ _ | exact nl_I _ | exact nl_P _ | exact nl_X | decide | exact w8_5 _ _ _ _ _) only [ju_25_0, r_bPUSH, r_iLD0, r_iMUL, r_iADD, r_iRET, eq_self, Int.reduceLT, Int.reduceLE, Int.reduceEq, true_or, or_true, and_self, true_and, and_true, w8_0, w8_1, w8_2, w8_3, w8_4, nl_I, nl_P, nl_X, pu_I, pu_J, pu_V, w3_id, Int.add_zero]
theorem s_least : wp 121 (am_ju 121 0) [aI x, aI y] [] (sT h) Q ↔ Q (aI (if y ≤ x then y else x)) (sT h) := by
  simp only [ju_121_0, ju_121_5, ju_121_6, r_iLD0, r_iLD1, r_IC3, r_GOTO, r_iRET, eq_self, Int.reduceLT, Int.reduceLE, Int.reduceEq, true_or, or_true, and_self, true_and, and_true, w8_0, w8_1, w8_2, w8_3, w8_4, nl_I, nl_P, nl_X, pu_I, pu_J, pu_V]
  by_cases h1 : y ≤ x <;> simp [h1]
theorem s_strengthOf (hk : kd c = 20) (hl : ln c = 238) (hb : 0 ≤ b ∧ b < 3) {k w r : Int} (ek : h c (6 + 4 * b) = k) (ew : h c (6 + 4 * b + 1) = w) (er : h c (6 + 4 * b + 2) = r) (hkk : 0 ≤ k ∧ k ≤ 3) (hw : 0 ≤ w ∧ w ≤ 999) (hr : 0 ≤ r ∧ r ≤ 999) (hp : 0 ≤ pl ∧ pl ≤ 3) : wp 53 (am_ju 53 0) [aP c, aI b, aI pl, aX, aX, aX] [] (sT h) Q ↔ Q (aI (stren k w r pl)) (sT h) := by
  have hp4 : pl = 0 ∨ pl = 1 ∨ pl = 2 ∨ pl = 3 := by omega
  have hk4 : k = 0 ∨ k = 1 ∨ k = 2 ∨ k = 3 := by omega
  have key : ∀ V, stren k w r pl = mx0 V → ((if 0 ≤ V then Q (aI V) (sT h) else Q (aI 0) (sT h)) ↔ Q (aI (stren k w r pl)) (sT h)) := by
    intro V e
    rw [e, mx0]
    by_cases h1 : 0 < V
    · rw [if_pos (by omega), if_pos h1]
    · by_cases h2 : 0 ≤ V
      · rw [if_pos h2, if_neg h1, show V = 0 by omega]
      · rw [if_neg h2, if_neg h1]
  rcases hk4 with rfl | rfl | rfl | rfl <;> rcases hp4 with rfl | rfl | rfl | rfl <;>
    (simp (disch := first | assumption | omega | exact w8_0 | exact w8_1 _ | exact w8_2 _ _ | exact w8_3 _ _ _ | exact w8_4 _ _ _ _ | exact nl_I _ | exact nl_P _ | exact nl_X | decide | exact w8_5 _ _ _ _ _) only [ju_53_0, ju_53_23, ju_53_24, ju_53_40, ju_53_41, ju_53_49, ju_53_50, ju_53_53, ju_53_67, ju_53_68, ju_53_82, ju_53_83, ju_53_85, ju_53_89, ju_53_90, r_iLD1, cl_18, r_iST3, r_aLD0, r_iLD3, r_iCONST, r_iADD, r_iALDc, r_iALDs, r_iST4, r_iLD4, r_IC4, r_bPUSH, r_iSUB, r_iLD2, r_IF1, r_GOTO, r_iMUL, r_iST5, r_iLD5, cl_17, r_IF0, r_IC1, r_IF3, r_iRET, eq_self, Int.reduceLT, Int.reduceLE, Int.reduceEq, true_or, or_true, and_self, true_and, and_true, w8_0, w8_1, w8_2, w8_3, w8_4, nl_I, nl_P, nl_X, pu_I, pu_J, pu_V, w3_id, Int.add_zero, s_bagAt, s_in, b01, ek, ew, er, if_true, if_false, not_true, not_false_eq_true, and_false, false_and, Int.reduceNeg]
     refine key _ ?_
     unfold stren paper thin
     simp only [Int.reduceEq, if_true, if_false]
     first | rfl | (congr 1; omega))
/-- sums and sets of the reference's rows -/
def rW (h : am_F) (c b : Int) (wh : Int) (t : Nat) : Int := if h c (18 + 6 * t + 5) = b then h c (18 + 6 * t + wh) else 0
theorem rW_r {n M : Nat} {wh : Int} (hf : ∀ t : Nat, t < n → 0 ≤ h c (18 + 6 * t + wh) ∧ h c (18 + 6 * t + wh) ≤ M) : ∀ t : Nat, t ≤ n → 0 ≤ sumF (rW h c b wh) t ∧ sumF (rW h c b wh) t ≤ t * M := by
  intro t
  induction t with
  | zero => intro _; exact ⟨Int.le_refl _, by simp [sumF]⟩
  | succ t ih =>
    intro ht
    have ih := ih (by omega)
    have := hf t (by omega)
    have e2 : ((t + 1 : Nat) : Int) * M = t * M + M := by rw [Int.natCast_add, Int.add_mul]; simp
    rw [sumF]
    unfold rW at ih ⊢
    split <;> omega
theorem lp_sum (hk : kd c = 20) (hl : ln c = 238) {n : Nat} (h8 : n ≤ 8) (hn : h c 1 = (n : Int)) {wh : Int} (hwh : 0 ≤ wh ∧ wh ≤ 4) (hf : ∀ t : Nat, t < n → 0 ≤ h c (18 + 6 * t + wh) ∧ h c (18 + 6 * t + wh) ≤ (99 : Nat)) : ∀ (k t : Nat), t + k = n → (wp 46 (am_ju 46 4) [aP c, aI b, aI wh, aI (sumF (rW h c b wh) t), aI (t : Int)] [] (sT h) Q ↔ Q (aI (sumF (rW h c b wh) n)) (sT h)) := by
  intro k
  induction k with
  | zero =>
    intro t ht
    have ht : t = n := by omega
    subst ht
    simp (disch := first | assumption | omega | exact w8_0 | exact w8_1 _ | exact w8_2 _ _ | exact w8_3 _ _ _ | exact w8_4 _ _ _ _ | exact nl_I _ | exact nl_P _ | exact nl_X | decide | exact w8_5 _ _ _ _ _) only [ju_46_4, ju_46_30, r_iCONST, r_iST3, r_iST4, r_iLD4, r_aLD0, r_iALDc, r_iALDs, r_IC3, r_iLD3, cl_25, r_iADD, r_iLD1, r_IC1, r_iLD2, r_GOTO, r_IINC4, r_iRET, eq_self, Int.reduceLT, Int.reduceLE, Int.reduceEq, true_or, or_true, and_self, true_and, and_true, w8_0, w8_1, w8_2, w8_3, w8_4, nl_I, nl_P, nl_X, pu_I, pu_J, pu_V, w3_id, Int.add_zero, hn]
    rw [if_pos (by omega)]
  | succ k ih =>
    intro t ht
    have hr := rW_r (b := b) hf t (by omega)
    have hw : w3 ((t : Int) + 1) = ((t + 1 : Nat) : Int) := w3_id (by omega) (by omega)
    have hft := hf t (by omega)
    have ih := ih (t + 1) (by omega)
    rw [sumF, show rW h c b wh t = if h c (18 + 6 * t + 5) = b then h c (18 + 6 * t + wh) else 0 from rfl] at ih
    rw [ju_46_4]
    simp (disch := first | assumption | omega | exact w8_0 | exact w8_1 _ | exact w8_2 _ _ | exact w8_3 _ _ _ | exact w8_4 _ _ _ _ | exact nl_I _ | exact nl_P _ | exact nl_X | decide | exact w8_5 _ _ _ _ _) only [ju_46_25, ju_46_26, r_iCONST, r_iST3, r_iST4, r_iLD4, r_aLD0, r_iALDc, r_iALDs, r_IC3, r_iLD3, cl_25, r_iADD, r_iLD1, r_IC1, r_iLD2, r_GOTO, r_IINC4, r_iRET, eq_self, Int.reduceLT, Int.reduceLE, Int.reduceEq, true_or, or_true, and_self, true_and, and_true, w8_0, w8_1, w8_2, w8_3, w8_4, nl_I, nl_P, nl_X, pu_I, pu_J, pu_V, w3_id, Int.add_zero, hn, s_thingAt, hw]
    rw [if_neg (by omega)]
    by_cases hb : h c (18 + 6 * t + 5) = b
    · rw [if_pos hb] at ih
      rw [if_neg (by simpa using hb)]
      exact ih
    · rw [if_neg hb] at ih
      rw [if_pos hb]
      simpa using ih
theorem s_sum (hk : kd c = 20) (hl : ln c = 238) {n : Nat} (h8 : n ≤ 8) (hn : h c 1 = (n : Int)) {wh : Int} (hwh : 0 ≤ wh ∧ wh ≤ 4) (hf : ∀ t : Nat, t < n → 0 ≤ h c (18 + 6 * t + wh) ∧ h c (18 + 6 * t + wh) ≤ (99 : Nat)) : wp 46 (am_ju 46 0) [aP c, aI b, aI wh, aX, aX] [] (sT h) Q ↔ Q (aI (sumF (rW h c b wh) n)) (sT h) := by
  rw [ju_46_0]
  simp only [r_iCONST, r_iST3, r_iST4, r_iLD4, r_aLD0, r_iALD, r_iALDs, r_IC3, r_iLD3, cl_25, r_iADD, r_iLD1, r_IC1, r_iLD2, r_GOTO, r_IINC4, r_iRET, eq_self, Int.reduceLT, Int.reduceLE, Int.reduceEq, true_or, or_true, and_self, true_and, and_true, w8_0, w8_1, w8_2, w8_3, w8_4, nl_I, nl_P, nl_X, pu_I, pu_J, pu_V]
  exact lp_sum hk hl h8 hn hwh hf n 0 (Nat.zero_add n)
theorem lp_thingsIn (hk : kd c = 20) (hl : ln c = 238) {n : Nat} (h8 : n ≤ 8) (hn : h c 1 = (n : Int)) : ∀ (k t : Nat), t + k = n → (wp 45 (am_ju 45 4) [aP c, aI b, aI ((setF (fun t => decide (h c (18 + 6 * t + 5) = b)) t : Nat) : Int), aI (t : Int)] [] (sT h) Q ↔ Q (aI ((setF (fun t => decide (h c (18 + 6 * t + 5) = b)) n : Nat) : Int)) (sT h)) := by
  intro k
  induction k with
  | zero =>
    intro t ht
    have ht : t = n := by omega
    subst ht
    simp (disch := first | assumption | omega | exact w8_0 | exact w8_1 _ | exact w8_2 _ _ | exact w8_3 _ _ _ | exact w8_4 _ _ _ _ | exact nl_I _ | exact nl_P _ | exact nl_X | decide | exact w8_5 _ _ _ _ _) only [ju_45_4, ju_45_27, r_iCONST, r_iST2, r_iST3, r_iLD3, r_aLD0, r_iALDc, r_iALDs, r_IC3, r_iLD2, cl_25, r_iADD, r_iLD1, r_IC1, r_iSHL, r_GOTO, r_iOR, r_IINC3, r_iRET, eq_self, Int.reduceLT, Int.reduceLE, Int.reduceEq, true_or, or_true, and_self, true_and, and_true, w8_0, w8_1, w8_2, w8_3, w8_4, nl_I, nl_P, nl_X, pu_I, pu_J, pu_V, w3_id, Int.add_zero, hn]
    rw [if_pos (by omega)]
  | succ k ih =>
    intro t ht
    have hs : setF (fun t => decide (h c (18 + 6 * t + 5) = b)) (t + 1) = setF (fun t => decide (h c (18 + 6 * t + 5) = b)) t ||| (if decide (h c (18 + 6 * t + 5) = b) = true then 2 ^ t else 0) := rfl
    have hlt := setF_lt (fun t => decide (h c (18 + 6 * t + 5) = b)) t
    have h31 : 2 ^ t < 2 ^ 31 := Nat.pow_lt_pow_right (by decide) (by omega)
    have ih := ih (t + 1) (by omega)
    rw [hs] at ih
    have hw : w3 ((t : Int) + 1) = ((t + 1 : Nat) : Int) := w3_id (by omega) (by omega)
    rw [ju_45_4]
    simp (disch := first | assumption | omega | exact w8_0 | exact w8_1 _ | exact w8_2 _ _ | exact w8_3 _ _ _ | exact w8_4 _ _ _ _ | exact nl_I _ | exact nl_P _ | exact nl_X | decide | exact w8_5 _ _ _ _ _) only [ju_45_22, ju_45_23, r_iCONST, r_iST2, r_iST3, r_iLD3, r_aLD0, r_iALDc, r_iALDs, r_IC3, r_iLD2, cl_25, r_iADD, r_iLD1, r_IC1, r_iSHL, r_GOTO, r_iOR, r_IINC3, r_iRET, eq_self, Int.reduceLT, Int.reduceLE, Int.reduceEq, true_or, or_true, and_self, true_and, and_true, w8_0, w8_1, w8_2, w8_3, w8_4, nl_I, nl_P, nl_X, pu_I, pu_J, pu_V, w3_id, Int.add_zero, hn, s_thingAt, hw]
    rw [if_neg (by omega)]
    by_cases hp : h c (18 + 6 * t + 5) = b
    · rw [if_neg (by simpa using hp), show (1 : Int) = ((1 : Nat) : Int) from rfl, bShl_n 1 t (by omega) (by omega), Nat.one_mul, bOr_n _ _ (by omega) h31]
      simpa [hp] using ih
    · rw [if_pos hp, show (0 : Int) = ((0 : Nat) : Int) from rfl, bOr_n _ _ (by omega) (by decide), Nat.or_zero]
      simpa [hp] using ih
theorem s_thingsIn (hk : kd c = 20) (hl : ln c = 238) {n : Nat} (h8 : n ≤ 8) (hn : h c 1 = (n : Int)) : wp 45 (am_ju 45 0) [aP c, aI b, aX, aX] [] (sT h) Q ↔ Q (aI ((setF (fun t => decide (h c (18 + 6 * t + 5) = b)) n : Nat) : Int)) (sT h) := by
  rw [ju_45_0]
  simp only [r_iCONST, r_iST2, r_iST3, r_iLD3, r_aLD0, r_iALD, r_iALDs, r_IC3, r_iLD2, cl_25, r_iADD, r_iLD1, r_IC1, r_iSHL, r_GOTO, r_iOR, r_IINC3, r_iRET, eq_self, Int.reduceLT, Int.reduceLE, Int.reduceEq, true_or, or_true, and_self, true_and, and_true, w8_0, w8_1, w8_2, w8_3, w8_4, nl_I, nl_P, nl_X, pu_I, pu_J, pu_V]
  exact lp_thingsIn hk hl h8 hn n 0 (Nat.zero_add n)
end MD
