/-! Sheets -/
def fil (h : am_F) (c l v : Int) : am_F := fun a k => if a = c ∧ 0 ≤ k ∧ k < l then v else h a k
theorem sh_q : ∀ q : Nat, q < 4 → kd (72 + 2 * q) = 6 ∧ rR 71 q = 72 + 2 * q ∧ rR (72 + 2 * q) 0 = 73 + 2 * q ∧ kd (73 + 2 * q) = 21 ∧ ln (73 + 2 * q) = 24 := by decide +kernel
section FI
variable {h h' : am_F} {Q : am_V → am_S → Prop} {c d v x y i m : Int} {l t q : Nat}
theorem fil_s : up (fil h c t v) c t v = fil h c ((t + 1 : Nat) : Int) v := by
  funext a k
  unfold up fil
  by_cases h1 : a = c ∧ k = (t : Int)
  · rw [if_pos h1, if_pos ⟨h1.1, by omega, by omega⟩]
  · rw [if_neg h1]
    by_cases h2 : a = c ∧ 0 ≤ k ∧ k < (t : Int)
    · rw [if_pos h2, if_pos ⟨h2.1, h2.2.1, by omega⟩]
    · rw [if_neg h2, if_neg (fun z => h2 ⟨z.1, z.2.1, by
        have : ¬ k = (t : Int) := fun q => h1 ⟨z.1, q⟩
        have := z.2.2
        omega⟩)]
theorem fil_0 : fil h c ((0 : Nat) : Int) v = h := by funext a k; unfold fil; rw [if_neg (by omega)]
theorem fil_ne {a : Int} (ha : a ≠ c) : fil h c d v a = h a := by funext k; unfold fil; rw [if_neg (fun z => ha z.1)]
theorem fil_at {k : Int} (h0 : 0 ≤ k) (h1 : k < d) : fil h c d v c k = v := by unfold fil; rw [if_pos ⟨rfl, h0, h1⟩]
theorem lp_fillI (hk : kd c = 20) (hl : ln c = (l : Int)) (hl2 : l ≤ 1000) : ∀ (k t : Nat), t + k = l → (wp 79 (am_ju 79 5) [aP c, aI v, aI (t : Int), aI (l : Int)] [] (sT (fil h c t v)) Q ↔ Q aV (sT (fil h c l v))) := by
  intro k
  induction k with
  | zero =>
    intro t ht
    have ht : t = l := by omega
    subst ht
    rw [ju_79_5]
    simp only [ju_79_14, r_iCONST, r_iST2, r_aLD0, r_aLEN, r_aLENs, r_iST3, r_iLD2, r_iLD3, r_IC3, r_iLD1, r_iAST, r_IINC2, r_GOTO, r_vRET, eq_self, Int.reduceLT, Int.reduceLE, Int.reduceEq, true_or, or_true, and_self, true_and, and_true, w8_0, w8_1, w8_2, w8_3, w8_4, nl_I, nl_P, nl_X, pu_I, pu_J, pu_V]
    rw [if_pos (by omega)]
  | succ k ih =>
    intro t ht
    have hw : w3 ((t : Int) + 1) = ((t + 1 : Nat) : Int) := w3_id (by omega) (by omega)
    rw [ju_79_5]
    simp (disch := first | assumption | omega | exact w8_0 | exact w8_1 _ | exact w8_2 _ _ | exact w8_3 _ _ _ | exact w8_4 _ _ _ _ | exact nl_I _ | exact nl_P _ | exact nl_X | decide | exact w8_5 _ _ _ _ _) only [r_iCONST, r_iST2, r_aLD0, r_aLEN, r_aLENs, r_iST3, r_iLD2, r_iLD3, r_IC3, r_iLD1, r_iASTc, r_IINC2, r_GOTO, r_vRET, eq_self, Int.reduceLT, Int.reduceLE, Int.reduceEq, true_or, or_true, and_self, true_and, and_true, w8_0, w8_1, w8_2, w8_3, w8_4, nl_I, nl_P, nl_X, pu_I, pu_J, pu_V, w3_id, Int.add_zero, hw]
    rw [if_neg (by omega), fil_s]
    exact ih (t + 1) (by omega)
theorem s_fillI (hk : kd c = 20) (hl : ln c = (l : Int)) (hl2 : l ≤ 1000) : wp 79 (am_ju 79 0) [aP c, aI v, aX, aX] [] (sT h) Q ↔ Q aV (sT (fil h c l v)) := by
  have := lp_fillI (h := h) (v := v) (Q := Q) hk hl hl2 l 0 (Nat.zero_add l)
  rw [fil_0] at this
  rw [ju_79_0]
  simp only [r_iCONST, r_iST2, r_aLD0, r_aLEN, r_aLENs, r_iST3, r_iLD2, r_iLD3, r_IC3, r_iLD1, r_iAST, r_IINC2, r_GOTO, r_vRET, eq_self, Int.reduceLT, Int.reduceLE, Int.reduceEq, true_or, or_true, and_self, true_and, and_true, w8_0, w8_1, w8_2, w8_3, w8_4, nl_I, nl_P, nl_X, pu_I, pu_J, pu_V, hk, hl, true_or]
  exact this
theorem lp_fillJ (hk : kd c = 21) (hl : ln c = (l : Int)) (hl2 : l ≤ 1000) : ∀ (k t : Nat), t + k = l → (wp 221 (am_ju 221 5) [aP c, aJ v, aX, aI (t : Int), aI (l : Int)] [] (sT (fil h c t v)) Q ↔ Q aV (sT (fil h c l v))) := by
  intro k
  induction k with
  | zero =>
    intro t ht
    have ht : t = l := by omega
    subst ht
    rw [ju_221_5]
    simp only [ju_221_14, r_iCONST, r_iST3, r_aLD0, r_aLEN, r_aLENs, r_iST4, r_iLD3, r_iLD4, r_IC3, r_lLD1, r_lAST, r_IINC3, r_GOTO, r_vRET, eq_self, Int.reduceLT, Int.reduceLE, Int.reduceEq, true_or, or_true, and_self, true_and, and_true, w8_0, w8_1, w8_2, w8_3, w8_4, nl_I, nl_P, nl_X, pu_I, pu_J, pu_V]
    rw [if_pos (by omega)]
  | succ k ih =>
    intro t ht
    have hw : w3 ((t : Int) + 1) = ((t + 1 : Nat) : Int) := w3_id (by omega) (by omega)
    rw [ju_221_5]
    simp (disch := first | assumption | omega | exact w8_0 | exact w8_1 _ | exact w8_2 _ _ | exact w8_3 _ _ _ | exact w8_4 _ _ _ _ | exact nl_I _ | exact nl_P _ | exact nl_X | decide | exact w8_5 _ _ _ _ _) only [r_iCONST, r_iST3, r_aLD0, r_aLEN, r_aLENs, r_iST4, r_iLD3, r_iLD4, r_IC3, r_lLD1, r_lASTc, r_IINC3, r_GOTO, r_vRET, eq_self, Int.reduceLT, Int.reduceLE, Int.reduceEq, true_or, or_true, and_self, true_and, and_true, w8_0, w8_1, w8_2, w8_3, w8_4, nl_I, nl_P, nl_X, pu_I, pu_J, pu_V, w3_id, Int.add_zero, hw]
    rw [if_neg (by omega), fil_s]
    exact ih (t + 1) (by omega)
theorem s_fillJ (hk : kd c = 21) (hl : ln c = (l : Int)) (hl2 : l ≤ 1000) : wp 221 (am_ju 221 0) [aP c, aJ v, aX, aX, aX] [] (sT h) Q ↔ Q aV (sT (fil h c l v)) := by
  have := lp_fillJ (h := h) (v := v) (Q := Q) hk hl hl2 l 0 (Nat.zero_add l)
  rw [fil_0] at this
  rw [ju_221_0]
  simp only [r_iCONST, r_iST3, r_aLD0, r_aLEN, r_aLENs, r_iST4, r_iLD3, r_iLD4, r_IC3, r_lLD1, r_lAST, r_IINC3, r_GOTO, r_vRET, eq_self, Int.reduceLT, Int.reduceLE, Int.reduceEq, true_or, or_true, and_self, true_and, and_true, w8_0, w8_1, w8_2, w8_3, w8_4, nl_I, nl_P, nl_X, pu_I, pu_J, pu_V, hk, hl, or_true]
  exact this
theorem s_isSL : wp 204 (am_ju 204 0) [aI x, aI y] [] (sT h) Q ↔ Q (aI (if (0 ≤ x ∧ x < 4) ∧ 0 ≤ y ∧ y < 4 then 1 else 0)) (sT h) := by
  simp only [ju_204_0, ju_204_10, ju_204_11, r_iLD0, r_iCONST, cl_12, r_IF0, r_iLD1, r_GOTO, r_zRET, eq_self, Int.reduceLT, Int.reduceLE, Int.reduceEq, true_or, or_true, and_self, true_and, and_true, w8_0, w8_1, w8_2, w8_3, w8_4, nl_I, nl_P, nl_X, pu_I, pu_J, pu_V, s_isBelow, r_zRET0, r_zRET1]
  by_cases e : 0 ≤ x ∧ x < 4
  · by_cases f : 0 ≤ y ∧ y < 4 <;> simp [e, f]
  · simp [e]
theorem s_isSheet : wp 210 (am_ju 210 0) [aI x] [] (sT h) Q ↔ Q (aI (if 0 ≤ x ∧ x < 4 then 1 else 0)) (sT h) := by
  simp only [ju_210_0, r_iLD0, r_iCONST, cl_17, r_zRET, eq_self, Int.reduceLT, Int.reduceLE, Int.reduceEq, true_or, or_true, and_self, true_and, and_true, w8_0, w8_1, w8_2, w8_3, w8_4, nl_I, nl_P, nl_X, pu_I, pu_J, pu_V, s_in]
  by_cases e : 0 ≤ x ∧ x < 4
  · have e3 : 0 ≤ x ∧ x ≤ 3 := ⟨e.1, by omega⟩
    simp [e, e3, r_zRET1]
  · have e3 : ¬ (0 ≤ x ∧ x ≤ 3) := fun z => e ⟨z.1, by omega⟩
    simp [e, e3, r_zRET0]
theorem s_isLane : wp 211 (am_ju 211 0) [aI x] [] (sT h) Q ↔ Q (aI (if 0 ≤ x ∧ x < 4 then 1 else 0)) (sT h) := by
  simp only [ju_211_0, r_iLD0, r_iCONST, cl_17, r_zRET, eq_self, Int.reduceLT, Int.reduceLE, Int.reduceEq, true_or, or_true, and_self, true_and, and_true, w8_0, w8_1, w8_2, w8_3, w8_4, nl_I, nl_P, nl_X, pu_I, pu_J, pu_V, s_in]
  by_cases e : 0 ≤ x ∧ x < 4
  · have e3 : 0 ≤ x ∧ x ≤ 3 := ⟨e.1, by omega⟩
    simp [e, e3, r_zRET1]
  · have e3 : ¬ (0 ≤ x ∧ x ≤ 3) := fun z => e ⟨z.1, by omega⟩
    simp [e, e3, r_zRET0]
theorem s_spans (hk : kd c = 6) (hl : 0 ≤ h c 3 ∧ h c 3 ≤ 24) : wp 205 (am_ju 205 0) [aP c, aI i, aI m] [] (sT h) Q ↔ Q (aI (if 0 ≤ i ∧ 0 ≤ m ∧ m ≤ h c 3 ∧ i ≤ h c 3 - m then 1 else 0)) (sT h) := by
  simp only [ju_205_0, ju_205_16, ju_205_17, r_iLD1, r_IF2, r_iLD2, r_aLD0, r_gI, r_IC4, r_iSUB, r_iCONST, r_GOTO, r_zRET, eq_self, Int.reduceLT, Int.reduceLE, Int.reduceEq, true_or, or_true, and_self, true_and, and_true, w8_0, w8_1, w8_2, w8_3, w8_4, nl_I, nl_P, nl_X, pu_I, pu_J, pu_V, hk, r_zRET0, r_zRET1]
  by_cases e1 : i < 0
  · rw [if_pos e1, if_neg (by omega)]
  · rw [if_neg e1]
    by_cases e2 : m < 0
    · rw [if_pos e2, if_neg (by omega)]
    · rw [if_neg e2]
      by_cases e3 : h c 3 < m
      · rw [if_pos e3, if_neg (by omega)]
      · rw [if_neg e3, w3_id (by omega) (by omega)]
        by_cases e4 : h c 3 - m < i
        · rw [if_pos e4, if_neg (by omega)]
        · rw [if_neg e4, if_pos (by omega)]
/-- what the machine would find: the class's sheet c -/
def refu (h : am_F) (c y i m : Int) : Int := if h c 1 ≠ 0 then -11 else if y ≠ h c 2 then -12 else if 0 ≤ i ∧ 0 ≤ m ∧ m ≤ h c 3 ∧ i ≤ h c 3 - m then 0 else -13
def lack (h : am_F) (q y i m : Int) : Int := if h 155 q < 0 then -11 else if h 155 q ≠ y then -12 else if i < 0 ∨ h 156 q < i ∨ h 156 q - i < m then -13 else 0
theorem s_refusal (hk : kd c = 6) (hl : 0 ≤ h c 3 ∧ h c 3 ≤ 24) : wp 206 (am_ju 206 0) [aP c, aI y, aI i, aI m] [] (sT h) Q ↔ Q (aI (refu h c y i m)) (sT h) := by
  simp only [ju_206_0, ju_206_5, ju_206_11, ju_206_18, ju_206_19, r_aLD0, r_gI, r_IF0, r_bPUSH, r_iRET, r_iLD1, r_IC0, r_iLD2, r_iLD3, cl_205, r_iCONST, r_GOTO, eq_self, Int.reduceLT, Int.reduceLE, Int.reduceEq, true_or, or_true, and_self, true_and, and_true, w8_0, w8_1, w8_2, w8_3, w8_4, nl_I, nl_P, nl_X, pu_I, pu_J, pu_V, hk, s_spans hk hl]
  unfold refu
  by_cases e1 : h c 1 = 0
  · by_cases e2 : y = h c 2
    · by_cases e3 : 0 ≤ i ∧ 0 ≤ m ∧ m ≤ h c 3 ∧ i ≤ h c 3 - m
      · simp [e1, e2, e3]
      · simp [e1, e2, e3]
    · simp [e1, e2]
  · simp [e1]
theorem s_lacks (hx : 0 ≤ x ∧ x < 4) (hl : 0 ≤ h 156 x ∧ h 156 x ≤ 24) : wp 212 (am_ju 212 0) [aP 149, aI x, aI y, aI i, aI m] [] (sT h) Q ↔ Q (aI (lack h x y i m)) (sT h) := by
  have l1 := ln_155
  have k1 := kd_155
  have l2 := ln_156
  have k2 := kd_156
  obtain ⟨x0, x1⟩ := hx
  unfold lack
  by_cases e1 : h 155 x < 0
  · rw [if_pos e1, ju_212_0]
    simp (disch := first | assumption | omega | exact w8_0 | exact w8_1 _ | exact w8_2 _ _ | exact w8_3 _ _ _ | exact w8_4 _ _ _ _ | exact nl_I _ | exact nl_P _ | exact nl_X | decide | exact w8_5 _ _ _ _ _) only [r_aLD0, r_gR, r_iLD1, r_iALDc, r_iALDs, r_IF3, r_bPUSH, r_iRET, r_iLD2, r_IC0, r_iLD3, r_IF2, r_IC4, r_iLD4, r_iSUB, r_IC5, r_GOTO, r_iCONST, eq_self, Int.reduceLT, Int.reduceLE, Int.reduceEq, true_or, or_true, and_self, true_and, and_true, w8_0, w8_1, w8_2, w8_3, w8_4, nl_I, nl_P, nl_X, pu_I, pu_J, pu_V, w3_id, Int.add_zero, kd_149, rR_149_7, rR_149_8]
    rw [if_neg (by omega)]
  · rw [if_neg e1, ju_212_0]
    simp (disch := first | assumption | omega | exact w8_0 | exact w8_1 _ | exact w8_2 _ _ | exact w8_3 _ _ _ | exact w8_4 _ _ _ _ | exact nl_I _ | exact nl_P _ | exact nl_X | decide | exact w8_5 _ _ _ _ _) only [r_aLD0, r_gR, r_iLD1, r_iALDc, r_iALDs, r_IF3, r_bPUSH, r_iRET, r_iLD2, r_IC0, r_iLD3, r_IF2, r_IC4, r_iLD4, r_iSUB, r_IC5, r_GOTO, r_iCONST, eq_self, Int.reduceLT, Int.reduceLE, Int.reduceEq, true_or, or_true, and_self, true_and, and_true, w8_0, w8_1, w8_2, w8_3, w8_4, nl_I, nl_P, nl_X, pu_I, pu_J, pu_V, w3_id, Int.add_zero, kd_149, rR_149_7, rR_149_8]
    rw [if_pos (by omega), ju_212_7]
    simp (disch := first | assumption | omega | exact w8_0 | exact w8_1 _ | exact w8_2 _ _ | exact w8_3 _ _ _ | exact w8_4 _ _ _ _ | exact nl_I _ | exact nl_P _ | exact nl_X | decide | exact w8_5 _ _ _ _ _) only [r_aLD0, r_gR, r_iLD1, r_iALDc, r_iALDs, r_IF3, r_bPUSH, r_iRET, r_iLD2, r_IC0, r_iLD3, r_IF2, r_IC4, r_iLD4, r_iSUB, r_IC5, r_GOTO, r_iCONST, eq_self, Int.reduceLT, Int.reduceLE, Int.reduceEq, true_or, or_true, and_self, true_and, and_true, w8_0, w8_1, w8_2, w8_3, w8_4, nl_I, nl_P, nl_X, pu_I, pu_J, pu_V, w3_id, Int.add_zero, kd_149, rR_149_7, rR_149_8]
    by_cases e2 : h 155 x = y
    · rw [if_pos e2, if_neg (by simpa using e2), ju_212_15]
      simp (disch := first | assumption | omega | exact w8_0 | exact w8_1 _ | exact w8_2 _ _ | exact w8_3 _ _ _ | exact w8_4 _ _ _ _ | exact nl_I _ | exact nl_P _ | exact nl_X | decide | exact w8_5 _ _ _ _ _) only [ju_212_31, ju_212_33, ju_212_34, r_aLD0, r_gR, r_iLD1, r_iALDc, r_iALDs, r_IF3, r_bPUSH, r_iRET, r_iLD2, r_IC0, r_iLD3, r_IF2, r_IC4, r_iLD4, r_iSUB, r_IC5, r_GOTO, r_iCONST, eq_self, Int.reduceLT, Int.reduceLE, Int.reduceEq, true_or, or_true, and_self, true_and, and_true, w8_0, w8_1, w8_2, w8_3, w8_4, nl_I, nl_P, nl_X, pu_I, pu_J, pu_V, w3_id, Int.add_zero, kd_149, rR_149_7, rR_149_8]
      by_cases e3 : i < 0
      · rw [if_pos e3, if_pos (Or.inl e3)]
      · rw [if_neg e3]
        by_cases e4 : h 156 x < i
        · rw [if_pos e4, if_pos (Or.inr (Or.inl e4))]
        · rw [if_neg e4]
          by_cases e5 : m ≤ h 156 x - i
          · rw [if_pos e5, if_neg (by omega)]
          · rw [if_neg e5, if_pos (by omega)]
    · rw [if_neg e2, if_pos e2]
theorem q_lack (hS : SH h) (hq : q < 4) (hm : 0 ≤ m) : refu h (72 + 2 * q) y i m = lack h q y i m := by
  obtain ⟨s1, s2, s3, s4⟩ := hS q hq
  unfold refu lack
  rw [s1]
  rcases s3 with ⟨a, b⟩ | ⟨a, b, c, d⟩
  · rw [a, b]; simp
  · rw [if_neg (show ¬ (h (72 + 2 * q) 1 ≠ 0) by omega), if_neg (show ¬ (h 155 q < 0) by omega), b]
    by_cases e : y = h 155 q
    · rw [if_neg (show ¬ (y ≠ h 155 q) by omega), if_neg (show ¬ (h 155 q ≠ y) by omega)]
      by_cases f : 0 ≤ i ∧ 0 ≤ m ∧ m ≤ h 156 q ∧ i ≤ h 156 q - m
      · rw [if_pos f, if_neg (by omega)]
      · rw [if_neg f, if_pos (by omega)]
    · rw [if_pos e, if_pos (fun z => e z.symm)]
end FI
