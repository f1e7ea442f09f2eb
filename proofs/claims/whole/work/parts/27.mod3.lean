section MF
variable {h : am_F} {Q : am_V → am_S → Prop} {c b pl j so v : Int} {n : Nat}
theorem min999 (x : Int) : (if x ≤ 999 then x else (999 : Int)) = if x < 999 then x else 999 := by
  by_cases h1 : x < 999
  · rw [if_pos h1, if_pos (by omega)]
  · by_cases h2 : x ≤ 999
    · rw [if_pos h2, if_neg h1]; omega
    · rw [if_neg h2, if_neg h1]
set_option maxHeartbeats 1000000 in
theorem s_ages (hk : kd c = 20) (hl : ln c = 238) (h8 : n ≤ 8) (hn : h c 1 = (n : Int)) (ht : tk h c n) (hb : 0 ≤ b ∧ b < 3) {w r : Int} (ew : h c (6 + 4 * b + 1) = w) (er : h c (6 + 4 * b + 2) = r) (hw : 0 ≤ w ∧ w ≤ 999) (hr : 0 ≤ r ∧ r ≤ 999) : wp 122 (am_ju 122 0) [aP c, aI b, aI so, aX] [] (sT h) Q ↔ Q aV (sT (up (up h c (6 + 4 * b + 1) (ageW w (sumF (rW h c b 1) n))) c (6 + 4 * b + 2) (ageR r (sumF (rW h c b 2) n) so))) := by
  obtain ⟨d1, d2, d3⟩ := tk_r (b := b) h8 ht
  rw [ju_122_0]
  simp (disch := first | assumption | omega | exact w8_0 | exact w8_1 _ | exact w8_2 _ _ | exact w8_3 _ _ _ | exact w8_4 _ _ _ _ | exact nl_I _ | exact nl_P _ | exact nl_X | decide | exact w8_5 _ _ _ _ _) only [r_iLD1, cl_18, r_iST3, r_aLD0, r_iLD3, r_iCONST, r_iADD, r_sPUSH, r_iALDc, r_iALDs, cl_46, cl_121, r_iASTc, r_iLD2, r_IC1, r_GOTO, r_vRET, eq_self, Int.reduceLT, Int.reduceLE, Int.reduceEq, true_or, or_true, and_self, true_and, and_true, w8_0, w8_1, w8_2, w8_3, w8_4, nl_I, nl_P, nl_X, pu_I, pu_J, pu_V, w3_id, Int.add_zero, s_bagAt, ew, s_sum1 hk hl h8 hn ht, s_least, min999]
  rw [show (if w + sumF (rW h c b 1) n < 999 then w + sumF (rW h c b 1) n else 999) = ageW w (sumF (rW h c b 1) n) from rfl]
  have er2 : up h c (6 + 4 * b + 1) (ageW w (sumF (rW h c b 1) n)) c (6 + 4 * b + 2) = r := by rw [up_k (by omega)]; exact er
  have hn2 : up h c (6 + 4 * b + 1) (ageW w (sumF (rW h c b 1) n)) c 1 = (n : Int) := by rw [up_k (by omega)]; exact hn
  have ht2 : tk (up h c (6 + 4 * b + 1) (ageW w (sumF (rW h c b 1) n))) c n := tk_up (by omega) ht
  by_cases h4 : so = 4
  · subst h4
    simp (disch := first | assumption | omega | exact w8_0 | exact w8_1 _ | exact w8_2 _ _ | exact w8_3 _ _ _ | exact w8_4 _ _ _ _ | exact nl_I _ | exact nl_P _ | exact nl_X | decide | exact w8_5 _ _ _ _ _) only [er2, not_true, if_false, ju_122_41, r_iLD1, cl_18, r_iST3, r_aLD0, r_iLD3, r_iCONST, r_iADD, r_sPUSH, r_iALDc, r_iALDs, cl_46, cl_121, r_iASTc, r_iLD2, r_IC1, r_GOTO, r_vRET, eq_self, Int.reduceLT, Int.reduceLE, Int.reduceEq, true_or, or_true, and_self, true_and, and_true, w8_0, w8_1, w8_2, w8_3, w8_4, nl_I, nl_P, nl_X, pu_I, pu_J, pu_V, w3_id, Int.add_zero, s_least, min999]
    simp [ageR]
  · simp (disch := first | assumption | omega | exact w8_0 | exact w8_1 _ | exact w8_2 _ _ | exact w8_3 _ _ _ | exact w8_4 _ _ _ _ | exact nl_I _ | exact nl_P _ | exact nl_X | decide | exact w8_5 _ _ _ _ _) only [er2, h4, not_false_eq_true, if_true, ju_122_35, ju_122_41, r_iLD1, cl_18, r_iST3, r_aLD0, r_iLD3, r_iCONST, r_iADD, r_sPUSH, r_iALDc, r_iALDs, cl_46, cl_121, r_iASTc, r_iLD2, r_IC1, r_GOTO, r_vRET, eq_self, Int.reduceLT, Int.reduceLE, Int.reduceEq, true_or, or_true, and_self, true_and, and_true, w8_0, w8_1, w8_2, w8_3, w8_4, nl_I, nl_P, nl_X, pu_I, pu_J, pu_V, w3_id, Int.add_zero, s_sum2 hk hl h8 hn2 ht2, rW_up (show 6 + 4 * b + 1 < 18 by omega) (show (0 : Int) ≤ 2 by decide), s_least, min999]
    simp [ageR, h4]
theorem st_gv (hk : kd c = 20) (hl : ln c = 238) (h8 : n ≤ 8) (hn : h c 1 = (n : Int)) (ht : tk h c n) (hb : 0 ≤ b ∧ b < 3) {k w r : Int} (ek : h c (6 + 4 * b) = k) (ew : h c (6 + 4 * b + 1) = w) (er : h c (6 + 4 * b + 2) = r) (hkk : 0 ≤ k ∧ k ≤ 3) (hw : 0 ≤ w ∧ w ≤ 999) (hr : 0 ≤ r ∧ r ≤ 999) {g : Nat} (hg : g < 16) (eg : h c (6 + 4 * b + 3) = (g : Int)) (hj : 0 ≤ j ∧ j ≤ 7) {p : Nat} (hp : p < 4) {v : am_V} : wp 123 (am_ju 123 2) [aP c, aI b, aI j, aI (p : Int), v] [] (sT h) Q ↔ if wkB k w r g (sumF (rW h c b 0) n) (sumF (rW h c b 2) n) j p = true then Q (aI (p : Int)) (sT h) else wp 123 (am_ju 123 2) [aP c, aI b, aI j, aI ((p + 1 : Nat) : Int), aI (if g.testBit p = true then 0 else 1)] [] (sT h) Q := by
  have hw3 : w3 ((p : Int) + 1) = ((p + 1 : Nat) : Int) := w3_id (by omega) (by omega)
  conv => lhs; rw [ju_123_2]
  simp (disch := first | assumption | omega | exact w8_0 | exact w8_1 _ | exact w8_2 _ _ | exact w8_3 _ _ _ | exact w8_4 _ _ _ _ | exact nl_I _ | exact nl_P _ | exact nl_X | decide | exact w8_5 _ _ _ _ _) only [r_iCONST, r_iST3, r_iLD3, r_IC3, r_aLD0, r_iLD1, cl_18, r_iADD, r_iALDc, r_iALDs, cl_34, r_IF1, r_GOTO, r_iST4, r_iLD4, r_IF0, r_iLD2, cl_58, cl_53, r_IC5, r_iRET, r_IINC3, eq_self, Int.reduceLT, Int.reduceLE, Int.reduceEq, true_or, or_true, and_self, true_and, and_true, w8_0, w8_1, w8_2, w8_3, w8_4, nl_I, nl_P, nl_X, pu_I, pu_J, pu_V, w3_id, Int.add_zero, s_bagAt, eg, s_rhas (show g < 2 ^ 31 by omega) (show p < 31 by omega), b01]
  rw [if_neg (by omega)]
  unfold wkB
  by_cases hb2 : g.testBit p = true
  · simp only [hb2, not_true, if_true, if_false, not_false_eq_true, Bool.not_true, Bool.false_and]
    simp (disch := first | assumption | omega | exact w8_0 | exact w8_1 _ | exact w8_2 _ _ | exact w8_3 _ _ _ | exact w8_4 _ _ _ _ | exact nl_I _ | exact nl_P _ | exact nl_X | decide | exact w8_5 _ _ _ _ _) only [ju_123_16, ju_123_17, ju_123_32, r_iCONST, r_iST3, r_iLD3, r_IC3, r_aLD0, r_iLD1, cl_18, r_iADD, r_iALDc, r_iALDs, cl_34, r_IF1, r_GOTO, r_iST4, r_iLD4, r_IF0, r_iLD2, cl_58, cl_53, r_IC5, r_iRET, r_IINC3, eq_self, Int.reduceLT, Int.reduceLE, Int.reduceEq, true_or, or_true, and_self, true_and, and_true, w8_0, w8_1, w8_2, w8_3, w8_4, nl_I, nl_P, nl_X, pu_I, pu_J, pu_V, w3_id, Int.add_zero, hw3, if_true]
    simp
  · simp only [hb2, not_true, if_true, if_false, not_false_eq_true]
    simp (disch := first | assumption | omega | exact w8_0 | exact w8_1 _ | exact w8_2 _ _ | exact w8_3 _ _ _ | exact w8_4 _ _ _ _ | exact nl_I _ | exact nl_P _ | exact nl_X | decide | exact w8_5 _ _ _ _ _) only [ju_123_17, r_iCONST, r_iST3, r_iLD3, r_IC3, r_aLD0, r_iLD1, cl_18, r_iADD, r_iALDc, r_iALDs, cl_34, r_IF1, r_GOTO, r_iST4, r_iLD4, r_IF0, r_iLD2, cl_58, cl_53, r_IC5, r_iRET, r_IINC3, eq_self, Int.reduceLT, Int.reduceLE, Int.reduceEq, true_or, or_true, and_self, true_and, and_true, w8_0, w8_1, w8_2, w8_3, w8_4, nl_I, nl_P, nl_X, pu_I, pu_J, pu_V, w3_id, Int.add_zero, s_forceOn hk hl h8 hn ht hb hg eg hj, s_strengthOf hk hl hb ek ew er hkk hw hr (show 0 ≤ (p : Int) ∧ (p : Int) ≤ 3 by omega), hw3]
    by_cases hf : stren k w r p < forc g (sumF (rW h c b 0) n) (sumF (rW h c b 2) n) p j
    · simp [hf, show ¬ forc g (sumF (rW h c b 0) n) (sumF (rW h c b 2) n) p j ≤ stren k w r p by omega, hb2]
    · simp (disch := first | assumption | omega | exact w8_0 | exact w8_1 _ | exact w8_2 _ _ | exact w8_3 _ _ _ | exact w8_4 _ _ _ _ | exact nl_I _ | exact nl_P _ | exact nl_X | decide | exact w8_5 _ _ _ _ _) only [ju_123_32, r_iCONST, r_iST3, r_iLD3, r_IC3, r_aLD0, r_iLD1, cl_18, r_iADD, r_iALDc, r_iALDs, cl_34, r_IF1, r_GOTO, r_iST4, r_iLD4, r_IF0, r_iLD2, cl_58, cl_53, r_IC5, r_iRET, r_IINC3, eq_self, Int.reduceLT, Int.reduceLE, Int.reduceEq, true_or, or_true, and_self, true_and, and_true, w8_0, w8_1, w8_2, w8_3, w8_4, nl_I, nl_P, nl_X, pu_I, pu_J, pu_V, w3_id, Int.add_zero, hw3]
      simp [hf, show forc g (sumF (rW h c b 0) n) (sumF (rW h c b 2) n) p j ≤ stren k w r p by omega, hb2]
theorem s_gives (hk : kd c = 20) (hl : ln c = 238) (h8 : n ≤ 8) (hn : h c 1 = (n : Int)) (ht : tk h c n) (hb : 0 ≤ b ∧ b < 3) {k w r : Int} (ek : h c (6 + 4 * b) = k) (ew : h c (6 + 4 * b + 1) = w) (er : h c (6 + 4 * b + 2) = r) (hkk : 0 ≤ k ∧ k ≤ 3) (hw : 0 ≤ w ∧ w ≤ 999) (hr : 0 ≤ r ∧ r ≤ 999) {g : Nat} (hg : g < 16) (eg : h c (6 + 4 * b + 3) = (g : Int)) (hj : 0 ≤ j ∧ j ≤ 7) (hso : so ≠ 4) : wp 123 (am_ju 123 0) [aP c, aI b, aI j, aX, aX] [] (sT h) Q ↔ Q (aI (weak k w r g (sumF (rW h c b 0) n) (sumF (rW h c b 2) n) so j)) (sT h) := by
  have st : ∀ (p : Nat) (v : am_V), p < 4 → _ := fun p v hp => st_gv (Q := Q) (v := v) hk hl h8 hn ht hb ek ew er hkk hw hr hg eg hj (p := p) hp
  have s4 : ∀ v, wp 123 (am_ju 123 2) [aP c, aI b, aI j, aI ((3 + 1 : Nat) : Int), v] [] (sT h) Q ↔ Q (aI (-1)) (sT h) := by
    intro v
    rw [ju_123_2]
    simp only [ju_123_34, r_iCONST, r_iST3, r_iLD3, r_IC3, r_aLD0, r_iLD1, cl_18, r_iADD, r_iALD, r_iALDs, cl_34, r_IF1, r_GOTO, r_iST4, r_iLD4, r_IF0, r_iLD2, cl_58, cl_53, r_IC5, r_iRET, r_IINC3, eq_self, Int.reduceLT, Int.reduceLE, Int.reduceEq, true_or, or_true, and_self, true_and, and_true, w8_0, w8_1, w8_2, w8_3, w8_4, nl_I, nl_P, nl_X, pu_I, pu_J, pu_V]
    rw [if_pos (by decide)]
  have s0 := st 0 aX (by decide)
  have s1 := fun v => st 1 v (by decide)
  have s2 := fun v => st 2 v (by decide)
  have s3 := fun v => st 3 v (by decide)
  rw [ju_123_0]
  simp only [r_iCONST, r_iST3, r_iLD3, r_IC3, r_aLD0, r_iLD1, cl_18, r_iADD, r_iALD, r_iALDs, cl_34, r_IF1, r_GOTO, r_iST4, r_iLD4, r_IF0, r_iLD2, cl_58, cl_53, r_IC5, r_iRET, r_IINC3, eq_self, Int.reduceLT, Int.reduceLE, Int.reduceEq, true_or, or_true, and_self, true_and, and_true, w8_0, w8_1, w8_2, w8_3, w8_4, nl_I, nl_P, nl_X, pu_I, pu_J, pu_V]
  simp only [show ((0 : Nat) : Int) = 0 from rfl] at s0
  rw [s0, s1, s2, s3, s4]
  unfold weak
  rw [if_neg hso]
  (repeat' split) <;> simp_all
theorem s_falls (hk : kd c = 20) (hl : ln c = 238) (h8 : n ≤ 8) (hn : h c 1 = (n : Int)) (hb : 0 ≤ b ∧ b < 3) {g : Nat} (hg : g < 16) (eg : h c (6 + 4 * b + 3) = (g : Int)) : wp 124 (am_ju 124 0) [aP c, aI b, aI pl, aX, aX] [] (sT h) Q ↔ Q (aI (fallN pl g (mS h c b n) : Int)) (sT h) := by
  have hS : mS h c b n < 256 := Nat.lt_of_lt_of_le (setF_lt _ n) (Nat.pow_le_pow_right (n := 2) (j := 8) (by decide) h8)
  have hlo := (lo_ok (mS h c b n) hS).1
  rw [ju_124_0]
  simp (disch := first | assumption | omega | exact w8_0 | exact w8_1 _ | exact w8_2 _ _ | exact w8_3 _ _ _ | exact w8_4 _ _ _ _ | exact nl_I _ | exact nl_P _ | exact nl_X | decide | exact w8_5 _ _ _ _ _) only [r_aLD0, r_iLD1, cl_45, r_iST3, r_iLD2, r_iCONST, r_IC1, r_iLD3, r_iNEG, r_iAND, r_iRET, cl_18, r_iADD, r_iALDc, r_iALDs, r_iST4, r_iLD4, cl_34, r_IF1, r_IF0, r_GOTO, eq_self, Int.reduceLT, Int.reduceLE, Int.reduceEq, true_or, or_true, and_self, true_and, and_true, w8_0, w8_1, w8_2, w8_3, w8_4, nl_I, nl_P, nl_X, pu_I, pu_J, pu_V, w3_id, Int.add_zero, s_thingsIn hk hl h8 hn]
  rw [show setF (fun t => decide (h c (18 + 6 * t + 5) = b)) n = mS h c b n from rfl]
  rw [show bAnd ((mS h c b n : Nat) : Int) (w3 (-((mS h c b n : Nat) : Int))) = lo ((mS h c b n : Nat) : Int) from rfl, hlo]
  unfold fallN
  by_cases h3 : pl = 3
  · simp [h3]
  · simp only [h3, not_false_eq_true, if_true, if_false]
    rw [ju_124_12]
    simp (disch := first | assumption | omega | exact w8_0 | exact w8_1 _ | exact w8_2 _ _ | exact w8_3 _ _ _ | exact w8_4 _ _ _ _ | exact nl_I _ | exact nl_P _ | exact nl_X | decide | exact w8_5 _ _ _ _ _) only [ju_124_31, ju_124_33, ju_124_34, r_aLD0, r_iLD1, cl_45, r_iST3, r_iLD2, r_iCONST, r_IC1, r_iLD3, r_iNEG, r_iAND, r_iRET, cl_18, r_iADD, r_iALDc, r_iALDs, r_iST4, r_iLD4, cl_34, r_IF1, r_IF0, r_GOTO, eq_self, Int.reduceLT, Int.reduceLE, Int.reduceEq, true_or, or_true, and_self, true_and, and_true, w8_0, w8_1, w8_2, w8_3, w8_4, nl_I, nl_P, nl_X, pu_I, pu_J, pu_V, w3_id, Int.add_zero, s_bagAt, eg, s_rhas0 (show g < 2 ^ 31 by omega), s_rhas1 (show g < 2 ^ 31 by omega), s_rhas2 (show g < 2 ^ 31 by omega), b01]
    unfold tornB
    by_cases t0 : g.testBit 0 = true <;> by_cases t1 : g.testBit 1 = true <;> by_cases t2 : g.testBit 2 = true <;> simp [t0, t1, t2]
end MF
