/-- a row of the reference: n things, their numbers in range -/
def tk (h : am_F) (c : Int) (n : Nat) : Prop := ∀ t : Nat, t < n → (0 ≤ h c (18 + 6 * t + 0) ∧ h c (18 + 6 * t + 0) ≤ (30 : Nat)) ∧ (0 ≤ h c (18 + 6 * t + 1) ∧ h c (18 + 6 * t + 1) ≤ (5 : Nat)) ∧ (0 ≤ h c (18 + 6 * t + 2) ∧ h c (18 + 6 * t + 2) ≤ (5 : Nat))
def mS (h : am_F) (c b : Int) (n : Nat) : Nat := setF (fun t => decide (h c (18 + 6 * t + 5) = b)) n
theorem rW_up {h : am_F} {c b i v wh : Int} (hi : i < 18) (hw : 0 ≤ wh) : rW (up h c i v) c b wh = rW h c b wh := by
  funext t
  unfold rW
  rw [up_k (by omega), up_k (by omega)]
theorem mS_up {h : am_F} {c b i v : Int} {n : Nat} (hi : i < 18) : mS (up h c i v) c b n = mS h c b n := by
  unfold mS
  congr 1
  funext t
  rw [up_k (by omega)]
theorem tk_up {h : am_F} {c i v : Int} {n : Nat} (hi : i < 18) (ht : tk h c n) : tk (up h c i v) c n := by
  intro t h1
  rw [up_k (by omega), up_k (by omega), up_k (by omega)]
  exact ht t h1
section ME
variable {h : am_F} {Q : am_V → am_S → Prop} {c b pl j so v : Int} {n : Nat}
theorem s_sum0 (hk : kd c = 20) (hl : ln c = 238) (h8 : n ≤ 8) (hn : h c 1 = (n : Int)) (ht : tk h c n) : wp 46 (am_ju 46 0) [aP c, aI b, aI 0, aX, aX] [] (sT h) Q ↔ Q (aI (sumF (rW h c b 0) n)) (sT h) := s_sum hk hl h8 hn (by omega) (fun t h1 => by have := (ht t h1).1; omega)
theorem s_sum1 (hk : kd c = 20) (hl : ln c = 238) (h8 : n ≤ 8) (hn : h c 1 = (n : Int)) (ht : tk h c n) : wp 46 (am_ju 46 0) [aP c, aI b, aI 1, aX, aX] [] (sT h) Q ↔ Q (aI (sumF (rW h c b 1) n)) (sT h) := s_sum hk hl h8 hn (by omega) (fun t h1 => by have := (ht t h1).2.1; omega)
theorem s_sum2 (hk : kd c = 20) (hl : ln c = 238) (h8 : n ≤ 8) (hn : h c 1 = (n : Int)) (ht : tk h c n) : wp 46 (am_ju 46 0) [aP c, aI b, aI 2, aX, aX] [] (sT h) Q ↔ Q (aI (sumF (rW h c b 2) n)) (sT h) := s_sum hk hl h8 hn (by omega) (fun t h1 => by have := (ht t h1).2.2; omega)
theorem tk_r (h8 : n ≤ 8) (ht : tk h c n) : (0 ≤ sumF (rW h c b 0) n ∧ sumF (rW h c b 0) n ≤ 240) ∧ (0 ≤ sumF (rW h c b 1) n ∧ sumF (rW h c b 1) n ≤ 40) ∧ (0 ≤ sumF (rW h c b 2) n ∧ sumF (rW h c b 2) n ≤ 40) := by
  have h1 := rW_r (b := b) (M := 30) (fun t h1 => (ht t h1).1) n (Nat.le_refl _)
  have h2 := rW_r (b := b) (M := 5) (fun t h1 => (ht t h1).2.1) n (Nat.le_refl _)
  have h3 := rW_r (b := b) (M := 5) (fun t h1 => (ht t h1).2.2) n (Nat.le_refl _)
  omega
theorem s_forceOn (hk : kd c = 20) (hl : ln c = 238) (h8 : n ≤ 8) (hn : h c 1 = (n : Int)) (ht : tk h c n) (hb : 0 ≤ b ∧ b < 3) {g : Nat} (hg : g < 16) (eg : h c (6 + 4 * b + 3) = (g : Int)) (hj : 0 ≤ j ∧ j ≤ 7) : wp 58 (am_ju 58 0) [aP c, aI b, aI pl, aI j, aX, aX, aX] [] (sT h) Q ↔ Q (aI (forc g (sumF (rW h c b 0) n) (sumF (rW h c b 2) n) pl j)) (sT h) := by
  obtain ⟨d1, d2, d3⟩ := tk_r (b := b) h8 ht
  have hm : 0 ≤ sumF (rW h c b 0) n * (10 + j) ∧ sumF (rW h c b 0) n * (10 + j) ≤ 17000 := by
    constructor
    · exact Int.mul_nonneg d1.1 (by omega)
    · exact Int.le_trans (Int.mul_le_mul d1.2 (show 10 + j ≤ 17 by omega) (by omega) (by omega)) (by omega)
  have hwh := whH_r g
  have ew : (if g.testBit 1 = true then (0 : Int) else 1) + (if g.testBit 2 = true then 0 else 1) = whH g := rfl
  rw [ju_58_0]
  by_cases h3 : pl = 3
  · subst h3
    simp (disch := first | assumption | omega | exact w8_0 | exact w8_1 _ | exact w8_2 _ _ | exact w8_3 _ _ _ | exact w8_4 _ _ _ _ | exact nl_I _ | exact nl_P _ | exact nl_X | decide | exact w8_5 _ _ _ _ _) only [r_iLD2, r_iCONST, r_IC1, r_aLD0, r_iLD1, cl_46, r_iMUL, r_iRET, r_bPUSH, r_iLD3, r_iADD, r_iDIV, r_iST4, cl_18, r_iALDc, r_iALDs, r_iST5, r_iLD5, cl_34, r_IF0, r_GOTO, r_iST6, r_IF1, r_iLD4, r_iLD6, eq_self, Int.reduceLT, Int.reduceLE, Int.reduceEq, true_or, or_true, and_self, true_and, and_true, w8_0, w8_1, w8_2, w8_3, w8_4, nl_I, nl_P, nl_X, pu_I, pu_J, pu_V, w3_id, Int.add_zero, s_sum2 hk hl h8 hn ht, not_true, if_false]
    simp [forc]
  · simp (disch := first | assumption | omega | exact w8_0 | exact w8_1 _ | exact w8_2 _ _ | exact w8_3 _ _ _ | exact w8_4 _ _ _ _ | exact nl_I _ | exact nl_P _ | exact nl_X | decide | exact w8_5 _ _ _ _ _) only [r_iLD2, r_iCONST, r_IC1, r_aLD0, r_iLD1, cl_46, r_iMUL, r_iRET, r_bPUSH, r_iLD3, r_iADD, r_iDIV, r_iST4, cl_18, r_iALDc, r_iALDs, r_iST5, r_iLD5, cl_34, r_IF0, r_GOTO, r_iST6, r_IF1, r_iLD4, r_iLD6, eq_self, Int.reduceLT, Int.reduceLE, Int.reduceEq, true_or, or_true, and_self, true_and, and_true, w8_0, w8_1, w8_2, w8_3, w8_4, nl_I, nl_P, nl_X, pu_I, pu_J, pu_V, w3_id, Int.add_zero, if_pos, h3, not_false_eq_true, if_true]
    rw [ju_58_10]
    simp (disch := first | assumption | omega | exact w8_0 | exact w8_1 _ | exact w8_2 _ _ | exact w8_3 _ _ _ | exact w8_4 _ _ _ _ | exact nl_I _ | exact nl_P _ | exact nl_X | decide | exact w8_5 _ _ _ _ _) only [r_iLD2, r_iCONST, r_IC1, r_aLD0, r_iLD1, cl_46, r_iMUL, r_iRET, r_bPUSH, r_iLD3, r_iADD, r_iDIV, r_iST4, cl_18, r_iALDc, r_iALDs, r_iST5, r_iLD5, cl_34, r_IF0, r_GOTO, r_iST6, r_IF1, r_iLD4, r_iLD6, eq_self, Int.reduceLT, Int.reduceLE, Int.reduceEq, true_or, or_true, and_self, true_and, and_true, w8_0, w8_1, w8_2, w8_3, w8_4, nl_I, nl_P, nl_X, pu_I, pu_J, pu_V, w3_id, Int.add_zero, s_sum0 hk hl h8 hn ht, s_bagAt, eg, s_rhas1 (show g < 2 ^ 31 by omega), b01]
    rw [iDv_n hm.1 (by omega) (by omega) (by omega)]
    have hmid : ∀ x : Int, (wp 58 (am_ju 58 35) [aP c, aI b, aI pl, aI j, aI (sumF (rW h c b 0) n * (10 + j) / 10), aI (g : Int), aX] [aI x] (sT h) Q ↔ wp 58 (am_ju 58 42) [aP c, aI b, aI pl, aI j, aI (sumF (rW h c b 0) n * (10 + j) / 10), aI (g : Int), aX] [aI (if g.testBit 2 = true then 0 else 1), aI x] (sT h) Q) := by
      intro x
      rw [ju_58_35]
      simp (disch := first | assumption | omega | exact w8_0 | exact w8_1 _ | exact w8_2 _ _ | exact w8_3 _ _ _ | exact w8_4 _ _ _ _ | exact nl_I _ | exact nl_P _ | exact nl_X | decide | exact w8_5 _ _ _ _ _) only [ju_58_41, r_iLD2, r_iCONST, r_IC1, r_aLD0, r_iLD1, cl_46, r_iMUL, r_iRET, r_bPUSH, r_iLD3, r_iADD, r_iDIV, r_iST4, cl_18, r_iALDc, r_iALDs, r_iST5, r_iLD5, cl_34, r_IF0, r_GOTO, r_iST6, r_IF1, r_iLD4, r_iLD6, eq_self, Int.reduceLT, Int.reduceLE, Int.reduceEq, true_or, or_true, and_self, true_and, and_true, w8_0, w8_1, w8_2, w8_3, w8_4, nl_I, nl_P, nl_X, pu_I, pu_J, pu_V, w3_id, Int.add_zero, s_rhas2 (show g < 2 ^ 31 by omega), b01]
      by_cases h2 : g.testBit 2 = true <;> simp [h2]
    have hend : ∀ x : Int, x = whH g → (wp 58 (am_ju 58 42) [aP c, aI b, aI pl, aI j, aI (sumF (rW h c b 0) n * (10 + j) / 10), aI (g : Int), aX] [aI (if g.testBit 2 = true then 0 else 1), aI (if g.testBit 1 = true then 0 else 1)] (sT h) Q ↔ Q (aI (forc g (sumF (rW h c b 0) n) (sumF (rW h c b 2) n) pl j)) (sT h)) := by
      intro x hx
      rw [ju_58_42]
      simp only [r_iLD2, r_iCONST, r_IC1, r_aLD0, r_iLD1, cl_46, r_iMUL, r_iRET, r_bPUSH, r_iLD3, r_iADD, r_iDIV, r_iST4, cl_18, r_iALD, r_iALDs, r_iST5, r_iLD5, cl_34, r_IF0, r_GOTO, r_iST6, r_IF1, r_iLD4, r_iLD6, eq_self, Int.reduceLT, Int.reduceLE, Int.reduceEq, true_or, or_true, and_self, true_and, and_true, w8_0, w8_1, w8_2, w8_3, w8_4, nl_I, nl_P, nl_X, pu_I, pu_J, pu_V]
      rw [ew, w3_id (by omega) (by omega)]
      unfold forc
      rw [if_neg h3]
      by_cases h0 : pl = 0
      · rw [if_neg (by simpa using h0), if_pos h0]
        simp only [ju_58_55, r_iLD2, r_iCONST, r_IC1, r_aLD0, r_iLD1, cl_46, r_iMUL, r_iRET, r_bPUSH, r_iLD3, r_iADD, r_iDIV, r_iST4, cl_18, r_iALD, r_iALDs, r_iST5, r_iLD5, cl_34, r_IF0, r_GOTO, r_iST6, r_IF1, r_iLD4, r_iLD6, eq_self, Int.reduceLT, Int.reduceLE, Int.reduceEq, true_or, or_true, and_self, true_and, and_true, w8_0, w8_1, w8_2, w8_3, w8_4, nl_I, nl_P, nl_X, pu_I, pu_J, pu_V]
      · rw [if_pos h0, if_neg h0, ju_58_48]
        simp only [r_iLD2, r_iCONST, r_IC1, r_aLD0, r_iLD1, cl_46, r_iMUL, r_iRET, r_bPUSH, r_iLD3, r_iADD, r_iDIV, r_iST4, cl_18, r_iALD, r_iALDs, r_iST5, r_iLD5, cl_34, r_IF0, r_GOTO, r_iST6, r_IF1, r_iLD4, r_iLD6, eq_self, Int.reduceLT, Int.reduceLE, Int.reduceEq, true_or, or_true, and_self, true_and, and_true, w8_0, w8_1, w8_2, w8_3, w8_4, nl_I, nl_P, nl_X, pu_I, pu_J, pu_V]
        by_cases hz : whH g = 0
        · rw [if_neg (by simpa using hz), if_pos hz]
          simp only [ju_58_55, r_iLD2, r_iCONST, r_IC1, r_aLD0, r_iLD1, cl_46, r_iMUL, r_iRET, r_bPUSH, r_iLD3, r_iADD, r_iDIV, r_iST4, cl_18, r_iALD, r_iALDs, r_iST5, r_iLD5, cl_34, r_IF0, r_GOTO, r_iST6, r_IF1, r_iLD4, r_iLD6, eq_self, Int.reduceLT, Int.reduceLE, Int.reduceEq, true_or, or_true, and_self, true_and, and_true, w8_0, w8_1, w8_2, w8_3, w8_4, nl_I, nl_P, nl_X, pu_I, pu_J, pu_V]
        · rw [if_pos hz, if_neg hz, ju_58_52]
          simp only [r_iLD2, r_iCONST, r_IC1, r_aLD0, r_iLD1, cl_46, r_iMUL, r_iRET, r_bPUSH, r_iLD3, r_iADD, r_iDIV, r_iST4, cl_18, r_iALD, r_iALDs, r_iST5, r_iLD5, cl_34, r_IF0, r_GOTO, r_iST6, r_IF1, r_iLD4, r_iLD6, eq_self, Int.reduceLT, Int.reduceLE, Int.reduceEq, true_or, or_true, and_self, true_and, and_true, w8_0, w8_1, w8_2, w8_3, w8_4, nl_I, nl_P, nl_X, pu_I, pu_J, pu_V, ne_eq, hz, not_false_eq_true]
          simp only [ju_58_55, r_iLD2, r_iCONST, r_IC1, r_aLD0, r_iLD1, cl_46, r_iMUL, r_iRET, r_bPUSH, r_iLD3, r_iADD, r_iDIV, r_iST4, cl_18, r_iALD, r_iALDs, r_iST5, r_iLD5, cl_34, r_IF0, r_GOTO, r_iST6, r_IF1, r_iLD4, r_iLD6, eq_self, Int.reduceLT, Int.reduceLE, Int.reduceEq, true_or, or_true, and_self, true_and, and_true, w8_0, w8_1, w8_2, w8_3, w8_4, nl_I, nl_P, nl_X, pu_I, pu_J, pu_V]
          rw [iDv_n (Int.ediv_nonneg hm.1 (by omega)) (by have := Int.ediv_le_self 10 hm.1; omega) (by omega) (by omega)]
    by_cases h1 : g.testBit 1 = true
    · have he := hend _ rfl
      simp only [h1, if_true, not_true, if_false] at he ⊢
      rw [hmid, he]
    · have he := hend _ rfl
      simp only [h1, if_true, not_false_eq_true, if_false] at he ⊢
      rw [ju_58_34]
      simp only [r_iLD2, r_iCONST, r_IC1, r_aLD0, r_iLD1, cl_46, r_iMUL, r_iRET, r_bPUSH, r_iLD3, r_iADD, r_iDIV, r_iST4, cl_18, r_iALD, r_iALDs, r_iST5, r_iLD5, cl_34, r_IF0, r_GOTO, r_iST6, r_IF1, r_iLD4, r_iLD6, eq_self, Int.reduceLT, Int.reduceLE, Int.reduceEq, true_or, or_true, and_self, true_and, and_true, w8_0, w8_1, w8_2, w8_3, w8_4, nl_I, nl_P, nl_X, pu_I, pu_J, pu_V]
      rw [hmid]
      simpa using he
end ME
