section AC
variable {h h' : am_F} {Q : am_V → am_S → Prop} {x y t b i pl j c d k : Int} {n nb L s : Nat}
/-- the row after a bag was added -/
def rAB (h : am_F) (nb : Nat) (k : Int) : am_F := up (up (up (up (up (up h 150 (6 + 4 * nb + 0) k) 150 (6 + 4 * nb + 1) 0) 150 (6 + 4 * nb + 2) 0) 150 (6 + 4 * nb + 3) 0) 150 0 (nb + 1)) 150 5 0
theorem s_RaddBag (hb : h 150 0 = (nb : Int)) (h3 : nb < 3) : wp 19 (am_ju 19 0) [aP 150, aI k, aX] [] (sT h) Q ↔ Q aV (sT (rAB h nb k)) := by
  have l1 := ln_150
  have k1 := kd_150
  have b2 : (nb : Int) < 3 := by omega
  have e0 : w3 (6 + 4 * (nb : Int) + 0) = 6 + 4 * (nb : Int) + 0 := w3_id (by omega) (by omega)
  have e : up (up (up (up h 150 (6 + 4 * nb + 0) k) 150 (6 + 4 * nb + 1) 0) 150 (6 + 4 * nb + 2) 0) 150 (6 + 4 * nb + 3) 0 150 0 = (nb : Int) := by
    rw [up_k (by omega), up_k (by omega), up_k (by omega), up_k (by omega), hb]
  have e' : up (up (up (up h 150 (6 + 4 * nb) k) 150 (6 + 4 * nb + 1) 0) 150 (6 + 4 * nb + 2) 0) 150 (6 + 4 * nb + 3) 0 150 0 = (nb : Int) := by
    rw [up_k (by omega), up_k (by omega), up_k (by omega), up_k (by omega), hb]
  simp (disch := first | assumption | omega | exact w8_0 | exact w8_1 _ | exact w8_2 _ _ | exact w8_3 _ _ _ | exact w8_4 _ _ _ _ | exact nl_I _ | exact nl_P _ | exact nl_X | decide | exact w8_5 _ _ _ _ _) only [ju_19_0, r_aLD0, r_iCONST, r_iALDc, r_iALDs, cl_18, r_iST2, r_iLD2, r_iADD, r_iLD1, r_iASTc, r_DUP2, r_vRET, eq_self, Int.reduceLT, Int.reduceLE, Int.reduceEq, true_or, or_true, and_self, true_and, and_true, w8_0, w8_1, w8_2, w8_3, w8_4, nl_I, nl_P, nl_X, pu_I, pu_J, pu_V, w3_id, Int.add_zero, s_bagAt (h := h) (b := (nb : Int)) ⟨by omega, by omega⟩, hb, e, e']
  unfold rAB
  simp only [Int.add_zero]
theorem s_Rbag (hb : h 150 0 = (nb : Int)) (h3 : nb ≤ 3) : wp 20 (am_ju 20 0) [aP 149, aI k] [] (sT h) Q ↔ Q (aI (if 0 ≤ k ∧ k < 4 then (if nb = 3 then -3 else (nb : Int)) else -1)) (sT (if (0 ≤ k ∧ k < 4) ∧ nb ≠ 3 then rAB h nb k else h)) := by
  simp only [ju_20_0, r_iLD1, r_iCONST, cl_17, r_IF1, r_iRET, r_aLD0, r_gR, r_iALD, r_iALDs, r_IC1, r_bPUSH, cl_19, r_iSUB, eq_self, Int.reduceLT, Int.reduceLE, Int.reduceEq, true_or, or_true, and_self, true_and, and_true, w8_0, w8_1, w8_2, w8_3, w8_4, nl_I, nl_P, nl_X, pu_I, pu_J, pu_V, s_in]
  by_cases f : 0 ≤ k ∧ k < 4
  · have f3 : 0 ≤ k ∧ k ≤ 3 := ⟨f.1, by omega⟩
    simp only [f, f3, and_self, true_and, if_true, ne_eq, Int.reduceEq, not_false_eq_true, not_true_eq_false, if_false, ju_20_7, r_iLD1, r_iCONST, cl_17, r_IF1, r_iRET, r_aLD0, r_gR, r_iALD, r_iALDs, r_IC1, r_bPUSH, cl_19, r_iSUB, eq_self, Int.reduceLT, Int.reduceLE, Int.reduceEq, true_or, or_true, and_self, true_and, and_true, w8_0, w8_1, w8_2, w8_3, w8_4, nl_I, nl_P, nl_X, pu_I, pu_J, pu_V, kd_149, ln_149, rR_149_0, rR_149_1, rR_149_2, rR_149_3, rR_149_5, rR_149_7, rR_149_8, rR_149_9, rR_149_10, rR_149_16, rR_149_17, rR_149_18, kd_150, ln_150, hb]
    by_cases e : nb = 3
    · rw [if_neg (by omega)]; simp [e]
    · have e6 : rAB h nb k 150 0 = (nb : Int) + 1 := by unfold rAB; rw [up_k (by decide), up_s]
      rw [if_pos (by omega), if_neg e, if_pos e]
      simp only [ju_20_15, r_iLD1, r_iCONST, cl_17, r_IF1, r_iRET, r_aLD0, r_gR, r_iALD, r_iALDs, r_IC1, r_bPUSH, cl_19, r_iSUB, eq_self, Int.reduceLT, Int.reduceLE, Int.reduceEq, true_or, or_true, and_self, true_and, and_true, w8_0, w8_1, w8_2, w8_3, w8_4, nl_I, nl_P, nl_X, pu_I, pu_J, pu_V, kd_149, ln_149, rR_149_0, rR_149_1, rR_149_2, rR_149_3, rR_149_5, rR_149_7, rR_149_8, rR_149_9, rR_149_10, rR_149_16, rR_149_17, rR_149_18, kd_150, ln_150, s_RaddBag hb (show nb < 3 by omega), e6]
      rw [w3_id (by omega) (by omega), show (nb : Int) + 1 - 1 = nb by omega]
  · have f3 : ¬ (0 ≤ k ∧ k ≤ 3) := fun z => f ⟨z.1, by omega⟩
    simp [f, f3]
end AC
