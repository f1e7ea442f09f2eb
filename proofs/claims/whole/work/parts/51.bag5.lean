section AB
variable {h h' : am_F} {Q : am_V → am_S → Prop} {x y t b i pl j c d k : Int} {n nb L s : Nat}
theorem s_makeWhole (hb : 0 ≤ b ∧ b < 3) : wp 13 (am_ju 13 0) [aP 90, aI b] [] (sT h) Q ↔ Q aV (sT (up (up (up h 91 b 0) 92 b 0) 93 b 0)) := by
  obtain ⟨b1, b2⟩ := hb
  have l1 := ln_91
  have l2 := ln_92
  have l3 := ln_93
  have k1 := kd_91
  have k2 := kd_92
  have k3 := kd_93
  simp (disch := first | assumption | omega | exact w8_0 | exact w8_1 _ | exact w8_2 _ _ | exact w8_3 _ _ _ | exact w8_4 _ _ _ _ | exact nl_I _ | exact nl_P _ | exact nl_X | decide | exact w8_5 _ _ _ _ _) only [ju_13_0, ju_13_5, r_iLD1, r_iCONST, cl_12, r_IF1, r_vRET, r_aLD0, r_gR, r_iASTc, eq_self, Int.reduceLT, Int.reduceLE, Int.reduceEq, true_or, or_true, and_self, true_and, and_true, w8_0, w8_1, w8_2, w8_3, w8_4, nl_I, nl_P, nl_X, pu_I, pu_J, pu_V, w3_id, Int.add_zero, kd_90, rR_90_0, rR_90_1, rR_90_2, s_isBelow, b1, b2, and_self, if_true, not_false_eq_true, Int.reduceEq, ne_eq]
theorem s_gaddBag (hb : h 81 6 = (nb : Int)) (h3 : nb < 3) : wp 14 (am_ju 14 0) [aP 81, aI k] [] (sT h) Q ↔ Q aV (sT (up (up h 82 nb k) 81 6 (nb + 1))) := by
  have l1 := ln_82
  have k1 := kd_82
  have b2 : (nb : Int) < 3 := by omega
  have e : up h 82 nb k 81 6 = (nb : Int) := by rw [up_ne (by decide), hb]
  simp (disch := first | assumption | omega | exact w8_0 | exact w8_1 _ | exact w8_2 _ _ | exact w8_3 _ _ _ | exact w8_4 _ _ _ _ | exact nl_I _ | exact nl_P _ | exact nl_X | decide | exact w8_5 _ _ _ _ _) only [ju_14_0, ju_14_5, r_aLD0, r_gI, r_iCONST, r_IC2, r_vRET, r_gR, r_iLD1, r_iASTc, r_DUPI, r_DUPP, r_iADD, r_pI, eq_self, Int.reduceLT, Int.reduceLE, Int.reduceEq, true_or, or_true, and_self, true_and, and_true, w8_0, w8_1, w8_2, w8_3, w8_4, nl_I, nl_P, nl_X, pu_I, pu_J, pu_V, w3_id, Int.add_zero, kd_81, rR_81_0, hb, b2, if_true, e]
theorem s_waddBag (hb : h 81 6 = (nb : Int)) (h3 : nb < 3) : wp 15 (am_ju 15 0) [aP 80, aI k] [] (sT h) Q ↔ Q aV (sT (up (up (up (up (up (up h 91 nb 0) 92 nb 0) 93 nb 0) 82 nb k) 81 6 (nb + 1)) 95 2 0)) := by
  have e : up (up (up h 91 nb 0) 92 nb 0) 93 nb 0 81 6 = (nb : Int) := by rw [up_ne (by decide), up_ne (by decide), up_ne (by decide), hb]
  simp only [ju_15_0, r_aLD0, r_gR, r_gI, cl_13, r_iLD1, cl_14, r_iCONST, r_pI, r_vRET, eq_self, Int.reduceLT, Int.reduceLE, Int.reduceEq, true_or, or_true, and_self, true_and, and_true, w8_0, w8_1, w8_2, w8_3, w8_4, nl_I, nl_P, nl_X, pu_I, pu_J, pu_V, kd_80, ln_80, rR_80_0, rR_80_1, rR_80_2, rR_80_3, kd_81, ln_81, rR_81_0, rR_81_1, rR_81_2, rR_81_3, rR_81_4, rR_81_5, kd_90, ln_90, rR_90_0, rR_90_1, rR_90_2, rR_90_3, kd_95, ln_95, rR_95_0, hb, s_makeWhole (h := h) (b := (nb : Int)) ⟨by omega, by omega⟩, s_gaddBag e h3]
theorem s_Tbag (hb : h 81 6 = (nb : Int)) (h3 : nb ≤ 3) : wp 16 (am_ju 16 0) [aP 0, aI k] [] (sT h) Q ↔ Q (aI (if 0 ≤ k ∧ k < 4 then (if nb = 3 then -3 else (nb : Int)) else -1)) (sT (if (0 ≤ k ∧ k < 4) ∧ nb ≠ 3 then up (up (up (up (up (up h 91 nb 0) 92 nb 0) 93 nb 0) 82 nb k) 81 6 (nb + 1)) 95 2 0 else h)) := by
  simp only [ju_16_0, r_iLD1, r_iCONST, cl_12, r_IF1, r_iRET, r_aLD0, r_gR, r_gI, r_IC2, r_bPUSH, cl_15, r_iSUB, eq_self, Int.reduceLT, Int.reduceLE, Int.reduceEq, true_or, or_true, and_self, true_and, and_true, w8_0, w8_1, w8_2, w8_3, w8_4, nl_I, nl_P, nl_X, pu_I, pu_J, pu_V, s_isBelow]
  by_cases f : 0 ≤ k ∧ k < 4
  · simp only [f, and_self, true_and, if_true, ne_eq, Int.reduceEq, not_false_eq_true, not_true_eq_false, if_false, ju_16_6, r_iLD1, r_iCONST, cl_12, r_IF1, r_iRET, r_aLD0, r_gR, r_gI, r_IC2, r_bPUSH, cl_15, r_iSUB, eq_self, Int.reduceLT, Int.reduceLE, Int.reduceEq, true_or, or_true, and_self, true_and, and_true, w8_0, w8_1, w8_2, w8_3, w8_4, nl_I, nl_P, nl_X, pu_I, pu_J, pu_V, kd_0, ln_0, rR_0_0, rR_0_1, rR_0_3, rR_0_4, rR_0_5, rR_0_6, rR_0_7, rR_0_8, rR_0_9, rR_0_10, kd_80, ln_80, rR_80_0, rR_80_1, rR_80_2, rR_80_3, kd_81, ln_81, rR_81_0, rR_81_1, rR_81_2, rR_81_3, rR_81_4, rR_81_5, hb]
    by_cases e : nb = 3
    · rw [if_neg (by omega)]; simp [e]
    · have e6 : up (up (up (up (up (up h 91 nb 0) 92 nb 0) 93 nb 0) 82 nb k) 81 6 (nb + 1)) 95 2 0 81 6 = (nb : Int) + 1 := by rw [up_ne (by decide), up_s]
      rw [if_pos (by omega), if_neg e, if_pos e]
      simp only [ju_16_14, r_iLD1, r_iCONST, cl_12, r_IF1, r_iRET, r_aLD0, r_gR, r_gI, r_IC2, r_bPUSH, cl_15, r_iSUB, eq_self, Int.reduceLT, Int.reduceLE, Int.reduceEq, true_or, or_true, and_self, true_and, and_true, w8_0, w8_1, w8_2, w8_3, w8_4, nl_I, nl_P, nl_X, pu_I, pu_J, pu_V, kd_0, ln_0, rR_0_0, rR_0_1, rR_0_3, rR_0_4, rR_0_5, rR_0_6, rR_0_7, rR_0_8, rR_0_9, rR_0_10, kd_80, ln_80, rR_80_0, rR_80_1, rR_80_2, rR_80_3, kd_81, ln_81, rR_81_0, rR_81_1, rR_81_2, rR_81_3, rR_81_4, rR_81_5, s_waddBag hb (show nb < 3 by omega), e6]
      rw [w3_id (by omega) (by omega), show (nb : Int) + 1 - 1 = nb by omega]
  · simp [f]
end AB
