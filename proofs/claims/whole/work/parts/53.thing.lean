section AD
variable {h h' : am_F} {Q : am_V → am_S → Prop} {v1 v2 v3 v4 v5 : Int} {n nb L s : Nat}
/-- the goods after a thing was added -/
def gAT (h : am_F) (n : Nat) (v1 v2 v3 v4 v5 : Int) : am_F := up (up (up (up (up (up h 83 n v1) 84 n v2) 85 n v3) 86 n v4) 87 n v5) 81 7 (n + 1)
theorem s_gaddThing (hn : h 81 7 = (n : Int)) (h8 : n < 8) : wp 22 (am_ju 22 0) [aP 81, aI v1, aI v2, aI v3, aI v4, aI v5] [] (sT h) Q ↔ Q aV (sT (gAT h n v1 v2 v3 v4 v5)) := by
  have l1 := ln_83
  have l2 := ln_84
  have l3 := ln_85
  have l4 := ln_86
  have l5 := ln_87
  have k1 := kd_83
  have k2 := kd_84
  have k3 := kd_85
  have k4 := kd_86
  have k5 := kd_87
  have b2 : (n : Int) < 8 := by omega
  have e1 : up h 83 n v1 81 7 = (n : Int) := by rw [up_ne (by decide), hn]
  have e2 : up (up h 83 n v1) 84 n v2 81 7 = (n : Int) := by rw [up_ne (by decide), e1]
  have e3 : up (up (up h 83 n v1) 84 n v2) 85 n v3 81 7 = (n : Int) := by rw [up_ne (by decide), e2]
  have e4 : up (up (up (up h 83 n v1) 84 n v2) 85 n v3) 86 n v4 81 7 = (n : Int) := by rw [up_ne (by decide), e3]
  have e5 : up (up (up (up (up h 83 n v1) 84 n v2) 85 n v3) 86 n v4) 87 n v5 81 7 = (n : Int) := by rw [up_ne (by decide), e4]
  simp (disch := first | assumption | omega | exact w8_0 | exact w8_1 _ | exact w8_2 _ _ | exact w8_3 _ _ _ | exact w8_4 _ _ _ _ | exact nl_I _ | exact nl_P _ | exact nl_X | decide | exact w8_5 _ _ _ _ _) only [ju_22_0, ju_22_5, r_aLD0, r_gI, r_bPUSH, r_IC2, r_vRET, r_gR, r_iLD1, r_iASTc, r_iLD2, r_iLD3, r_iLD4, r_iLD5, r_DUPI, r_DUPP, r_iCONST, r_iADD, r_pI, eq_self, Int.reduceLT, Int.reduceLE, Int.reduceEq, true_or, or_true, and_self, true_and, and_true, w8_0, w8_1, w8_2, w8_3, w8_4, nl_I, nl_P, nl_X, pu_I, pu_J, pu_V, w3_id, Int.add_zero, kd_81, rR_81_1, rR_81_2, rR_81_3, rR_81_4, rR_81_5, hn, b2, if_true, e1, e2, e3, e4, e5]
  rfl
theorem s_waddThing (hn : h 81 7 = (n : Int)) (h8 : n < 8) : wp 23 (am_ju 23 0) [aP 80, aI v1, aI v2, aI v3, aI v4, aI v5] [] (sT h) Q ↔ Q aV (sT (up (gAT (up h 94 n 3) n v1 v2 v3 v4 v5) 95 2 0)) := by
  have e : up h 94 n 3 81 7 = (n : Int) := by rw [up_ne (by decide), hn]
  simp only [ju_23_0, r_aLD0, r_gR, r_gI, r_iCONST, cl_21, r_POP, r_iLD1, r_iLD2, r_iLD3, r_iLD4, r_iLD5, cl_22, r_pI, r_vRET, eq_self, Int.reduceLT, Int.reduceLE, Int.reduceEq, true_or, or_true, and_self, true_and, and_true, w8_0, w8_1, w8_2, w8_3, w8_4, nl_I, nl_P, nl_X, pu_I, pu_J, pu_V, kd_80, ln_80, rR_80_0, rR_80_1, rR_80_2, rR_80_3, kd_81, ln_81, rR_81_0, rR_81_1, rR_81_2, rR_81_3, rR_81_4, rR_81_5, kd_90, ln_90, rR_90_0, rR_90_1, rR_90_2, rR_90_3, kd_95, ln_95, rR_95_0, hn, s_moveTo (h := h) (t := (n : Int)) (y := 3) ⟨by omega, by omega⟩, s_gaddThing e h8]
end AD
