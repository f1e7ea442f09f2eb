/-- the cell of the class that holds a thing's fact x -/
def tdC (x : Int) : Int := if x = 5 then 94 else 83 + x
section EV
variable {h h' : am_F} {Q : am_V → am_S → Prop} {x y t b i pl j : Int} {n nb L s : Nat}
theorem s_Ttold (h8 : n ≤ 8) (hn : h 81 7 = (n : Int)) : wp 60 (am_ju 60 0) [aP 0, aI t, aI x, aX] [] (sT h) Q ↔ Q (aI (if (0 ≤ t ∧ t < n) ∧ 0 ≤ x ∧ x < 6 then h (tdC x) t else -1)) (sT h) := by
  have l0 := ln_83
  have l1 := ln_84
  have l2 := ln_85
  have l3 := ln_86
  have l4 := ln_87
  have l5 := ln_94
  have k0 := kd_83
  have k1 := kd_84
  have k2 := kd_85
  have k3 := kd_86
  have k4 := kd_87
  have k5 := kd_94
  simp only [ju_60_0, r_aLD0, r_gR, r_aST3, r_aLD3, r_iLD1, cl_27, r_IF1, r_iCONST, r_iRET, r_iLD2, r_TSW, r_iALD, r_iALDs, eq_self, Int.reduceLT, Int.reduceLE, Int.reduceEq, true_or, or_true, and_self, true_and, and_true, w8_0, w8_1, w8_2, w8_3, w8_4, nl_I, nl_P, nl_X, pu_I, pu_J, pu_V, kd_0, ln_0, rR_0_0, rR_0_1, rR_0_3, rR_0_4, rR_0_5, rR_0_6, rR_0_7, rR_0_8, rR_0_9, rR_0_10, kd_80, ln_80, rR_80_0, rR_80_1, rR_80_2, rR_80_3, kd_81, ln_81, rR_81_0, rR_81_1, rR_81_2, rR_81_3, rR_81_4, rR_81_5, s_hasThing kd_81, hn]
  by_cases f : 0 ≤ t ∧ t < n
  · have t1 : 0 ≤ t := f.1
    have t2 : t < 8 := by omega
    simp only [f, and_self, true_and, if_true, ne_eq, Int.reduceEq, not_false_eq_true, not_true_eq_false, if_false, ju_60_10, r_aLD0, r_gR, r_aST3, r_aLD3, r_iLD1, cl_27, r_IF1, r_iCONST, r_iRET, r_iLD2, r_TSW, r_iALD, r_iALDs, eq_self, Int.reduceLT, Int.reduceLE, Int.reduceEq, true_or, or_true, and_self, true_and, and_true, w8_0, w8_1, w8_2, w8_3, w8_4, nl_I, nl_P, nl_X, pu_I, pu_J, pu_V]
    by_cases e : 0 ≤ x ∧ x < 6
    · have hx : x = 0 ∨ x = 1 ∨ x = 2 ∨ x = 3 ∨ x = 4 ∨ x = 5 := by omega
      rw [if_pos e]
      rcases hx with rfl | rfl | rfl | rfl | rfl | rfl
      · rw [show tswT [0, 5, 44, 12, 17, 22, 27, 32, 37] 0 = 12 from by decide, show tdC 0 = 83 from by decide]
        simp (disch := first | assumption | omega | exact w8_0 | exact w8_1 _ | exact w8_2 _ _ | exact w8_3 _ _ _ | exact w8_4 _ _ _ _ | exact nl_I _ | exact nl_P _ | exact nl_X | decide | exact w8_5 _ _ _ _ _) only [ju_60_12, r_aLD0, r_gR, r_aST3, r_aLD3, r_iLD1, cl_27, r_IF1, r_iCONST, r_iRET, r_iLD2, r_TSW, r_iALDc, r_iALDs, eq_self, Int.reduceLT, Int.reduceLE, Int.reduceEq, true_or, or_true, and_self, true_and, and_true, w8_0, w8_1, w8_2, w8_3, w8_4, nl_I, nl_P, nl_X, pu_I, pu_J, pu_V, w3_id, Int.add_zero, kd_81, rR_81_1]
      · rw [show tswT [0, 5, 44, 12, 17, 22, 27, 32, 37] 1 = 17 from by decide, show tdC 1 = 84 from by decide]
        simp (disch := first | assumption | omega | exact w8_0 | exact w8_1 _ | exact w8_2 _ _ | exact w8_3 _ _ _ | exact w8_4 _ _ _ _ | exact nl_I _ | exact nl_P _ | exact nl_X | decide | exact w8_5 _ _ _ _ _) only [ju_60_17, r_aLD0, r_gR, r_aST3, r_aLD3, r_iLD1, cl_27, r_IF1, r_iCONST, r_iRET, r_iLD2, r_TSW, r_iALDc, r_iALDs, eq_self, Int.reduceLT, Int.reduceLE, Int.reduceEq, true_or, or_true, and_self, true_and, and_true, w8_0, w8_1, w8_2, w8_3, w8_4, nl_I, nl_P, nl_X, pu_I, pu_J, pu_V, w3_id, Int.add_zero, kd_81, rR_81_2]
      · rw [show tswT [0, 5, 44, 12, 17, 22, 27, 32, 37] 2 = 22 from by decide, show tdC 2 = 85 from by decide]
        simp (disch := first | assumption | omega | exact w8_0 | exact w8_1 _ | exact w8_2 _ _ | exact w8_3 _ _ _ | exact w8_4 _ _ _ _ | exact nl_I _ | exact nl_P _ | exact nl_X | decide | exact w8_5 _ _ _ _ _) only [ju_60_22, r_aLD0, r_gR, r_aST3, r_aLD3, r_iLD1, cl_27, r_IF1, r_iCONST, r_iRET, r_iLD2, r_TSW, r_iALDc, r_iALDs, eq_self, Int.reduceLT, Int.reduceLE, Int.reduceEq, true_or, or_true, and_self, true_and, and_true, w8_0, w8_1, w8_2, w8_3, w8_4, nl_I, nl_P, nl_X, pu_I, pu_J, pu_V, w3_id, Int.add_zero, kd_81, rR_81_3]
      · rw [show tswT [0, 5, 44, 12, 17, 22, 27, 32, 37] 3 = 27 from by decide, show tdC 3 = 86 from by decide]
        simp (disch := first | assumption | omega | exact w8_0 | exact w8_1 _ | exact w8_2 _ _ | exact w8_3 _ _ _ | exact w8_4 _ _ _ _ | exact nl_I _ | exact nl_P _ | exact nl_X | decide | exact w8_5 _ _ _ _ _) only [ju_60_27, r_aLD0, r_gR, r_aST3, r_aLD3, r_iLD1, cl_27, r_IF1, r_iCONST, r_iRET, r_iLD2, r_TSW, r_iALDc, r_iALDs, eq_self, Int.reduceLT, Int.reduceLE, Int.reduceEq, true_or, or_true, and_self, true_and, and_true, w8_0, w8_1, w8_2, w8_3, w8_4, nl_I, nl_P, nl_X, pu_I, pu_J, pu_V, w3_id, Int.add_zero, kd_81, rR_81_4]
      · rw [show tswT [0, 5, 44, 12, 17, 22, 27, 32, 37] 4 = 32 from by decide, show tdC 4 = 87 from by decide]
        simp (disch := first | assumption | omega | exact w8_0 | exact w8_1 _ | exact w8_2 _ _ | exact w8_3 _ _ _ | exact w8_4 _ _ _ _ | exact nl_I _ | exact nl_P _ | exact nl_X | decide | exact w8_5 _ _ _ _ _) only [ju_60_32, r_aLD0, r_gR, r_aST3, r_aLD3, r_iLD1, cl_27, r_IF1, r_iCONST, r_iRET, r_iLD2, r_TSW, r_iALDc, r_iALDs, eq_self, Int.reduceLT, Int.reduceLE, Int.reduceEq, true_or, or_true, and_self, true_and, and_true, w8_0, w8_1, w8_2, w8_3, w8_4, nl_I, nl_P, nl_X, pu_I, pu_J, pu_V, w3_id, Int.add_zero, kd_81, rR_81_5]
      · rw [show tswT [0, 5, 44, 12, 17, 22, 27, 32, 37] 5 = 37 from by decide, show tdC 5 = 94 from by decide]
        simp (disch := first | assumption | omega | exact w8_0 | exact w8_1 _ | exact w8_2 _ _ | exact w8_3 _ _ _ | exact w8_4 _ _ _ _ | exact nl_I _ | exact nl_P _ | exact nl_X | decide | exact w8_5 _ _ _ _ _) only [ju_60_37, r_aLD0, r_gR, r_aST3, r_aLD3, r_iLD1, cl_27, r_IF1, r_iCONST, r_iRET, r_iLD2, r_TSW, r_iALDc, r_iALDs, eq_self, Int.reduceLT, Int.reduceLE, Int.reduceEq, true_or, or_true, and_self, true_and, and_true, w8_0, w8_1, w8_2, w8_3, w8_4, nl_I, nl_P, nl_X, pu_I, pu_J, pu_V, w3_id, Int.add_zero, kd_0, kd_80, kd_90, rR_0_0, rR_80_2, rR_90_3]
    · rw [if_neg e, show tswT [0, 5, 44, 12, 17, 22, 27, 32, 37] x = 44 from by
        show (if 0 ≤ x ∧ x ≤ 5 then _ else (44 : Int)) = 44
        exact if_neg (by omega)]
      simp only [ju_60_44, r_aLD0, r_gR, r_aST3, r_aLD3, r_iLD1, cl_27, r_IF1, r_iCONST, r_iRET, r_iLD2, r_TSW, r_iALD, r_iALDs, eq_self, Int.reduceLT, Int.reduceLE, Int.reduceEq, true_or, or_true, and_self, true_and, and_true, w8_0, w8_1, w8_2, w8_3, w8_4, nl_I, nl_P, nl_X, pu_I, pu_J, pu_V]
  · simp [f]
theorem s_Rtold (h8 : n ≤ 8) (hn : h 150 1 = (n : Int)) : wp 61 (am_ju 61 0) [aP 149, aI t, aI x] [] (sT h) Q ↔ Q (aI (if (0 ≤ t ∧ t < n) ∧ 0 ≤ x ∧ x < 6 then h 150 (18 + 6 * t + x) else -1)) (sT h) := by
  have l1 := ln_150
  have k1 := kd_150
  simp only [ju_61_0, ju_61_17, ju_61_18, r_aLD0, r_iLD1, cl_32, r_IF0, r_iLD2, r_iCONST, cl_17, r_gR, cl_25, r_iADD, r_iALD, r_iALDs, r_GOTO, r_iRET, eq_self, Int.reduceLT, Int.reduceLE, Int.reduceEq, true_or, or_true, and_self, true_and, and_true, w8_0, w8_1, w8_2, w8_3, w8_4, nl_I, nl_P, nl_X, pu_I, pu_J, pu_V, kd_149, ln_149, rR_149_0, rR_149_1, rR_149_2, rR_149_3, rR_149_5, rR_149_7, rR_149_8, rR_149_9, rR_149_10, rR_149_16, rR_149_17, rR_149_18, s_isThing h8 hn, s_in]
  by_cases f : 0 ≤ t ∧ t < n
  · by_cases e : 0 ≤ x ∧ x < 6
    · have e1 : 0 ≤ x ∧ x ≤ 5 := ⟨e.1, by omega⟩
      have t1 : 0 ≤ t := f.1
      have t2 : t < 8 := by omega
      have x1 : 0 ≤ x := e.1
      have x2 : x < 6 := e.2
      have hw : w3 (18 + 6 * t + x) = 18 + 6 * t + x := w3_id (by omega) (by omega)
      simp (disch := first | assumption | omega | exact w8_0 | exact w8_1 _ | exact w8_2 _ _ | exact w8_3 _ _ _ | exact w8_4 _ _ _ _ | exact nl_I _ | exact nl_P _ | exact nl_X | decide | exact w8_5 _ _ _ _ _) only [e, e1, f, and_self, if_true, ne_eq, Int.reduceEq, not_false_eq_true, not_true_eq_false, if_false, ju_61_18, r_aLD0, r_iLD1, cl_32, r_IF0, r_iLD2, r_iCONST, cl_17, r_gR, cl_25, r_iADD, r_iALDc, r_iALDs, r_GOTO, r_iRET, eq_self, Int.reduceLT, Int.reduceLE, Int.reduceEq, true_or, or_true, and_self, true_and, and_true, w8_0, w8_1, w8_2, w8_3, w8_4, nl_I, nl_P, nl_X, pu_I, pu_J, pu_V, w3_id, Int.add_zero, kd_149, rR_149_0, s_thingAt (h := h) (b := t) ⟨by omega, by omega⟩, hw]
      try exact and_iff_right ⟨by omega, by omega⟩
    · have e1 : ¬ (0 ≤ x ∧ x ≤ 5) := fun z => e ⟨z.1, by omega⟩
      simp [e, e1, f]
  · simp [f]
/-- a thing's facts are told alike -/
theorem q_told (hP : Rp h 0 150 n nb L s) {t : Nat} (ht : t < n) (hx : 0 ≤ x ∧ x < 6) : h (tdC x) t = h 150 (18 + 6 * t + x) := by
  have e := hP.2.2.2.2.2.2.2.2.2.1 t ht
  have hx : x = 0 ∨ x = 1 ∨ x = 2 ∨ x = 3 ∨ x = 4 ∨ x = 5 := by omega
  obtain ⟨e0, e1, e2, e3, e4, e5⟩ := e
  rcases hx with rfl | rfl | rfl | rfl | rfl | rfl
  · exact e0.symm
  · exact e1.symm
  · exact e2.symm
  · exact e3.symm
  · exact e4.symm
  · exact e5.symm
end EV
