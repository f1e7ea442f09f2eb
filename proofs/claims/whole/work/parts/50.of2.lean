section OG
variable {h h' : am_F} {Q : am_V → am_S → Prop} {x y t b i pl j c d : Int} {n nb L s : Nat}
def ofR (h : am_F) (n : Nat) (b x : Int) : Int := if x = 0 then h 150 (6 + 4 * b) else if x = 1 then h 150 (6 + 4 * b + 1) else if x = 2 then h 150 (6 + 4 * b + 2) else if x = 3 then h 150 (6 + 4 * b + 3) else if x = 4 then (mS h 150 b n : Int) else if x = 5 then sumF (rW h 150 b 0) n else if x = 6 then (h 150 (6 + 4 * b + 1) + h 150 (6 + 4 * b + 2)) / 10 else -1
theorem s_Rsag (hb : 0 ≤ b ∧ b < 3) (hk : bk h 150 b) : wp 47 (am_ju 47 0) [aP 150, aI b] [] (sT h) Q ↔ Q (aI ((h 150 (6 + 4 * b + 1) + h 150 (6 + 4 * b + 2)) / 10)) (sT h) := by
  obtain ⟨d1, d2, d3, d4⟩ := hk
  obtain ⟨b1, b2⟩ := hb
  have l1 := ln_150
  have k1 := kd_150
  simp (disch := first | assumption | omega | exact w8_0 | exact w8_1 _ | exact w8_2 _ _ | exact w8_3 _ _ _ | exact w8_4 _ _ _ _ | exact nl_I _ | exact nl_P _ | exact nl_X | decide | exact w8_5 _ _ _ _ _) only [ju_47_0, r_aLD0, r_iLD1, cl_18, r_iCONST, r_iADD, r_iALDc, r_iALDs, r_bPUSH, r_iDIV, r_iRET, eq_self, Int.reduceLT, Int.reduceLE, Int.reduceEq, true_or, or_true, and_self, true_and, and_true, w8_0, w8_1, w8_2, w8_3, w8_4, nl_I, nl_P, nl_X, pu_I, pu_J, pu_V, w3_id, Int.add_zero, s_bagAt (h := h) (b := b) ⟨by omega, by omega⟩]
  rw [iDv_n (by omega) (by omega) (by omega) (by omega)]
theorem q_of (hP : Rp h 0 150 n nb L s) {b : Nat} (hb : b < nb) : ofT h n b x = ofR h n b x := by
  have pb := hP.2.2.2.2.2.2.2.2.1 b hb
  simp only [Int.add_zero] at pb
  unfold ofT ofR
  rw [sS_rW hP b 0 83 (fun t q => by have := (hP.2.2.2.2.2.2.2.2.2.1 t q).1; simpa using this), cS_mS hP, pb.1, pb.2.1, pb.2.2.1, pb.2.2.2]
theorem s_Rof (hR : RO h 150 n nb L) : wp 48 (am_ju 48 0) [aP 149, aI b, aI x] [] (sT h) Q ↔ Q (aI (if 0 ≤ b ∧ b < nb then ofR h n b x else -1)) (sT h) := by
  obtain ⟨r0, hnb3, r1, h8, r2, hL, ht, hbk⟩ := hR
  have l1 := ln_150
  have k1 := kd_150
  simp only [ju_48_0, ju_48_9, r_aLD0, r_iLD1, cl_33, r_IF0, r_iLD2, r_iCONST, r_bPUSH, cl_17, r_IF1, r_iRET, r_IC3, r_gR, cl_18, r_iADD, r_iALD, r_iALDs, r_GOTO, r_IC1, cl_45, cl_46, cl_47, eq_self, Int.reduceLT, Int.reduceLE, Int.reduceEq, true_or, or_true, and_self, true_and, and_true, w8_0, w8_1, w8_2, w8_3, w8_4, nl_I, nl_P, nl_X, pu_I, pu_J, pu_V, kd_149, ln_149, rR_149_0, rR_149_1, rR_149_2, rR_149_3, rR_149_5, rR_149_7, rR_149_8, rR_149_9, rR_149_10, rR_149_16, rR_149_17, rR_149_18, s_isBag hnb3 r0, s_in]
  by_cases f : 0 ≤ b ∧ b < nb
  · rw [if_pos f]
    by_cases e : 0 ≤ x ∧ x ≤ 6
    · obtain ⟨b', rfl⟩ := Int.eq_ofNat_of_zero_le f.1
      have hk := hbk b' (by omega)
      have b1 : (0 : Int) ≤ b' := by omega
      have b2 : (b' : Int) < 3 := by omega
      simp only [e, f, and_self, if_true, ne_eq, Int.reduceEq, not_false_eq_true, not_true_eq_false, if_false]
      have hx : x = 0 ∨ x = 1 ∨ x = 2 ∨ x = 3 ∨ x = 4 ∨ x = 5 ∨ x = 6 := by omega
      rcases hx with rfl | rfl | rfl | rfl | rfl | rfl | rfl
      · simp (disch := first | assumption | omega | exact w8_0 | exact w8_1 _ | exact w8_2 _ _ | exact w8_3 _ _ _ | exact w8_4 _ _ _ _ | exact nl_I _ | exact nl_P _ | exact nl_X | decide | exact w8_5 _ _ _ _ _) only [ju_48_11, ju_48_43, r_aLD0, r_iLD1, cl_33, r_IF0, r_iLD2, r_iCONST, r_bPUSH, cl_17, r_IF1, r_iRET, r_IC3, r_gR, cl_18, r_iADD, r_iALDc, r_iALDs, r_GOTO, r_IC1, cl_45, cl_46, cl_47, eq_self, Int.reduceLT, Int.reduceLE, Int.reduceEq, true_or, or_true, and_self, true_and, and_true, w8_0, w8_1, w8_2, w8_3, w8_4, nl_I, nl_P, nl_X, pu_I, pu_J, pu_V, w3_id, Int.add_zero, kd_149, rR_149_0, s_bagAt (h := h) (b := (b' : Int)) ⟨by omega, by omega⟩, Int.reduceLE, if_false]
        simp [ofR]
      · simp (disch := first | assumption | omega | exact w8_0 | exact w8_1 _ | exact w8_2 _ _ | exact w8_3 _ _ _ | exact w8_4 _ _ _ _ | exact nl_I _ | exact nl_P _ | exact nl_X | decide | exact w8_5 _ _ _ _ _) only [ju_48_11, ju_48_43, r_aLD0, r_iLD1, cl_33, r_IF0, r_iLD2, r_iCONST, r_bPUSH, cl_17, r_IF1, r_iRET, r_IC3, r_gR, cl_18, r_iADD, r_iALDc, r_iALDs, r_GOTO, r_IC1, cl_45, cl_46, cl_47, eq_self, Int.reduceLT, Int.reduceLE, Int.reduceEq, true_or, or_true, and_self, true_and, and_true, w8_0, w8_1, w8_2, w8_3, w8_4, nl_I, nl_P, nl_X, pu_I, pu_J, pu_V, w3_id, Int.add_zero, kd_149, rR_149_0, s_bagAt (h := h) (b := (b' : Int)) ⟨by omega, by omega⟩, Int.reduceLE, if_false]
        simp [ofR]
      · simp (disch := first | assumption | omega | exact w8_0 | exact w8_1 _ | exact w8_2 _ _ | exact w8_3 _ _ _ | exact w8_4 _ _ _ _ | exact nl_I _ | exact nl_P _ | exact nl_X | decide | exact w8_5 _ _ _ _ _) only [ju_48_11, ju_48_43, r_aLD0, r_iLD1, cl_33, r_IF0, r_iLD2, r_iCONST, r_bPUSH, cl_17, r_IF1, r_iRET, r_IC3, r_gR, cl_18, r_iADD, r_iALDc, r_iALDs, r_GOTO, r_IC1, cl_45, cl_46, cl_47, eq_self, Int.reduceLT, Int.reduceLE, Int.reduceEq, true_or, or_true, and_self, true_and, and_true, w8_0, w8_1, w8_2, w8_3, w8_4, nl_I, nl_P, nl_X, pu_I, pu_J, pu_V, w3_id, Int.add_zero, kd_149, rR_149_0, s_bagAt (h := h) (b := (b' : Int)) ⟨by omega, by omega⟩, Int.reduceLE, if_false]
        simp [ofR]
      · simp (disch := first | assumption | omega | exact w8_0 | exact w8_1 _ | exact w8_2 _ _ | exact w8_3 _ _ _ | exact w8_4 _ _ _ _ | exact nl_I _ | exact nl_P _ | exact nl_X | decide | exact w8_5 _ _ _ _ _) only [ju_48_11, ju_48_43, r_aLD0, r_iLD1, cl_33, r_IF0, r_iLD2, r_iCONST, r_bPUSH, cl_17, r_IF1, r_iRET, r_IC3, r_gR, cl_18, r_iADD, r_iALDc, r_iALDs, r_GOTO, r_IC1, cl_45, cl_46, cl_47, eq_self, Int.reduceLT, Int.reduceLE, Int.reduceEq, true_or, or_true, and_self, true_and, and_true, w8_0, w8_1, w8_2, w8_3, w8_4, nl_I, nl_P, nl_X, pu_I, pu_J, pu_V, w3_id, Int.add_zero, kd_149, rR_149_0, s_bagAt (h := h) (b := (b' : Int)) ⟨by omega, by omega⟩, Int.reduceLE, if_false]
        simp [ofR]
      · simp only [ju_48_11, ju_48_22, ju_48_43, r_aLD0, r_iLD1, cl_33, r_IF0, r_iLD2, r_iCONST, r_bPUSH, cl_17, r_IF1, r_iRET, r_IC3, r_gR, cl_18, r_iADD, r_iALD, r_iALDs, r_GOTO, r_IC1, cl_45, cl_46, cl_47, eq_self, Int.reduceLT, Int.reduceLE, Int.reduceEq, true_or, or_true, and_self, true_and, and_true, w8_0, w8_1, w8_2, w8_3, w8_4, nl_I, nl_P, nl_X, pu_I, pu_J, pu_V, kd_149, ln_149, rR_149_0, rR_149_1, rR_149_2, rR_149_3, rR_149_5, rR_149_7, rR_149_8, rR_149_9, rR_149_10, rR_149_16, rR_149_17, rR_149_18, kd_150, ln_150, s_thingsIn kd_150 ln_150 h8 r1]
        simp [ofR, mS]
      · simp only [ju_48_11, ju_48_22, ju_48_30, ju_48_43, r_aLD0, r_iLD1, cl_33, r_IF0, r_iLD2, r_iCONST, r_bPUSH, cl_17, r_IF1, r_iRET, r_IC3, r_gR, cl_18, r_iADD, r_iALD, r_iALDs, r_GOTO, r_IC1, cl_45, cl_46, cl_47, eq_self, Int.reduceLT, Int.reduceLE, Int.reduceEq, true_or, or_true, and_self, true_and, and_true, w8_0, w8_1, w8_2, w8_3, w8_4, nl_I, nl_P, nl_X, pu_I, pu_J, pu_V, kd_149, ln_149, rR_149_0, rR_149_1, rR_149_2, rR_149_3, rR_149_5, rR_149_7, rR_149_8, rR_149_9, rR_149_10, rR_149_16, rR_149_17, rR_149_18, kd_150, ln_150, s_sum0 kd_150 ln_150 h8 r1 ht]
        simp [ofR]
      · simp only [ju_48_11, ju_48_22, ju_48_30, ju_48_39, ju_48_43, r_aLD0, r_iLD1, cl_33, r_IF0, r_iLD2, r_iCONST, r_bPUSH, cl_17, r_IF1, r_iRET, r_IC3, r_gR, cl_18, r_iADD, r_iALD, r_iALDs, r_GOTO, r_IC1, cl_45, cl_46, cl_47, eq_self, Int.reduceLT, Int.reduceLE, Int.reduceEq, true_or, or_true, and_self, true_and, and_true, w8_0, w8_1, w8_2, w8_3, w8_4, nl_I, nl_P, nl_X, pu_I, pu_J, pu_V, kd_149, ln_149, rR_149_0, rR_149_1, rR_149_2, rR_149_3, rR_149_5, rR_149_7, rR_149_8, rR_149_9, rR_149_10, rR_149_16, rR_149_17, rR_149_18, kd_150, ln_150, s_Rsag ⟨b1, b2⟩ hk]
        simp [ofR]
    · have : ofR h n b x = -1 := by
        unfold ofR
        rw [if_neg (by omega), if_neg (by omega), if_neg (by omega), if_neg (by omega), if_neg (by omega), if_neg (by omega), if_neg (by omega)]
      simp [e, f, this]
  · simp [f]
end OG
