section EW
variable {h h' : am_F} {Q : am_V → am_S → Prop} {x y t b i pl j : Int} {n nb L s : Nat}
theorem s_Tforce (hC : CO h n nb L s) (hq : ∀ h', tS h h' → Q (aI (if (0 ≤ b ∧ b < nb) ∧ (0 ≤ pl ∧ pl < 4) ∧ 0 ≤ j ∧ j < 8 then forc (h 93 b).toNat (sumS (h 83) (cS h b n) 8) (sumS (h 85) (cS h b n) 8) pl j else -1)) (sT h')) : wp 57 (am_ju 57 0) [aP 0, aI b, aI pl, aI j] [] (sT h) Q := by
  obtain ⟨c1, c2, c3, c4, c5, c6, c7, c8, c9, c10⟩ := id hC
  simp only [ju_57_0, ju_57_14, r_aLD0, r_gR, r_iLD1, cl_28, r_IF0, r_iLD2, r_iCONST, cl_12, r_iLD3, r_bPUSH, r_IF1, r_iRET, cl_39, cl_42, cl_56, eq_self, Int.reduceLT, Int.reduceLE, Int.reduceEq, true_or, or_true, and_self, true_and, and_true, w8_0, w8_1, w8_2, w8_3, w8_4, nl_I, nl_P, nl_X, pu_I, pu_J, pu_V, kd_0, ln_0, rR_0_0, rR_0_1, rR_0_3, rR_0_4, rR_0_5, rR_0_6, rR_0_7, rR_0_8, rR_0_9, rR_0_10, kd_80, ln_80, rR_80_0, rR_80_1, rR_80_2, rR_80_3, kd_81, ln_81, rR_81_0, rR_81_1, rR_81_2, rR_81_3, rR_81_4, rR_81_5, s_hasBag kd_81, s_isBelow, c1]
  by_cases f : 0 ≤ b ∧ b < nb
  · by_cases e : 0 ≤ pl ∧ pl < 4
    · by_cases d : 0 ≤ j ∧ j < 8
      · obtain ⟨b', rfl⟩ := Int.eq_ofNat_of_zero_le f.1
        obtain ⟨d1, d2, d3, d4⟩ := c10 b' (by omega)
        obtain ⟨g, eg⟩ := Int.eq_ofNat_of_zero_le d4.1
        have hg : g < 16 := by omega
        have hSl := cS_lt (h := h) (b := (b' : Int)) c4
        have hgd := cS_gd (b := (b' : Int)) hC
        have q1 := sS_r (f := h 83) (M := 30) (fun t ht => (hgd t ht).1)
        have q2 := sS_r (f := h 85) (M := 5) (fun t ht => (hgd t ht).2.2)
        simp only [d, e, f, and_self, if_true, ne_eq, Int.reduceEq, not_false_eq_true, not_true_eq_false, if_false, ju_57_16, r_aLD0, r_gR, r_iLD1, cl_28, r_IF0, r_iLD2, r_iCONST, cl_12, r_iLD3, r_bPUSH, r_IF1, r_iRET, cl_39, cl_42, cl_56, eq_self, Int.reduceLT, Int.reduceLE, Int.reduceEq, true_or, or_true, and_self, true_and, and_true, w8_0, w8_1, w8_2, w8_3, w8_4, nl_I, nl_P, nl_X, pu_I, pu_J, pu_V, kd_0, ln_0, rR_0_0, rR_0_1, rR_0_3, rR_0_4, rR_0_5, rR_0_6, rR_0_7, rR_0_8, rR_0_9, rR_0_10, kd_80, ln_80, rR_80_0, rR_80_1, rR_80_2, rR_80_3, kd_58, ln_58, s_thingsAt c4 c3]
        rw [show setF (fun t => decide (h 94 t = (b' : Int))) n = cS h b' n from rfl]
        simp only [s_load kd_58 ⟨show (0 : Int) ≤ b' by omega, show (b' : Int) < h 81 6 by omega, show (b' : Int) < 3 by omega⟩ hSl hgd, r_aLD0, r_gR, r_iLD1, cl_28, r_IF0, r_iLD2, r_iCONST, cl_12, r_iLD3, r_bPUSH, r_IF1, r_iRET, cl_39, cl_42, cl_56, eq_self, Int.reduceLT, Int.reduceLE, Int.reduceEq, true_or, or_true, and_self, true_and, and_true, w8_0, w8_1, w8_2, w8_3, w8_4, nl_I, nl_P, nl_X, pu_I, pu_J, pu_V, kd_0, ln_0, rR_0_0, rR_0_1, rR_0_3, rR_0_4, rR_0_5, rR_0_6, rR_0_7, rR_0_8, rR_0_9, rR_0_10, kd_58, ln_58, eg]
        rw [s_forceAt kd_58 hg ⟨q1.1, by omega⟩ ⟨q2.1, by omega⟩ ⟨d.1, by omega⟩]
        simp only [r_aLD0, r_gR, r_iLD1, cl_28, r_IF0, r_iLD2, r_iCONST, cl_12, r_iLD3, r_bPUSH, r_IF1, r_iRET, cl_39, cl_42, cl_56, eq_self, Int.reduceLT, Int.reduceLE, Int.reduceEq, true_or, or_true, and_self, true_and, and_true, w8_0, w8_1, w8_2, w8_3, w8_4, nl_I, nl_P, nl_X, pu_I, pu_J, pu_V]
        have := hq _ (bw_tS (h := h) (k := h 82 b') (w := h 91 b') (r := h 92 b') (g := (g : Int)) (S := cS h b' n) (W := sumS (h 83) (cS h b' n) 8) (D := sumS (h 84) (cS h b' n) 8) (E := sumS (h 85) (cS h b' n) 8))
        rw [if_pos ⟨f, e, d⟩, eg] at this
        exact this
      · have := hq h (fun _ _ => rfl)
        rw [if_neg (fun z => d z.2.2)] at this
        simp only [d, e, f, and_self, if_true, if_false, ne_eq, Int.reduceEq, not_true_eq_false, not_false_eq_true]
        exact this
    · have := hq h (fun _ _ => rfl)
      rw [if_neg (fun z => e z.2.1)] at this
      simp only [e, f, and_self, if_true, if_false, ne_eq, Int.reduceEq, not_true_eq_false, not_false_eq_true]
      exact this
  · have := hq h (fun _ _ => rfl)
    rw [if_neg (fun z => f z.1)] at this
    simp only [f, if_true, if_false, ne_eq, Int.reduceEq, not_true_eq_false, not_false_eq_true]
    exact this
theorem s_Rforce (hR : RO h 150 n nb L) : wp 59 (am_ju 59 0) [aP 149, aI b, aI pl, aI j] [] (sT h) Q ↔ Q (aI (if (0 ≤ b ∧ b < nb) ∧ (0 ≤ pl ∧ pl < 4) ∧ 0 ≤ j ∧ j < 8 then forc (h 150 (6 + 4 * b + 3)).toNat (sumF (rW h 150 b 0) n) (sumF (rW h 150 b 2) n) pl j else -1)) (sT h) := by
  obtain ⟨r0, hnb3, r1, h8, r2, hL, ht, hbk⟩ := hR
  simp only [ju_59_0, ju_59_21, ju_59_22, r_aLD0, r_iLD1, cl_33, r_IF0, r_iLD2, r_iCONST, cl_17, r_iLD3, r_bPUSH, r_gR, cl_58, r_GOTO, r_iRET, eq_self, Int.reduceLT, Int.reduceLE, Int.reduceEq, true_or, or_true, and_self, true_and, and_true, w8_0, w8_1, w8_2, w8_3, w8_4, nl_I, nl_P, nl_X, pu_I, pu_J, pu_V, kd_149, ln_149, rR_149_0, rR_149_1, rR_149_2, rR_149_3, rR_149_5, rR_149_7, rR_149_8, rR_149_9, rR_149_10, rR_149_16, rR_149_17, rR_149_18, s_isBag hnb3 r0, s_in]
  by_cases f : 0 ≤ b ∧ b < nb
  · by_cases e : 0 ≤ pl ∧ pl < 4
    · have e3 : 0 ≤ pl ∧ pl ≤ 3 := ⟨e.1, by omega⟩
      by_cases d : 0 ≤ j ∧ j < 8
      · obtain ⟨b', rfl⟩ := Int.eq_ofNat_of_zero_le f.1
        obtain ⟨d1, d2, d3, d4⟩ := hbk b' (by omega)
        obtain ⟨g, eg⟩ := Int.eq_ofNat_of_zero_le d4.1
        have hg : g < 16 := by omega
        have d7 : 0 ≤ j ∧ j ≤ 7 := ⟨d.1, by omega⟩
        simp only [d, d7, e, e3, f, and_self, if_true, ne_eq, Int.reduceEq, not_false_eq_true, not_true_eq_false, if_false, r_aLD0, r_iLD1, cl_33, r_IF0, r_iLD2, r_iCONST, cl_17, r_iLD3, r_bPUSH, r_gR, cl_58, r_GOTO, r_iRET, eq_self, Int.reduceLT, Int.reduceLE, Int.reduceEq, true_or, or_true, and_self, true_and, and_true, w8_0, w8_1, w8_2, w8_3, w8_4, nl_I, nl_P, nl_X, pu_I, pu_J, pu_V, kd_149, ln_149, rR_149_0, rR_149_1, rR_149_2, rR_149_3, rR_149_5, rR_149_7, rR_149_8, rR_149_9, rR_149_10, rR_149_16, rR_149_17, rR_149_18, kd_150, ln_150, s_forceOn kd_150 ln_150 h8 r1 ht ⟨f.1, (by omega : (b' : Int) < 3)⟩ hg eg d7, eg]
        rfl
      · have d7 : ¬ (0 ≤ j ∧ j ≤ 7) := fun z => d ⟨z.1, by omega⟩
        simp [d, d7, e, e3, f]
    · have e3 : ¬ (0 ≤ pl ∧ pl ≤ 3) := fun z => e ⟨z.1, by omega⟩
      simp [e, e3, f]
  · simp [f]
theorem s_Tset (h3 : nb ≤ 3) (hnb : h 81 6 = (nb : Int)) : wp 62 (am_ju 62 0) [aP 0, aI b, aI x, aI y, aX, aX] [] (sT h) Q ↔ Q (aI (if (0 ≤ b ∧ b < nb) ∧ (0 ≤ x ∧ x < 2) ∧ 0 ≤ y ∧ y < 1000 then h (91 + x) b else -1)) (sT (if (0 ≤ b ∧ b < nb) ∧ (0 ≤ x ∧ x < 2) ∧ 0 ≤ y ∧ y < 1000 then up h (91 + x) b y else h)) := by
  have l1 := ln_91
  have l2 := ln_92
  have k1 := kd_91
  have k2 := kd_92
  simp only [ju_62_0, ju_62_14, r_aLD0, r_gR, r_iLD1, cl_28, r_IF0, r_iLD2, r_iCONST, cl_12, r_iLD3, r_sPUSH, r_IF1, r_iRET, r_GOTO, r_aST4, r_aLD4, r_iALD, r_iALDs, r_iST5, r_iAST, r_iLD5, eq_self, Int.reduceLT, Int.reduceLE, Int.reduceEq, true_or, or_true, and_self, true_and, and_true, w8_0, w8_1, w8_2, w8_3, w8_4, nl_I, nl_P, nl_X, pu_I, pu_J, pu_V, kd_0, ln_0, rR_0_0, rR_0_1, rR_0_3, rR_0_4, rR_0_5, rR_0_6, rR_0_7, rR_0_8, rR_0_9, rR_0_10, kd_80, ln_80, rR_80_0, rR_80_1, rR_80_2, rR_80_3, kd_81, ln_81, rR_81_0, rR_81_1, rR_81_2, rR_81_3, rR_81_4, rR_81_5, s_hasBag kd_81, s_isBelow, hnb]
  by_cases f : 0 ≤ b ∧ b < nb
  · by_cases e : 0 ≤ x ∧ x < 2
    · by_cases d : 0 ≤ y ∧ y < 1000
      · have b1 : 0 ≤ b := f.1
        have b2 : b < 3 := by omega
        simp only [d, e, f, and_self, if_true, ne_eq, Int.reduceEq, not_false_eq_true, not_true_eq_false, if_false]
        have hx : x = 0 ∨ x = 1 := by omega
        rcases hx with rfl | rfl
        · simp (disch := first | assumption | omega | exact w8_0 | exact w8_1 _ | exact w8_2 _ _ | exact w8_3 _ _ _ | exact w8_4 _ _ _ _ | exact nl_I _ | exact nl_P _ | exact nl_X | decide | exact w8_5 _ _ _ _ _) only [ju_62_16, ju_62_23, ju_62_27, r_aLD0, r_gR, r_iLD1, cl_28, r_IF0, r_iLD2, r_iCONST, cl_12, r_iLD3, r_sPUSH, r_IF1, r_iRET, r_GOTO, r_aST4, r_aLD4, r_iALDc, r_iALDs, r_iST5, r_iASTc, r_iLD5, eq_self, Int.reduceLT, Int.reduceLE, Int.reduceEq, true_or, or_true, and_self, true_and, and_true, w8_0, w8_1, w8_2, w8_3, w8_4, nl_I, nl_P, nl_X, pu_I, pu_J, pu_V, w3_id, Int.add_zero, kd_0, kd_80, kd_90, rR_0_0, rR_80_2, rR_90_0, rR_90_1, Int.reduceAdd, not_true_eq_false, if_false]
        · simp (disch := first | assumption | omega | exact w8_0 | exact w8_1 _ | exact w8_2 _ _ | exact w8_3 _ _ _ | exact w8_4 _ _ _ _ | exact nl_I _ | exact nl_P _ | exact nl_X | decide | exact w8_5 _ _ _ _ _) only [ju_62_16, ju_62_23, ju_62_27, r_aLD0, r_gR, r_iLD1, cl_28, r_IF0, r_iLD2, r_iCONST, cl_12, r_iLD3, r_sPUSH, r_IF1, r_iRET, r_GOTO, r_aST4, r_aLD4, r_iALDc, r_iALDs, r_iST5, r_iASTc, r_iLD5, eq_self, Int.reduceLT, Int.reduceLE, Int.reduceEq, true_or, or_true, and_self, true_and, and_true, w8_0, w8_1, w8_2, w8_3, w8_4, nl_I, nl_P, nl_X, pu_I, pu_J, pu_V, w3_id, Int.add_zero, kd_0, kd_80, kd_90, rR_0_0, rR_80_2, rR_90_0, rR_90_1, Int.reduceAdd, Int.reduceEq, not_false_eq_true, if_true]
      · simp [d, e, f]
    · simp [e, f]
  · simp [f]
theorem s_Rset (h3 : nb ≤ 3) (hnb : h 150 0 = (nb : Int)) : wp 63 (am_ju 63 0) [aP 149, aI b, aI x, aI y, aX] [] (sT h) Q ↔ Q (aI (if (0 ≤ b ∧ b < nb) ∧ (0 ≤ x ∧ x < 2) ∧ 0 ≤ y ∧ y < 1000 then h 150 (6 + 4 * b + 1 + x) else -1)) (sT (if (0 ≤ b ∧ b < nb) ∧ (0 ≤ x ∧ x < 2) ∧ 0 ≤ y ∧ y < 1000 then up h 150 (6 + 4 * b + 1 + x) y else h)) := by
  have l1 := ln_150
  have k1 := kd_150
  simp only [ju_63_0, ju_63_14, r_aLD0, r_iLD1, cl_33, r_IF0, r_iLD2, r_iCONST, cl_17, r_iLD3, r_sPUSH, r_IF1, r_iRET, r_gR, cl_18, r_iADD, r_iALD, r_iALDs, r_iST4, r_iAST, r_iLD4, eq_self, Int.reduceLT, Int.reduceLE, Int.reduceEq, true_or, or_true, and_self, true_and, and_true, w8_0, w8_1, w8_2, w8_3, w8_4, nl_I, nl_P, nl_X, pu_I, pu_J, pu_V, kd_149, ln_149, rR_149_0, rR_149_1, rR_149_2, rR_149_3, rR_149_5, rR_149_7, rR_149_8, rR_149_9, rR_149_10, rR_149_16, rR_149_17, rR_149_18, s_isBag h3 hnb, s_in]
  by_cases f : 0 ≤ b ∧ b < nb
  · by_cases e : 0 ≤ x ∧ x < 2
    · have e1 : 0 ≤ x ∧ x ≤ 1 := ⟨e.1, by omega⟩
      by_cases d : 0 ≤ y ∧ y < 1000
      · have d9 : 0 ≤ y ∧ y ≤ 999 := ⟨d.1, by omega⟩
        have b1 : 0 ≤ b := f.1
        have b2 : b < 3 := by omega
        have x1 : 0 ≤ x := e.1
        have x2 : x < 2 := e.2
        simp only [d, d9, e, e1, f, and_self, if_true, ne_eq, Int.reduceEq, not_false_eq_true, not_true_eq_false, if_false]
        simp (disch := first | assumption | omega | exact w8_0 | exact w8_1 _ | exact w8_2 _ _ | exact w8_3 _ _ _ | exact w8_4 _ _ _ _ | exact nl_I _ | exact nl_P _ | exact nl_X | decide | exact w8_5 _ _ _ _ _) only [ju_63_16, r_aLD0, r_iLD1, cl_33, r_IF0, r_iLD2, r_iCONST, cl_17, r_iLD3, r_sPUSH, r_IF1, r_iRET, r_gR, cl_18, r_iADD, r_iALDc, r_iALDs, r_iST4, r_iASTc, r_iLD4, eq_self, Int.reduceLT, Int.reduceLE, Int.reduceEq, true_or, or_true, and_self, true_and, and_true, w8_0, w8_1, w8_2, w8_3, w8_4, nl_I, nl_P, nl_X, pu_I, pu_J, pu_V, w3_id, Int.add_zero, kd_149, rR_149_0, s_bagAt (h := h) (b := b) ⟨by omega, by omega⟩]
      · have d9 : ¬ (0 ≤ y ∧ y ≤ 999) := fun z => d ⟨z.1, by omega⟩
        simp [d, d9, e, e1, f]
    · have e1 : ¬ (0 ≤ x ∧ x ≤ 1) := fun z => e ⟨z.1, by omega⟩
      simp [e, e1, f]
  · simp [f]
end EW
