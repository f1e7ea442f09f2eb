section EY
variable {h h' : am_F} {Q : am_V → am_S → Prop} {x y t b i : Int} {n nb L s : Nat}
theorem tornB_b {g : Nat} (hg : g < 16) : tornB g = (g.testBit 0 || (g.testBit 1 && g.testBit 2)) := by
  have : ∀ g : Fin 16, tornB g.1 = (g.1.testBit 0 || (g.1.testBit 1 && g.1.testBit 2)) := by decide
  exact this ⟨g, hg⟩
theorem s_RisTorn (hb : 0 ≤ b ∧ b < 3) {g : Nat} (hg : g < 16) (eg : h 150 (6 + 4 * b + 3) = (g : Int)) : wp 35 (am_ju 35 0) [aP 149, aI b, aX] [] (sT h) Q ↔ Q (aI (if tornB g = true then 1 else 0)) (sT h) := by
  obtain ⟨h1, h2⟩ := hb
  have hl := ln_150
  have hk := kd_150
  have hw : w3 (6 + 4 * b + 3) = 6 + 4 * b + 3 := w3_id (by omega) (by omega)
  have hg2 : g < 2 ^ 31 := by omega
  rw [tornB_b hg]
  simp (disch := first | assumption | omega | exact w8_0 | exact w8_1 _ | exact w8_2 _ _ | exact w8_3 _ _ _ | exact w8_4 _ _ _ _ | exact nl_I _ | exact nl_P _ | exact nl_X | decide | exact w8_5 _ _ _ _ _) only [ju_35_0, ju_35_20, ju_35_22, ju_35_23, r_aLD0, r_gR, r_iLD1, cl_18, r_iCONST, r_iADD, r_iALDc, r_iALDs, r_iST2, r_iLD2, cl_34, r_IF1, r_IF0, r_GOTO, r_zRET, eq_self, Int.reduceLT, Int.reduceLE, Int.reduceEq, true_or, or_true, and_self, true_and, and_true, w8_0, w8_1, w8_2, w8_3, w8_4, nl_I, nl_P, nl_X, pu_I, pu_J, pu_V, w3_id, Int.add_zero, kd_149, rR_149_0, s_bagAt (h := h) (b := b) ⟨by omega, by omega⟩, hw, eg, s_rhas0 hg2, s_rhas1 hg2, s_rhas2 hg2]
  by_cases z0 : g.testBit 0 = true <;> by_cases z1 : g.testBit 1 = true <;> by_cases z2 : g.testBit 2 = true <;> simp [z0, z1, z2]
theorem s_Rsort (h20 : L ≤ 20) (hn : h 150 2 = (L : Int)) : wp 102 (am_ju 102 0) [aP 149, aI i] [] (sT h) Q ↔ Q (aI (if 0 ≤ i ∧ i < L then h 150 (66 + i) else -1)) (sT h) := by
  have hl := ln_150
  have hk := kd_150
  simp only [ju_102_0, ju_102_17, ju_102_18, r_iLD1, r_iCONST, r_aLD0, r_gR, r_iALD, r_iALDs, r_iSUB, cl_17, r_IF0, r_bPUSH, r_iADD, r_GOTO, r_iRET, eq_self, Int.reduceLT, Int.reduceLE, Int.reduceEq, true_or, or_true, and_self, true_and, and_true, w8_0, w8_1, w8_2, w8_3, w8_4, nl_I, nl_P, nl_X, pu_I, pu_J, pu_V, kd_149, ln_149, rR_149_0, rR_149_1, rR_149_2, rR_149_3, rR_149_5, rR_149_7, rR_149_8, rR_149_9, rR_149_10, rR_149_16, rR_149_17, rR_149_18, kd_150, ln_150, s_in, hn]
  rw [w3_id (by omega) (by omega)]
  by_cases e : 0 ≤ i ∧ i < L
  · have h1 : 0 ≤ i := e.1
    have h2 : i < 20 := by omega
    have e2 : 0 ≤ i ∧ i ≤ (L : Int) - 1 := ⟨h1, by omega⟩
    have hw : w3 (66 + i) = 66 + i := w3_id (by omega) (by omega)
    simp (disch := first | assumption | omega | exact w8_0 | exact w8_1 _ | exact w8_2 _ _ | exact w8_3 _ _ _ | exact w8_4 _ _ _ _ | exact nl_I _ | exact nl_P _ | exact nl_X | decide | exact w8_5 _ _ _ _ _) only [e, e2, and_self, if_true, ne_eq, Int.reduceEq, not_false_eq_true, not_true_eq_false, if_false, r_iLD1, r_iCONST, r_aLD0, r_gR, r_iALDc, r_iALDs, r_iSUB, cl_17, r_IF0, r_bPUSH, r_iADD, r_GOTO, r_iRET, eq_self, Int.reduceLT, Int.reduceLE, Int.reduceEq, true_or, or_true, and_self, true_and, and_true, w8_0, w8_1, w8_2, w8_3, w8_4, nl_I, nl_P, nl_X, pu_I, pu_J, pu_V, w3_id, Int.add_zero, kd_149, rR_149_0, hw]
    exact and_iff_right ⟨by omega, by omega⟩
  · have e2 : ¬ (0 ≤ i ∧ i ≤ (L : Int) - 1) := fun z => e ⟨z.1, by omega⟩
    simp [e, e2, r_iLD1, r_iCONST, r_aLD0, r_gR, r_iALD, r_iALDs, r_iSUB, cl_17, r_IF0, r_bPUSH, r_iADD, r_GOTO, r_iRET, eq_self, Int.reduceLT, Int.reduceLE, Int.reduceEq, true_or, or_true, and_self, true_and, and_true, w8_0, w8_1, w8_2, w8_3, w8_4, nl_I, nl_P, nl_X, pu_I, pu_J, pu_V]
theorem s_Tsort (h20 : L ≤ 20) (hn : h 88 1 = (L : Int)) : wp 101 (am_ju 101 0) [aP 0, aI i] [] (sT h) Q ↔ Q (aI (if 0 ≤ i ∧ i < L then h 89 i else -1)) (sT h) := by
  simp only [ju_101_0, ju_101_13, ju_101_14, r_iLD1, r_aLD0, r_gR, r_gI, cl_12, r_IF0, cl_100, r_GOTO, r_iCONST, r_iRET, eq_self, Int.reduceLT, Int.reduceLE, Int.reduceEq, true_or, or_true, and_self, true_and, and_true, w8_0, w8_1, w8_2, w8_3, w8_4, nl_I, nl_P, nl_X, pu_I, pu_J, pu_V, kd_0, ln_0, rR_0_0, rR_0_1, rR_0_3, rR_0_4, rR_0_5, rR_0_6, rR_0_7, rR_0_8, rR_0_9, rR_0_10, kd_80, ln_80, rR_80_0, rR_80_1, rR_80_2, rR_80_3, kd_88, ln_88, rR_88_0, s_isBelow, s_sortAt, hn]
  by_cases e : 0 ≤ i ∧ i < L
  · have e2 : sortI h i = h 89 i := by unfold sortI; rw [if_pos ⟨e.1, by omega, by omega⟩]
    simp [e, e2]
  · simp [e]
theorem s_Tpack (h8 : n ≤ 8) (hn : h 81 7 = (n : Int)) (h3 : nb ≤ 3) (hnb : h 81 6 = (nb : Int)) (hgo : ∀ b : Nat, b < nb → 0 ≤ h 93 b ∧ h 93 b < 16) : wp 31 (am_ju 31 0) [aP 0, aI t, aI b] [] (sT h) Q ↔ Q (aI (if (0 ≤ t ∧ t < n) ∧ 0 ≤ b ∧ b < nb then (if tornB (h 93 b).toNat = true then -2 else h 94 t) else -1)) (sT (if ((0 ≤ t ∧ t < n) ∧ 0 ≤ b ∧ b < nb) ∧ ¬ tornB (h 93 b).toNat = true then up h 94 t b else h)) := by
  have hl := ln_93
  have hk := kd_93
  simp only [ju_31_0, ju_31_12, ju_31_14, ju_31_24, r_aLD0, r_gR, r_iLD1, cl_27, r_IF0, r_iLD2, cl_28, r_IF1, r_iCONST, r_iRET, r_iALD, r_iALDs, cl_30, r_bPUSH, cl_21, eq_self, Int.reduceLT, Int.reduceLE, Int.reduceEq, true_or, or_true, and_self, true_and, and_true, w8_0, w8_1, w8_2, w8_3, w8_4, nl_I, nl_P, nl_X, pu_I, pu_J, pu_V, kd_0, ln_0, rR_0_0, rR_0_1, rR_0_3, rR_0_4, rR_0_5, rR_0_6, rR_0_7, rR_0_8, rR_0_9, rR_0_10, kd_80, ln_80, rR_80_0, rR_80_1, rR_80_2, rR_80_3, kd_81, ln_81, rR_81_0, rR_81_1, rR_81_2, rR_81_3, rR_81_4, rR_81_5, kd_90, ln_90, rR_90_0, rR_90_1, rR_90_2, rR_90_3, s_hasThing kd_81, s_hasBag kd_81, hn, hnb]
  by_cases e : 0 ≤ t ∧ t < n
  · by_cases f : 0 ≤ b ∧ b < nb
    · have h1 : 0 ≤ b := f.1
      have h2 : b < 3 := by omega
      obtain ⟨b', eb⟩ := Int.eq_ofNat_of_zero_le h1
      have hg := hgo b' (by omega)
      rw [← eb] at hg
      obtain ⟨g, eg⟩ := Int.eq_ofNat_of_zero_le hg.1
      have hg16 : g < 16 := by omega
      simp (disch := first | assumption | omega | exact w8_0 | exact w8_1 _ | exact w8_2 _ _ | exact w8_3 _ _ _ | exact w8_4 _ _ _ _ | exact nl_I _ | exact nl_P _ | exact nl_X | decide | exact w8_5 _ _ _ _ _) only [e, f, and_self, true_and, if_true, ne_eq, Int.reduceEq, not_false_eq_true, not_true_eq_false, if_false, ju_31_24, r_aLD0, r_gR, r_iLD1, cl_27, r_IF0, r_iLD2, cl_28, r_IF1, r_iCONST, r_iRET, r_iALDc, r_iALDs, cl_30, r_bPUSH, cl_21, eq_self, Int.reduceLT, Int.reduceLE, Int.reduceEq, true_or, or_true, and_self, true_and, and_true, w8_0, w8_1, w8_2, w8_3, w8_4, nl_I, nl_P, nl_X, pu_I, pu_J, pu_V, w3_id, Int.add_zero, kd_0, kd_80, kd_90, rR_0_0, rR_80_2, rR_90_2, eg, s_isTorn hg16, s_moveTo (h := h) (y := b) (t := t) ⟨e.1, by omega⟩, Int.toNat_natCast]
      by_cases z : tornB g = true <;> simp [z]
    · simp [e, f]
  · simp [e]
theorem s_Rpack (h8 : n ≤ 8) (hn : h 150 1 = (n : Int)) (h3 : nb ≤ 3) (hnb : h 150 0 = (nb : Int)) (hgo : ∀ b : Nat, b < nb → 0 ≤ h 150 (6 + 4 * b + 3) ∧ h 150 (6 + 4 * b + 3) < 16) : wp 36 (am_ju 36 0) [aP 149, aI t, aI b, aX] [] (sT h) Q ↔ Q (aI (if (0 ≤ t ∧ t < n) ∧ 0 ≤ b ∧ b < nb then (if tornB (h 150 (6 + 4 * b + 3)).toNat = true then -2 else h 150 (18 + 6 * t + 5)) else -1)) (sT (if ((0 ≤ t ∧ t < n) ∧ 0 ≤ b ∧ b < nb) ∧ ¬ tornB (h 150 (6 + 4 * b + 3)).toNat = true then up h 150 (18 + 6 * t + 5) b else h)) := by
  have hl := ln_150
  have hk := kd_150
  simp only [ju_36_0, ju_36_8, ju_36_10, r_aLD0, r_iLD1, cl_32, r_IF0, r_iLD2, cl_33, r_IF1, r_iCONST, r_iRET, cl_35, r_bPUSH, r_gR, cl_25, r_iADD, r_iALD, r_iALDs, r_iST3, r_iAST, r_iLD3, eq_self, Int.reduceLT, Int.reduceLE, Int.reduceEq, true_or, or_true, and_self, true_and, and_true, w8_0, w8_1, w8_2, w8_3, w8_4, nl_I, nl_P, nl_X, pu_I, pu_J, pu_V, kd_149, ln_149, rR_149_0, rR_149_1, rR_149_2, rR_149_3, rR_149_5, rR_149_7, rR_149_8, rR_149_9, rR_149_10, rR_149_16, rR_149_17, rR_149_18, s_isThing h8 hn, s_isBag h3 hnb]
  by_cases e : 0 ≤ t ∧ t < n
  · by_cases f : 0 ≤ b ∧ b < nb
    · have h1 : 0 ≤ b := f.1
      have h2 : b < 3 := by omega
      have t1 : 0 ≤ t := e.1
      have t2 : t < 8 := by omega
      have hw : w3 (18 + 6 * t + 5) = 18 + 6 * t + 5 := w3_id (by omega) (by omega)
      obtain ⟨b', eb⟩ := Int.eq_ofNat_of_zero_le h1
      have hg := hgo b' (by omega)
      rw [← eb] at hg
      obtain ⟨g, eg⟩ := Int.eq_ofNat_of_zero_le hg.1
      have hg16 : g < 16 := by omega
      simp (disch := first | assumption | omega | exact w8_0 | exact w8_1 _ | exact w8_2 _ _ | exact w8_3 _ _ _ | exact w8_4 _ _ _ _ | exact nl_I _ | exact nl_P _ | exact nl_X | decide | exact w8_5 _ _ _ _ _) only [e, f, and_self, true_and, if_true, ne_eq, Int.reduceEq, not_false_eq_true, not_true_eq_false, if_false, ju_36_16, r_aLD0, r_iLD1, cl_32, r_IF0, r_iLD2, cl_33, r_IF1, r_iCONST, r_iRET, cl_35, r_bPUSH, r_gR, cl_25, r_iADD, r_iALDc, r_iALDs, r_iST3, r_iASTc, r_iLD3, eq_self, Int.reduceLT, Int.reduceLE, Int.reduceEq, true_or, or_true, and_self, true_and, and_true, w8_0, w8_1, w8_2, w8_3, w8_4, nl_I, nl_P, nl_X, pu_I, pu_J, pu_V, w3_id, Int.add_zero, kd_149, rR_149_0, s_RisTorn ⟨h1, h2⟩ hg16 eg, eg, s_thingAt (h := h) (b := t) ⟨by omega, by omega⟩, hw, Int.toNat_natCast]
      by_cases z : tornB g = true <;> simp [z]
    · simp [e, f]
  · simp [e]
end EY
