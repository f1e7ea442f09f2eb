/-- all cells but the bag the class looks at are as they were -/
def tS (h h' : am_F) : Prop := ∀ a : Int, a ≠ 58 → h' a = h a
section EX
variable {h h' : am_F} {Q : am_V → am_S → Prop} {x y t b i pl j : Int} {n nb L s : Nat}
theorem bw_tS {k w r g S W D E : Int} : tS h (bw h 58 k w r g S W D E) := by
  intro a ha
  funext x
  unfold bw
  rw [up_ne ha, up_ne ha, up_ne ha, up_ne ha, up_ne ha, up_ne ha, up_ne ha, up_ne ha]
theorem s_Tagain : wp 130 (am_ju 130 0) [aP 0, aX] [] (sT h) Q ↔ Q (aI (h 90 4)) (sT (up h 90 4 0)) := by
  simp only [ju_130_0, r_aLD0, r_gR, r_gI, r_iST1, r_iCONST, r_pI, r_iLD1, r_iRET, eq_self, Int.reduceLT, Int.reduceLE, Int.reduceEq, true_or, or_true, and_self, true_and, and_true, w8_0, w8_1, w8_2, w8_3, w8_4, nl_I, nl_P, nl_X, pu_I, pu_J, pu_V, kd_0, ln_0, rR_0_0, rR_0_1, rR_0_3, rR_0_4, rR_0_5, rR_0_6, rR_0_7, rR_0_8, rR_0_9, rR_0_10, kd_80, ln_80, rR_80_0, rR_80_1, rR_80_2, rR_80_3, kd_90, ln_90, rR_90_0, rR_90_1, rR_90_2, rR_90_3]
theorem s_Ragain : wp 131 (am_ju 131 0) [aP 149, aX] [] (sT h) Q ↔ Q (aI (h 150 3)) (sT (up h 150 3 0)) := by
  simp only [ju_131_0, r_aLD0, r_gR, r_iCONST, r_iALD, r_iALDs, r_iST1, r_iAST, r_iLD1, r_iRET, eq_self, Int.reduceLT, Int.reduceLE, Int.reduceEq, true_or, or_true, and_self, true_and, and_true, w8_0, w8_1, w8_2, w8_3, w8_4, nl_I, nl_P, nl_X, pu_I, pu_J, pu_V, kd_149, ln_149, rR_149_0, rR_149_1, rR_149_2, rR_149_3, rR_149_5, rR_149_7, rR_149_8, rR_149_9, rR_149_10, rR_149_16, rR_149_17, rR_149_18, kd_150, ln_150]
theorem s_Tstrength (hC : CO h n nb L s) (hq : ∀ h', tS h h' → Q (aI (if (0 ≤ b ∧ b < nb) ∧ 0 ≤ pl ∧ pl < 4 then stren (h 82 b) (h 91 b) (h 92 b) pl else -1)) (sT h')) : wp 52 (am_ju 52 0) [aP 0, aI b, aI pl] [] (sT h) Q := by
  obtain ⟨c1, c2, c3, c4, c5, c6, c7, c8, c9, c10⟩ := id hC
  simp only [ju_52_0, ju_52_10, r_aLD0, r_gR, r_iLD1, cl_28, r_IF0, r_iLD2, r_iCONST, cl_12, r_IF1, r_iRET, cl_39, cl_42, cl_51, eq_self, Int.reduceLT, Int.reduceLE, Int.reduceEq, true_or, or_true, and_self, true_and, and_true, w8_0, w8_1, w8_2, w8_3, w8_4, nl_I, nl_P, nl_X, pu_I, pu_J, pu_V, kd_0, ln_0, rR_0_0, rR_0_1, rR_0_3, rR_0_4, rR_0_5, rR_0_6, rR_0_7, rR_0_8, rR_0_9, rR_0_10, kd_80, ln_80, rR_80_0, rR_80_1, rR_80_2, rR_80_3, kd_81, ln_81, rR_81_0, rR_81_1, rR_81_2, rR_81_3, rR_81_4, rR_81_5, s_hasBag kd_81, s_isBelow, c1]
  by_cases f : 0 ≤ b ∧ b < nb
  · by_cases e : 0 ≤ pl ∧ pl < 4
    · obtain ⟨b', rfl⟩ := Int.eq_ofNat_of_zero_le f.1
      obtain ⟨d1, d2, d3, d4⟩ := c10 b' (by omega)
      have hSl := cS_lt (h := h) (b := (b' : Int)) c4
      have hgd := cS_gd (b := (b' : Int)) hC
      simp only [e, f, and_self, if_true, ne_eq, Int.reduceEq, not_false_eq_true, not_true_eq_false, if_false, ju_52_12, r_aLD0, r_gR, r_iLD1, cl_28, r_IF0, r_iLD2, r_iCONST, cl_12, r_IF1, r_iRET, cl_39, cl_42, cl_51, eq_self, Int.reduceLT, Int.reduceLE, Int.reduceEq, true_or, or_true, and_self, true_and, and_true, w8_0, w8_1, w8_2, w8_3, w8_4, nl_I, nl_P, nl_X, pu_I, pu_J, pu_V, kd_0, ln_0, rR_0_0, rR_0_1, rR_0_3, rR_0_4, rR_0_5, rR_0_6, rR_0_7, rR_0_8, rR_0_9, rR_0_10, kd_80, ln_80, rR_80_0, rR_80_1, rR_80_2, rR_80_3, kd_58, ln_58, s_thingsAt c4 c3]
      rw [show setF (fun t => decide (h 94 t = (b' : Int))) n = cS h b' n from rfl]
      simp only [s_load kd_58 ⟨show (0 : Int) ≤ b' by omega, show (b' : Int) < h 81 6 by omega, show (b' : Int) < 3 by omega⟩ hSl hgd, r_aLD0, r_gR, r_iLD1, cl_28, r_IF0, r_iLD2, r_iCONST, cl_12, r_IF1, r_iRET, cl_39, cl_42, cl_51, eq_self, Int.reduceLT, Int.reduceLE, Int.reduceEq, true_or, or_true, and_self, true_and, and_true, w8_0, w8_1, w8_2, w8_3, w8_4, nl_I, nl_P, nl_X, pu_I, pu_J, pu_V, kd_0, ln_0, rR_0_0, rR_0_1, rR_0_3, rR_0_4, rR_0_5, rR_0_6, rR_0_7, rR_0_8, rR_0_9, rR_0_10, kd_58, ln_58, s_strengthAt kd_58 d1 d2 d3]
      have := hq _ (bw_tS (h := h) (k := h 82 b') (w := h 91 b') (r := h 92 b') (g := h 93 b') (S := cS h b' n) (W := sumS (h 83) (cS h b' n) 8) (D := sumS (h 84) (cS h b' n) 8) (E := sumS (h 85) (cS h b' n) 8))
      rw [if_pos ⟨f, e⟩] at this
      exact this
    · have := hq h (fun _ _ => rfl)
      rw [if_neg (fun z => e z.2)] at this
      simp only [e, f, and_self, if_true, if_false, ne_eq, Int.reduceEq, not_true_eq_false, not_false_eq_true]
      exact this
  · have := hq h (fun _ _ => rfl)
    rw [if_neg (fun z => f z.1)] at this
    simp only [f, if_true, if_false, ne_eq, Int.reduceEq, not_true_eq_false, not_false_eq_true]
    exact this
theorem s_Rstrength (hR : RO h 150 n nb L) : wp 54 (am_ju 54 0) [aP 149, aI b, aI pl] [] (sT h) Q ↔ Q (aI (if (0 ≤ b ∧ b < nb) ∧ 0 ≤ pl ∧ pl < 4 then stren (h 150 (6 + 4 * b)) (h 150 (6 + 4 * b + 1)) (h 150 (6 + 4 * b + 2)) pl else -1)) (sT h) := by
  obtain ⟨r0, hnb3, r1, h8, r2, hL, ht, hbk⟩ := hR
  simp only [ju_54_0, ju_54_15, ju_54_16, r_aLD0, r_iLD1, cl_33, r_IF0, r_iLD2, r_iCONST, cl_17, r_gR, cl_53, r_GOTO, r_iRET, eq_self, Int.reduceLT, Int.reduceLE, Int.reduceEq, true_or, or_true, and_self, true_and, and_true, w8_0, w8_1, w8_2, w8_3, w8_4, nl_I, nl_P, nl_X, pu_I, pu_J, pu_V, kd_149, ln_149, rR_149_0, rR_149_1, rR_149_2, rR_149_3, rR_149_5, rR_149_7, rR_149_8, rR_149_9, rR_149_10, rR_149_16, rR_149_17, rR_149_18, s_isBag hnb3 r0, s_in]
  by_cases f : 0 ≤ b ∧ b < nb
  · by_cases e : 0 ≤ pl ∧ pl < 4
    · obtain ⟨b', rfl⟩ := Int.eq_ofNat_of_zero_le f.1
      obtain ⟨d1, d2, d3, d4⟩ := hbk b' (by omega)
      have e3 : 0 ≤ pl ∧ pl ≤ 3 := ⟨e.1, by omega⟩
      simp only [e, e3, f, and_self, if_true, ne_eq, Int.reduceEq, not_false_eq_true, not_true_eq_false, if_false, r_aLD0, r_iLD1, cl_33, r_IF0, r_iLD2, r_iCONST, cl_17, r_gR, cl_53, r_GOTO, r_iRET, eq_self, Int.reduceLT, Int.reduceLE, Int.reduceEq, true_or, or_true, and_self, true_and, and_true, w8_0, w8_1, w8_2, w8_3, w8_4, nl_I, nl_P, nl_X, pu_I, pu_J, pu_V, kd_149, ln_149, rR_149_0, rR_149_1, rR_149_2, rR_149_3, rR_149_5, rR_149_7, rR_149_8, rR_149_9, rR_149_10, rR_149_16, rR_149_17, rR_149_18, kd_150, ln_150, s_strengthOf kd_150 ln_150 ⟨f.1, (by omega : (b' : Int) < 3)⟩ rfl rfl rfl d1 d2 d3 e3]
    · have e3 : ¬ (0 ≤ pl ∧ pl ≤ 3) := fun z => e ⟨z.1, by omega⟩
      simp [e, e3, f]
  · simp [f]
end EX
