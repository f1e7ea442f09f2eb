/-- the class's answer to of -/
def ofT (h : am_F) (n : Nat) (b x : Int) : Int := if x = 0 then h 82 b else if x = 1 then h 91 b else if x = 2 then h 92 b else if x = 3 then h 93 b else if x = 4 then (cS h b n : Int) else if x = 5 then sumS (h 83) (cS h b n) 8 else if x = 6 then (h 91 b + h 92 b) / 10 else -1
section OF
variable {h h' : am_F} {Q : am_V → am_S → Prop} {x y t b i pl j c d : Int} {n nb L s : Nat}
theorem s_Tof (hC : CO h n nb L s) (hq : ∀ h', tS h h' → Q (aI (if 0 ≤ b ∧ b < nb then ofT h n b x else -1)) (sT h')) : wp 44 (am_ju 44 0) [aP 0, aI b, aI x] [] (sT h) Q := by
  obtain ⟨c1, c2, c3, c4, c5, c6, c7, c8, c9, c10⟩ := id hC
  simp only [ju_44_0, r_aLD0, r_gR, r_iLD1, cl_28, r_IF1, r_iCONST, r_iRET, cl_39, cl_42, r_iLD2, r_TSW, r_gI, cl_43, eq_self, Int.reduceLT, Int.reduceLE, Int.reduceEq, true_or, or_true, and_self, true_and, and_true, w8_0, w8_1, w8_2, w8_3, w8_4, nl_I, nl_P, nl_X, pu_I, pu_J, pu_V, kd_0, ln_0, rR_0_0, rR_0_1, rR_0_3, rR_0_4, rR_0_5, rR_0_6, rR_0_7, rR_0_8, rR_0_9, rR_0_10, kd_80, ln_80, rR_80_0, rR_80_1, rR_80_2, rR_80_3, kd_81, ln_81, rR_81_0, rR_81_1, rR_81_2, rR_81_3, rR_81_4, rR_81_5, s_hasBag kd_81, c1]
  by_cases f : 0 ≤ b ∧ b < nb
  · obtain ⟨b', rfl⟩ := Int.eq_ofNat_of_zero_le f.1
    obtain ⟨d1, d2, d3, d4⟩ := c10 b' (by omega)
    have hSl := cS_lt (h := h) (b := (b' : Int)) c4
    have hgd := cS_gd (b := (b' : Int)) hC
    simp only [f, and_self, if_true, ne_eq, Int.reduceEq, not_false_eq_true, not_true_eq_false, if_false, ju_44_8, r_aLD0, r_gR, r_iLD1, cl_28, r_IF1, r_iCONST, r_iRET, cl_39, cl_42, r_iLD2, r_TSW, r_gI, cl_43, eq_self, Int.reduceLT, Int.reduceLE, Int.reduceEq, true_or, or_true, and_self, true_and, and_true, w8_0, w8_1, w8_2, w8_3, w8_4, nl_I, nl_P, nl_X, pu_I, pu_J, pu_V, kd_0, ln_0, rR_0_0, rR_0_1, rR_0_3, rR_0_4, rR_0_5, rR_0_6, rR_0_7, rR_0_8, rR_0_9, rR_0_10, kd_80, ln_80, rR_80_0, rR_80_1, rR_80_2, rR_80_3, kd_58, ln_58, s_thingsAt c4 c3]
    rw [show setF (fun t => decide (h 94 t = (b' : Int))) n = cS h b' n from rfl]
    simp only [s_load kd_58 ⟨show (0 : Int) ≤ b' by omega, show (b' : Int) < h 81 6 by omega, show (b' : Int) < 3 by omega⟩ hSl hgd, r_aLD0, r_gR, r_iLD1, cl_28, r_IF1, r_iCONST, r_iRET, cl_39, cl_42, r_iLD2, r_TSW, r_gI, cl_43, eq_self, Int.reduceLT, Int.reduceLE, Int.reduceEq, true_or, or_true, and_self, true_and, and_true, w8_0, w8_1, w8_2, w8_3, w8_4, nl_I, nl_P, nl_X, pu_I, pu_J, pu_V, kd_0, ln_0, rR_0_0, rR_0_1, rR_0_3, rR_0_4, rR_0_5, rR_0_6, rR_0_7, rR_0_8, rR_0_9, rR_0_10, kd_58, ln_58]
    have hq := hq _ (bw_tS (h := h) (k := h 82 b') (w := h 91 b') (r := h 92 b') (g := h 93 b') (S := cS h b' n) (W := sumS (h 83) (cS h b' n) 8) (D := sumS (h 84) (cS h b' n) 8) (E := sumS (h 85) (cS h b' n) 8))
    rw [if_pos f] at hq
    by_cases e : 0 ≤ x ∧ x ≤ 6
    · have hx : x = 0 ∨ x = 1 ∨ x = 2 ∨ x = 3 ∨ x = 4 ∨ x = 5 ∨ x = 6 := by omega
      rcases hx with rfl | rfl | rfl | rfl | rfl | rfl | rfl
      · rw [show tswT [0, 6, 48, 20, 24, 28, 32, 36, 40, 44] 0 = 20 from by decide]
        simp only [ju_44_20, r_aLD0, r_gR, r_iLD1, cl_28, r_IF1, r_iCONST, r_iRET, cl_39, cl_42, r_iLD2, r_TSW, r_gI, cl_43, eq_self, Int.reduceLT, Int.reduceLE, Int.reduceEq, true_or, or_true, and_self, true_and, and_true, w8_0, w8_1, w8_2, w8_3, w8_4, nl_I, nl_P, nl_X, pu_I, pu_J, pu_V, kd_0, ln_0, rR_0_0, rR_0_1, rR_0_3, rR_0_4, rR_0_5, rR_0_6, rR_0_7, rR_0_8, rR_0_9, rR_0_10, kd_58, ln_58, bw_0]; exact hq
      · rw [show tswT [0, 6, 48, 20, 24, 28, 32, 36, 40, 44] 1 = 24 from by decide]
        simp only [ju_44_24, r_aLD0, r_gR, r_iLD1, cl_28, r_IF1, r_iCONST, r_iRET, cl_39, cl_42, r_iLD2, r_TSW, r_gI, cl_43, eq_self, Int.reduceLT, Int.reduceLE, Int.reduceEq, true_or, or_true, and_self, true_and, and_true, w8_0, w8_1, w8_2, w8_3, w8_4, nl_I, nl_P, nl_X, pu_I, pu_J, pu_V, kd_0, ln_0, rR_0_0, rR_0_1, rR_0_3, rR_0_4, rR_0_5, rR_0_6, rR_0_7, rR_0_8, rR_0_9, rR_0_10, kd_58, ln_58, bw_1]; exact hq
      · rw [show tswT [0, 6, 48, 20, 24, 28, 32, 36, 40, 44] 2 = 28 from by decide]
        simp only [ju_44_28, r_aLD0, r_gR, r_iLD1, cl_28, r_IF1, r_iCONST, r_iRET, cl_39, cl_42, r_iLD2, r_TSW, r_gI, cl_43, eq_self, Int.reduceLT, Int.reduceLE, Int.reduceEq, true_or, or_true, and_self, true_and, and_true, w8_0, w8_1, w8_2, w8_3, w8_4, nl_I, nl_P, nl_X, pu_I, pu_J, pu_V, kd_0, ln_0, rR_0_0, rR_0_1, rR_0_3, rR_0_4, rR_0_5, rR_0_6, rR_0_7, rR_0_8, rR_0_9, rR_0_10, kd_58, ln_58, bw_2]; exact hq
      · rw [show tswT [0, 6, 48, 20, 24, 28, 32, 36, 40, 44] 3 = 32 from by decide]
        simp only [ju_44_32, r_aLD0, r_gR, r_iLD1, cl_28, r_IF1, r_iCONST, r_iRET, cl_39, cl_42, r_iLD2, r_TSW, r_gI, cl_43, eq_self, Int.reduceLT, Int.reduceLE, Int.reduceEq, true_or, or_true, and_self, true_and, and_true, w8_0, w8_1, w8_2, w8_3, w8_4, nl_I, nl_P, nl_X, pu_I, pu_J, pu_V, kd_0, ln_0, rR_0_0, rR_0_1, rR_0_3, rR_0_4, rR_0_5, rR_0_6, rR_0_7, rR_0_8, rR_0_9, rR_0_10, kd_58, ln_58, bw_3]; exact hq
      · rw [show tswT [0, 6, 48, 20, 24, 28, 32, 36, 40, 44] 4 = 36 from by decide]
        simp only [ju_44_36, r_aLD0, r_gR, r_iLD1, cl_28, r_IF1, r_iCONST, r_iRET, cl_39, cl_42, r_iLD2, r_TSW, r_gI, cl_43, eq_self, Int.reduceLT, Int.reduceLE, Int.reduceEq, true_or, or_true, and_self, true_and, and_true, w8_0, w8_1, w8_2, w8_3, w8_4, nl_I, nl_P, nl_X, pu_I, pu_J, pu_V, kd_0, ln_0, rR_0_0, rR_0_1, rR_0_3, rR_0_4, rR_0_5, rR_0_6, rR_0_7, rR_0_8, rR_0_9, rR_0_10, kd_58, ln_58, bw_4]; exact hq
      · rw [show tswT [0, 6, 48, 20, 24, 28, 32, 36, 40, 44] 5 = 40 from by decide]
        simp only [ju_44_40, r_aLD0, r_gR, r_iLD1, cl_28, r_IF1, r_iCONST, r_iRET, cl_39, cl_42, r_iLD2, r_TSW, r_gI, cl_43, eq_self, Int.reduceLT, Int.reduceLE, Int.reduceEq, true_or, or_true, and_self, true_and, and_true, w8_0, w8_1, w8_2, w8_3, w8_4, nl_I, nl_P, nl_X, pu_I, pu_J, pu_V, kd_0, ln_0, rR_0_0, rR_0_1, rR_0_3, rR_0_4, rR_0_5, rR_0_6, rR_0_7, rR_0_8, rR_0_9, rR_0_10, kd_58, ln_58, bw_5]; exact hq
      · rw [show tswT [0, 6, 48, 20, 24, 28, 32, 36, 40, 44] 6 = 44 from by decide]
        simp only [ju_44_44, r_aLD0, r_gR, r_iLD1, cl_28, r_IF1, r_iCONST, r_iRET, cl_39, cl_42, r_iLD2, r_TSW, r_gI, cl_43, eq_self, Int.reduceLT, Int.reduceLE, Int.reduceEq, true_or, or_true, and_self, true_and, and_true, w8_0, w8_1, w8_2, w8_3, w8_4, nl_I, nl_P, nl_X, pu_I, pu_J, pu_V, kd_0, ln_0, rR_0_0, rR_0_1, rR_0_3, rR_0_4, rR_0_5, rR_0_6, rR_0_7, rR_0_8, rR_0_9, rR_0_10, kd_58, ln_58, s_sag kd_58 d2 d3]; exact hq
    · rw [show tswT [0, 6, 48, 20, 24, 28, 32, 36, 40, 44] x = 48 from by
        show (if 0 ≤ x ∧ x ≤ 6 then _ else (48 : Int)) = 48
        exact if_neg e]
      simp only [ju_44_48, r_aLD0, r_gR, r_iLD1, cl_28, r_IF1, r_iCONST, r_iRET, cl_39, cl_42, r_iLD2, r_TSW, r_gI, cl_43, eq_self, Int.reduceLT, Int.reduceLE, Int.reduceEq, true_or, or_true, and_self, true_and, and_true, w8_0, w8_1, w8_2, w8_3, w8_4, nl_I, nl_P, nl_X, pu_I, pu_J, pu_V]
      unfold ofT at hq
      rw [if_neg (by omega), if_neg (by omega), if_neg (by omega), if_neg (by omega), if_neg (by omega), if_neg (by omega), if_neg (by omega)] at hq
      exact hq
  · have := hq h (fun _ _ => rfl)
    rw [if_neg f] at this
    simp only [f, if_true, if_false, ne_eq, Int.reduceEq, not_true_eq_false, not_false_eq_true]
    exact this
end OF
