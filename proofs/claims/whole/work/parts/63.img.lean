section IM
variable {h h' h1 h2 : am_F} {Q : am_V → am_S → Prop} {x v c d i : Int} {n nb L s K nx q : Nat}
theorem s_Timage (hq : ∀ h', (∀ a k, lv a k → h' (a + -79) k = h (a + 0) k) → (∀ a, a < 1 ∨ 57 < a → h' a = h a) → Q (aI 1) (sT (up h' 0 2 1))) : wp 200 (am_ju 200 0) [aP 0] [] (sT h) Q := by
  simp only [ju_200_0, r_aLD0, r_gR, cl_199, r_iCONST, r_pZ, r_iRET, eq_self, Int.reduceLT, Int.reduceLE, Int.reduceEq, true_or, or_true, and_self, true_and, and_true, w8_0, w8_1, w8_2, w8_3, w8_4, nl_I, nl_P, nl_X, pu_I, pu_J, pu_V, kd_0, ln_0, rR_0_0, rR_0_1, rR_0_3, rR_0_4, rR_0_5, rR_0_6, rR_0_7, rR_0_8, rR_0_9, rR_0_10, kd_1, ln_1, rR_1_0, rR_1_1, rR_1_2, rR_1_3]
  refine s_wTkK (fun h' a b => ?_)
  simp only [r_aLD0, r_gR, cl_199, r_iCONST, r_pZ, r_iRET, eq_self, Int.reduceLT, Int.reduceLE, Int.reduceEq, true_or, or_true, and_self, true_and, and_true, w8_0, w8_1, w8_2, w8_3, w8_4, nl_I, nl_P, nl_X, pu_I, pu_J, pu_V, kd_0, ln_0, rR_0_0, rR_0_1, rR_0_3, rR_0_4, rR_0_5, rR_0_6, rR_0_7, rR_0_8, rR_0_9, rR_0_10, or_true]
  exact hq h' a b
theorem s_Trestore (hq : ∀ h', (∀ a k, lv a k → h' (a + 0) k = h (a + -79) k) → (∀ a, a < 80 ∨ 136 < a → h' a = h a) → h 0 2 ≠ 0 → Q (aI 1) (sT h')) (hq0 : h 0 2 = 0 → Q (aI (-4)) (sT h)) : wp 202 (am_ju 202 0) [aP 0] [] (sT h) Q := by
  by_cases z : h 0 2 = 0
  · simp only [ju_202_0, ju_202_5, r_aLD0, r_gI, r_IF1, r_bPUSH, r_iRET, r_gR, cl_199, r_iCONST, eq_self, Int.reduceLT, Int.reduceLE, Int.reduceEq, true_or, or_true, and_self, true_and, and_true, w8_0, w8_1, w8_2, w8_3, w8_4, nl_I, nl_P, nl_X, pu_I, pu_J, pu_V, kd_0, ln_0, rR_0_0, rR_0_1, rR_0_3, rR_0_4, rR_0_5, rR_0_6, rR_0_7, rR_0_8, rR_0_9, rR_0_10, kd_80, ln_80, rR_80_0, rR_80_1, rR_80_2, rR_80_3, z, not_true_eq_false, if_false]
    exact hq0 z
  · simp only [ju_202_0, ju_202_5, r_aLD0, r_gI, r_IF1, r_bPUSH, r_iRET, r_gR, cl_199, r_iCONST, eq_self, Int.reduceLT, Int.reduceLE, Int.reduceEq, true_or, or_true, and_self, true_and, and_true, w8_0, w8_1, w8_2, w8_3, w8_4, nl_I, nl_P, nl_X, pu_I, pu_J, pu_V, kd_0, ln_0, rR_0_0, rR_0_1, rR_0_3, rR_0_4, rR_0_5, rR_0_6, rR_0_7, rR_0_8, rR_0_9, rR_0_10, kd_80, ln_80, rR_80_0, rR_80_1, rR_80_2, rR_80_3, z, not_false_eq_true, if_true]
    refine s_wTkW (fun h' a b => ?_)
    simp only [r_aLD0, r_gI, r_IF1, r_bPUSH, r_iRET, r_gR, cl_199, r_iCONST, eq_self, Int.reduceLT, Int.reduceLE, Int.reduceEq, true_or, or_true, and_self, true_and, and_true, w8_0, w8_1, w8_2, w8_3, w8_4, nl_I, nl_P, nl_X, pu_I, pu_J, pu_V]
    exact hq h' a b z
theorem b_image (hI : INV h) : Both 200 201 [aP 0] [aP 149] h := by
  obtain ⟨hW, hK, hT, hS⟩ := hI
  refine s_Timage (fun g ga gb => ⟨_, _, rfl, rfl, by rw [up_ne (by decide), gb _ (by omega)], ?_⟩)
  rw [s_Rimage]
  have f : ∀ a, 57 < a → a ≠ 149 → a ≠ 153 → up (cpy (up g 0 2 1) 150 0 153 0 238) 149 4 1 a = h a := fun a q1 q2 q3 => by rw [up_ne q2, cpy_out q3, up_ne (by omega), gb a (by omega)]
  have f9 : ∀ k, k ≠ 4 → up (cpy (up g 0 2 1) 150 0 153 0 238) 149 4 1 149 k = h 149 k := fun k q => by rw [up_k q, cpy_out (by decide), up_ne (by decide), gb _ (by omega)]
  refine ⟨_, rfl, rfl, by rw [up_ne (by decide), cpy_out (by decide), up_ne (by decide), gb _ (by omega)], ?_, ⟨?_, Or.inr ⟨up_s, ?_⟩⟩, ?_, ?_⟩
  · exact WX_mv (fun a k q => by unfold lv at q; rw [f _ (by omega) (by omega) (by omega)]) (fun k _ _ => by rw [f _ (by omega) (by omega) (by omega)]) hW
  · rw [up_ne (by decide), cpy_out (by decide), up_s, up_s]
  · refine WX_mv (fun a k q => ?_) (fun k k0 k1 => ?_) hW
    · have := ga a k q
      unfold lv at q
      rw [up_ne (by omega), cpy_out (by omega), up_ne (by omega), this]
    · rw [up_ne (by decide), cpy_hit k0 k1, up_ne (by decide), gb _ (by omega)]
  · exact TP_c (by rw [f _ (by omega) (by omega) (by omega)]) (f9 6 (by decide)) (fun i _ => by rw [f _ (by omega) (by omega) (by omega)]) (fun i _ => by rw [f _ (by omega) (by omega) (by omega)]) hT
  · exact SH_c (fun a k _ _ _ => by rw [f _ (by omega) (by omega) (by omega)]) (fun a k _ _ _ => by rw [f _ (by omega) (by omega) (by omega)]) hS
theorem b_restore (hI : INV h) : Both 202 203 [aP 0] [aP 149] h := by
  obtain ⟨hW, hK, hT, hS⟩ := id hI
  obtain ⟨k1, k2⟩ := id hK
  refine s_Trestore (fun g ga gb z => ⟨_, _, rfl, rfl, by rw [gb _ (by omega)], ?_⟩) (fun z => ⟨_, h, rfl, rfl, rfl, ?_⟩)
  · have z9 : g 149 4 ≠ 0 := by rw [gb _ (by omega), ← k1]; exact z
    rw [s_Rrestore, if_neg z9, if_neg z9]
    have hK1 : WX h (-79) 153 := by
      rcases k2 with y | y
      · rw [k1] at z; exact absurd y z
      · exact y.2
    have f : ∀ a, (a < 80 ∨ 136 < a) → a ≠ 150 → cpy g 153 0 150 0 238 a = h a := fun a q1 q2 => by rw [cpy_out q2, gb a (by omega)]
    refine ⟨_, rfl, rfl, f _ (by omega) (by omega), INV_w hI (fun a k q1 q2 _ => by rw [f a q1 q2]) (WX_mv (fun a k q => ?_) (fun k k0 k1 => ?_) hK1)⟩
    · have := ga a k q
      unfold lv at q
      rw [cpy_out (by omega), this]
    · rw [cpy_hit k0 k1, gb _ (by omega)]
  · rw [s_Rrestore, if_pos (by rw [← k1]; exact z), if_pos (by rw [← k1]; exact z)]
    exact ⟨_, rfl, rfl, rfl, hI⟩
theorem s_Tadd {l : Nat} (hl : h 59 1 = (l : Int)) (h100 : l < 100) : wp 64 (am_ju 64 0) [aP 59, aI x] [] (sT h) Q ↔ Q aV (sT (up (up h 60 l x) 59 1 ((l + 1 : Nat) : Int))) := by
  have l1 := ln_60
  have k1 := kd_60
  have l2 : (l : Int) < 100 := by omega
  have e : up h 60 l x 59 1 = (l : Int) := by rw [up_ne (by decide), hl]
  have e4 : (l : Int) + 1 = ((l + 1 : Nat) : Int) := by omega
  simp (disch := first | assumption | omega | exact w8_0 | exact w8_1 _ | exact w8_2 _ _ | exact w8_3 _ _ _ | exact w8_4 _ _ _ _ | exact nl_I _ | exact nl_P _ | exact nl_X | decide | exact w8_5 _ _ _ _ _) only [ju_64_0, ju_64_5, r_aLD0, r_gI, r_bPUSH, r_IC2, r_vRET, r_gR, r_iLD1, r_iASTc, r_DUPI, r_DUPP, r_iCONST, r_iADD, r_pI, eq_self, Int.reduceLT, Int.reduceLE, Int.reduceEq, true_or, or_true, and_self, true_and, and_true, w8_0, w8_1, w8_2, w8_3, w8_4, nl_I, nl_P, nl_X, pu_I, pu_J, pu_V, w3_id, Int.add_zero, kd_59, rR_59_0, hl, l2, if_true, e, e4]
theorem b_type (hI : INV h) : Both 65 66 [aP 0, aI x] [aP 149, aI x] h := by
  obtain ⟨hW, hK, ⟨l, t1, t2, t3, t4⟩, hS⟩ := id hI
  have l1 := ln_154
  have k1 := kd_154
  unfold Both
  simp only [ju_65_0, ju_65_6, r_iLD1, r_bPUSH, r_IC2, r_IC5, r_iCONST, r_iRET, r_aLD0, r_gR, r_gI, cl_64, eq_self, Int.reduceLT, Int.reduceLE, Int.reduceEq, true_or, or_true, and_self, true_and, and_true, w8_0, w8_1, w8_2, w8_3, w8_4, nl_I, nl_P, nl_X, pu_I, pu_J, pu_V]
  by_cases e : 32 ≤ x ∧ x ≤ 126
  · rw [if_neg (show ¬ x < 32 by omega), if_pos e.2]
    simp only [ju_65_8, r_iLD1, r_bPUSH, r_IC2, r_IC5, r_iCONST, r_iRET, r_aLD0, r_gR, r_gI, cl_64, eq_self, Int.reduceLT, Int.reduceLE, Int.reduceEq, true_or, or_true, and_self, true_and, and_true, w8_0, w8_1, w8_2, w8_3, w8_4, nl_I, nl_P, nl_X, pu_I, pu_J, pu_V, kd_0, ln_0, rR_0_0, rR_0_1, rR_0_3, rR_0_4, rR_0_5, rR_0_6, rR_0_7, rR_0_8, rR_0_9, rR_0_10, kd_59, ln_59, rR_59_0, t2]
    by_cases f : l = 100
    · rw [if_neg (by omega)]
      refine ⟨_, _, rfl, rfl, rfl, ?_⟩
      simp only [ju_66_0, ju_66_7, r_iLD1, r_bPUSH, cl_17, r_IF1, r_iCONST, r_iRET, r_aLD0, r_gI, r_IC1, r_gR, r_iAST, r_DUPI, r_DUPP, r_iADD, r_pI, eq_self, Int.reduceLT, Int.reduceLE, Int.reduceEq, true_or, or_true, and_self, true_and, and_true, w8_0, w8_1, w8_2, w8_3, w8_4, nl_I, nl_P, nl_X, pu_I, pu_J, pu_V, kd_149, ln_149, rR_149_0, rR_149_1, rR_149_2, rR_149_3, rR_149_5, rR_149_7, rR_149_8, rR_149_9, rR_149_10, rR_149_16, rR_149_17, rR_149_18, s_in, e, and_self, if_true, t3, Int.reduceEq, not_false_eq_true]
      rw [if_neg (by omega)]
      exact ⟨_, rfl, rfl, hI⟩
    · have e6 : up (up h 60 l x) 59 1 ((l + 1 : Nat) : Int) 59 1 = ((l + 1 : Nat) : Int) := up_s
      rw [if_pos (by omega)]
      simp only [ju_65_15, r_iLD1, r_bPUSH, r_IC2, r_IC5, r_iCONST, r_iRET, r_aLD0, r_gR, r_gI, cl_64, eq_self, Int.reduceLT, Int.reduceLE, Int.reduceEq, true_or, or_true, and_self, true_and, and_true, w8_0, w8_1, w8_2, w8_3, w8_4, nl_I, nl_P, nl_X, pu_I, pu_J, pu_V, kd_0, ln_0, rR_0_0, rR_0_1, rR_0_3, rR_0_4, rR_0_5, rR_0_6, rR_0_7, rR_0_8, rR_0_9, rR_0_10, kd_59, ln_59, rR_59_0, s_Tadd t2 (show l < 100 by omega), e6]
      refine ⟨_, _, rfl, rfl, by rw [up_ne (by decide), up_ne (by decide)], ?_⟩
      have l2 : (l : Int) < 100 := by omega
      generalize hg : up (up h 60 l x) 59 1 ((l + 1 : Nat) : Int) = g
      have g6 : g 149 6 = (l : Int) := by rw [← hg]; simp (disch := first | omega | decide) only [up_k, up_ne, up_s, Int.add_zero, ne_eq, not_false_eq_true]; exact t3
      have e7 : up g 154 l x 149 6 = (l : Int) := by rw [up_ne (by decide), g6]
      have e4 : (l : Int) + 1 = ((l + 1 : Nat) : Int) := by omega
      have e8 : up (up g 154 l x) 149 6 ((l + 1 : Nat) : Int) 149 6 = ((l + 1 : Nat) : Int) := up_s
      have l100 : ¬ ((l : Int) = 100) := by omega
      simp (disch := first | assumption | omega | exact w8_0 | exact w8_1 _ | exact w8_2 _ _ | exact w8_3 _ _ _ | exact w8_4 _ _ _ _ | exact nl_I _ | exact nl_P _ | exact nl_X | decide | exact w8_5 _ _ _ _ _) only [ju_66_0, ju_66_7, ju_66_13, r_iLD1, r_bPUSH, cl_17, r_IF1, r_iCONST, r_iRET, r_aLD0, r_gI, r_IC1, r_gR, r_iASTc, r_DUPI, r_DUPP, r_iADD, r_pI, eq_self, Int.reduceLT, Int.reduceLE, Int.reduceEq, true_or, or_true, and_self, true_and, and_true, w8_0, w8_1, w8_2, w8_3, w8_4, nl_I, nl_P, nl_X, pu_I, pu_J, pu_V, w3_id, Int.add_zero, kd_149, rR_149_5, s_in, e, and_self, if_true, g6, Int.reduceEq, not_false_eq_true, l100, e7, e4, e8]
      have gc : ∀ a, a ≠ 59 → a ≠ 60 → g a = h a := fun a q1 q2 => by rw [← hg, up_ne q1, up_ne q2]
      have f1 : ∀ a, a ≠ 59 → a ≠ 60 → a ≠ 149 → a ≠ 154 → up (up g 154 l x) 149 6 ((l + 1 : Nat) : Int) a = h a := fun a q1 q2 q3 q4 => by rw [up_ne q3, up_ne q4, gc a q1 q2]
      refine ⟨_, rfl, f1 _ (by decide) (by decide) (by decide) (by decide), ?_, ?_, ⟨l + 1, by omega, ?_, up_s, fun i hi => ?_⟩, ?_⟩
      · exact WX_mv (fun a k q => by unfold lv at q; rw [f1 _ (by omega) (by omega) (by omega) (by omega)]) (fun k _ _ => by rw [f1 _ (by omega) (by omega) (by omega) (by omega)]) hW
      · exact KP_c (fun a k q => by unfold lv at q; rw [f1 _ (by omega) (by omega) (by omega) (by omega)]) (fun k _ _ => by rw [f1 _ (by omega) (by omega) (by omega) (by omega)]) (by rw [f1 _ (by omega) (by omega) (by omega) (by omega)]) (by rw [up_k (by decide), up_ne (by decide), gc _ (by decide) (by decide)]) hK
      · rw [up_ne (by decide), up_ne (by decide), ← hg, up_s]
      · have A : up (up g 154 l x) 149 6 ((l + 1 : Nat) : Int) 60 = g 60 := by rw [up_ne (by decide), up_ne (by decide)]
        have B : up (up g 154 l x) 149 6 ((l + 1 : Nat) : Int) 154 = up g 154 l x 154 := by rw [up_ne (by decide)]
        rw [A, B]
        by_cases ei : i = l
        · subst ei
          rw [up_s, ← hg, up_ne (by decide), up_s]
          exact ⟨rfl, e⟩
        · rw [up_k (by omega), gc 154 (by decide) (by decide), ← hg, up_ne (by decide), up_k (by omega)]
          exact t4 i (by omega)
      · exact SH_c (fun a k _ _ _ => by rw [f1 _ (by omega) (by omega) (by omega) (by omega)]) (fun a k _ _ _ => by rw [f1 _ (by omega) (by omega) (by omega) (by omega)]) hS
  · have key : wp 66 (am_ju 66 0) [aP 149, aI x] [] (sT h) (fun r st => ∃ h2, r = aI (-1) ∧ st = sT h2 ∧ h2 (-1) = h (-1) ∧ INV h2) := by
      simp only [ju_66_0, r_iLD1, r_bPUSH, cl_17, r_IF1, r_iCONST, r_iRET, r_aLD0, r_gI, r_IC1, r_gR, r_iAST, r_DUPI, r_DUPP, r_iADD, r_pI, eq_self, Int.reduceLT, Int.reduceLE, Int.reduceEq, true_or, or_true, and_self, true_and, and_true, w8_0, w8_1, w8_2, w8_3, w8_4, nl_I, nl_P, nl_X, pu_I, pu_J, pu_V, s_in, e, if_false, not_true_eq_false]
      exact ⟨_, rfl, rfl, hI⟩
    by_cases f : x < 32
    · rw [if_pos f]
      exact ⟨_, _, rfl, rfl, rfl, key⟩
    · rw [if_neg f, if_neg (show ¬ x ≤ 126 by omega)]
      exact ⟨_, _, rfl, rfl, rfl, key⟩
end IM
