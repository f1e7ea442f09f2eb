section FN
variable {g h h' h1 h2 u : am_F} {Q : am_V → am_S → Prop} {so j bj x y z i o c : Int} {n nb L s K nx b m k a q B : Nat}
abbrev okF (bj x y : Int) : Prop := (0 ≤ bj ∧ bj < 8) ∧ (0 ≤ x ∧ x < 4) ∧ 0 ≤ y ∧ y < 4
theorem s_Tfilm (hC : CO h n nb L s) (hS : SH h) (hq : ∀ g, oR h g → okF bj x y → refu h (72 + 2 * x) y i ((L - s : Nat) : Int) = 0 → Q (aI ((L - s : Nat) : Int)) (sT (itF h g n nb s bj y (73 + 2 * x) i (L - s)))) (hq1 : okF bj x y → refu h (72 + 2 * x) y i ((L - s : Nat) : Int) ≠ 0 → Q (aI (refu h (72 + 2 * x) y i ((L - s : Nat) : Int))) (sT h)) (hq0 : ¬ okF bj x y → Q (aI (-1)) (sT h)) : wp 218 (am_ju 218 0) [aP 0, aI bj, aI x, aI y, aI i, aX, aX, aX] [] (sT h) Q := by
  obtain ⟨c1, c2, c3, c4, c5, c6, c7, c8, c9, c10⟩ := id hC
  simp only [ju_218_0, ju_218_8, r_iLD1, r_bPUSH, cl_12, r_IF0, r_iLD2, r_iLD3, cl_204, r_IF1, r_iCONST, r_iRET, r_aLD0, r_gR, cl_109, r_iST5, r_aALD, r_iLD4, r_iLD5, cl_206, r_iST6, r_iLD6, cl_215, r_iST7, r_iLD7, r_IC3, r_iADD, r_gI, r_iALD, r_iALDs, r_ITL, cl_217, r_IINC7, r_GOTO, eq_self, Int.reduceLT, Int.reduceLE, Int.reduceEq, true_or, or_true, and_self, true_and, and_true, w8_0, w8_1, w8_2, w8_3, w8_4, nl_I, nl_P, nl_X, pu_I, pu_J, pu_V, s_isBelow, s_isSL]
  by_cases e1 : 0 ≤ bj ∧ bj < 8
  · rw [if_neg (by simp [e1])]
    by_cases e2 : (0 ≤ x ∧ x < 4) ∧ 0 ≤ y ∧ y < 4
    · have ok : okF bj x y := ⟨e1, e2⟩
      obtain ⟨q, rfl⟩ := Int.eq_ofNat_of_zero_le e2.1.1
      have hq4 : q < 4 := by omega
      obtain ⟨k1, r1, r2, k2, l2⟩ := sh_q q hq4
      obtain ⟨s1, s2, s3, s4⟩ := hS q hq4
      have kk : kd 71 = 22 ∨ kd 71 = 23 := Or.inr kd_71
      have q0 : (0 : Int) ≤ (q : Int) := by omega
      have q4 : (q : Int) < 4 := by omega
      have r0 : (0 : Int) ≤ rR 71 q := by rw [r1]; omega
      have hl : 0 ≤ h (72 + 2 * (q : Int)) 3 ∧ h (72 + 2 * (q : Int)) 3 ≤ 24 := by rw [s1]; exact s2
      rw [if_pos (by simp [e2]), ju_218_10]
      simp (disch := first | assumption | omega | exact w8_0 | exact w8_1 _ | exact w8_2 _ _ | exact w8_3 _ _ _ | exact w8_4 _ _ _ _ | exact nl_I _ | exact nl_P _ | exact nl_X | decide | exact w8_5 _ _ _ _ _) only [r_iLD1, r_bPUSH, cl_12, r_IF0, r_iLD2, r_iLD3, cl_204, r_IF1, r_iCONST, r_iRET, r_aLD0, r_gR, cl_109, r_iST5, r_aALD, r_iLD4, r_iLD5, cl_206, r_iST6, r_iLD6, cl_215, r_iST7, r_iLD7, r_IC3, r_iADD, r_gI, r_iALDc, r_iALDs, r_ITL, cl_217, r_IINC7, r_GOTO, eq_self, Int.reduceLT, Int.reduceLE, Int.reduceEq, true_or, or_true, and_self, true_and, and_true, w8_0, w8_1, w8_2, w8_3, w8_4, nl_I, nl_P, nl_X, pu_I, pu_J, pu_V, w3_id, Int.add_zero, kd_0, kd_80, rR_0_0, rR_0_10, kk, r0, r1, ln_71, q0, q4, and_self, true_and, s_left c5 c7 c6 c8, s_refusal k1 hl]
      by_cases z : refu h (72 + 2 * (q : Int)) y i ((L - s : Nat) : Int) = 0
      · obtain ⟨z1, z2, z3, z4, z5, z6⟩ := refu_0 z
        rw [if_pos z, ju_218_27]
        simp only [r_iLD1, r_bPUSH, cl_12, r_IF0, r_iLD2, r_iLD3, cl_204, r_IF1, r_iCONST, r_iRET, r_aLD0, r_gR, cl_109, r_iST5, r_aALD, r_iLD4, r_iLD5, cl_206, r_iST6, r_iLD6, cl_215, r_iST7, r_iLD7, r_IC3, r_iADD, r_gI, r_iALD, r_iALDs, r_ITL, cl_217, r_IINC7, r_GOTO, eq_self, Int.reduceLT, Int.reduceLE, Int.reduceEq, true_or, or_true, and_self, true_and, and_true, w8_0, w8_1, w8_2, w8_3, w8_4, nl_I, nl_P, nl_X, pu_I, pu_J, pu_V, kd_0, ln_0, rR_0_0, rR_0_1, rR_0_3, rR_0_4, rR_0_5, rR_0_6, rR_0_7, rR_0_8, rR_0_9, rR_0_10, kd_137, ln_137, rR_137_0, rR_137_1, rR_137_2, rR_137_3, rR_137_4, rR_137_6, rR_137_7, rR_137_8]
        refine s_findF hC ⟨e1.1, by omega⟩ (fun g hg hr => ?_)
        simp only [r_iLD1, r_bPUSH, cl_12, r_IF0, r_iLD2, r_iLD3, cl_204, r_IF1, r_iCONST, r_iRET, r_aLD0, r_gR, cl_109, r_iST5, r_aALD, r_iLD4, r_iLD5, cl_206, r_iST6, r_iLD6, cl_215, r_iST7, r_iLD7, r_IC3, r_iADD, r_gI, r_iALD, r_iALDs, r_ITL, cl_217, r_IINC7, r_GOTO, eq_self, Int.reduceLT, Int.reduceLE, Int.reduceEq, true_or, or_true, and_self, true_and, and_true, w8_0, w8_1, w8_2, w8_3, w8_4, nl_I, nl_P, nl_X, pu_I, pu_J, pu_V]
        have := lp_Tfilm (Q := Q) (bj := bj) (v6 := refu h (72 + 2 * (q : Int)) y i ((L - s : Nat) : Int)) hC hq4 z3 (by omega) ⟨e2.2.1, by omega⟩ hg z2.symm hr (L - s) 0 (by omega)
        rw [itF_0] at this
        exact this.mpr (hq g hg ok z)
      · rw [if_neg z]
        exact hq1 ok z
    · rw [if_neg (by simp [e2])]
      exact hq0 (fun q => e2 q.2)
  · rw [if_pos (by simp [e1])]
    exact hq0 (fun q => e1 q.1)
theorem s_Rfilm (hP : Rp h 0 150 n nb L s) (hS : ∀ q : Nat, q < 4 → 0 ≤ h 156 q ∧ h 156 q ≤ 24) (hq : ∀ g, okF bj x y → lack h x y i ((L - s : Nat) : Int) = 0 → fmR h g n nb s bj y (24 * x + i) (L - s) → Q (aI ((L - s : Nat) : Int)) (sT g)) (hq1 : okF bj x y → lack h x y i ((L - s : Nat) : Int) ≠ 0 → Q (aI (lack h x y i ((L - s : Nat) : Int))) (sT h)) (hq0 : ¬ okF bj x y → Q (aI (-1)) (sT h)) : wp 220 (am_ju 220 0) [aP 149, aI bj, aI x, aI y, aI i, aX, aX, aX] [] (sT h) Q := by
  have l1 := ln_150
  have k1 := kd_150
  obtain ⟨r0, r1, r2, r3, r4, r5, r6, r7⟩ := id hP.1
  have p5 := hP.2.2.2.2.2.1
  have p6 := hP.2.2.2.2.2.2.1
  simp only [ju_220_0, ju_220_11, r_iLD1, r_iCONST, r_bPUSH, cl_17, r_IF0, r_iLD2, cl_210, r_iLD3, cl_211, r_IF1, r_iRET, r_aLD0, r_gR, r_iALD, r_iALDs, r_iSUB, r_iST5, r_iLD4, r_iLD5, cl_212, r_iST6, r_iLD6, cl_90, r_iST7, r_iLD7, r_IC3, r_iMUL, r_iADD, cl_125, r_ITL, cl_219, r_lAST, r_IINC7, r_GOTO, eq_self, Int.reduceLT, Int.reduceLE, Int.reduceEq, true_or, or_true, and_self, true_and, and_true, w8_0, w8_1, w8_2, w8_3, w8_4, nl_I, nl_P, nl_X, pu_I, pu_J, pu_V, s_in, s_isSheet, s_isLane]
  by_cases e1 : 0 ≤ bj ∧ bj < 8
  · have e1' : 0 ≤ bj ∧ bj ≤ 7 := ⟨e1.1, by omega⟩
    rw [if_neg (by simp [e1'])]
    by_cases e2 : 0 ≤ x ∧ x < 4
    · rw [if_neg (by simp [e2])]
      by_cases e3 : 0 ≤ y ∧ y < 4
      · have ok : okF bj x y := ⟨e1, e2, e3⟩
        obtain ⟨q, rfl⟩ := Int.eq_ofNat_of_zero_le e2.1
        have hl := hS q (by omega)
        have eL : (L : Int) - (s : Int) = ((L - s : Nat) : Int) := by omega
        rw [if_pos (by simp [e3]), ju_220_13]
        simp (disch := first | assumption | omega | exact w8_0 | exact w8_1 _ | exact w8_2 _ _ | exact w8_3 _ _ _ | exact w8_4 _ _ _ _ | exact nl_I _ | exact nl_P _ | exact nl_X | decide | exact w8_5 _ _ _ _ _) only [r_iLD1, r_iCONST, r_bPUSH, cl_17, r_IF0, r_iLD2, cl_210, r_iLD3, cl_211, r_IF1, r_iRET, r_aLD0, r_gR, r_iALDc, r_iALDs, r_iSUB, r_iST5, r_iLD4, r_iLD5, cl_212, r_iST6, r_iLD6, cl_90, r_iST7, r_iLD7, r_IC3, r_iMUL, r_iADD, cl_125, r_ITL, cl_219, r_lASTc, r_IINC7, r_GOTO, eq_self, Int.reduceLT, Int.reduceLE, Int.reduceEq, true_or, or_true, and_self, true_and, and_true, w8_0, w8_1, w8_2, w8_3, w8_4, nl_I, nl_P, nl_X, pu_I, pu_J, pu_V, w3_id, Int.add_zero, kd_149, rR_149_0, r4, p5, eL, s_lacks e2 hl]
        by_cases z : lack h q y i ((L - s : Nat) : Int) = 0
        · have z' := lack_0 z
          rw [if_pos z, ju_220_34]
          simp only [r_iLD1, r_iCONST, r_bPUSH, cl_17, r_IF0, r_iLD2, cl_210, r_iLD3, cl_211, r_IF1, r_iRET, r_aLD0, r_gR, r_iALD, r_iALDs, r_iSUB, r_iST5, r_iLD4, r_iLD5, cl_212, r_iST6, r_iLD6, cl_90, r_iST7, r_iLD7, r_IC3, r_iMUL, r_iADD, cl_125, r_ITL, cl_219, r_lAST, r_IINC7, r_GOTO, eq_self, Int.reduceLT, Int.reduceLE, Int.reduceEq, true_or, or_true, and_self, true_and, and_true, w8_0, w8_1, w8_2, w8_3, w8_4, nl_I, nl_P, nl_X, pu_I, pu_J, pu_V, kd_149, ln_149, rR_149_0, rR_149_1, rR_149_2, rR_149_3, rR_149_5, rR_149_7, rR_149_8, rR_149_9, rR_149_10, rR_149_16, rR_149_17, rR_149_18, s_copies kd_150 ln_150 kd_151 ln_151 (by decide : (150 : Int) ≠ 151)]
          refine lp_Rfilm (Rp_CO hP) (show q < 4 by omega) z'.1 (by omega) ⟨e3.1, by omega⟩ e1' (fun g hm => hq g ok z hm) (L - s) 0 _ (by omega) (TR_0 hP rfl) ⟨fun a j q1 q2 => FR_scT scT_cp a j q1, fun j => ?_⟩
          rw [cpy_out (by decide), if_neg (by omega)]
        · rw [if_neg z]
          exact hq1 ok z
      · rw [if_neg (by simp [e3])]
        exact hq0 (fun q => e3 q.2.2)
    · rw [if_pos (by simp [e2])]
      exact hq0 (fun q => e2 q.2.1)
  · have e1' : ¬ (0 ≤ bj ∧ bj ≤ 7) := fun q => e1 ⟨q.1, by omega⟩
    rw [if_pos (by simp [e1'])]
    exact hq0 (fun q => e1 q.1)
theorem eU_c (hF : ∀ a k, 80 ≤ a → a ≤ 136 → u a k = h a k) : ∀ B, eU u n bj s m B = eU h n bj s m B := by
  intro B
  have f : ∀ a, 80 ≤ a → a ≤ 136 → u a = h a := fun a q1 q2 => funext fun k => hF a k q1 q2
  have es : ∀ v, sortI u v = sortI h v := fun v => by unfold sortI; rw [f 88 (by decide) (by decide), f 89 (by decide) (by decide)]
  have e : ∀ b, eS u n bj s b m = eS h n bj s b m := fun b => by
    unfold eS cS
    rw [evS_c (fun a q1 q2 => f a (by omega) (by omega)), f 82 (by decide) (by decide), f 91 (by decide) (by decide), f 92 (by decide) (by decide), f 93 (by decide) (by decide), f 94 (by decide) (by decide)]
  have ef : ∀ b, eF u n bj s b m = eF h n bj s b m := fun b => by
    unfold eF
    rw [e, es, cy_c (fun a q1 q2 => f a (by omega) (by omega)), f 82 (by decide) (by decide)]
  induction B with
  | zero => rfl
  | succ B ih => rw [eU, eU, ih, ef]
theorem b_film (hI : INV h) : Both 218 220 [aP 0, aI bj, aI x, aI y, aI i, aX, aX, aX] [aP 149, aI bj, aI x, aI y, aI i, aX, aX, aX] h := by
  obtain ⟨⟨n, nb, L, s, K, nx, hW⟩, -, -, hS⟩ := id hI
  have hP := hW.1
  have hL : ∀ q : Nat, q < 4 → 0 ≤ h 156 q ∧ h 156 q ≤ 24 := fun q hq => (hS q hq).2.1
  refine s_Tfilm (Rp_CO hP) hS (fun g hg ok hz => ⟨_, _, rfl, rfl, by rw [itF_ne (by omega), hg _ (by omega) (by omega)], ?_⟩) (fun ok hz => ⟨_, h, rfl, rfl, rfl, ?_⟩) (fun no => ⟨_, h, rfl, rfl, rfl, ?_⟩)
  · obtain ⟨q, rfl⟩ := Int.eq_ofNat_of_zero_le ok.2.1.1
    have hq4 : q < 4 := by omega
    obtain ⟨z1, z2, z3, z4, z5, z6⟩ := refu_0 hz
    obtain ⟨s1, s2, s3, s4⟩ := hS q hq4
    have f1 : ∀ a, a ≠ 138 → a ≠ 139 → a ≠ 73 + 2 * (q : Int) → itF h g n nb s bj y (73 + 2 * (q : Int)) i (L - s) a = h a := fun a q1 q2 q3 => by rw [itF_ne q3, hg a q1 q2]
    generalize hG : itF h g n nb s bj y (73 + 2 * (q : Int)) i (L - s) = G at f1 ⊢
    have hlk : lack G q y i ((L - s : Nat) : Int) = 0 := by
      unfold lack
      rw [f1 155 (by decide) (by decide) (by omega), f1 156 (by decide) (by decide) (by omega)]
      have := hz
      rw [q_lack hS hq4 (by omega)] at this
      exact this
    have hPG : Rp G 0 150 n nb L s := (WD_mv (h := h) (d := 0) (c := 150) (fun a k lk => by unfold lv at lk; rw [f1 _ (by omega) (by omega) (by omega)]) (fun k _ _ => by rw [f1 150 (by decide) (by decide) (by omega)]) hW).1
    refine s_Rfilm hPG (fun r hr => by rw [f1 156 (by decide) (by decide) (by omega)]; exact hL r hr) (fun G2 _ _ hm => ⟨G2, rfl, rfl, ?_, ?_⟩) (fun _ no => absurd hlk no) (fun no => absurd ok no)
    · rw [show G2 (-1) = G (-1) from funext fun k => hm.1 (-1) k (by unfold scr; omega) (by decide), f1 _ (by omega) (by omega) (by omega)]
    · refine INV_s hI (fun a k q1 q2 q3 => ?_) (fun r hr => ?_)
      · rw [hm.1 a k q3 (by omega), f1 a (by unfold scr at q3; omega) (by unfold scr at q3; omega) (by omega)]
      · have hs := hS r hr
        have g2 : ∀ a k, (72 ≤ a ∧ a ≤ 79) ∨ a = 155 ∨ a = 156 → G2 a k = G a k := fun a k z => hm.1 a k (by unfold scr; omega) (by omega)
        unfold SQ at hs ⊢
        rw [g2 (72 + 2 * r) 3 (by omega), g2 (72 + 2 * r) 1 (by omega), g2 (72 + 2 * r) 2 (by omega), g2 156 r (by omega), g2 155 r (by omega), f1 (72 + 2 * r) (by omega) (by omega) (by omega), f1 155 (by omega) (by omega) (by omega), f1 156 (by omega) (by omega) (by omega)]
        refine ⟨hs.1, hs.2.1, hs.2.2.1, fun k hk => ?_⟩
        rw [g2 (73 + 2 * r) k (by omega), hm.2, f1 157 (by decide) (by decide) (by omega)]
        have eUG : ∀ m, eU G n bj s m nb = eU h n bj s m nb := fun m => eU_c (fun a k q1 q2 => by rw [f1 a (by omega) (by omega) (by omega)]) nb
        by_cases e : r = q
        · subst e
          rw [← hG, itF_k]
          by_cases z : i ≤ (k : Int) ∧ (k : Int) < i + ((L - s : Nat) : Int)
          · rw [if_pos z, if_pos (by omega), hG, eUG, show (24 * (r : Int) + k - (24 * (r : Int) + i)).toNat = ((k : Int) - i).toNat by omega]
          · rw [if_neg z, if_neg (by omega), hg _ (by omega) (by omega)]
            exact hs.2.2.2 k hk
        · rw [if_neg (by omega), f1 _ (by omega) (by omega) (by omega)]
          exact hs.2.2.2 k hk
  · obtain ⟨q, rfl⟩ := Int.eq_ofNat_of_zero_le ok.2.1.1
    have e := q_lack (y := y) (i := i) (m := ((L - s : Nat) : Int)) hS (show q < 4 by omega) (by omega)
    exact s_Rfilm hP hL (fun _ _ z _ => absurd (e.trans z) hz) (fun _ _ => ⟨_, by rw [e], rfl, rfl, hI⟩) (fun no => absurd ok no)
  · exact s_Rfilm hP hL (fun _ ok _ _ => absurd ok no) (fun ok _ => absurd ok no) (fun _ => ⟨_, rfl, rfl, rfl, hI⟩)
end FN
