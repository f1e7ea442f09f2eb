section IT
variable {h h' h1 h2 : am_F} {Q : am_V → am_S → Prop} {c d v x y i j m o p : Int} {l t q r : Nat}
theorem s_Tdrop : wp 225 (am_ju 225 0) [aP 0, aI x] [] (sT h) Q ↔ (if 0 ≤ x ∧ x < 4 then (if h (72 + 2 * x) 1 = 0 then Q (aI (h (72 + 2 * x) 3)) (sT (up h (72 + 2 * x) 1 1)) else Q (aI (-11)) (sT h)) else Q (aI (-1)) (sT h)) := by
  simp only [ju_225_0, r_iLD1, r_iCONST, cl_12, r_IF1, r_iRET, r_aLD0, r_gR, r_aALD, r_gI, r_IF0, r_bPUSH, r_pZ, eq_self, Int.reduceLT, Int.reduceLE, Int.reduceEq, true_or, or_true, and_self, true_and, and_true, w8_0, w8_1, w8_2, w8_3, w8_4, nl_I, nl_P, nl_X, pu_I, pu_J, pu_V, s_isBelow]
  by_cases e : 0 ≤ x ∧ x < 4
  · obtain ⟨q, rfl⟩ := Int.eq_ofNat_of_zero_le e.1
    have hq : q < 4 := by omega
    obtain ⟨k1, r1, r2, k2, l2⟩ := sh_q q hq
    have kk : kd 71 = 22 ∨ kd 71 = 23 := Or.inr kd_71
    have q0 : (0 : Int) ≤ (q : Int) := by omega
    have q4 : (q : Int) < 4 := by omega
    have r0 : (0 : Int) ≤ rR 71 q := by rw [r1]; omega
    have u3 : up h (72 + 2 * (q : Int)) 1 1 (72 + 2 * (q : Int)) 3 = h (72 + 2 * (q : Int)) 3 := up_k (by decide)
    rw [if_pos (by simp [e]), if_pos e]
    simp (disch := first | assumption | omega | exact w8_0 | exact w8_1 _ | exact w8_2 _ _ | exact w8_3 _ _ _ | exact w8_4 _ _ _ _ | exact nl_I _ | exact nl_P _ | exact nl_X | decide | exact w8_5 _ _ _ _ _) only [ju_225_6, ju_225_14, r_iLD1, r_iCONST, cl_12, r_IF1, r_iRET, r_aLD0, r_gR, r_aALD, r_gI, r_IF0, r_bPUSH, r_pZ, eq_self, Int.reduceLT, Int.reduceLE, Int.reduceEq, true_or, or_true, and_self, true_and, and_true, w8_0, w8_1, w8_2, w8_3, w8_4, nl_I, nl_P, nl_X, pu_I, pu_J, pu_V, w3_id, Int.add_zero, r_pZ, kd_0, rR_0_10, kk, r0, r1, ln_71, q0, q4, and_self, true_and, u3]
  · rw [if_neg (by simp [e]), if_neg e]
theorem s_Rdrop : wp 226 (am_ju 226 0) [aP 149, aI x] [] (sT h) Q ↔ (if 0 ≤ x ∧ x < 4 then (if 0 ≤ h 155 x then Q (aI (h 156 x)) (sT (up h 155 x (-1))) else Q (aI (-11)) (sT h)) else Q (aI (-1)) (sT h)) := by
  simp only [ju_226_0, r_iLD1, cl_210, r_IF1, r_iCONST, r_iRET, r_aLD0, r_gR, r_iALD, r_iALDs, r_IF3, r_bPUSH, r_iAST, eq_self, Int.reduceLT, Int.reduceLE, Int.reduceEq, true_or, or_true, and_self, true_and, and_true, w8_0, w8_1, w8_2, w8_3, w8_4, nl_I, nl_P, nl_X, pu_I, pu_J, pu_V, s_isSheet]
  by_cases e : 0 ≤ x ∧ x < 4
  · have l1 := ln_155
    have k1 := kd_155
    have l2 := ln_156
    have k2 := kd_156
    obtain ⟨x0, x4⟩ := id e
    have u3 : up h 155 x (-1) 156 x = h 156 x := by rw [up_ne (by decide)]
    rw [if_pos (by simp [e]), if_pos e]
    simp (disch := first | assumption | omega | exact w8_0 | exact w8_1 _ | exact w8_2 _ _ | exact w8_3 _ _ _ | exact w8_4 _ _ _ _ | exact nl_I _ | exact nl_P _ | exact nl_X | decide | exact w8_5 _ _ _ _ _) only [ju_226_5, ju_226_12, r_iLD1, cl_210, r_IF1, r_iCONST, r_iRET, r_aLD0, r_gR, r_iALDc, r_iALDs, r_IF3, r_bPUSH, r_iASTc, eq_self, Int.reduceLT, Int.reduceLE, Int.reduceEq, true_or, or_true, and_self, true_and, and_true, w8_0, w8_1, w8_2, w8_3, w8_4, nl_I, nl_P, nl_X, pu_I, pu_J, pu_V, w3_id, Int.add_zero, kd_149, rR_149_7, rR_149_8, u3]
  · rw [if_neg (by simp [e]), if_neg e]
theorem b_drop (hI : INV h) : Both 225 226 [aP 0, aI x] [aP 149, aI x] h := by
  unfold Both
  rw [s_Tdrop]
  by_cases e : 0 ≤ x ∧ x < 4
  · rw [if_pos e]
    obtain ⟨q, rfl⟩ := Int.eq_ofNat_of_zero_le e.1
    have hs := hI.2.2.2 q (by omega)
    by_cases g : h (72 + 2 * (q : Int)) 1 = 0
    · rw [if_pos g]
      have h5 : 0 ≤ h 155 q := by
        rcases hs.2.2.1 with z | z
        · omega
        · exact z.2.2.1
      have f1 : ∀ a, (a < 72 ∨ 79 < a) → up h (72 + 2 * (q : Int)) 1 1 a = h a := fun a ha => up_ne (by omega) _ _
      refine ⟨_, _, rfl, rfl, f1 _ (by omega), ?_⟩
      rw [s_Rdrop, if_pos e, if_pos (by rw [f1 _ (by omega)]; exact h5)]
      refine ⟨_, ?_, rfl, by rw [up_ne (by decide), f1 _ (by omega)], INV_s hI (fun a k q1 q2 _ => by rw [up_ne (by omega), f1 a q1]) (fun r hr => ?_)⟩
      · rw [f1 _ (by omega), hs.1]
      · have hs := hI.2.2.2 r hr
        have e155 : up (up h (72 + 2 * (q : Int)) 1 1) 155 q (-1) 155 r = if r = q then -1 else h 155 r := by
          by_cases z : r = q
          · subst z; rw [up_s, if_pos rfl]
          · rw [up_k (by omega), if_neg z, f1 _ (by omega)]
        unfold SQ at hs ⊢
        rw [e155, up_ne (show (156 : Int) ≠ 155 by decide), up_ne (show (157 : Int) ≠ 155 by decide), f1 156 (by omega), f1 157 (by omega), up_ne (show 72 + 2 * (r : Int) ≠ 155 by omega), up_ne (show 73 + 2 * (r : Int) ≠ 155 by omega), up_ne (show 73 + 2 * (r : Int) ≠ 72 + 2 * (q : Int) by omega)]
        by_cases z : r = q
        · subst z
          rw [up_k (by decide), up_s, if_pos rfl]
          exact ⟨hs.1, hs.2.1, Or.inl ⟨rfl, rfl⟩, hs.2.2.2⟩
        · rw [up_ne (by omega), if_neg z]
          exact hs
    · rw [if_neg g]
      refine ⟨_, _, rfl, rfl, rfl, ?_⟩
      have h5 : ¬ 0 ≤ h 155 q := by
        rcases hs.2.2.1 with z | z
        · omega
        · exact absurd z.1 g
      rw [s_Rdrop, if_pos e, if_neg h5]
      exact ⟨_, rfl, rfl, rfl, hI⟩
  · rw [if_neg e]
    refine ⟨_, _, rfl, rfl, rfl, ?_⟩
    rw [s_Rdrop, if_neg e]
    exact ⟨_, rfl, rfl, rfl, hI⟩
theorem refu_0 (hr : refu h c y i m = 0) : h c 1 = 0 ∧ y = h c 2 ∧ 0 ≤ i ∧ 0 ≤ m ∧ m ≤ h c 3 ∧ i ≤ h c 3 - m := by
  unfold refu at hr
  by_cases e1 : h c 1 = 0
  · rw [if_neg (by omega)] at hr
    by_cases e2 : y = h c 2
    · rw [if_neg (by omega)] at hr
      by_cases e3 : 0 ≤ i ∧ 0 ≤ m ∧ m ≤ h c 3 ∧ i ≤ h c 3 - m
      · exact ⟨e1, e2, e3⟩
      · rw [if_neg e3] at hr; omega
    · rw [if_pos e2] at hr; omega
  · rw [if_pos e1] at hr; omega
theorem s_Titem (hS : SH h) (hv : w6 v = v) : wp 227 (am_ju 227 0) [aP 0, aI x, aI y, aI i, aJ v, aX, aX] [] (sT h) Q ↔ (if (0 ≤ x ∧ x < 4) ∧ 0 ≤ y ∧ y < 4 then (if refu h (72 + 2 * x) y i 1 = 0 then Q (aI 1) (sT (up h (73 + 2 * x) i (ctL y v))) else Q (aI (refu h (72 + 2 * x) y i 1)) (sT h)) else Q (aI (-1)) (sT h)) := by
  simp only [ju_227_0, r_iLD1, r_iLD2, cl_204, r_IF1, r_iCONST, r_iRET, r_aLD0, r_gR, r_aALD, r_iLD3, cl_206, r_iST6, r_iLD6, r_IF0, r_lLD4, cl_217, eq_self, Int.reduceLT, Int.reduceLE, Int.reduceEq, true_or, or_true, and_self, true_and, and_true, w8_0, w8_1, w8_2, w8_3, w8_4, nl_I, nl_P, nl_X, pu_I, pu_J, pu_V, s_isSL]
  by_cases e : (0 ≤ x ∧ x < 4) ∧ 0 ≤ y ∧ y < 4
  · obtain ⟨q, rfl⟩ := Int.eq_ofNat_of_zero_le e.1.1
    have hq : q < 4 := by omega
    obtain ⟨k1, r1, r2, k2, l2⟩ := sh_q q hq
    obtain ⟨s1, s2, s3, s4⟩ := hS q hq
    have kk : kd 71 = 22 ∨ kd 71 = 23 := Or.inr kd_71
    have q0 : (0 : Int) ≤ (q : Int) := by omega
    have q4 : (q : Int) < 4 := by omega
    have r0 : (0 : Int) ≤ rR 71 q := by rw [r1]; omega
    have hl : 0 ≤ h (72 + 2 * (q : Int)) 3 ∧ h (72 + 2 * (q : Int)) 3 ≤ 24 := by rw [s1]; exact s2
    rw [if_pos (by simp [e]), if_pos e]
    simp (disch := first | assumption | omega | exact w8_0 | exact w8_1 _ | exact w8_2 _ _ | exact w8_3 _ _ _ | exact w8_4 _ _ _ _ | exact nl_I _ | exact nl_P _ | exact nl_X | decide | exact w8_5 _ _ _ _ _) only [ju_227_6, r_iLD1, r_iLD2, cl_204, r_IF1, r_iCONST, r_iRET, r_aLD0, r_gR, r_aALD, r_iLD3, cl_206, r_iST6, r_iLD6, r_IF0, r_lLD4, cl_217, eq_self, Int.reduceLT, Int.reduceLE, Int.reduceEq, true_or, or_true, and_self, true_and, and_true, w8_0, w8_1, w8_2, w8_3, w8_4, nl_I, nl_P, nl_X, pu_I, pu_J, pu_V, w3_id, Int.add_zero, kd_0, rR_0_10, kk, r0, r1, ln_71, q0, q4, and_self, true_and, s_refusal k1 hl]
    by_cases z : refu h (72 + 2 * (q : Int)) y i 1 = 0
    · obtain ⟨z1, z2, z3, z4, z5, z6⟩ := refu_0 z
      rw [if_pos z, if_pos z]
      have e1 : 72 + 2 * (q : Int) + 1 = 73 + 2 * (q : Int) := by omega
      have hp := fun Q' => s_put (h := h) (Q := Q') (c := 72 + 2 * (q : Int)) (i := i) (v := v) k1 (by rw [e1]; exact r2) (by omega) (by rw [e1]; exact k2) (by rw [e1]; exact l2) (by omega) hv ⟨z3, by omega⟩
      rw [e1, ← z2] at hp
      simp (disch := first | assumption | omega | exact w8_0 | exact w8_1 _ | exact w8_2 _ _ | exact w8_3 _ _ _ | exact w8_4 _ _ _ _ | exact nl_I _ | exact nl_P _ | exact nl_X | decide | exact w8_5 _ _ _ _ _) only [ju_227_19, r_iLD1, r_iLD2, cl_204, r_IF1, r_iCONST, r_iRET, r_aLD0, r_gR, r_aALD, r_iLD3, cl_206, r_iST6, r_iLD6, r_IF0, r_lLD4, cl_217, eq_self, Int.reduceLT, Int.reduceLE, Int.reduceEq, true_or, or_true, and_self, true_and, and_true, w8_0, w8_1, w8_2, w8_3, w8_4, nl_I, nl_P, nl_X, pu_I, pu_J, pu_V, w3_id, Int.add_zero, kd_0, rR_0_10, kk, r0, r1, ln_71, q0, q4, and_self, true_and, hp]
    · rw [if_neg z, if_neg z]
  · rw [if_neg (by simp [e]), if_neg e]
theorem s_Ritem (hS : SH h) (hv : w6 v = v) : wp 228 (am_ju 228 0) [aP 149, aI x, aI y, aI i, aJ v, aX, aX] [] (sT h) Q ↔ (if (0 ≤ x ∧ x < 4) ∧ 0 ≤ y ∧ y < 4 then (if lack h x y i 1 = 0 then Q (aI 1) (sT (up h 157 (24 * x + i) (ctL y v))) else Q (aI (lack h x y i 1)) (sT h)) else Q (aI (-1)) (sT h)) := by
  simp only [ju_228_0, ju_228_6, r_iLD1, cl_210, r_IF0, r_iLD2, cl_211, r_IF1, r_iCONST, r_iRET, r_aLD0, r_iLD3, cl_212, r_iST6, r_iLD6, r_gR, r_bPUSH, r_iMUL, r_iADD, r_lLD4, cl_219, r_lAST, eq_self, Int.reduceLT, Int.reduceLE, Int.reduceEq, true_or, or_true, and_self, true_and, and_true, w8_0, w8_1, w8_2, w8_3, w8_4, nl_I, nl_P, nl_X, pu_I, pu_J, pu_V, s_isSheet, s_isLane]
  by_cases e : 0 ≤ x ∧ x < 4
  · by_cases e2 : 0 ≤ y ∧ y < 4
    · obtain ⟨q, rfl⟩ := Int.eq_ofNat_of_zero_le e.1
      have hq : q < 4 := by omega
      obtain ⟨s1, s2, s3, s4⟩ := id (hS q hq)
      have q0 : (0 : Int) ≤ (q : Int) := by omega
      have q4 : (q : Int) < 4 := by omega
      have l1 := ln_157
      have k1 := kd_157
      rw [if_neg (by simp [e]), if_pos (by simp [e2]), if_pos ⟨e, e2⟩]
      simp (disch := first | assumption | omega | exact w8_0 | exact w8_1 _ | exact w8_2 _ _ | exact w8_3 _ _ _ | exact w8_4 _ _ _ _ | exact nl_I _ | exact nl_P _ | exact nl_X | decide | exact w8_5 _ _ _ _ _) only [ju_228_8, r_iLD1, cl_210, r_IF0, r_iLD2, cl_211, r_IF1, r_iCONST, r_iRET, r_aLD0, r_iLD3, cl_212, r_iST6, r_iLD6, r_gR, r_bPUSH, r_iMUL, r_iADD, r_lLD4, cl_219, r_lASTc, eq_self, Int.reduceLT, Int.reduceLE, Int.reduceEq, true_or, or_true, and_self, true_and, and_true, w8_0, w8_1, w8_2, w8_3, w8_4, nl_I, nl_P, nl_X, pu_I, pu_J, pu_V, w3_id, Int.add_zero, kd_149, s_lacks e s2]
      by_cases z : lack h q y i 1 = 0
      · have z' := z
        rw [← q_lack hS hq (by decide)] at z'
        obtain ⟨z1, z2, z3, z4, z5, z6⟩ := refu_0 z'
        have i2 : i < 24 := by omega
        rw [if_pos z, if_pos z]
        simp (disch := first | assumption | omega | exact w8_0 | exact w8_1 _ | exact w8_2 _ _ | exact w8_3 _ _ _ | exact w8_4 _ _ _ _ | exact nl_I _ | exact nl_P _ | exact nl_X | decide | exact w8_5 _ _ _ _ _) only [ju_228_19, r_iLD1, cl_210, r_IF0, r_iLD2, cl_211, r_IF1, r_iCONST, r_iRET, r_aLD0, r_iLD3, cl_212, r_iST6, r_iLD6, r_gR, r_bPUSH, r_iMUL, r_iADD, r_lLD4, cl_219, r_lASTc, eq_self, Int.reduceLT, Int.reduceLE, Int.reduceEq, true_or, or_true, and_self, true_and, and_true, w8_0, w8_1, w8_2, w8_3, w8_4, nl_I, nl_P, nl_X, pu_I, pu_J, pu_V, w3_id, Int.add_zero, kd_149, rR_149_9, s_cut ⟨e2.1, by omega⟩ hv]
      · rw [if_neg z, if_neg z]
    · rw [if_neg (by simp [e]), if_neg (by simp [e2]), if_neg (fun z => e2 z.2)]
  · rw [if_pos (by simp [e]), if_neg (fun z => e z.1)]
theorem SH_put {z : Int} (hS : SH h) (hq : q < 4) (hi : 0 ≤ i ∧ i < 24) : SH (up (up h (73 + 2 * q) i z) 157 (24 * q + i) z) := by
  intro r hr
  have hs := hS r hr
  unfold SQ at hs ⊢
  rw [up_ne (show (156 : Int) ≠ 157 by decide), up_ne (show (155 : Int) ≠ 157 by decide), up_ne (show 72 + 2 * (r : Int) ≠ 157 by omega), up_ne (show 72 + 2 * (r : Int) ≠ 73 + 2 * (q : Int) by omega), up_ne (show (156 : Int) ≠ 73 + 2 * (q : Int) by omega), up_ne (show (155 : Int) ≠ 73 + 2 * (q : Int) by omega), up_ne (show 73 + 2 * (r : Int) ≠ 157 by omega)]
  refine ⟨hs.1, hs.2.1, hs.2.2.1, fun j hj => ?_⟩
  by_cases e : r = q ∧ (j : Int) = i
  · obtain ⟨rfl, e2⟩ := e
    rw [e2, up_s, up_s]
  · by_cases e2 : r = q
    · subst e2
      have : (j : Int) ≠ i := fun z => e ⟨rfl, z⟩
      rw [up_k this, up_k (by omega), up_ne (by omega)]
      exact hs.2.2.2 j hj
    · rw [up_ne (by omega), up_k (by omega), up_ne (by omega)]
      exact hs.2.2.2 j hj
theorem b_item (hI : INV h) (hv : w6 v = v) : Both 227 228 [aP 0, aI x, aI y, aI i, aJ v, aX, aX] [aP 149, aI x, aI y, aI i, aJ v, aX, aX] h := by
  have hS := hI.2.2.2
  unfold Both
  rw [s_Titem hS hv]
  by_cases e : (0 ≤ x ∧ x < 4) ∧ 0 ≤ y ∧ y < 4
  · rw [if_pos e]
    obtain ⟨q, rfl⟩ := Int.eq_ofNat_of_zero_le e.1.1
    have hq : q < 4 := by omega
    rw [q_lack hS hq (by decide)]
    by_cases z : lack h q y i 1 = 0
    · have z' := z
      rw [← q_lack hS hq (by decide)] at z'
      obtain ⟨z1, z2, z3, z4, z5, z6⟩ := refu_0 z'
      obtain ⟨s1, s2, s3, s4⟩ := id (hS q hq)
      rw [if_pos z]
      have f1 : ∀ a, (a < 72 ∨ 79 < a) → up h (73 + 2 * (q : Int)) i (ctL y v) a = h a := fun a ha => up_ne (by omega) _ _
      have hSp := SH_put (z := ctL y v) hS hq ⟨z3, (by omega : i < 24)⟩
      have hS1 : SH (up h (73 + 2 * (q : Int)) i (ctL y v)) ∨ True := Or.inr trivial
      refine ⟨_, _, rfl, rfl, f1 _ (by omega), ?_⟩
      have hlk : lack (up h (73 + 2 * (q : Int)) i (ctL y v)) q y i 1 = 0 := by unfold lack; rw [f1 155 (by omega), f1 156 (by omega)]; exact z
      have l1 := ln_157
      have k1 := kd_157
      have q0 : (0 : Int) ≤ (q : Int) := by omega
      have q4 : (q : Int) < 4 := by omega
      have i2 : i < 24 := by omega
      have hR : wp 228 (am_ju 228 0) [aP 149, aI (q : Int), aI y, aI i, aJ v, aX, aX] [] (sT (up h (73 + 2 * (q : Int)) i (ctL y v))) (fun r st => ∃ h2, r = aI 1 ∧ st = sT h2 ∧ h2 (-1) = h (-1) ∧ INV h2) ↔ (fun r st => ∃ h2, r = aI 1 ∧ st = sT h2 ∧ h2 (-1) = h (-1) ∧ INV h2) (aI 1) (sT (up (up h (73 + 2 * (q : Int)) i (ctL y v)) 157 (24 * q + i) (ctL y v))) := by
        generalize (fun (r : am_V) (st : am_S) => ∃ h2, r = aI 1 ∧ st = sT h2 ∧ h2 (-1) = h (-1) ∧ INV h2) = Q'
        generalize hg : up h (73 + 2 * (q : Int)) i (ctL y v) = g at hlk ⊢
        have g6 : 0 ≤ g 156 q ∧ g 156 q ≤ 24 := by rw [← hg, up_ne (by omega)]; exact s2
        simp only [ju_228_0, ju_228_6, r_iLD1, cl_210, r_IF0, r_iLD2, cl_211, r_IF1, r_iCONST, r_iRET, r_aLD0, r_iLD3, cl_212, r_iST6, r_iLD6, r_gR, r_bPUSH, r_iMUL, r_iADD, r_lLD4, cl_219, r_lAST, eq_self, Int.reduceLT, Int.reduceLE, Int.reduceEq, true_or, or_true, and_self, true_and, and_true, w8_0, w8_1, w8_2, w8_3, w8_4, nl_I, nl_P, nl_X, pu_I, pu_J, pu_V, s_isSheet, s_isLane]
        rw [if_neg (by simp [e.1]), if_pos (by simp [e.2])]
        simp (disch := first | assumption | omega | exact w8_0 | exact w8_1 _ | exact w8_2 _ _ | exact w8_3 _ _ _ | exact w8_4 _ _ _ _ | exact nl_I _ | exact nl_P _ | exact nl_X | decide | exact w8_5 _ _ _ _ _) only [ju_228_8, r_iLD1, cl_210, r_IF0, r_iLD2, cl_211, r_IF1, r_iCONST, r_iRET, r_aLD0, r_iLD3, cl_212, r_iST6, r_iLD6, r_gR, r_bPUSH, r_iMUL, r_iADD, r_lLD4, cl_219, r_lASTc, eq_self, Int.reduceLT, Int.reduceLE, Int.reduceEq, true_or, or_true, and_self, true_and, and_true, w8_0, w8_1, w8_2, w8_3, w8_4, nl_I, nl_P, nl_X, pu_I, pu_J, pu_V, w3_id, Int.add_zero, kd_149, s_lacks e.1 g6, hlk, if_true]
        simp (disch := first | assumption | omega | exact w8_0 | exact w8_1 _ | exact w8_2 _ _ | exact w8_3 _ _ _ | exact w8_4 _ _ _ _ | exact nl_I _ | exact nl_P _ | exact nl_X | decide | exact w8_5 _ _ _ _ _) only [ju_228_19, r_iLD1, cl_210, r_IF0, r_iLD2, cl_211, r_IF1, r_iCONST, r_iRET, r_aLD0, r_iLD3, cl_212, r_iST6, r_iLD6, r_gR, r_bPUSH, r_iMUL, r_iADD, r_lLD4, cl_219, r_lASTc, eq_self, Int.reduceLT, Int.reduceLE, Int.reduceEq, true_or, or_true, and_self, true_and, and_true, w8_0, w8_1, w8_2, w8_3, w8_4, nl_I, nl_P, nl_X, pu_I, pu_J, pu_V, w3_id, Int.add_zero, kd_149, rR_149_9, s_cut ⟨e.2.1, by omega⟩ hv]
      refine hR.mpr ⟨_, rfl, rfl, by rw [up_ne (by decide), f1 _ (by omega)], INV_s hI (fun a k q1 q2 _ => by rw [up_ne (by omega), f1 a q1]) hSp⟩
    · rw [if_neg z]
      refine ⟨_, _, rfl, rfl, rfl, ?_⟩
      rw [s_Ritem hS hv, if_pos e, if_neg z]
      exact ⟨_, rfl, rfl, rfl, hI⟩
  · rw [if_neg e]
    refine ⟨_, _, rfl, rfl, rfl, ?_⟩
    rw [s_Ritem hS hv, if_neg e]
    exact ⟨_, rfl, rfl, rfl, hI⟩
end IT
