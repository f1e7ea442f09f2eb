section LR
variable {g h h' h1 h2 u : am_F} {Q : am_V → am_S → Prop} {so j bj x y z i o c w r v : Int} {n nb L s K nx b m k a q B S T : Nat}
theorem popc_sumF (S : Nat) : (popc S : Int) = sumF (fun t => if S.testBit t = true then 1 else 0) 8 := countP_sumF _ 8
theorem oneF_r (S : Nat) : ∀ k, 0 ≤ sumF (fun t => if S.testBit t = true then (1 : Int) else 0) k ∧ sumF (fun t => if S.testBit t = true then (1 : Int) else 0) k ≤ k := by
  intro k
  induction k with
  | zero => exact ⟨Int.le_refl _, Int.le_refl _⟩
  | succ k ih => rw [sumF]; split <;> omega
theorem lp_ones (hS : S < 2 ^ 31) : ∀ (d k : Nat), k + d = 8 → (wp 157 (am_ju 157 4) [aI (S : Int), aI (sumF (fun t => if S.testBit t = true then 1 else 0) k), aI (k : Int)] [] (sT h) Q ↔ Q (aI (popc S : Int)) (sT h)) := by
  intro d
  induction d with
  | zero =>
    intro k hk
    have hk : k = 8 := by omega
    subst hk
    rw [ju_157_4]
    simp only [ju_157_17, r_iCONST, r_iST1, r_iST2, r_iLD2, r_bPUSH, r_IC3, r_iLD1, r_iLD0, r_iSHR, r_iAND, r_iADD, r_IINC2, r_GOTO, r_iRET, eq_self, Int.reduceLT, Int.reduceLE, Int.reduceEq, true_or, or_true, and_self, true_and, and_true, w8_0, w8_1, w8_2, w8_3, w8_4, nl_I, nl_P, nl_X, pu_I, pu_J, pu_V]
    rw [if_pos (by decide), popc_sumF]
  | succ d ih =>
    intro k hk
    have hw : w3 ((k : Int) + 1) = ((k + 1 : Nat) : Int) := w3_id (by omega) (by omega)
    have hr := oneF_r S k
    have ih := ih (k + 1) (by omega)
    rw [sumF] at ih
    have hw2 : w3 (sumF (fun t => if S.testBit t = true then (1 : Int) else 0) k + (if S.testBit k = true then 1 else 0)) = sumF (fun t => if S.testBit t = true then (1 : Int) else 0) k + (if S.testBit k = true then 1 else 0) := by
      split <;> exact w3_id (by omega) (by omega)
    rw [ju_157_4]
    simp only [r_iCONST, r_iST1, r_iST2, r_iLD2, r_bPUSH, r_IC3, r_iLD1, r_iLD0, r_iSHR, r_iAND, r_iADD, r_IINC2, r_GOTO, r_iRET, eq_self, Int.reduceLT, Int.reduceLE, Int.reduceEq, true_or, or_true, and_self, true_and, and_true, w8_0, w8_1, w8_2, w8_3, w8_4, nl_I, nl_P, nl_X, pu_I, pu_J, pu_V, bBit_n S k (by omega) hS, hw, hw2]
    rw [if_neg (by omega)]
    exact ih
theorem s_ones (hS : S < 2 ^ 31) : wp 157 (am_ju 157 0) [aI (S : Int), aX, aX] [] (sT h) Q ↔ Q (aI (popc S : Int)) (sT h) := by
  rw [ju_157_0]
  simp only [r_iCONST, r_iST1, r_iST2, r_iLD2, r_bPUSH, r_IC3, r_iLD1, r_iLD0, r_iSHR, r_iAND, r_iADD, r_IINC2, r_GOTO, r_iRET, eq_self, Int.reduceLT, Int.reduceLE, Int.reduceEq, true_or, or_true, and_self, true_and, and_true, w8_0, w8_1, w8_2, w8_3, w8_4, nl_I, nl_P, nl_X, pu_I, pu_J, pu_V]
  exact lp_ones hS 8 0 rfl
def wR (h : am_F) (S : Nat) (n : Nat) : Int := sumF (fun t => if S.testBit t = true then h 150 (18 + 6 * t + 3) else 0) n
theorem wR_r (hx : ∀ t : Nat, t < n → 0 ≤ h 150 (18 + 6 * t + 3) ∧ h 150 (18 + 6 * t + 3) ≤ 99) : ∀ k, k ≤ n → 0 ≤ wR h S k ∧ wR h S k ≤ 99 * k := by
  intro k
  induction k with
  | zero => intro _; exact ⟨Int.le_refl _, Int.le_refl _⟩
  | succ k ih =>
    intro hk
    have := ih (by omega)
    have := hx k (by omega)
    unfold wR at *
    rw [sumF]
    split <;> omega
theorem lp_worth (h8 : n ≤ 8) (hn : h 150 1 = (n : Int)) (hx : ∀ t : Nat, t < n → 0 ≤ h 150 (18 + 6 * t + 3) ∧ h 150 (18 + 6 * t + 3) ≤ 99) (hS : S < 2 ^ 31) : ∀ (d t : Nat), t + d = n → (wp 168 (am_ju 168 4) [aP 149, aI (S : Int), aI (wR h S t), aI (t : Int)] [] (sT h) Q ↔ Q (aI (wR h S n)) (sT h)) := by
  intro d
  have l1 := ln_150
  have k1 := kd_150
  induction d with
  | zero =>
    intro t ht
    have ht : t = n := by omega
    subst ht
    rw [ju_168_4]
    simp (disch := first | assumption | omega | exact w8_0 | exact w8_1 _ | exact w8_2 _ _ | exact w8_3 _ _ _ | exact w8_4 _ _ _ _ | exact nl_I _ | exact nl_P _ | exact nl_X | decide | exact w8_5 _ _ _ _ _) only [ju_168_28, r_iCONST, r_iST2, r_iST3, r_iLD3, r_aLD0, r_gR, r_iALDc, r_iALDs, r_IC3, r_iLD2, r_iLD1, cl_34, r_IF0, cl_25, r_iADD, r_GOTO, r_IINC3, r_iRET, eq_self, Int.reduceLT, Int.reduceLE, Int.reduceEq, true_or, or_true, and_self, true_and, and_true, w8_0, w8_1, w8_2, w8_3, w8_4, nl_I, nl_P, nl_X, pu_I, pu_J, pu_V, w3_id, Int.add_zero, kd_149, rR_149_0, hn]
    rw [if_pos (by omega)]
  | succ d ih =>
    intro t ht
    have t8 : (t : Int) < 8 := by omega
    have hw : w3 ((t : Int) + 1) = ((t + 1 : Nat) : Int) := w3_id (by omega) (by omega)
    have hr := wR_r (S := S) hx t (by omega)
    have hxt := hx t (by omega)
    have ih := ih (t + 1) (by omega)
    rw [show wR h S (t + 1) = wR h S t + (if S.testBit t = true then h 150 (18 + 6 * t + 3) else 0) from rfl] at ih
    rw [ju_168_4]
    simp (disch := first | assumption | omega | exact w8_0 | exact w8_1 _ | exact w8_2 _ _ | exact w8_3 _ _ _ | exact w8_4 _ _ _ _ | exact nl_I _ | exact nl_P _ | exact nl_X | decide | exact w8_5 _ _ _ _ _) only [r_iCONST, r_iST2, r_iST3, r_iLD3, r_aLD0, r_gR, r_iALDc, r_iALDs, r_IC3, r_iLD2, r_iLD1, cl_34, r_IF0, cl_25, r_iADD, r_GOTO, r_IINC3, r_iRET, eq_self, Int.reduceLT, Int.reduceLE, Int.reduceEq, true_or, or_true, and_self, true_and, and_true, w8_0, w8_1, w8_2, w8_3, w8_4, nl_I, nl_P, nl_X, pu_I, pu_J, pu_V, w3_id, Int.add_zero, kd_149, rR_149_0, hn, s_rhas hS (show t < 31 by omega), b01]
    rw [if_neg (by omega)]
    by_cases e : S.testBit t = true
    · rw [if_pos e] at ih
      rw [if_neg (by simpa using e)]
      simp (disch := first | assumption | omega | exact w8_0 | exact w8_1 _ | exact w8_2 _ _ | exact w8_3 _ _ _ | exact w8_4 _ _ _ _ | exact nl_I _ | exact nl_P _ | exact nl_X | decide | exact w8_5 _ _ _ _ _) only [ju_168_24, r_iCONST, r_iST2, r_iST3, r_iLD3, r_aLD0, r_gR, r_iALDc, r_iALDs, r_IC3, r_iLD2, r_iLD1, cl_34, r_IF0, cl_25, r_iADD, r_GOTO, r_IINC3, r_iRET, eq_self, Int.reduceLT, Int.reduceLE, Int.reduceEq, true_or, or_true, and_self, true_and, and_true, w8_0, w8_1, w8_2, w8_3, w8_4, nl_I, nl_P, nl_X, pu_I, pu_J, pu_V, w3_id, Int.add_zero, kd_149, rR_149_0, s_thingAt (b := (t : Int)) ⟨by omega, by omega⟩, hw]
      exact ih
    · rw [if_neg e, Int.add_zero] at ih
      rw [if_pos e]
      simp (disch := first | assumption | omega | exact w8_0 | exact w8_1 _ | exact w8_2 _ _ | exact w8_3 _ _ _ | exact w8_4 _ _ _ _ | exact nl_I _ | exact nl_P _ | exact nl_X | decide | exact w8_5 _ _ _ _ _) only [ju_168_23, ju_168_24, r_iCONST, r_iST2, r_iST3, r_iLD3, r_aLD0, r_gR, r_iALDc, r_iALDs, r_IC3, r_iLD2, r_iLD1, cl_34, r_IF0, cl_25, r_iADD, r_GOTO, r_IINC3, r_iRET, eq_self, Int.reduceLT, Int.reduceLE, Int.reduceEq, true_or, or_true, and_self, true_and, and_true, w8_0, w8_1, w8_2, w8_3, w8_4, nl_I, nl_P, nl_X, pu_I, pu_J, pu_V, w3_id, Int.add_zero, hw]
      exact ih
theorem s_worth (h8 : n ≤ 8) (hn : h 150 1 = (n : Int)) (hx : ∀ t : Nat, t < n → 0 ≤ h 150 (18 + 6 * t + 3) ∧ h 150 (18 + 6 * t + 3) ≤ 99) (hS : S < 2 ^ 31) : wp 168 (am_ju 168 0) [aP 149, aI (S : Int), aX, aX] [] (sT h) Q ↔ Q (aI (wR h S n)) (sT h) := by
  rw [ju_168_0]
  simp only [r_iCONST, r_iST2, r_iST3, r_iLD3, r_aLD0, r_gR, r_iALD, r_iALDs, r_IC3, r_iLD2, r_iLD1, cl_34, r_IF0, cl_25, r_iADD, r_GOTO, r_IINC3, r_iRET, eq_self, Int.reduceLT, Int.reduceLE, Int.reduceEq, true_or, or_true, and_self, true_and, and_true, w8_0, w8_1, w8_2, w8_3, w8_4, nl_I, nl_P, nl_X, pu_I, pu_J, pu_V]
  exact lp_worth h8 hn hx hS n 0 (Nat.zero_add n)
theorem wR_eq (hP : Rp h 0 150 n nb L s) (hS : S < 2 ^ n) : wR h S n = sumS (h 86) S 8 := by
  have h8 := hP.1.2.2.2.1
  unfold wR sumS
  rw [sumF_z h8]
  · exact sumF_c (fun t ht => by rw [(Rp_t hP (t := (t : Int)) (by omega) (by omega)).2.2.2.1])
  · intro t ht
    have : S.testBit t = false := Nat.testBit_lt_two_pow (Nat.lt_of_lt_of_le hS (Nat.pow_le_pow_right (n := 2) (by decide) ht))
    rw [this]; rfl
theorem lp_hw (h8 : n ≤ 8) (hn : g 150 1 = (n : Int)) (hS : S < 2 ^ 31) : ∀ (d t : Nat), t + d = n → (wp 169 (am_ju 169 7) [aP 149, aI (S : Int), aI (t : Int)] [] (sT (whF g 151 S 3 t)) Q ↔ wp 169 (am_ju 169 35) [aP 149, aI (S : Int), aI (n : Int)] [] (sT (whF g 151 S 3 n)) Q) := by
  intro d
  have l1 := ln_150
  have k1 := kd_150
  have l2 := ln_151
  have k2 := kd_151
  have e1 : ∀ t, whF g 151 S 3 t 150 1 = (n : Int) := fun t => by rw [whF_ne (by decide), hn]
  induction d with
  | zero =>
    intro t ht
    have ht : t = n := by omega
    subst ht
    rw [ju_169_7]
    simp (disch := first | assumption | omega | exact w8_0 | exact w8_1 _ | exact w8_2 _ _ | exact w8_3 _ _ _ | exact w8_4 _ _ _ _ | exact nl_I _ | exact nl_P _ | exact nl_X | decide | exact w8_5 _ _ _ _ _) only [r_aLD0, r_gR, cl_90, r_iCONST, r_iST2, r_iLD2, r_iALDc, r_iALDs, r_IC3, cl_25, r_iADD, r_iLD1, cl_34, r_IF0, r_GOTO, r_iASTc, r_IINC2, r_bPUSH, cl_138, r_IC1, r_zRET, eq_self, Int.reduceLT, Int.reduceLE, Int.reduceEq, true_or, or_true, and_self, true_and, and_true, w8_0, w8_1, w8_2, w8_3, w8_4, nl_I, nl_P, nl_X, pu_I, pu_J, pu_V, w3_id, Int.add_zero, kd_149, rR_149_0, e1]
    rw [if_pos (by omega)]
  | succ d ih =>
    intro t ht
    have t8 : (t : Int) < 8 := by omega
    have hw : w3 ((t : Int) + 1) = ((t + 1 : Nat) : Int) := w3_id (by omega) (by omega)
    have e5 : whF g 151 S 3 t 151 (18 + 6 * t + 5) = g 151 (18 + 6 * t + 5) := by rw [whF_at, if_neg (by omega)]
    have ih := ih (t + 1) (by omega)
    rw [ju_169_7]
    simp (disch := first | assumption | omega | exact w8_0 | exact w8_1 _ | exact w8_2 _ _ | exact w8_3 _ _ _ | exact w8_4 _ _ _ _ | exact nl_I _ | exact nl_P _ | exact nl_X | decide | exact w8_5 _ _ _ _ _) only [r_aLD0, r_gR, cl_90, r_iCONST, r_iST2, r_iLD2, r_iALDc, r_iALDs, r_IC3, cl_25, r_iADD, r_iLD1, cl_34, r_IF0, r_GOTO, r_iASTc, r_IINC2, r_bPUSH, cl_138, r_IC1, r_zRET, eq_self, Int.reduceLT, Int.reduceLE, Int.reduceEq, true_or, or_true, and_self, true_and, and_true, w8_0, w8_1, w8_2, w8_3, w8_4, nl_I, nl_P, nl_X, pu_I, pu_J, pu_V, w3_id, Int.add_zero, kd_149, rR_149_0, rR_149_1, e1, s_thingAt (b := (t : Int)) ⟨by omega, by omega⟩, s_rhas hS (show t < 31 by omega), b01]
    rw [if_neg (by omega)]
    by_cases e : S.testBit t = true
    · rw [if_neg (by simpa using e)]
      simp (disch := first | assumption | omega | exact w8_0 | exact w8_1 _ | exact w8_2 _ _ | exact w8_3 _ _ _ | exact w8_4 _ _ _ _ | exact nl_I _ | exact nl_P _ | exact nl_X | decide | exact w8_5 _ _ _ _ _) only [ju_169_32, r_aLD0, r_gR, cl_90, r_iCONST, r_iST2, r_iLD2, r_iALDc, r_iALDs, r_IC3, cl_25, r_iADD, r_iLD1, cl_34, r_IF0, r_GOTO, r_iASTc, r_IINC2, r_bPUSH, cl_138, r_IC1, r_zRET, eq_self, Int.reduceLT, Int.reduceLE, Int.reduceEq, true_or, or_true, and_self, true_and, and_true, w8_0, w8_1, w8_2, w8_3, w8_4, nl_I, nl_P, nl_X, pu_I, pu_J, pu_V, w3_id, Int.add_zero, hw]
      rw [whF_s (by rw [if_pos e])]
      exact ih
    · rw [if_pos e]
      simp (disch := first | assumption | omega | exact w8_0 | exact w8_1 _ | exact w8_2 _ _ | exact w8_3 _ _ _ | exact w8_4 _ _ _ _ | exact nl_I _ | exact nl_P _ | exact nl_X | decide | exact w8_5 _ _ _ _ _) only [ju_169_25, ju_169_32, r_aLD0, r_gR, cl_90, r_iCONST, r_iST2, r_iLD2, r_iALDc, r_iALDs, r_IC3, cl_25, r_iADD, r_iLD1, cl_34, r_IF0, r_GOTO, r_iASTc, r_IINC2, r_bPUSH, cl_138, r_IC1, r_zRET, eq_self, Int.reduceLT, Int.reduceLE, Int.reduceEq, true_or, or_true, and_self, true_and, and_true, w8_0, w8_1, w8_2, w8_3, w8_4, nl_I, nl_P, nl_X, pu_I, pu_J, pu_V, w3_id, Int.add_zero, kd_149, rR_149_1, s_thingAt (b := (t : Int)) ⟨by omega, by omega⟩, e5, hw]
      rw [whF_s (by rw [if_neg e])]
      exact ih
def fea (h : am_F) (n nb L s S : Nat) : Prop := ∀ b : Nat, b < nb → gW h L s 7 (h 82 b) b (adn (cS h b n) S) = 99
theorem s_without (hP : Rp h 0 150 n nb L s) (hg : scT h g) (hS : S < 2 ^ 31) (hq : ∀ g', scT h g' → Q (aI (if minB (fun b => gW h L s 7 (h 82 b) b (adn (cS h b n) S)) nb = 99 then 1 else 0)) (sT g')) : wp 169 (am_ju 169 0) [aP 149, aI (S : Int), aX] [] (sT g) Q := by
  have l1 := ln_150
  have k1 := kd_150
  have e150 := tr_150 hg
  obtain ⟨r0, r1, r2, r3, r4, r5, r6, r7⟩ := id hP.1
  have p3 := hP.2.2.2.1
  have p5 := hP.2.2.2.2.2.1
  have p6 := hP.2.2.2.2.2.2.1
  rw [Int.add_zero] at p3
  rw [ju_169_0]
  simp only [r_aLD0, r_gR, cl_90, r_iCONST, r_iST2, r_iLD2, r_iALD, r_iALDs, r_IC3, cl_25, r_iADD, r_iLD1, cl_34, r_IF0, r_GOTO, r_iAST, r_IINC2, r_bPUSH, cl_138, r_IC1, r_zRET, eq_self, Int.reduceLT, Int.reduceLE, Int.reduceEq, true_or, or_true, and_self, true_and, and_true, w8_0, w8_1, w8_2, w8_3, w8_4, nl_I, nl_P, nl_X, pu_I, pu_J, pu_V, kd_149, ln_149, rR_149_0, rR_149_1, rR_149_2, rR_149_3, rR_149_5, rR_149_7, rR_149_8, rR_149_9, rR_149_10, rR_149_16, rR_149_17, rR_149_18, s_copies kd_150 ln_150 kd_151 ln_151 (by decide : (150 : Int) ≠ 151)]
  have hn : cpy g 150 0 151 0 238 150 1 = (n : Int) := by rw [cpy_out (by decide), e150, r2]
  have q1 := lp_hw (g := cpy g 150 0 151 0 238) (Q := Q) r3 hn hS n 0 (Nat.zero_add n)
  rw [whF_0] at q1
  refine q1.mpr ?_
  have rd : ∀ k : Int, 0 ≤ k → k < 238 → cpy g 150 0 151 0 238 151 k = h 150 k := fun k q1 q2 => by rw [cpy_d q1 q2, e150]
  have rl : ∀ k : Int, 0 ≤ k → k < 23 → whF (cpy g 150 0 151 0 238) 151 S 3 n 151 k = h 150 k := fun k q1 q2 => by rw [whF_lo q2, rd k q1 (by omega)]
  have ro : ∀ (t : Nat) (m : Int), t < n → 0 ≤ m → m ≤ 4 → whF (cpy g 150 0 151 0 238) 151 S 3 n 151 (18 + 6 * t + m) = h 150 (18 + 6 * t + m) := fun t m ht m0 m1 => by rw [whF_off m0 m1, rd _ (by omega) (by omega)]
  have rw' : ∀ k : Int, 66 ≤ k → k < 238 → whF (cpy g 150 0 151 0 238) 151 S 3 n 151 k = h 150 k := fun k q1 q2 => by
    unfold whF
    rw [if_neg (by omega), rd k (by omega) q2]
  have hR : RO (whF (cpy g 150 0 151 0 238) 151 S 3 n) 151 n nb L := by
    refine ⟨by rw [rl _ (by omega) (by omega)]; exact r0, r1, by rw [rl _ (by omega) (by omega)]; exact r2, r3, by rw [rl _ (by omega) (by omega)]; exact r4, r5, fun t ht => ?_, fun b hb => ?_⟩
    · rw [ro t 0 ht (by decide) (by decide), ro t 1 ht (by decide) (by decide), ro t 2 ht (by decide) (by decide)]; exact r6 t ht
    · unfold bk
      rw [rl _ (by omega) (by omega), rl _ (by omega) (by omega), rl _ (by omega) (by omega), rl _ (by omega) (by omega)]; exact r7 b hb
  have hsw : scT (cpy g 150 0 151 0 238) (whF (cpy g 150 0 151 0 238) 151 S 3 n) := ⟨fun a q1 _ => whF_ne q1, fun k _ _ => by rw [whF_ne (by decide)]⟩
  rw [ju_169_35]
  simp only [r_aLD0, r_gR, cl_90, r_iCONST, r_iST2, r_iLD2, r_iALD, r_iALDs, r_IC3, cl_25, r_iADD, r_iLD1, cl_34, r_IF0, r_GOTO, r_iAST, r_IINC2, r_bPUSH, cl_138, r_IC1, r_zRET, eq_self, Int.reduceLT, Int.reduceLE, Int.reduceEq, true_or, or_true, and_self, true_and, and_true, w8_0, w8_1, w8_2, w8_3, w8_4, nl_I, nl_P, nl_X, pu_I, pu_J, pu_V, kd_149, ln_149, rR_149_0, rR_149_1, rR_149_2, rR_149_3, rR_149_5, rR_149_7, rR_149_8, rR_149_9, rR_149_10, rR_149_16, rR_149_17, rR_149_18]
  refine s_hT ⟨by decide, by decide⟩ hR (s := s) (by rw [rl _ (by omega) (by omega), p5]) p6 (fun g' hg' => ?_)
  have hsc : scT h g' := scT_t hg (scT_t (scT_t scT_cp hsw) hg')
  have e2 : g' 150 2 = (L : Int) := by rw [tr_150 hsc, r4]
  have em : minB (bR (whF (cpy g 150 0 151 0 238) 151 S 3 n) 151 n 7 (L - s) s) nb = minB (fun b => gW h L s 7 (h 82 b) b (adn (cS h b n) S)) nb := minB_eq (fun b hb => by
    obtain ⟨z1, z2, z3, z4⟩ := Rp_b hP (b := (b : Int)) (by omega) (by omega)
    refine bR_g r3 p3 r5 p6 (fun t ht => ?_) (fun i hi => ?_) ?_ ?_ ?_
    · obtain ⟨y1, y2, y3, -⟩ := Rp_t hP (t := (t : Int)) (by omega) (by omega)
      rw [ro t 0 ht (by decide) (by decide), ro t 1 ht (by decide) (by decide), ro t 2 ht (by decide) (by decide)]
      exact ⟨y1, y2, y3⟩
    · rw [rw' _ (by omega) (by omega), Rp_i hP (by omega) (by omega)]
    · rw [rl _ (by omega) (by omega), z1]
    · rw [rl _ (by omega) (by omega), rl _ (by omega) (by omega), rl _ (by omega) (by omega)]
      exact ⟨z2, z3, z4⟩
    · apply Nat.eq_of_testBit_eq
      intro t
      rw [mS_bit, adn_bit (cS_lt r3)]
      unfold cS
      rw [setF_bit]
      by_cases ht : t < n
      · simp only [ht, decide_true, Bool.true_and]
        rw [whF_at, rd _ (by omega) (by omega), (Rp_t hP (t := (t : Int)) (by omega) (by omega)).2.2.2.2.2]
        by_cases e : S.testBit t = true
        · rw [if_pos ⟨ht, e⟩, e]
          simp
          omega
        · rw [if_neg (fun q => e q.2)]
          simp [e]
      · simp [ht])
  rw [em]
  have hok : okm L (minB (fun b => gW h L s 7 (h 82 b) b (adn (cS h b n) S)) nb) := okm_min nb (fun b hb => okm_gW p6 r5)
  have h99 := mL_99 r5 hok
  simp (disch := first | assumption | omega | exact w8_0 | exact w8_1 _ | exact w8_2 _ _ | exact w8_3 _ _ _ | exact w8_4 _ _ _ _ | exact nl_I _ | exact nl_P _ | exact nl_X | decide | exact w8_5 _ _ _ _ _) only [r_aLD0, r_gR, cl_90, r_iCONST, r_iST2, r_iLD2, r_iALDc, r_iALDs, r_IC3, cl_25, r_iADD, r_iLD1, cl_34, r_IF0, r_GOTO, r_iASTc, r_IINC2, r_bPUSH, cl_138, r_IC1, r_zRET, eq_self, Int.reduceLT, Int.reduceLE, Int.reduceEq, true_or, or_true, and_self, true_and, and_true, w8_0, w8_1, w8_2, w8_3, w8_4, nl_I, nl_P, nl_X, pu_I, pu_J, pu_V, w3_id, Int.add_zero, kd_149, rR_149_0, e2, ju_169_45, ju_169_46, r_zRET0, r_zRET1]
  by_cases e : minB (fun b => gW h L s 7 (h 82 b) b (adn (cS h b n) S)) nb = 99
  · have := hq g' hsc
    rw [if_pos e] at this
    rw [if_neg (by simpa using h99.mpr e)]
    exact this
  · have := hq g' hsc
    rw [if_neg e] at this
    rw [if_pos (fun q => e (h99.mp q))]
    exact this
end LR
