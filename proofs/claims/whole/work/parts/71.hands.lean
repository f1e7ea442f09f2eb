/-! hands -/
def tdS (A B : Int) (N m : Nat) : Int := sumF (fun k => if k / N % 2 = 1 then B else A) m
def td (A B : Int) (m N : Nat) : Int := if tdS A B N m < tdS B A N m then tdS B A N m else tdS A B N m
def hb (f : Nat → Int) : Nat → Nat
  | 0 => 1
  | k + 1 => if f (k + 2) < f (hb f k) then k + 2 else hb f k
section HN
variable {g h h' h1 h2 : am_F} {Q : am_V → am_S → Prop} {A B x y z : Int} {n nb L s K nx N m : Nat}
theorem tdS_r (hA : 0 ≤ A ∧ A ≤ 240) (hB : 0 ≤ B ∧ B ≤ 240) : ∀ m, 0 ≤ tdS A B N m ∧ tdS A B N m ≤ 240 * m := by
  intro m
  induction m with
  | zero => exact ⟨Int.le_refl _, Int.le_refl _⟩
  | succ m ih =>
    unfold tdS at ih ⊢
    rw [sumF]
    split <;> omega
/-- how far the hands are behind k steps: changed or not, steps since -/
def hd (N k : Nat) (c e : Int) : Prop := ((k % N ≠ 0 ∨ k = 0) → e = ((k % N : Nat) : Int) ∧ c = ((k / N % 2 : Nat) : Int)) ∧ ((k % N = 0 ∧ k ≠ 0) → e = (N : Int) ∧ c = (((k / N + 1) % 2 : Nat) : Int))
theorem hd_s {k : Nat} (hN : 1 ≤ N) : hd N (k + 1) ((k / N % 2 : Nat) : Int) ((k % N + 1 : Nat) : Int) := by
  have h1 : k % N < N := Nat.mod_lt _ hN
  have h2 := Nat.div_add_mod k N
  by_cases e : k % N + 1 = N
  · have h3 : (k + 1) % N = 0 ∧ (k + 1) / N = k / N + 1 := by
      have : k + 1 = N * (k / N + 1) := by rw [Nat.mul_add, Nat.mul_one]; omega
      rw [this]
      exact ⟨Nat.mul_mod_right _ _, Nat.mul_div_cancel_left _ hN⟩
    refine ⟨fun z => by omega, fun _ => ?_⟩
    rw [h3.2]
    omega
  · have h3 : (k + 1) % N = k % N + 1 ∧ (k + 1) / N = k / N := by
      have : k + 1 = (k % N + 1) + N * (k / N) := by omega
      constructor
      · rw [this, Nat.add_mul_mod_self_left, Nat.mod_eq_of_lt (by omega)]
      · rw [this, Nat.add_mul_div_left _ _ hN, Nat.div_eq_of_lt (by omega), Nat.zero_add]
    refine ⟨fun _ => ?_, fun z => by omega⟩
    rw [h3.1, h3.2]
    exact ⟨rfl, rfl⟩
set_option maxHeartbeats 1000000 in
theorem lp_tired (hL : h 88 1 = (L : Int)) (hL2 : L ≤ 20) (hA : 0 ≤ A ∧ A ≤ 240) (hB : 0 ≤ B ∧ B ≤ 240) (hN : 1 ≤ N) (hN2 : N ≤ 20) : ∀ (j k : Nat) (c e : Int), s + k + j = L → hd N k c e → (wp 189 (am_ju 189 13) [aP 0, aI A, aI B, aI (N : Int), aI (tdS A B N k), aI (tdS B A N k), aI c, aI e, aI ((s + k : Nat) : Int)] [] (sT h) Q ↔ Q (aI (td A B (L - s) N)) (sT h)) := by
  intro j
  induction j with
  | zero =>
    intro k c e hk hh
    have hk : k = L - s := by omega
    subst hk
    rw [ju_189_13]
    simp only [ju_189_49, r_iCONST, r_iST4, r_iST5, r_iST6, r_iST7, r_aLD0, r_gR, r_gI, r_iST8, r_iLD8, r_IC3, r_iLD7, r_iLD3, r_IC1, r_iLD6, r_IF1, r_GOTO, r_iLD4, r_IF0, r_iLD2, r_iLD1, r_iADD, r_iLD5, r_IINC7, r_IINC8, r_MMAX, r_iRET, eq_self, Int.reduceLT, Int.reduceLE, Int.reduceEq, true_or, or_true, and_self, true_and, and_true, w8_0, w8_1, w8_2, w8_3, w8_4, nl_I, nl_P, nl_X, pu_I, pu_J, pu_V, kd_0, ln_0, rR_0_0, rR_0_1, rR_0_3, rR_0_4, rR_0_5, rR_0_6, rR_0_7, rR_0_8, rR_0_9, rR_0_10, kd_80, ln_80, rR_80_0, rR_80_1, rR_80_2, rR_80_3, kd_88, ln_88, rR_88_0, hL]
    rw [if_pos (by omega)]
    rfl
  | succ j ih =>
    intro k c e hk hh
    have r1 := tdS_r (N := N) hA hB k
    have r2 := tdS_r (N := N) hB hA k
    have hw : w3 (((s + k : Nat) : Int) + 1) = ((s + (k + 1) : Nat) : Int) := by rw [w3_id (by omega) (by omega)]; omega
    have h1 : k % N < N := Nat.mod_lt _ hN
    have hw2 : w3 (((k % N : Nat) : Int) + 1) = ((k % N + 1 : Nat) : Int) := by rw [w3_id (by omega) (by omega)]; omega
    have h2 : k / N % 2 = 0 ∨ k / N % 2 = 1 := by omega
    have ih := ih (k + 1) ((k / N % 2 : Nat) : Int) ((k % N + 1 : Nat) : Int) (by omega) (hd_s hN)
    have e1 : tdS A B N (k + 1) = tdS A B N k + (if k / N % 2 = 1 then B else A) := rfl
    have e2 : tdS B A N (k + 1) = tdS B A N k + (if k / N % 2 = 1 then A else B) := rfl
    rw [e1, e2] at ih
    -- from the place where hands have changed
    have key : wp 189 (am_ju 189 30) [aP 0, aI A, aI B, aI (N : Int), aI (tdS A B N k), aI (tdS B A N k), aI ((k / N % 2 : Nat) : Int), aI ((k % N : Nat) : Int), aI ((s + k : Nat) : Int)] [] (sT h) Q ↔ Q (aI (td A B (L - s) N)) (sT h) := by
      rcases h2 with z | z
      · rw [z] at ih ⊢
        have w1 : w3 (tdS A B N k + A) = tdS A B N k + A := w3_id (by omega) (by omega)
        have w2 : w3 (tdS B A N k + B) = tdS B A N k + B := w3_id (by omega) (by omega)
        simp only [Nat.zero_ne_one, if_false] at ih
        rw [ju_189_30]
        simp only [ju_189_35, ju_189_36, ju_189_43, ju_189_44, r_iCONST, r_iST4, r_iST5, r_iST6, r_iST7, r_aLD0, r_gR, r_gI, r_iST8, r_iLD8, r_IC3, r_iLD7, r_iLD3, r_IC1, r_iLD6, r_IF1, r_GOTO, r_iLD4, r_IF0, r_iLD2, r_iLD1, r_iADD, r_iLD5, r_IINC7, r_IINC8, r_MMAX, r_iRET, eq_self, Int.reduceLT, Int.reduceLE, Int.reduceEq, true_or, or_true, and_self, true_and, and_true, w8_0, w8_1, w8_2, w8_3, w8_4, nl_I, nl_P, nl_X, pu_I, pu_J, pu_V, Int.natCast_zero, if_true, hw, hw2, w1, w2]
        exact ih
      · rw [z] at ih ⊢
        have w1 : w3 (tdS A B N k + B) = tdS A B N k + B := w3_id (by omega) (by omega)
        have w2 : w3 (tdS B A N k + A) = tdS B A N k + A := w3_id (by omega) (by omega)
        simp only [if_true] at ih
        rw [ju_189_30]
        simp only [ju_189_36, ju_189_44, r_iCONST, r_iST4, r_iST5, r_iST6, r_iST7, r_aLD0, r_gR, r_gI, r_iST8, r_iLD8, r_IC3, r_iLD7, r_iLD3, r_IC1, r_iLD6, r_IF1, r_GOTO, r_iLD4, r_IF0, r_iLD2, r_iLD1, r_iADD, r_iLD5, r_IINC7, r_IINC8, r_MMAX, r_iRET, eq_self, Int.reduceLT, Int.reduceLE, Int.reduceEq, true_or, or_true, and_self, true_and, and_true, w8_0, w8_1, w8_2, w8_3, w8_4, nl_I, nl_P, nl_X, pu_I, pu_J, pu_V, show (((1 : Nat) : Int) = 0) = False from by simp, if_false, hw, hw2, w1, w2]
        exact ih
    rw [ju_189_13]
    simp only [r_iCONST, r_iST4, r_iST5, r_iST6, r_iST7, r_aLD0, r_gR, r_gI, r_iST8, r_iLD8, r_IC3, r_iLD7, r_iLD3, r_IC1, r_iLD6, r_IF1, r_GOTO, r_iLD4, r_IF0, r_iLD2, r_iLD1, r_iADD, r_iLD5, r_IINC7, r_IINC8, r_MMAX, r_iRET, eq_self, Int.reduceLT, Int.reduceLE, Int.reduceEq, true_or, or_true, and_self, true_and, and_true, w8_0, w8_1, w8_2, w8_3, w8_4, nl_I, nl_P, nl_X, pu_I, pu_J, pu_V, kd_0, ln_0, rR_0_0, rR_0_1, rR_0_3, rR_0_4, rR_0_5, rR_0_6, rR_0_7, rR_0_8, rR_0_9, rR_0_10, kd_80, ln_80, rR_80_0, rR_80_1, rR_80_2, rR_80_3, kd_88, ln_88, rR_88_0, hL]
    rw [if_neg (by omega)]
    by_cases q : k % N ≠ 0 ∨ k = 0
    · obtain ⟨rfl, rfl⟩ := hh.1 q
      rw [if_pos (by omega)]
      exact key
    · have q0 : k % N = 0 ∧ k ≠ 0 := by omega
      obtain ⟨rfl, rfl⟩ := hh.2 q0
      rw [if_neg (by omega)]
      rw [q0.1] at key
      rcases h2 with z | z
      · rw [z] at key
        rw [show (k / N + 1) % 2 = 1 by omega]
        simp only [ju_189_26, ju_189_27, r_iCONST, r_iST4, r_iST5, r_iST6, r_iST7, r_aLD0, r_gR, r_gI, r_iST8, r_iLD8, r_IC3, r_iLD7, r_iLD3, r_IC1, r_iLD6, r_IF1, r_GOTO, r_iLD4, r_IF0, r_iLD2, r_iLD1, r_iADD, r_iLD5, r_IINC7, r_IINC8, r_MMAX, r_iRET, eq_self, Int.reduceLT, Int.reduceLE, Int.reduceEq, true_or, or_true, and_self, true_and, and_true, w8_0, w8_1, w8_2, w8_3, w8_4, nl_I, nl_P, nl_X, pu_I, pu_J, pu_V, show (((1 : Nat) : Int) = 0) = False from by simp, not_false_eq_true, if_true]
        exact key
      · rw [z] at key
        rw [show (k / N + 1) % 2 = 0 by omega]
        simp only [ju_189_27, r_iCONST, r_iST4, r_iST5, r_iST6, r_iST7, r_aLD0, r_gR, r_gI, r_iST8, r_iLD8, r_IC3, r_iLD7, r_iLD3, r_IC1, r_iLD6, r_IF1, r_GOTO, r_iLD4, r_IF0, r_iLD2, r_iLD1, r_iADD, r_iLD5, r_IINC7, r_IINC8, r_MMAX, r_iRET, eq_self, Int.reduceLT, Int.reduceLE, Int.reduceEq, true_or, or_true, and_self, true_and, and_true, w8_0, w8_1, w8_2, w8_3, w8_4, nl_I, nl_P, nl_X, pu_I, pu_J, pu_V, Int.natCast_zero, not_true_eq_false, if_false]
        exact key
theorem s_tired (hL : h 88 1 = (L : Int)) (hL2 : L ≤ 20) (hs : h 90 4 = (s : Int)) (hsL : s ≤ L) (hA : 0 ≤ A ∧ A ≤ 240) (hB : 0 ≤ B ∧ B ≤ 240) (hN : 1 ≤ N) (hN2 : N ≤ 20) : wp 189 (am_ju 189 0) [aP 0, aI A, aI B, aI (N : Int), aX, aX, aX, aX, aX] [] (sT h) Q ↔ Q (aI (td A B (L - s) N)) (sT h) := by
  rw [ju_189_0]
  simp only [r_iCONST, r_iST4, r_iST5, r_iST6, r_iST7, r_aLD0, r_gR, r_gI, r_iST8, r_iLD8, r_IC3, r_iLD7, r_iLD3, r_IC1, r_iLD6, r_IF1, r_GOTO, r_iLD4, r_IF0, r_iLD2, r_iLD1, r_iADD, r_iLD5, r_IINC7, r_IINC8, r_MMAX, r_iRET, eq_self, Int.reduceLT, Int.reduceLE, Int.reduceEq, true_or, or_true, and_self, true_and, and_true, w8_0, w8_1, w8_2, w8_3, w8_4, nl_I, nl_P, nl_X, pu_I, pu_J, pu_V, kd_0, ln_0, rR_0_0, rR_0_1, rR_0_3, rR_0_4, rR_0_5, rR_0_6, rR_0_7, rR_0_8, rR_0_9, rR_0_10, kd_80, ln_80, rR_80_0, rR_80_1, rR_80_2, rR_80_3, kd_90, ln_90, rR_90_0, rR_90_1, rR_90_2, rR_90_3, hs]
  exact lp_tired hL hL2 hA hB hN hN2 (L - s) 0 0 0 (by omega) ⟨fun _ => by simp, fun z => absurd rfl z.2⟩
theorem iRmDv {k : Nat} (hk : k ≤ 20) (hN : 1 ≤ N) (hN2 : N ≤ 20) : iRm (iDv (k : Int) (N : Int)) 2 = ((k / N % 2 : Nat) : Int) := by
  have := Nat.div_le_self k N
  rw [iDv_n (by omega) (by omega) (by omega) (by omega), ← Int.natCast_ediv]
  generalize k / N = q at *
  rw [iRm_n (by omega) (by omega) (by omega) (by omega)]
  omega
set_option maxHeartbeats 1000000 in
theorem lp_Rtired (hR : RO h 150 n nb L) (h3 : h 150 3 = (s : Int)) (hsL : s ≤ L) (hN : 1 ≤ N) (hN2 : N ≤ 20) : ∀ (j k : Nat) (v : am_V), k + j = L - s → am_nl v = true → (wp 191 (am_ju 191 6) [aP 149, aI x, aI y, aI (N : Int), aI (tdS (sumF (rW h 150 x 0) n) (sumF (rW h 150 y 0) n) N k), aI (tdS (sumF (rW h 150 y 0) n) (sumF (rW h 150 x 0) n) N k), aI (k : Int), v] [] (sT h) Q ↔ Q (aI (td (sumF (rW h 150 x 0) n) (sumF (rW h 150 y 0) n) (L - s) N)) (sT h)) := by
  intro j
  have l1 := ln_150
  have k1 := kd_150
  obtain ⟨r0, r1, r2, r3, r4, r5, r6, r7⟩ := id hR
  have hA := (tk_r (b := x) r3 r6).1
  have hB := (tk_r (b := y) r3 r6).1
  have smx := fun Q' => s_sum0 (h := h) (Q := Q') (b := x) k1 l1 r3 r2 r6
  have smy := fun Q' => s_sum0 (h := h) (Q := Q') (b := y) k1 l1 r3 r2 r6
  generalize sumF (rW h 150 x 0) n = A at *
  generalize sumF (rW h 150 y 0) n = B at *
  induction j with
  | zero =>
    intro k v hk hv
    have hk : k = L - s := by omega
    subst hk
    rw [ju_191_6]
    simp (disch := first | assumption | omega | exact w8_0 | exact w8_1 _ | exact w8_2 _ _ | exact w8_3 _ _ _ | exact w8_4 _ _ _ _ | exact nl_I _ | exact nl_P _ | exact nl_X | decide | exact w8_5 _ _ _ _ _) only [r_iCONST, r_iST4, r_iST5, r_iST6, r_iLD6, r_aLD0, r_gR, r_iALDc, r_iALDs, r_iSUB, r_IC3, r_iLD3, r_iDIV, r_iREM, r_IC1, r_GOTO, r_iST7, r_iLD4, r_iLD7, r_IF0, r_iLD2, r_iLD1, cl_46, r_iADD, r_iLD5, r_IINC6, r_IC5, r_iRET, eq_self, Int.reduceLT, Int.reduceLE, Int.reduceEq, true_or, or_true, and_self, true_and, and_true, w8_0, w8_1, w8_2, w8_3, w8_4, nl_I, nl_P, nl_X, pu_I, pu_J, pu_V, w3_id, Int.add_zero, kd_149, rR_149_0, r4, h3]
    rw [if_pos (by omega), ju_191_54]
    simp only [ju_191_59, ju_191_60, r_iCONST, r_iST4, r_iST5, r_iST6, r_iLD6, r_aLD0, r_gR, r_iALD, r_iALDs, r_iSUB, r_IC3, r_iLD3, r_iDIV, r_iREM, r_IC1, r_GOTO, r_iST7, r_iLD4, r_iLD7, r_IF0, r_iLD2, r_iLD1, cl_46, r_iADD, r_iLD5, r_IINC6, r_IC5, r_iRET, eq_self, Int.reduceLT, Int.reduceLE, Int.reduceEq, true_or, or_true, and_self, true_and, and_true, w8_0, w8_1, w8_2, w8_3, w8_4, nl_I, nl_P, nl_X, pu_I, pu_J, pu_V]
    unfold td
    by_cases z : tdS A B N (L - s) < tdS B A N (L - s)
    · rw [if_pos (by omega), if_pos z]
    · rw [if_neg z]
      by_cases z2 : tdS A B N (L - s) ≤ tdS B A N (L - s)
      · rw [if_pos z2, show tdS B A N (L - s) = tdS A B N (L - s) by omega]
      · rw [if_neg z2]
  | succ j ih =>
    intro k v hk hv
    have q1 := tdS_r (N := N) hA hB k
    have q2 := tdS_r (N := N) hB hA k
    have hw : w3 ((k : Int) + 1) = ((k + 1 : Nat) : Int) := w3_id (by omega) (by omega)
    have hd := iRmDv (k := k) (N := N) (by omega) hN hN2
    have h2 : k / N % 2 = 0 ∨ k / N % 2 = 1 := by omega
    have hN0 : ¬ ((N : Int) = 0) := by omega
    have ih := fun v hv => ih (k + 1) v (by omega) hv
    have e1 : tdS A B N (k + 1) = tdS A B N k + (if k / N % 2 = 1 then B else A) := rfl
    have e2 : tdS B A N (k + 1) = tdS B A N k + (if k / N % 2 = 1 then A else B) := rfl
    rw [e1, e2] at ih
    rw [ju_191_6]
    simp (disch := first | assumption | omega | exact w8_0 | exact w8_1 _ | exact w8_2 _ _ | exact w8_3 _ _ _ | exact w8_4 _ _ _ _ | exact nl_I _ | exact nl_P _ | exact nl_X | decide | exact w8_5 _ _ _ _ _) only [r_iCONST, r_iST4, r_iST5, r_iST6, r_iLD6, r_aLD0, r_gR, r_iALDc, r_iALDs, r_iSUB, r_IC3, r_iLD3, r_iDIV, r_iREM, r_IC1, r_GOTO, r_iST7, r_iLD4, r_iLD7, r_IF0, r_iLD2, r_iLD1, cl_46, r_iADD, r_iLD5, r_IINC6, r_IC5, r_iRET, eq_self, Int.reduceLT, Int.reduceLE, Int.reduceEq, true_or, or_true, and_self, true_and, and_true, w8_0, w8_1, w8_2, w8_3, w8_4, nl_I, nl_P, nl_X, pu_I, pu_J, pu_V, w3_id, Int.add_zero, kd_149, rR_149_0, r4, h3, hd, hN0, ne_eq, not_false_eq_true, Int.reduceEq]
    rw [if_neg (by omega)]
    rcases h2 with z | z
    · rw [z] at ih ⊢
      have w1 : w3 (tdS A B N k + A) = tdS A B N k + A := w3_id (by omega) (by omega)
      have w2 : w3 (tdS B A N k + B) = tdS B A N k + B := w3_id (by omega) (by omega)
      have ih := ih (aI 0) rfl
      simp only [Nat.zero_ne_one, if_false] at ih
      simp (disch := first | assumption | omega | exact w8_0 | exact w8_1 _ | exact w8_2 _ _ | exact w8_3 _ _ _ | exact w8_4 _ _ _ _ | exact nl_I _ | exact nl_P _ | exact nl_X | decide | exact w8_5 _ _ _ _ _) only [ju_191_26, ju_191_27, ju_191_35, ju_191_36, ju_191_47, ju_191_48, r_iCONST, r_iST4, r_iST5, r_iST6, r_iLD6, r_aLD0, r_gR, r_iALDc, r_iALDs, r_iSUB, r_IC3, r_iLD3, r_iDIV, r_iREM, r_IC1, r_GOTO, r_iST7, r_iLD4, r_iLD7, r_IF0, r_iLD2, r_iLD1, cl_46, r_iADD, r_iLD5, r_IINC6, r_IC5, r_iRET, eq_self, Int.reduceLT, Int.reduceLE, Int.reduceEq, true_or, or_true, and_self, true_and, and_true, w8_0, w8_1, w8_2, w8_3, w8_4, nl_I, nl_P, nl_X, pu_I, pu_J, pu_V, w3_id, Int.add_zero, kd_149, rR_149_0, smx, smy, Int.natCast_zero, Int.reduceEq, not_false_eq_true, if_true, hw, w1, w2]
      exact ih
    · rw [z] at ih ⊢
      have w1 : w3 (tdS A B N k + B) = tdS A B N k + B := w3_id (by omega) (by omega)
      have w2 : w3 (tdS B A N k + A) = tdS B A N k + A := w3_id (by omega) (by omega)
      have ih := ih (aI 1) rfl
      simp only [if_true] at ih
      simp (disch := first | assumption | omega | exact w8_0 | exact w8_1 _ | exact w8_2 _ _ | exact w8_3 _ _ _ | exact w8_4 _ _ _ _ | exact nl_I _ | exact nl_P _ | exact nl_X | decide | exact w8_5 _ _ _ _ _) only [ju_191_27, ju_191_36, ju_191_48, r_iCONST, r_iST4, r_iST5, r_iST6, r_iLD6, r_aLD0, r_gR, r_iALDc, r_iALDs, r_iSUB, r_IC3, r_iLD3, r_iDIV, r_iREM, r_IC1, r_GOTO, r_iST7, r_iLD4, r_iLD7, r_IF0, r_iLD2, r_iLD1, cl_46, r_iADD, r_iLD5, r_IINC6, r_IC5, r_iRET, eq_self, Int.reduceLT, Int.reduceLE, Int.reduceEq, true_or, or_true, and_self, true_and, and_true, w8_0, w8_1, w8_2, w8_3, w8_4, nl_I, nl_P, nl_X, pu_I, pu_J, pu_V, w3_id, Int.add_zero, kd_149, rR_149_0, smx, smy, show ((1 : Nat) : Int) = 1 from rfl, Int.reduceEq, not_true_eq_false, if_false, hw, w1, w2]
      exact ih
theorem s_Rtired (hR : RO h 150 n nb L) (h3 : h 150 3 = (s : Int)) (hsL : s ≤ L) (hN : 1 ≤ N) (hN2 : N ≤ 20) : wp 191 (am_ju 191 0) [aP 149, aI x, aI y, aI (N : Int), aX, aX, aX, aX] [] (sT h) Q ↔ Q (aI (td (sumF (rW h 150 x 0) n) (sumF (rW h 150 y 0) n) (L - s) N)) (sT h) := by
  rw [ju_191_0]
  simp only [r_iCONST, r_iST4, r_iST5, r_iST6, r_iLD6, r_aLD0, r_gR, r_iALD, r_iALDs, r_iSUB, r_IC3, r_iLD3, r_iDIV, r_iREM, r_IC1, r_GOTO, r_iST7, r_iLD4, r_iLD7, r_IF0, r_iLD2, r_iLD1, cl_46, r_iADD, r_iLD5, r_IINC6, r_IC5, r_iRET, eq_self, Int.reduceLT, Int.reduceLE, Int.reduceEq, true_or, or_true, and_self, true_and, and_true, w8_0, w8_1, w8_2, w8_3, w8_4, nl_I, nl_P, nl_X, pu_I, pu_J, pu_V]
  exact lp_Rtired hR h3 hsL hN hN2 (L - s) 0 aX (by omega) rfl
theorem hb_r (f : Nat → Int) : ∀ k, 1 ≤ hb f k ∧ hb f k ≤ k + 1 := by
  intro k
  induction k with
  | zero => exact ⟨Nat.le_refl _, Nat.le_refl _⟩
  | succ k ih => rw [hb]; split <;> omega
theorem lp_hands (hL : h 88 1 = (L : Int)) (hL2 : L ≤ 20) (hs : h 90 4 = (s : Int)) (hsL : s ≤ L) (hA : 0 ≤ A ∧ A ≤ 240) (hB : 0 ≤ B ∧ B ≤ 240) : ∀ (j k : Nat) (v : am_V), k + j = 19 → am_nl v = true → (wp 190 (am_ju 190 53) [aP 0, aI x, aI y, aI z, aI A, aI B, aI (hb (td A B (L - s)) k : Int), aI (td A B (L - s) (hb (td A B (L - s)) k)), aI ((k + 2 : Nat) : Int), v] [] (sT h) Q ↔ Q (aI (if z = 0 then (hb (td A B (L - s)) 19 : Int) else td A B (L - s) (hb (td A B (L - s)) 19))) (sT h)) := by
  intro j
  induction j with
  | zero =>
    intro k v hk hv
    have hk : k = 19 := by omega
    subst hk
    rw [ju_190_53]
    simp only [ju_190_71, ju_190_75, ju_190_76, r_aLD0, r_gR, r_iLD1, cl_28, r_IF0, r_iLD2, r_IF1, r_iCONST, r_iRET, r_IC0, r_iLD3, cl_12, cl_39, cl_40, r_iST4, r_iST5, r_iST6, r_iLD4, r_iLD5, cl_189, r_iST7, r_iST8, r_iLD8, r_bPUSH, r_IC4, r_iST9, r_iLD9, r_iLD7, r_IC3, r_IINC8, r_GOTO, r_iLD6, eq_self, Int.reduceLT, Int.reduceLE, Int.reduceEq, true_or, or_true, and_self, true_and, and_true, w8_0, w8_1, w8_2, w8_3, w8_4, nl_I, nl_P, nl_X, pu_I, pu_J, pu_V]
    rw [if_pos (by decide)]
    by_cases e : z = 0 <;> simp [e]
  | succ j ih =>
    intro k v hk hv
    have hw : w3 (((k + 2 : Nat) : Int) + 1) = ((k + 1 + 2 : Nat) : Int) := by rw [w3_id (by omega) (by omega)]; omega
    have ih := fun v hv => ih (k + 1) v (by omega) hv
    rw [hb] at ih
    rw [ju_190_53]
    simp only [r_aLD0, r_gR, r_iLD1, cl_28, r_IF0, r_iLD2, r_IF1, r_iCONST, r_iRET, r_IC0, r_iLD3, cl_12, cl_39, cl_40, r_iST4, r_iST5, r_iST6, r_iLD4, r_iLD5, cl_189, r_iST7, r_iST8, r_iLD8, r_bPUSH, r_IC4, r_iST9, r_iLD9, r_iLD7, r_IC3, r_IINC8, r_GOTO, r_iLD6, eq_self, Int.reduceLT, Int.reduceLE, Int.reduceEq, true_or, or_true, and_self, true_and, and_true, w8_0, w8_1, w8_2, w8_3, w8_4, nl_I, nl_P, nl_X, pu_I, pu_J, pu_V, kd_0, ln_0, rR_0_0, rR_0_1, rR_0_3, rR_0_4, rR_0_5, rR_0_6, rR_0_7, rR_0_8, rR_0_9, rR_0_10, s_tired hL hL2 hs hsL hA hB (show 1 ≤ k + 2 by omega) (show k + 2 ≤ 20 by omega)]
    rw [if_neg (by omega)]
    by_cases e : td A B (L - s) (k + 2) < td A B (L - s) (hb (td A B (L - s)) k)
    · rw [if_neg (by omega), ju_190_69]
      simp only [r_aLD0, r_gR, r_iLD1, cl_28, r_IF0, r_iLD2, r_IF1, r_iCONST, r_iRET, r_IC0, r_iLD3, cl_12, cl_39, cl_40, r_iST4, r_iST5, r_iST6, r_iLD4, r_iLD5, cl_189, r_iST7, r_iST8, r_iLD8, r_bPUSH, r_IC4, r_iST9, r_iLD9, r_iLD7, r_IC3, r_IINC8, r_GOTO, r_iLD6, eq_self, Int.reduceLT, Int.reduceLE, Int.reduceEq, true_or, or_true, and_self, true_and, and_true, w8_0, w8_1, w8_2, w8_3, w8_4, nl_I, nl_P, nl_X, pu_I, pu_J, pu_V, hw]
      have := ih (aI (td A B (L - s) (k + 2))) rfl
      rw [if_pos e] at this
      exact this
    · rw [if_pos (by omega), ju_190_69]
      simp only [r_aLD0, r_gR, r_iLD1, cl_28, r_IF0, r_iLD2, r_IF1, r_iCONST, r_iRET, r_IC0, r_iLD3, cl_12, cl_39, cl_40, r_iST4, r_iST5, r_iST6, r_iLD4, r_iLD5, cl_189, r_iST7, r_iST8, r_iLD8, r_bPUSH, r_IC4, r_iST9, r_iLD9, r_iLD7, r_IC3, r_IINC8, r_GOTO, r_iLD6, eq_self, Int.reduceLT, Int.reduceLE, Int.reduceEq, true_or, or_true, and_self, true_and, and_true, w8_0, w8_1, w8_2, w8_3, w8_4, nl_I, nl_P, nl_X, pu_I, pu_J, pu_V, hw]
      have := ih (aI (td A B (L - s) (k + 2))) rfl
      rw [if_neg e] at this
      exact this
theorem lp_Rhands (hR : RO h 150 n nb L) (h3 : h 150 3 = (s : Int)) (hsL : s ≤ L) : ∀ (j k : Nat), k + j = 19 → (wp 192 (am_ju 192 22) [aP 149, aI x, aI y, aI z, aI (hb (td (sumF (rW h 150 x 0) n) (sumF (rW h 150 y 0) n) (L - s)) k : Int), aI ((k + 2 : Nat) : Int)] [] (sT h) Q ↔ Q (aI (if z = 0 then (hb (td (sumF (rW h 150 x 0) n) (sumF (rW h 150 y 0) n) (L - s)) 19 : Int) else td (sumF (rW h 150 x 0) n) (sumF (rW h 150 y 0) n) (L - s) (hb (td (sumF (rW h 150 x 0) n) (sumF (rW h 150 y 0) n) (L - s)) 19))) (sT h)) := by
  intro j
  have hT := fun (N : Nat) q1 q2 Q' => s_Rtired (h := h) (Q := Q') (x := x) (y := y) (N := N) hR h3 hsL q1 q2
  generalize td (sumF (rW h 150 x 0) n) (sumF (rW h 150 y 0) n) (L - s) = f at hT ⊢
  induction j with
  | zero =>
    intro k hk
    have hk : k = 19 := by omega
    subst hk
    have hr := hb_r f 19
    rw [ju_192_22]
    simp only [ju_192_42, ju_192_46, ju_192_51, r_aLD0, r_iLD1, cl_33, r_IF0, r_iLD2, r_IC0, r_iLD3, r_iCONST, cl_17, r_IF1, r_iRET, r_iST4, r_iST5, r_iLD5, r_bPUSH, r_IC3, cl_191, r_iLD4, r_GOTO, r_IINC5, eq_self, Int.reduceLT, Int.reduceLE, Int.reduceEq, true_or, or_true, and_self, true_and, and_true, w8_0, w8_1, w8_2, w8_3, w8_4, nl_I, nl_P, nl_X, pu_I, pu_J, pu_V, kd_149, ln_149, rR_149_0, rR_149_1, rR_149_2, rR_149_3, rR_149_5, rR_149_7, rR_149_8, rR_149_9, rR_149_10, rR_149_16, rR_149_17, rR_149_18, hT _ hr.1 hr.2]
    rw [if_pos (by decide)]
    by_cases e : z = 0 <;> simp [e]
  | succ j ih =>
    intro k hk
    have hw : w3 (((k + 2 : Nat) : Int) + 1) = ((k + 1 + 2 : Nat) : Int) := by rw [w3_id (by omega) (by omega)]; omega
    have hr := hb_r f k
    have ih := ih (k + 1) (by omega)
    rw [hb] at ih
    rw [ju_192_22]
    simp only [r_aLD0, r_iLD1, cl_33, r_IF0, r_iLD2, r_IC0, r_iLD3, r_iCONST, cl_17, r_IF1, r_iRET, r_iST4, r_iST5, r_iLD5, r_bPUSH, r_IC3, cl_191, r_iLD4, r_GOTO, r_IINC5, eq_self, Int.reduceLT, Int.reduceLE, Int.reduceEq, true_or, or_true, and_self, true_and, and_true, w8_0, w8_1, w8_2, w8_3, w8_4, nl_I, nl_P, nl_X, pu_I, pu_J, pu_V, kd_149, ln_149, rR_149_0, rR_149_1, rR_149_2, rR_149_3, rR_149_5, rR_149_7, rR_149_8, rR_149_9, rR_149_10, rR_149_16, rR_149_17, rR_149_18, hT (k + 2) (by omega) (by omega), hT (hb f k) hr.1 (by omega)]
    rw [if_neg (by omega)]
    by_cases e : f (k + 2) < f (hb f k)
    · rw [if_neg (by omega), ju_192_39]
      simp only [r_aLD0, r_iLD1, cl_33, r_IF0, r_iLD2, r_IC0, r_iLD3, r_iCONST, cl_17, r_IF1, r_iRET, r_iST4, r_iST5, r_iLD5, r_bPUSH, r_IC3, cl_191, r_iLD4, r_GOTO, r_IINC5, eq_self, Int.reduceLT, Int.reduceLE, Int.reduceEq, true_or, or_true, and_self, true_and, and_true, w8_0, w8_1, w8_2, w8_3, w8_4, nl_I, nl_P, nl_X, pu_I, pu_J, pu_V, hw]
      rw [if_pos e] at ih
      exact ih
    · rw [if_pos (by omega), ju_192_38]
      simp only [ju_192_39, r_aLD0, r_iLD1, cl_33, r_IF0, r_iLD2, r_IC0, r_iLD3, r_iCONST, cl_17, r_IF1, r_iRET, r_iST4, r_iST5, r_iLD5, r_bPUSH, r_IC3, cl_191, r_iLD4, r_GOTO, r_IINC5, eq_self, Int.reduceLT, Int.reduceLE, Int.reduceEq, true_or, or_true, and_self, true_and, and_true, w8_0, w8_1, w8_2, w8_3, w8_4, nl_I, nl_P, nl_X, pu_I, pu_J, pu_V, hw]
      rw [if_neg e] at ih
      exact ih
abbrev okH (nb : Nat) (x y z : Int) : Prop := ((0 ≤ x ∧ x < nb) ∧ 0 ≤ y ∧ y < nb) ∧ x ≠ y ∧ 0 ≤ z ∧ z < 2
def hAns (A B : Int) (m : Nat) (z : Int) : Int := if z = 0 then (hb (td A B m) 19 : Int) else td A B m (hb (td A B m) 19)
theorem s_Thands (hC : CO h n nb L s) : wp 190 (am_ju 190 0) [aP 0, aI x, aI y, aI z, aX, aX, aX, aX, aX, aX] [] (sT h) Q ↔ Q (aI (if okH nb x y z then hAns (sumS (h 83) (cS h x n) 8) (sumS (h 83) (cS h y n) 8) (L - s) z else -1)) (sT h) := by
  obtain ⟨c1, c2, c3, c4, c5, c6, c7, c8, c9, c10⟩ := id hC
  simp only [ju_190_0, ju_190_12, r_aLD0, r_gR, r_iLD1, cl_28, r_IF0, r_iLD2, r_IF1, r_iCONST, r_iRET, r_IC0, r_iLD3, cl_12, cl_39, cl_40, r_iST4, r_iST5, r_iST6, r_iLD4, r_iLD5, cl_189, r_iST7, r_iST8, r_iLD8, r_bPUSH, r_IC4, r_iST9, r_iLD9, r_iLD7, r_IC3, r_IINC8, r_GOTO, r_iLD6, eq_self, Int.reduceLT, Int.reduceLE, Int.reduceEq, true_or, or_true, and_self, true_and, and_true, w8_0, w8_1, w8_2, w8_3, w8_4, nl_I, nl_P, nl_X, pu_I, pu_J, pu_V, kd_0, ln_0, rR_0_0, rR_0_1, rR_0_3, rR_0_4, rR_0_5, rR_0_6, rR_0_7, rR_0_8, rR_0_9, rR_0_10, kd_80, ln_80, rR_80_0, rR_80_1, rR_80_2, rR_80_3, kd_81, ln_81, rR_81_0, rR_81_1, rR_81_2, rR_81_3, rR_81_4, rR_81_5, s_hasBag kd_81, c1]
  by_cases e1 : 0 ≤ x ∧ x < nb
  · rw [if_neg (by simp [e1])]
    by_cases e2 : 0 ≤ y ∧ y < nb
    · rw [if_pos (by simp [e2])]
      simp only [ju_190_14, ju_190_21, r_aLD0, r_gR, r_iLD1, cl_28, r_IF0, r_iLD2, r_IF1, r_iCONST, r_iRET, r_IC0, r_iLD3, cl_12, cl_39, cl_40, r_iST4, r_iST5, r_iST6, r_iLD4, r_iLD5, cl_189, r_iST7, r_iST8, r_iLD8, r_bPUSH, r_IC4, r_iST9, r_iLD9, r_iLD7, r_IC3, r_IINC8, r_GOTO, r_iLD6, eq_self, Int.reduceLT, Int.reduceLE, Int.reduceEq, true_or, or_true, and_self, true_and, and_true, w8_0, w8_1, w8_2, w8_3, w8_4, nl_I, nl_P, nl_X, pu_I, pu_J, pu_V, s_isBelow]
      by_cases e3 : x = y
      · rw [if_pos e3, if_neg (fun q => q.2.1 e3)]
      · rw [if_neg e3]
        by_cases e4 : 0 ≤ z ∧ z < 2
        · have g1 := cS_gd (b := x) hC
          have g2 := cS_gd (b := y) hC
          have w1 := (gd_W g1).1
          have w2 := (gd_W g2).1
          have t1 := cS_lt (h := h) (b := x) c4
          have t2 := cS_lt (h := h) (b := y) c4
          rw [if_pos (by simp [e4]), if_pos ⟨⟨e1, e2⟩, e3, e4⟩]
          have ta : ∀ (b : Int) (Q' : am_V → am_S → Prop), wp 39 (am_ju 39 0) [aP 80, aI b, aX, aX] [] (sT h) Q' ↔ Q' (aI (cS h b n : Int)) (sT h) := fun b Q' => s_thingsAt c4 c3
          simp only [ju_190_23, r_aLD0, r_gR, r_iLD1, cl_28, r_IF0, r_iLD2, r_IF1, r_iCONST, r_iRET, r_IC0, r_iLD3, cl_12, cl_39, cl_40, r_iST4, r_iST5, r_iST6, r_iLD4, r_iLD5, cl_189, r_iST7, r_iST8, r_iLD8, r_bPUSH, r_IC4, r_iST9, r_iLD9, r_iLD7, r_IC3, r_IINC8, r_GOTO, r_iLD6, eq_self, Int.reduceLT, Int.reduceLE, Int.reduceEq, true_or, or_true, and_self, true_and, and_true, w8_0, w8_1, w8_2, w8_3, w8_4, nl_I, nl_P, nl_X, pu_I, pu_J, pu_V, kd_0, ln_0, rR_0_0, rR_0_1, rR_0_3, rR_0_4, rR_0_5, rR_0_6, rR_0_7, rR_0_8, rR_0_9, rR_0_10, kd_80, ln_80, rR_80_0, rR_80_1, rR_80_2, rR_80_3, kd_81, ln_81, rR_81_0, rR_81_1, rR_81_2, rR_81_3, rR_81_4, rR_81_5, ta, s_sumOf (h := h) (a := cS h x n) (show cS h x n < 2 ^ 31 by omega) kd_83 ln_83 (fun t ht => by have := (g1 t ht).1; omega), s_sumOf (h := h) (a := cS h y n) (show cS h y n < 2 ^ 31 by omega) kd_83 ln_83 (fun t ht => by have := (g2 t ht).1; omega)]
          have st := fun Q' => s_tired (h := h) (Q := Q') (A := sumS (h 83) (cS h x n) 8) (B := sumS (h 83) (cS h y n) 8) (N := 1) c5 c6 c7 c8 ⟨w1.1, w1.2⟩ ⟨w2.1, w2.2⟩ (by decide) (by decide)
          simp only [show ((1 : Nat) : Int) = 1 from rfl] at st
          simp only [st, r_aLD0, r_gR, r_iLD1, cl_28, r_IF0, r_iLD2, r_IF1, r_iCONST, r_iRET, r_IC0, r_iLD3, cl_12, cl_39, cl_40, r_iST4, r_iST5, r_iST6, r_iLD4, r_iLD5, cl_189, r_iST7, r_iST8, r_iLD8, r_bPUSH, r_IC4, r_iST9, r_iLD9, r_iLD7, r_IC3, r_IINC8, r_GOTO, r_iLD6, eq_self, Int.reduceLT, Int.reduceLE, Int.reduceEq, true_or, or_true, and_self, true_and, and_true, w8_0, w8_1, w8_2, w8_3, w8_4, nl_I, nl_P, nl_X, pu_I, pu_J, pu_V]
          exact lp_hands c5 c6 c7 c8 ⟨w1.1, w1.2⟩ ⟨w2.1, w2.2⟩ 19 0 aX rfl rfl
        · rw [if_neg (by simp [e4]), if_neg (fun q => e4 q.2.2)]
    · rw [if_neg (by simp [e2]), if_neg (fun q => e2 q.1.2)]
  · rw [if_pos (by simp [e1]), if_neg (fun q => e1 q.1.1)]
theorem s_Rhands (hR : RO h 150 n nb L) (h3 : h 150 3 = (s : Int)) (hsL : s ≤ L) : wp 192 (am_ju 192 0) [aP 149, aI x, aI y, aI z, aX, aX] [] (sT h) Q ↔ Q (aI (if okH nb x y z then hAns (sumF (rW h 150 x 0) n) (sumF (rW h 150 y 0) n) (L - s) z else -1)) (sT h) := by
  obtain ⟨r0, r1, r2, r3, r4, r5, r6, r7⟩ := id hR
  simp only [ju_192_0, ju_192_16, r_aLD0, r_iLD1, cl_33, r_IF0, r_iLD2, r_IC0, r_iLD3, r_iCONST, cl_17, r_IF1, r_iRET, r_iST4, r_iST5, r_iLD5, r_bPUSH, r_IC3, cl_191, r_iLD4, r_GOTO, r_IINC5, eq_self, Int.reduceLT, Int.reduceLE, Int.reduceEq, true_or, or_true, and_self, true_and, and_true, w8_0, w8_1, w8_2, w8_3, w8_4, nl_I, nl_P, nl_X, pu_I, pu_J, pu_V, kd_149, ln_149, rR_149_0, rR_149_1, rR_149_2, rR_149_3, rR_149_5, rR_149_7, rR_149_8, rR_149_9, rR_149_10, rR_149_16, rR_149_17, rR_149_18, s_isBag r1 r0, s_in]
  by_cases e1 : 0 ≤ x ∧ x < nb
  · rw [if_neg (by simp [e1])]
    by_cases e2 : 0 ≤ y ∧ y < nb
    · rw [if_neg (by simp [e2])]
      by_cases e3 : x = y
      · rw [if_pos e3, if_neg (fun q => q.2.1 e3)]
      · rw [if_neg e3]
        by_cases e4 : 0 ≤ z ∧ z < 2
        · have e5 : 0 ≤ z ∧ z ≤ 1 := ⟨e4.1, by omega⟩
          rw [if_pos (by simp [e5]), if_pos ⟨⟨e1, e2⟩, e3, e4⟩]
          simp only [ju_192_18, r_aLD0, r_iLD1, cl_33, r_IF0, r_iLD2, r_IC0, r_iLD3, r_iCONST, cl_17, r_IF1, r_iRET, r_iST4, r_iST5, r_iLD5, r_bPUSH, r_IC3, cl_191, r_iLD4, r_GOTO, r_IINC5, eq_self, Int.reduceLT, Int.reduceLE, Int.reduceEq, true_or, or_true, and_self, true_and, and_true, w8_0, w8_1, w8_2, w8_3, w8_4, nl_I, nl_P, nl_X, pu_I, pu_J, pu_V]
          exact lp_Rhands hR h3 hsL 19 0 rfl
        · have e5 : ¬ (0 ≤ z ∧ z ≤ 1) := fun q => e4 ⟨q.1, by omega⟩
          rw [if_neg (by simp [e5]), if_neg (fun q => e4 q.2.2)]
    · rw [if_pos (by simp [e2]), if_neg (fun q => e2 q.1.2)]
  · rw [if_pos (by simp [e1]), if_neg (fun q => e1 q.1.1)]
theorem b_hands (hI : INV h) : Both 190 192 [aP 0, aI x, aI y, aI z, aX, aX, aX, aX, aX, aX] [aP 149, aI x, aI y, aI z, aX, aX] h := by
  obtain ⟨⟨n, nb, L, s, K, nx, hW⟩, hr⟩ := id hI
  have hP := hW.1
  unfold Both
  rw [s_Thands (Rp_CO hP)]
  refine ⟨_, h, rfl, rfl, rfl, ?_⟩
  rw [s_Rhands hP.1 hP.2.2.2.2.2.1 hP.2.2.2.2.2.2.1]
  refine ⟨h, ?_, rfl, rfl, hI⟩
  rw [sS_rW hP x 0 83 (fun t q => (Rp_t hP (by omega) (by omega)).1), sS_rW hP y 0 83 (fun t q => (Rp_t hP (by omega) (by omega)).1)]
end HN
