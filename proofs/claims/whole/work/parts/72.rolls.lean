/-! rolls -/
def rfN (f : Int → Int) (st a : Int) : Nat → Int → Nat
  | 0, _ => 0
  | k + 1, s => if f (s + a) = st then 1 + rfN f st a k (s + a) else 0
def rlF (h : am_F) (w : Int) : Nat := if sortI h w = 1 then rfN (sortI h) 1 (-1) 20 w else if sortI h w = 2 then rfN (sortI h) 2 1 20 w else 0
section RL
variable {g h h' h1 h2 : am_F} {Q : am_V → am_S → Prop} {x y z st a w t : Int} {n nb L s K nx N m : Nat}
theorem rfN_le (f : Int → Int) : ∀ (k : Nat) (s : Int), rfN f st a k s ≤ k := by
  intro k
  induction k with
  | zero => intro s; exact Nat.le_refl _
  | succ k ih =>
    intro s
    rw [rfN]
    have := ih (s + a)
    split <;> omega
theorem rlF_le : rlF h w ≤ 20 := by
  unfold rlF
  split
  · exact rfN_le _ _ _
  · split
    · exact rfN_le _ _ _
    · omega
abbrev rolB (h : am_F) (n : Nat) (t : Int) : Prop := (0 ≤ t ∧ t < n) ∧ h 87 t = 1 ∧ 10 ≤ h 94 t
theorem s_isRoll (h8 : n ≤ 8) (hn : h 81 7 = (n : Int)) : wp 171 (am_ju 171 0) [aP 80, aI t] [] (sT h) Q ↔ Q (aI (if rolB h n t then 1 else 0)) (sT h) := by
  have l1 := ln_87
  have k1 := kd_87
  have l2 := ln_94
  have k2 := kd_94
  simp only [ju_171_0, r_aLD0, r_gR, r_iLD1, cl_27, r_IF0, r_iALD, r_iALDs, r_iCONST, r_IC1, r_bPUSH, r_IC2, r_GOTO, r_zRET, eq_self, Int.reduceLT, Int.reduceLE, Int.reduceEq, true_or, or_true, and_self, true_and, and_true, w8_0, w8_1, w8_2, w8_3, w8_4, nl_I, nl_P, nl_X, pu_I, pu_J, pu_V, kd_80, ln_80, rR_80_0, rR_80_1, rR_80_2, rR_80_3, kd_81, ln_81, rR_81_0, rR_81_1, rR_81_2, rR_81_3, rR_81_4, rR_81_5, s_hasThing kd_81, hn]
  by_cases e : 0 ≤ t ∧ t < n
  · obtain ⟨t0, t1⟩ := id e
    have t8 : t < 8 := by omega
    rw [if_neg (by simp [e])]
    simp (disch := first | assumption | omega | exact w8_0 | exact w8_1 _ | exact w8_2 _ _ | exact w8_3 _ _ _ | exact w8_4 _ _ _ _ | exact nl_I _ | exact nl_P _ | exact nl_X | decide | exact w8_5 _ _ _ _ _) only [ju_171_21, ju_171_22, r_aLD0, r_gR, r_iLD1, cl_27, r_IF0, r_iALDc, r_iALDs, r_iCONST, r_IC1, r_bPUSH, r_IC2, r_GOTO, r_zRET, eq_self, Int.reduceLT, Int.reduceLE, Int.reduceEq, true_or, or_true, and_self, true_and, and_true, w8_0, w8_1, w8_2, w8_3, w8_4, nl_I, nl_P, nl_X, pu_I, pu_J, pu_V, w3_id, Int.add_zero, kd_80, kd_81, kd_90, rR_80_0, rR_80_2, rR_81_5, rR_90_3, r_zRET0, r_zRET1]
    by_cases f : h 87 t = 1
    · by_cases g : 10 ≤ h 94 t
      · rw [if_neg (by simpa using f), if_neg (by omega), if_pos ⟨e, f, g⟩]
      · rw [if_neg (by simpa using f), if_pos (by omega), if_neg (fun q => g q.2.2)]
    · rw [if_pos f, if_neg (fun q => f q.2.1)]
  · rw [if_pos (by simp [e]), if_neg (fun q => e q.1)]
    simp only [ju_171_21, ju_171_22, r_aLD0, r_gR, r_iLD1, cl_27, r_IF0, r_iALD, r_iALDs, r_iCONST, r_IC1, r_bPUSH, r_IC2, r_GOTO, r_zRET, eq_self, Int.reduceLT, Int.reduceLE, Int.reduceEq, true_or, or_true, and_self, true_and, and_true, w8_0, w8_1, w8_2, w8_3, w8_4, nl_I, nl_P, nl_X, pu_I, pu_J, pu_V, r_zRET0]
theorem lp_roll (hw : -100 ≤ w ∧ w ≤ 100) (ha : a = 1 ∨ a = -1) : ∀ (k j : Nat), j + k = 20 → (wp 172 (am_ju 172 21) [aP 88, aI w, aI st, aI a, aI (j : Int)] [] (sT h) Q ↔ Q (aI ((j + rfN (sortI h) st a k (w + a * j) : Nat) : Int)) (sT h)) := by
  intro k
  induction k with
  | zero =>
    intro j hj
    have hj : j = 20 := by omega
    subst hj
    rw [ju_172_21]
    simp only [ju_172_37, r_aLD0, r_iLD1, cl_100, r_iST2, r_iLD2, r_iCONST, r_IC0, r_iRET, r_IC1, r_GOTO, r_iST3, r_iST4, r_iLD4, r_bPUSH, r_IC3, r_iLD3, r_iADD, r_iMUL, r_IINC4, eq_self, Int.reduceLT, Int.reduceLE, Int.reduceEq, true_or, or_true, and_self, true_and, and_true, w8_0, w8_1, w8_2, w8_3, w8_4, nl_I, nl_P, nl_X, pu_I, pu_J, pu_V, rfN]
    rw [if_pos (by decide)]
  | succ k ih =>
    intro j hj
    have hw1 : w3 ((j : Int) + 1) = ((j + 1 : Nat) : Int) := w3_id (by omega) (by omega)
    have hm : a * (((j + 1 : Nat)) : Int) = a * j + a := by rw [Int.natCast_add, Int.mul_add]; simp
    have hr : -20 ≤ a * (((j + 1 : Nat)) : Int) ∧ a * (((j + 1 : Nat)) : Int) ≤ 20 := by
      rcases ha with rfl | rfl <;> omega
    have hw2 : w3 (a * (((j + 1 : Nat)) : Int)) = a * (((j + 1 : Nat)) : Int) := w3_id (by omega) (by omega)
    have hw3 : w3 (w + a * (((j + 1 : Nat)) : Int)) = w + a * j + a := by rw [w3_id (by omega) (by omega), hm]; omega
    have ih := ih (j + 1) (by omega)
    rw [hm, ← Int.add_assoc] at ih
    rw [rfN, ju_172_21]
    simp only [ju_172_37, r_aLD0, r_iLD1, cl_100, r_iST2, r_iLD2, r_iCONST, r_IC0, r_iRET, r_IC1, r_GOTO, r_iST3, r_iST4, r_iLD4, r_bPUSH, r_IC3, r_iLD3, r_iADD, r_iMUL, r_IINC4, eq_self, Int.reduceLT, Int.reduceLE, Int.reduceEq, true_or, or_true, and_self, true_and, and_true, w8_0, w8_1, w8_2, w8_3, w8_4, nl_I, nl_P, nl_X, pu_I, pu_J, pu_V, kd_88, hw1, hw2, hw3, s_sortAt]
    rw [if_neg (by omega)]
    by_cases e : sortI h (w + a * j + a) = st
    · rw [if_neg (by simpa using e), if_pos e, ih]
      rw [show j + 1 + rfN (sortI h) st a k (w + a * j + a) = j + (1 + rfN (sortI h) st a k (w + a * j + a)) by omega]
    · rw [if_pos e, if_neg e]
      rfl
theorem s_rollFrom (hw : -100 ≤ w ∧ w ≤ 100) : wp 172 (am_ju 172 0) [aP 88, aI w, aX, aX, aX] [] (sT h) Q ↔ Q (aI (rlF h w : Int)) (sT h) := by
  rw [ju_172_0]
  simp only [r_aLD0, r_iLD1, cl_100, r_iST2, r_iLD2, r_iCONST, r_IC0, r_iRET, r_IC1, r_GOTO, r_iST3, r_iST4, r_iLD4, r_bPUSH, r_IC3, r_iLD3, r_iADD, r_iMUL, r_IINC4, eq_self, Int.reduceLT, Int.reduceLE, Int.reduceEq, true_or, or_true, and_self, true_and, and_true, w8_0, w8_1, w8_2, w8_3, w8_4, nl_I, nl_P, nl_X, pu_I, pu_J, pu_V, kd_88, s_sortAt]
  unfold rlF
  by_cases e : sortI h w = 1
  · rw [if_pos e, if_pos e, ju_172_12]
    simp only [ju_172_18, r_aLD0, r_iLD1, cl_100, r_iST2, r_iLD2, r_iCONST, r_IC0, r_iRET, r_IC1, r_GOTO, r_iST3, r_iST4, r_iLD4, r_bPUSH, r_IC3, r_iLD3, r_iADD, r_iMUL, r_IINC4, eq_self, Int.reduceLT, Int.reduceLE, Int.reduceEq, true_or, or_true, and_self, true_and, and_true, w8_0, w8_1, w8_2, w8_3, w8_4, nl_I, nl_P, nl_X, pu_I, pu_J, pu_V, e, not_true_eq_false, if_false]
    have := lp_roll (h := h) (Q := Q) (st := 1) (a := -1) hw (Or.inr rfl) 20 0 rfl
    simp only [Int.natCast_zero, Int.mul_zero, Int.add_zero, Nat.zero_add] at this
    exact this
  · rw [if_neg e, if_neg e]
    by_cases f : sortI h w = 2
    · rw [if_pos f, if_pos f, ju_172_12]
      simp only [ju_172_17, ju_172_18, r_aLD0, r_iLD1, cl_100, r_iST2, r_iLD2, r_iCONST, r_IC0, r_iRET, r_IC1, r_GOTO, r_iST3, r_iST4, r_iLD4, r_bPUSH, r_IC3, r_iLD3, r_iADD, r_iMUL, r_IINC4, eq_self, Int.reduceLT, Int.reduceLE, Int.reduceEq, true_or, or_true, and_self, true_and, and_true, w8_0, w8_1, w8_2, w8_3, w8_4, nl_I, nl_P, nl_X, pu_I, pu_J, pu_V, f, Int.reduceEq, not_false_eq_true, if_true]
      have := lp_roll (h := h) (Q := Q) (st := 2) (a := 1) hw (Or.inl rfl) 20 0 rfl
      simp only [Int.natCast_zero, Int.mul_zero, Int.add_zero, Nat.zero_add] at this
      exact this
    · rw [if_neg f, if_neg f]
      rfl
theorem s_rollOf (h8 : n ≤ 8) (hn : h 81 7 = (n : Int)) (hwh : ∀ t : Nat, t < n → 0 ≤ h 94 t ∧ h 94 t ≤ 40) : wp 173 (am_ju 173 0) [aP 80, aI t] [] (sT h) Q ↔ Q (aI (if rolB h n t then (rlF h (h 94 t - 10) : Int) else 0)) (sT h) := by
  have l2 := ln_94
  have k2 := kd_94
  simp only [ju_173_0, r_aLD0, r_iLD1, cl_171, r_IF0, r_gR, r_iALD, r_iALDs, r_bPUSH, r_iSUB, cl_172, r_GOTO, r_iCONST, r_iRET, eq_self, Int.reduceLT, Int.reduceLE, Int.reduceEq, true_or, or_true, and_self, true_and, and_true, w8_0, w8_1, w8_2, w8_3, w8_4, nl_I, nl_P, nl_X, pu_I, pu_J, pu_V, kd_80, ln_80, rR_80_0, rR_80_1, rR_80_2, rR_80_3, s_isRoll h8 hn]
  by_cases e : rolB h n t
  · obtain ⟨t', rfl⟩ := Int.eq_ofNat_of_zero_le e.1.1
    have hr := hwh t' (by omega)
    have t8 : (t' : Int) < 8 := by omega
    have hw : w3 (h 94 t' - 10) = h 94 t' - 10 := w3_id (by omega) (by omega)
    rw [if_neg (by simp [e]), if_pos e]
    simp (disch := first | assumption | omega | exact w8_0 | exact w8_1 _ | exact w8_2 _ _ | exact w8_3 _ _ _ | exact w8_4 _ _ _ _ | exact nl_I _ | exact nl_P _ | exact nl_X | decide | exact w8_5 _ _ _ _ _) only [ju_173_16, r_aLD0, r_iLD1, cl_171, r_IF0, r_gR, r_iALDc, r_iALDs, r_bPUSH, r_iSUB, cl_172, r_GOTO, r_iCONST, r_iRET, eq_self, Int.reduceLT, Int.reduceLE, Int.reduceEq, true_or, or_true, and_self, true_and, and_true, w8_0, w8_1, w8_2, w8_3, w8_4, nl_I, nl_P, nl_X, pu_I, pu_J, pu_V, w3_id, Int.add_zero, kd_80, kd_90, kd_88, rR_80_1, rR_80_2, rR_90_3, hw, s_rollFrom (h := h) (w := h 94 t' - 10) ⟨by omega, by omega⟩]
  · rw [if_pos (by simp [e]), if_neg e]
    simp only [ju_173_15, ju_173_16, r_aLD0, r_iLD1, cl_171, r_IF0, r_gR, r_iALD, r_iALDs, r_bPUSH, r_iSUB, cl_172, r_GOTO, r_iCONST, r_iRET, eq_self, Int.reduceLT, Int.reduceLE, Int.reduceEq, true_or, or_true, and_self, true_and, and_true, w8_0, w8_1, w8_2, w8_3, w8_4, nl_I, nl_P, nl_X, pu_I, pu_J, pu_V]
theorem s_Trolls (h8 : n ≤ 8) (hn : h 81 7 = (n : Int)) (hwh : ∀ t : Nat, t < n → 0 ≤ h 94 t ∧ h 94 t ≤ 40) : wp 174 (am_ju 174 0) [aP 0, aI t] [] (sT h) Q ↔ Q (aI (if 0 ≤ t ∧ t < n then (if rolB h n t then (rlF h (h 94 t - 10) : Int) else -2) else -1)) (sT h) := by
  simp only [ju_174_0, r_aLD0, r_gR, r_iLD1, cl_27, r_IF1, r_iCONST, r_iRET, cl_171, r_bPUSH, cl_173, eq_self, Int.reduceLT, Int.reduceLE, Int.reduceEq, true_or, or_true, and_self, true_and, and_true, w8_0, w8_1, w8_2, w8_3, w8_4, nl_I, nl_P, nl_X, pu_I, pu_J, pu_V, kd_0, ln_0, rR_0_0, rR_0_1, rR_0_3, rR_0_4, rR_0_5, rR_0_6, rR_0_7, rR_0_8, rR_0_9, rR_0_10, kd_80, ln_80, rR_80_0, rR_80_1, rR_80_2, rR_80_3, kd_81, ln_81, rR_81_0, rR_81_1, rR_81_2, rR_81_3, rR_81_4, rR_81_5, s_hasThing kd_81, hn]
  by_cases e : 0 ≤ t ∧ t < n
  · rw [if_pos (by simp [e]), if_pos e]
    simp only [ju_174_8, r_aLD0, r_gR, r_iLD1, cl_27, r_IF1, r_iCONST, r_iRET, cl_171, r_bPUSH, cl_173, eq_self, Int.reduceLT, Int.reduceLE, Int.reduceEq, true_or, or_true, and_self, true_and, and_true, w8_0, w8_1, w8_2, w8_3, w8_4, nl_I, nl_P, nl_X, pu_I, pu_J, pu_V, kd_0, ln_0, rR_0_0, rR_0_1, rR_0_3, rR_0_4, rR_0_5, rR_0_6, rR_0_7, rR_0_8, rR_0_9, rR_0_10, kd_80, ln_80, rR_80_0, rR_80_1, rR_80_2, rR_80_3, s_isRoll h8 hn]
    by_cases f : rolB h n t
    · rw [if_pos (by simp [f]), if_pos f]
      simp only [ju_174_15, r_aLD0, r_gR, r_iLD1, cl_27, r_IF1, r_iCONST, r_iRET, cl_171, r_bPUSH, cl_173, eq_self, Int.reduceLT, Int.reduceLE, Int.reduceEq, true_or, or_true, and_self, true_and, and_true, w8_0, w8_1, w8_2, w8_3, w8_4, nl_I, nl_P, nl_X, pu_I, pu_J, pu_V, kd_0, ln_0, rR_0_0, rR_0_1, rR_0_3, rR_0_4, rR_0_5, rR_0_6, rR_0_7, rR_0_8, rR_0_9, rR_0_10, kd_80, ln_80, rR_80_0, rR_80_1, rR_80_2, rR_80_3, s_rollOf h8 hn hwh, if_pos f]
    · rw [if_neg (by simp [f]), if_neg f]
  · rw [if_neg (by simp [e]), if_neg e]
theorem s_RisRoll (ht : 0 ≤ t ∧ t < 8) : wp 175 (am_ju 175 0) [aP 149, aI t] [] (sT h) Q ↔ Q (aI (if h 150 (18 + 6 * t + 4) = 1 ∧ 10 ≤ h 150 (18 + 6 * t + 5) then 1 else 0)) (sT h) := by
  have l1 := ln_150
  have k1 := kd_150
  obtain ⟨t0, t8⟩ := ht
  simp (disch := first | assumption | omega | exact w8_0 | exact w8_1 _ | exact w8_2 _ _ | exact w8_3 _ _ _ | exact w8_4 _ _ _ _ | exact nl_I _ | exact nl_P _ | exact nl_X | decide | exact w8_5 _ _ _ _ _) only [ju_175_0, ju_175_20, ju_175_21, r_aLD0, r_gR, r_iLD1, cl_25, r_iCONST, r_iADD, r_iALDc, r_iALDs, r_IC1, r_bPUSH, r_IC2, r_GOTO, r_zRET, eq_self, Int.reduceLT, Int.reduceLE, Int.reduceEq, true_or, or_true, and_self, true_and, and_true, w8_0, w8_1, w8_2, w8_3, w8_4, nl_I, nl_P, nl_X, pu_I, pu_J, pu_V, w3_id, Int.add_zero, kd_149, rR_149_0, s_thingAt (b := t) ⟨by omega, by omega⟩, r_zRET0, r_zRET1]
  by_cases f : h 150 (18 + 6 * t + 4) = 1
  · by_cases g : 10 ≤ h 150 (18 + 6 * t + 5)
    · rw [if_neg (by simpa using f), if_neg (by omega), if_pos ⟨f, g⟩]
    · rw [if_neg (by simpa using f), if_pos (by omega), if_neg (fun q => g q.2)]
  · rw [if_pos f, if_neg (fun q => f q.1)]
/-- by the row -/
def rs (h : am_F) (L : Nat) (s : Int) : Int := if 0 ≤ s ∧ s < L then h 150 (66 + s) else -1
theorem lp_Rroll (hL : h 150 2 = (L : Int)) (hL2 : L ≤ 20) (hst : st = 1 ∨ st = 2) (ha : a = 1 ∨ a = -1) : ∀ (k : Nat) (s : Int) (m : Nat), m + k ≤ 100 → 0 ≤ s → s < L → (a = 1 → L - 1 - s ≤ k) → (a = -1 → s ≤ k) → (wp 176 (am_ju 176 43) [aP 149, aI t, aI s, aI st, aI a, aI (m : Int)] [] (sT h) Q ↔ Q (aI ((m + rfN (rs h L) st a k s : Nat) : Int)) (sT h)) := by
  intro k
  have l1 := ln_150
  have k1 := kd_150
  have a0 : ¬ a = 0 := by omega
  induction k with
  | zero =>
    intro s m hm s0 s1 m1 m2
    have hout : ¬ (0 ≤ s + a ∧ s + a ≤ (L : Int) - 1) := by rcases ha with rfl | rfl <;> omega
    have hw : w3 (s + a) = s + a := w3_id (by omega) (by omega)
    rw [ju_176_43]
    simp (disch := first | assumption | omega | exact w8_0 | exact w8_1 _ | exact w8_2 _ _ | exact w8_3 _ _ _ | exact w8_4 _ _ _ _ | exact nl_I _ | exact nl_P _ | exact nl_X | decide | exact w8_5 _ _ _ _ _) only [ju_176_73, r_aLD0, r_gR, r_iLD1, cl_25, r_iCONST, r_iADD, r_iALDc, r_iALDs, r_bPUSH, r_iSUB, r_iST2, r_iLD2, cl_17, r_IF0, r_GOTO, r_iST3, r_iLD3, r_IC1, r_iST4, r_iST5, r_iLD4, r_IINC5, r_iLD5, r_iRET, eq_self, Int.reduceLT, Int.reduceLE, Int.reduceEq, true_or, or_true, and_self, true_and, and_true, w8_0, w8_1, w8_2, w8_3, w8_4, nl_I, nl_P, nl_X, pu_I, pu_J, pu_V, w3_id, Int.add_zero, kd_149, rR_149_0, a0, if_false, hL, s_in]
    rw [if_pos (by simp [hout]), rfN]
    rfl
  | succ k ih =>
    intro s m hm s0 s1 m1 m2
    have hw : w3 (s + a) = s + a := w3_id (by omega) (by omega)
    rw [rfN, ju_176_43]
    simp (disch := first | assumption | omega | exact w8_0 | exact w8_1 _ | exact w8_2 _ _ | exact w8_3 _ _ _ | exact w8_4 _ _ _ _ | exact nl_I _ | exact nl_P _ | exact nl_X | decide | exact w8_5 _ _ _ _ _) only [r_aLD0, r_gR, r_iLD1, cl_25, r_iCONST, r_iADD, r_iALDc, r_iALDs, r_bPUSH, r_iSUB, r_iST2, r_iLD2, cl_17, r_IF0, r_GOTO, r_iST3, r_iLD3, r_IC1, r_iST4, r_iST5, r_iLD4, r_IINC5, r_iLD5, r_iRET, eq_self, Int.reduceLT, Int.reduceLE, Int.reduceEq, true_or, or_true, and_self, true_and, and_true, w8_0, w8_1, w8_2, w8_3, w8_4, nl_I, nl_P, nl_X, pu_I, pu_J, pu_V, w3_id, Int.add_zero, kd_149, rR_149_0, a0, if_false, hL, s_in]
    by_cases e : 0 ≤ s + a ∧ s + a ≤ (L : Int) - 1
    · obtain ⟨e0, e1⟩ := id e
      have ers : rs h L (s + a) = h 150 (66 + s + a) := by unfold rs; rw [if_pos ⟨e0, by omega⟩, Int.add_assoc]
      have hm1 : w3 ((m : Int) + 1) = ((m + 1 : Nat) : Int) := w3_id (by omega) (by omega)
      rw [if_neg (by simp [e])]
      rw [ers]
      by_cases f : h 150 (66 + s + a) = st
      · rw [if_neg (by simpa using f), if_pos f]
        rw [show (m : Int) + 1 = ((m + 1 : Nat) : Int) by omega]
        rw [ih (s + a) (m + 1) (by omega) e0 (by omega) (fun q => by have := m1 q; omega) (fun q => by have := m2 q; omega)]
        rw [show m + 1 + rfN (rs h L) st a k (s + a) = m + (1 + rfN (rs h L) st a k (s + a)) by omega]
      · rw [if_pos f, if_neg f, ju_176_73]
        simp only [r_aLD0, r_gR, r_iLD1, cl_25, r_iCONST, r_iADD, r_iALD, r_iALDs, r_bPUSH, r_iSUB, r_iST2, r_iLD2, cl_17, r_IF0, r_GOTO, r_iST3, r_iLD3, r_IC1, r_iST4, r_iST5, r_iLD4, r_IINC5, r_iLD5, r_iRET, eq_self, Int.reduceLT, Int.reduceLE, Int.reduceEq, true_or, or_true, and_self, true_and, and_true, w8_0, w8_1, w8_2, w8_3, w8_4, nl_I, nl_P, nl_X, pu_I, pu_J, pu_V]
        rfl
    · have ers : rs h L (s + a) = -1 := by unfold rs; rw [if_neg (fun q => e ⟨q.1, by omega⟩)]
      rw [if_pos (by simp [e]), ers, if_neg (by omega), ju_176_73]
      simp only [r_aLD0, r_gR, r_iLD1, cl_25, r_iCONST, r_iADD, r_iALD, r_iALDs, r_bPUSH, r_iSUB, r_iST2, r_iLD2, cl_17, r_IF0, r_GOTO, r_iST3, r_iLD3, r_IC1, r_iST4, r_iST5, r_iLD4, r_IINC5, r_iLD5, r_iRET, eq_self, Int.reduceLT, Int.reduceLE, Int.reduceEq, true_or, or_true, and_self, true_and, and_true, w8_0, w8_1, w8_2, w8_3, w8_4, nl_I, nl_P, nl_X, pu_I, pu_J, pu_V]
      rfl
/-- how far the row's thing at w rolls -/
def rlR (h : am_F) (L : Nat) (w : Int) : Nat := if rs h L w = 1 then rfN (rs h L) 1 (-1) 20 w else if rs h L w = 2 then rfN (rs h L) 2 1 20 w else 0
theorem s_rollsBy (hL : h 150 2 = (L : Int)) (hL2 : L ≤ 20) (ht : 0 ≤ t ∧ t < 8) (hwh : 0 ≤ h 150 (18 + 6 * t + 5) ∧ h 150 (18 + 6 * t + 5) ≤ 40) : wp 176 (am_ju 176 0) [aP 149, aI t, aX, aX, aX, aX] [] (sT h) Q ↔ Q (aI (rlR h L (h 150 (18 + 6 * t + 5) - 10) : Int)) (sT h) := by
  have l1 := ln_150
  have k1 := kd_150
  obtain ⟨t0, t8⟩ := ht
  rw [ju_176_0]
  simp (disch := first | assumption | omega | exact w8_0 | exact w8_1 _ | exact w8_2 _ _ | exact w8_3 _ _ _ | exact w8_4 _ _ _ _ | exact nl_I _ | exact nl_P _ | exact nl_X | decide | exact w8_5 _ _ _ _ _) only [r_aLD0, r_gR, r_iLD1, cl_25, r_iCONST, r_iADD, r_iALDc, r_iALDs, r_bPUSH, r_iSUB, r_iST2, r_iLD2, cl_17, r_IF0, r_GOTO, r_iST3, r_iLD3, r_IC1, r_iST4, r_iST5, r_iLD4, r_IINC5, r_iLD5, r_iRET, eq_self, Int.reduceLT, Int.reduceLE, Int.reduceEq, true_or, or_true, and_self, true_and, and_true, w8_0, w8_1, w8_2, w8_3, w8_4, nl_I, nl_P, nl_X, pu_I, pu_J, pu_V, w3_id, Int.add_zero, kd_149, rR_149_0, hL, s_in, s_thingAt (b := t) ⟨by omega, by omega⟩]
  generalize h 150 (18 + 6 * t + 5) - 10 = w at *
  have no : ∀ (b st : Int), wp 176 (am_ju 176 43) [aP 149, aI t, aI w, aI st, aI 0, aI 0] [] (sT h) Q ↔ Q (aI 0) (sT h) := fun b st => by
    rw [ju_176_43]
    simp only [ju_176_73, r_aLD0, r_gR, r_iLD1, cl_25, r_iCONST, r_iADD, r_iALD, r_iALDs, r_bPUSH, r_iSUB, r_iST2, r_iLD2, cl_17, r_IF0, r_GOTO, r_iST3, r_iLD3, r_IC1, r_iST4, r_iST5, r_iLD4, r_IINC5, r_iLD5, r_iRET, eq_self, Int.reduceLT, Int.reduceLE, Int.reduceEq, true_or, or_true, and_self, true_and, and_true, w8_0, w8_1, w8_2, w8_3, w8_4, nl_I, nl_P, nl_X, pu_I, pu_J, pu_V, if_true]
  unfold rlR
  by_cases e : 0 ≤ w ∧ w ≤ (L : Int) - 1
  · have e2 : 0 ≤ w ∧ w < (L : Int) := ⟨e.1, by omega⟩
    have ers : rs h L w = h 150 (66 + w) := by unfold rs; rw [if_pos e2]
    obtain ⟨w0, w1⟩ := id e2
    rw [if_neg (by simp [e]), ers]
    simp (disch := first | assumption | omega | exact w8_0 | exact w8_1 _ | exact w8_2 _ _ | exact w8_3 _ _ _ | exact w8_4 _ _ _ _ | exact nl_I _ | exact nl_P _ | exact nl_X | decide | exact w8_5 _ _ _ _ _) only [ju_176_28, r_aLD0, r_gR, r_iLD1, cl_25, r_iCONST, r_iADD, r_iALDc, r_iALDs, r_bPUSH, r_iSUB, r_iST2, r_iLD2, cl_17, r_IF0, r_GOTO, r_iST3, r_iLD3, r_IC1, r_iST4, r_iST5, r_iLD4, r_IINC5, r_iLD5, r_iRET, eq_self, Int.reduceLT, Int.reduceLE, Int.reduceEq, true_or, or_true, and_self, true_and, and_true, w8_0, w8_1, w8_2, w8_3, w8_4, nl_I, nl_P, nl_X, pu_I, pu_J, pu_V, w3_id, Int.add_zero, kd_149, rR_149_0]
    by_cases f : h 150 (66 + w) = 1
    · simp only [f, not_true_eq_false, if_false, if_true, ju_176_40, r_aLD0, r_gR, r_iLD1, cl_25, r_iCONST, r_iADD, r_iALD, r_iALDs, r_bPUSH, r_iSUB, r_iST2, r_iLD2, cl_17, r_IF0, r_GOTO, r_iST3, r_iLD3, r_IC1, r_iST4, r_iST5, r_iLD4, r_IINC5, r_iLD5, r_iRET, eq_self, Int.reduceLT, Int.reduceLE, Int.reduceEq, true_or, or_true, and_self, true_and, and_true, w8_0, w8_1, w8_2, w8_3, w8_4, nl_I, nl_P, nl_X, pu_I, pu_J, pu_V]
      have := lp_Rroll (h := h) (Q := Q) (t := t) (st := 1) (a := -1) hL hL2 (Or.inl rfl) (Or.inr rfl) 20 w 0 (by decide) w0 w1 (fun q => by omega) (fun _ => by omega)
      rw [Nat.zero_add] at this
      exact this
    · simp only [f, not_false_eq_true, if_false, if_true, ju_176_34, r_aLD0, r_gR, r_iLD1, cl_25, r_iCONST, r_iADD, r_iALD, r_iALDs, r_bPUSH, r_iSUB, r_iST2, r_iLD2, cl_17, r_IF0, r_GOTO, r_iST3, r_iLD3, r_IC1, r_iST4, r_iST5, r_iLD4, r_IINC5, r_iLD5, r_iRET, eq_self, Int.reduceLT, Int.reduceLE, Int.reduceEq, true_or, or_true, and_self, true_and, and_true, w8_0, w8_1, w8_2, w8_3, w8_4, nl_I, nl_P, nl_X, pu_I, pu_J, pu_V]
      by_cases f2 : h 150 (66 + w) = 2
      · simp only [f2, not_true_eq_false, if_false, if_true, ju_176_40, r_aLD0, r_gR, r_iLD1, cl_25, r_iCONST, r_iADD, r_iALD, r_iALDs, r_bPUSH, r_iSUB, r_iST2, r_iLD2, cl_17, r_IF0, r_GOTO, r_iST3, r_iLD3, r_IC1, r_iST4, r_iST5, r_iLD4, r_IINC5, r_iLD5, r_iRET, eq_self, Int.reduceLT, Int.reduceLE, Int.reduceEq, true_or, or_true, and_self, true_and, and_true, w8_0, w8_1, w8_2, w8_3, w8_4, nl_I, nl_P, nl_X, pu_I, pu_J, pu_V]
        have := lp_Rroll (h := h) (Q := Q) (t := t) (st := 2) (a := 1) hL hL2 (Or.inr rfl) (Or.inl rfl) 20 w 0 (by decide) w0 w1 (fun _ => by omega) (fun q => by omega)
        rw [Nat.zero_add] at this
        exact this
      · simp only [f2, not_false_eq_true, if_false, if_true, ju_176_39, ju_176_40, r_aLD0, r_gR, r_iLD1, cl_25, r_iCONST, r_iADD, r_iALD, r_iALDs, r_bPUSH, r_iSUB, r_iST2, r_iLD2, cl_17, r_IF0, r_GOTO, r_iST3, r_iLD3, r_IC1, r_iST4, r_iST5, r_iLD4, r_IINC5, r_iLD5, r_iRET, eq_self, Int.reduceLT, Int.reduceLE, Int.reduceEq, true_or, or_true, and_self, true_and, and_true, w8_0, w8_1, w8_2, w8_3, w8_4, nl_I, nl_P, nl_X, pu_I, pu_J, pu_V]
        exact no 0 _
  · have ers : rs h L w = -1 := by unfold rs; rw [if_neg (fun q => e ⟨q.1, by omega⟩)]
    rw [if_pos (by simp [e]), ers]
    simp only [ju_176_27, ju_176_28, ju_176_34, ju_176_39, ju_176_40, r_aLD0, r_gR, r_iLD1, cl_25, r_iCONST, r_iADD, r_iALD, r_iALDs, r_bPUSH, r_iSUB, r_iST2, r_iLD2, cl_17, r_IF0, r_GOTO, r_iST3, r_iLD3, r_IC1, r_iST4, r_iST5, r_iLD4, r_IINC5, r_iLD5, r_iRET, eq_self, Int.reduceLT, Int.reduceLE, Int.reduceEq, true_or, or_true, and_self, true_and, and_true, w8_0, w8_1, w8_2, w8_3, w8_4, nl_I, nl_P, nl_X, pu_I, pu_J, pu_V, Int.reduceEq, not_false_eq_true, if_true, if_false]
    exact no 0 _
theorem rs_sortI (hP : Rp h 0 150 n nb L s) : rs h L = sortI h := by
  have p3 := hP.2.2.2.1
  have hL := hP.1.2.2.2.2.2.1
  rw [Int.add_zero] at p3
  funext w
  unfold rs sortI
  by_cases e : 0 ≤ w ∧ w < (L : Int)
  · rw [if_pos e, if_pos ⟨e.1, by omega, by omega⟩, Rp_i hP e.1 e.2]
  · rw [if_neg e, if_neg (fun q => e ⟨q.1, by omega⟩)]
theorem q_roll (hP : Rp h 0 150 n nb L s) (w : Int) : rlR h L w = rlF h w := by unfold rlR rlF; rw [rs_sortI hP]
theorem s_Rrolls (hR : RO h 150 n nb L) (hX : XR h 150 n) : wp 177 (am_ju 177 0) [aP 149, aI t] [] (sT h) Q ↔ Q (aI (if 0 ≤ t ∧ t < n then (if h 150 (18 + 6 * t + 4) = 1 ∧ 10 ≤ h 150 (18 + 6 * t + 5) then (rlR h L (h 150 (18 + 6 * t + 5) - 10) : Int) else -2) else -1)) (sT h) := by
  obtain ⟨r0, r1, r2, r3, r4, r5, r6, r7⟩ := id hR
  simp only [ju_177_0, r_aLD0, r_iLD1, cl_32, r_IF1, r_iCONST, r_iRET, cl_175, r_IF0, cl_176, r_GOTO, r_bPUSH, eq_self, Int.reduceLT, Int.reduceLE, Int.reduceEq, true_or, or_true, and_self, true_and, and_true, w8_0, w8_1, w8_2, w8_3, w8_4, nl_I, nl_P, nl_X, pu_I, pu_J, pu_V, kd_149, ln_149, rR_149_0, rR_149_1, rR_149_2, rR_149_3, rR_149_5, rR_149_7, rR_149_8, rR_149_9, rR_149_10, rR_149_16, rR_149_17, rR_149_18, s_isThing r3 r2]
  by_cases e : 0 ≤ t ∧ t < n
  · obtain ⟨t', rfl⟩ := Int.eq_ofNat_of_zero_le e.1
    have hx := (hX.2 t' (by omega)).2
    rw [if_pos (by simp [e]), if_pos e]
    simp only [ju_177_6, r_aLD0, r_iLD1, cl_32, r_IF1, r_iCONST, r_iRET, cl_175, r_IF0, cl_176, r_GOTO, r_bPUSH, eq_self, Int.reduceLT, Int.reduceLE, Int.reduceEq, true_or, or_true, and_self, true_and, and_true, w8_0, w8_1, w8_2, w8_3, w8_4, nl_I, nl_P, nl_X, pu_I, pu_J, pu_V, kd_149, ln_149, rR_149_0, rR_149_1, rR_149_2, rR_149_3, rR_149_5, rR_149_7, rR_149_8, rR_149_9, rR_149_10, rR_149_16, rR_149_17, rR_149_18, s_RisRoll (h := h) (t := (t' : Int)) ⟨by omega, by omega⟩]
    by_cases f : h 150 (18 + 6 * (t' : Int) + 4) = 1 ∧ 10 ≤ h 150 (18 + 6 * (t' : Int) + 5)
    · rw [if_neg (by simp [f]), if_pos f]
      simp only [ju_177_15, r_aLD0, r_iLD1, cl_32, r_IF1, r_iCONST, r_iRET, cl_175, r_IF0, cl_176, r_GOTO, r_bPUSH, eq_self, Int.reduceLT, Int.reduceLE, Int.reduceEq, true_or, or_true, and_self, true_and, and_true, w8_0, w8_1, w8_2, w8_3, w8_4, nl_I, nl_P, nl_X, pu_I, pu_J, pu_V, kd_149, ln_149, rR_149_0, rR_149_1, rR_149_2, rR_149_3, rR_149_5, rR_149_7, rR_149_8, rR_149_9, rR_149_10, rR_149_16, rR_149_17, rR_149_18, s_rollsBy r4 r5 (t := (t' : Int)) ⟨by omega, by omega⟩ hx]
    · rw [if_pos (by simp [f]), if_neg f]
      simp only [ju_177_14, ju_177_15, r_aLD0, r_iLD1, cl_32, r_IF1, r_iCONST, r_iRET, cl_175, r_IF0, cl_176, r_GOTO, r_bPUSH, eq_self, Int.reduceLT, Int.reduceLE, Int.reduceEq, true_or, or_true, and_self, true_and, and_true, w8_0, w8_1, w8_2, w8_3, w8_4, nl_I, nl_P, nl_X, pu_I, pu_J, pu_V]
  · rw [if_neg (by simp [e]), if_neg e]
theorem WD_wh40 (hW : WD h 0 150 n nb L s K nx) : ∀ t : Nat, t < n → 0 ≤ h 94 t ∧ h 94 t ≤ 40 := fun t ht => by
  have := (hW.2.1.2 t ht).2
  rw [(Rp_t hW.1 (t := (t : Int)) (by omega) (by omega)).2.2.2.2.2] at this
  exact this
theorem b_rolls (hI : INV h) : Both 174 177 [aP 0, aI t] [aP 149, aI t] h := by
  obtain ⟨⟨n, nb, L, s, K, nx, hW⟩, hr⟩ := id hI
  have hP := hW.1
  obtain ⟨o, o'⟩ := WD_o hW
  unfold Both
  rw [s_Trolls o.2.2.2.1 o'.2.1 (WD_wh40 hW)]
  refine ⟨_, h, rfl, rfl, rfl, ?_⟩
  rw [s_Rrolls hP.1 hW.2.1]
  refine ⟨h, ?_, rfl, rfl, hI⟩
  by_cases e : 0 ≤ t ∧ t < n
  · obtain ⟨-, -, -, -, y5, y6⟩ := Rp_t hP e.1 e.2
    rw [if_pos e, if_pos e, y5, y6, q_roll hP]
    by_cases f : h 87 t = 1 ∧ 10 ≤ h 94 t
    · rw [if_pos f, if_pos ⟨e, f⟩]
    · rw [if_neg f, if_neg (fun q => f q.2)]
  · rw [if_neg e, if_neg e]
end RL
