section PQ
variable {g h h' h1 h2 u : am_F} {Q : am_V → am_S → Prop} {so j bj x y z o c w r k t : Int} {n nb L s K nx b m a q B S T i gg l M Z v ch : Nat}
theorem lp_Rtn (hP : Rp h 0 150 n nb L s) {v4 v5 v6 v7 : am_V} : ∀ (d b : Nat), b + d = nb → (wp 160 (am_ju 160 11) [aP 149, aI t, aI (if tnB h b = true then 1 else 0), aI (b : Int), v4, v5, v6, v7] [] (sT h) Q ↔ wp 160 (am_ju 160 29) [aP 149, aI t, aI (if tnB h nb = true then 1 else 0), aI (nb : Int), v4, v5, v6, v7] [] (sT h) Q) := by
  intro d
  have l1 := ln_150
  have k1 := kd_150
  obtain ⟨r0, r1, r2, r3, r4, r5, r6, r7⟩ := id hP.1
  induction d with
  | zero =>
    intro b hb
    have hb : b = nb := by omega
    subst hb
    rw [ju_160_11]
    simp (disch := first | assumption | omega | exact w8_0 | exact w8_1 _ | exact w8_2 _ _ | exact w8_3 _ _ _ | exact w8_4 _ _ _ _ | exact nl_I _ | exact nl_P _ | exact nl_X | decide | exact w8_5 _ _ _ _ _) only [r_aLD0, r_gR, r_iCONST, r_iALDc, r_iALDs, r_IF1, r_GOTO, r_iST2, r_iST3, r_iLD3, r_IC3, r_iLD2, cl_35, r_IF0, r_IINC3, r_iLD1, r_IC0, cl_32, r_iRET, r_iST4, r_iLD4, cl_25, r_iADD, r_bPUSH, r_iSHL, r_iOR, r_IINC4, cl_157, r_IC5, r_iST5, r_iST6, r_iLD6, cl_158, cl_159, cl_138, r_iST7, r_iLD7, r_iLD5, r_IINC6, r_IC1, cl_139, cl_34, eq_self, Int.reduceLT, Int.reduceLE, Int.reduceEq, true_or, or_true, and_self, true_and, and_true, w8_0, w8_1, w8_2, w8_3, w8_4, nl_I, nl_P, nl_X, pu_I, pu_J, pu_V, w3_id, Int.add_zero, kd_149, rR_149_0, r0]
    rw [if_pos (by omega)]
  | succ d ih =>
    intro b hb
    have hw : w3 ((b : Int) + 1) = ((b + 1 : Nat) : Int) := w3_id (by omega) (by omega)
    have hb4 := (r7 b (by omega)).2.2.2
    obtain ⟨gg, eg⟩ := Int.eq_ofNat_of_zero_le hb4.1
    have e93 : h 93 b = (gg : Int) := by rw [← (Rp_b hP (b := (b : Int)) (by omega) (by omega)).2.2.2, eg]
    have et : tnB h (b + 1) = (tnB h b || tornB gg) := by rw [tnB, e93, Int.toNat_natCast]
    have ih := ih (b + 1) (by omega)
    rw [et] at ih
    rw [ju_160_11]
    simp (disch := first | assumption | omega | exact w8_0 | exact w8_1 _ | exact w8_2 _ _ | exact w8_3 _ _ _ | exact w8_4 _ _ _ _ | exact nl_I _ | exact nl_P _ | exact nl_X | decide | exact w8_5 _ _ _ _ _) only [r_aLD0, r_gR, r_iCONST, r_iALDc, r_iALDs, r_IF1, r_GOTO, r_iST2, r_iST3, r_iLD3, r_IC3, r_iLD2, cl_35, r_IF0, r_IINC3, r_iLD1, r_IC0, cl_32, r_iRET, r_iST4, r_iLD4, cl_25, r_iADD, r_bPUSH, r_iSHL, r_iOR, r_IINC4, cl_157, r_IC5, r_iST5, r_iST6, r_iLD6, cl_158, cl_159, cl_138, r_iST7, r_iLD7, r_iLD5, r_IINC6, r_IC1, cl_139, cl_34, eq_self, Int.reduceLT, Int.reduceLE, Int.reduceEq, true_or, or_true, and_self, true_and, and_true, w8_0, w8_1, w8_2, w8_3, w8_4, nl_I, nl_P, nl_X, pu_I, pu_J, pu_V, w3_id, Int.add_zero, kd_149, rR_149_0, r0, s_RisTorn (h := h) (b := (b : Int)) ⟨by omega, by omega⟩ (show gg < 16 by omega) eg]
    rw [if_neg (by omega)]
    by_cases e : tnB h b = true
    · simp only [e, Bool.true_or, if_true] at ih
      simp only [e, if_true, Int.reduceEq, not_false_eq_true, ju_160_23, ju_160_26, r_aLD0, r_gR, r_iCONST, r_iALD, r_iALDs, r_IF1, r_GOTO, r_iST2, r_iST3, r_iLD3, r_IC3, r_iLD2, cl_35, r_IF0, r_IINC3, r_iLD1, r_IC0, cl_32, r_iRET, r_iST4, r_iLD4, cl_25, r_iADD, r_bPUSH, r_iSHL, r_iOR, r_IINC4, cl_157, r_IC5, r_iST5, r_iST6, r_iLD6, cl_158, cl_159, cl_138, r_iST7, r_iLD7, r_iLD5, r_IINC6, r_IC1, cl_139, cl_34, eq_self, Int.reduceLT, Int.reduceLE, Int.reduceEq, true_or, or_true, and_self, true_and, and_true, w8_0, w8_1, w8_2, w8_3, w8_4, nl_I, nl_P, nl_X, pu_I, pu_J, pu_V, hw]
      exact ih
    · have e' : tnB h b = false := by simpa using e
      simp only [e', Bool.false_or] at ih
      simp only [e, if_false, not_true_eq_false]
      by_cases f : tornB gg = true
      · simp only [f, if_true] at ih
        simp only [f, if_true, Int.reduceEq, if_false, ju_160_23, ju_160_26, r_aLD0, r_gR, r_iCONST, r_iALD, r_iALDs, r_IF1, r_GOTO, r_iST2, r_iST3, r_iLD3, r_IC3, r_iLD2, cl_35, r_IF0, r_IINC3, r_iLD1, r_IC0, cl_32, r_iRET, r_iST4, r_iLD4, cl_25, r_iADD, r_bPUSH, r_iSHL, r_iOR, r_IINC4, cl_157, r_IC5, r_iST5, r_iST6, r_iLD6, cl_158, cl_159, cl_138, r_iST7, r_iLD7, r_iLD5, r_IINC6, r_IC1, cl_139, cl_34, eq_self, Int.reduceLT, Int.reduceLE, Int.reduceEq, true_or, or_true, and_self, true_and, and_true, w8_0, w8_1, w8_2, w8_3, w8_4, nl_I, nl_P, nl_X, pu_I, pu_J, pu_V, hw]
        exact ih
      · simp only [f, if_false] at ih
        simp only [f, if_false, if_true, ju_160_25, ju_160_26, r_aLD0, r_gR, r_iCONST, r_iALD, r_iALDs, r_IF1, r_GOTO, r_iST2, r_iST3, r_iLD3, r_IC3, r_iLD2, cl_35, r_IF0, r_IINC3, r_iLD1, r_IC0, cl_32, r_iRET, r_iST4, r_iLD4, cl_25, r_iADD, r_bPUSH, r_iSHL, r_iOR, r_IINC4, cl_157, r_IC5, r_iST5, r_iST6, r_iLD6, cl_158, cl_159, cl_138, r_iST7, r_iLD7, r_iLD5, r_IINC6, r_IC1, cl_139, cl_34, eq_self, Int.reduceLT, Int.reduceLE, Int.reduceEq, true_or, or_true, and_self, true_and, and_true, w8_0, w8_1, w8_2, w8_3, w8_4, nl_I, nl_P, nl_X, pu_I, pu_J, pu_V, hw]
        exact ih
theorem lp_Rloose (hP : Rp h 0 150 n nb L s) {v2 : Int} {v5 v6 v7 : am_V} : ∀ (d i : Nat), i + d = n → (wp 160 (am_ju 160 44) [aP 149, aI t, aI v2, aI (setF (fun t => decide (h 150 (18 + 6 * t + 5) < 10)) i : Int), aI (i : Int), v5, v6, v7] [] (sT h) Q ↔ wp 160 (am_ju 160 69) [aP 149, aI t, aI v2, aI (zL h n : Int), aI (n : Int), v5, v6, v7] [] (sT h) Q) := by
  intro d
  have l1 := ln_150
  have k1 := kd_150
  obtain ⟨r0, r1, r2, r3, r4, r5, r6, r7⟩ := id hP.1
  induction d with
  | zero =>
    intro i hi
    have hi : i = n := by omega
    subst hi
    rw [ju_160_44]
    simp (disch := first | assumption | omega | exact w8_0 | exact w8_1 _ | exact w8_2 _ _ | exact w8_3 _ _ _ | exact w8_4 _ _ _ _ | exact nl_I _ | exact nl_P _ | exact nl_X | decide | exact w8_5 _ _ _ _ _) only [r_aLD0, r_gR, r_iCONST, r_iALDc, r_iALDs, r_IF1, r_GOTO, r_iST2, r_iST3, r_iLD3, r_IC3, r_iLD2, cl_35, r_IF0, r_IINC3, r_iLD1, r_IC0, cl_32, r_iRET, r_iST4, r_iLD4, cl_25, r_iADD, r_bPUSH, r_iSHL, r_iOR, r_IINC4, cl_157, r_IC5, r_iST5, r_iST6, r_iLD6, cl_158, cl_159, cl_138, r_iST7, r_iLD7, r_iLD5, r_IINC6, r_IC1, cl_139, cl_34, eq_self, Int.reduceLT, Int.reduceLE, Int.reduceEq, true_or, or_true, and_self, true_and, and_true, w8_0, w8_1, w8_2, w8_3, w8_4, nl_I, nl_P, nl_X, pu_I, pu_J, pu_V, w3_id, Int.add_zero, kd_149, rR_149_0, r2]
    rw [if_pos (by omega), zL_R hP]
  | succ d ih =>
    intro i hi
    have i8 : (i : Int) < 8 := by omega
    have hw : w3 ((i : Int) + 1) = ((i + 1 : Nat) : Int) := w3_id (by omega) (by omega)
    have hlt := setF_lt (fun t => decide (h 150 (18 + 6 * t + 5) < 10)) i
    have h31 : 2 ^ i < 2 ^ 31 := Nat.pow_lt_pow_right (by decide) (by omega)
    have ih := ih (i + 1) (by omega)
    rw [setF] at ih
    rw [ju_160_44]
    simp (disch := first | assumption | omega | exact w8_0 | exact w8_1 _ | exact w8_2 _ _ | exact w8_3 _ _ _ | exact w8_4 _ _ _ _ | exact nl_I _ | exact nl_P _ | exact nl_X | decide | exact w8_5 _ _ _ _ _) only [r_aLD0, r_gR, r_iCONST, r_iALDc, r_iALDs, r_IF1, r_GOTO, r_iST2, r_iST3, r_iLD3, r_IC3, r_iLD2, cl_35, r_IF0, r_IINC3, r_iLD1, r_IC0, cl_32, r_iRET, r_iST4, r_iLD4, cl_25, r_iADD, r_bPUSH, r_iSHL, r_iOR, r_IINC4, cl_157, r_IC5, r_iST5, r_iST6, r_iLD6, cl_158, cl_159, cl_138, r_iST7, r_iLD7, r_iLD5, r_IINC6, r_IC1, cl_139, cl_34, eq_self, Int.reduceLT, Int.reduceLE, Int.reduceEq, true_or, or_true, and_self, true_and, and_true, w8_0, w8_1, w8_2, w8_3, w8_4, nl_I, nl_P, nl_X, pu_I, pu_J, pu_V, w3_id, Int.add_zero, kd_149, rR_149_0, r2, s_thingAt (b := (i : Int)) ⟨by omega, by omega⟩]
    rw [if_neg (by omega)]
    by_cases e : h 150 (18 + 6 * (i : Int) + 5) < 10
    · rw [if_pos (by simpa using e)] at ih
      rw [if_neg (by omega)]
      simp only [ju_160_65, r_aLD0, r_gR, r_iCONST, r_iALD, r_iALDs, r_IF1, r_GOTO, r_iST2, r_iST3, r_iLD3, r_IC3, r_iLD2, cl_35, r_IF0, r_IINC3, r_iLD1, r_IC0, cl_32, r_iRET, r_iST4, r_iLD4, cl_25, r_iADD, r_bPUSH, r_iSHL, r_iOR, r_IINC4, cl_157, r_IC5, r_iST5, r_iST6, r_iLD6, cl_158, cl_159, cl_138, r_iST7, r_iLD7, r_iLD5, r_IINC6, r_IC1, cl_139, cl_34, eq_self, Int.reduceLT, Int.reduceLE, Int.reduceEq, true_or, or_true, and_self, true_and, and_true, w8_0, w8_1, w8_2, w8_3, w8_4, nl_I, nl_P, nl_X, pu_I, pu_J, pu_V, hw]
      rw [show (1 : Int) = ((1 : Nat) : Int) from rfl, bShl_n 1 i (by omega) (by omega), Nat.one_mul, bOr_n _ _ (by omega) h31]
      exact ih
    · rw [if_neg (by simpa using e)] at ih
      rw [if_pos (by omega)]
      simp only [ju_160_64, ju_160_65, r_aLD0, r_gR, r_iCONST, r_iALD, r_iALDs, r_IF1, r_GOTO, r_iST2, r_iST3, r_iLD3, r_IC3, r_iLD2, cl_35, r_IF0, r_IINC3, r_iLD1, r_IC0, cl_32, r_iRET, r_iST4, r_iLD4, cl_25, r_iADD, r_bPUSH, r_iSHL, r_iOR, r_IINC4, cl_157, r_IC5, r_iST5, r_iST6, r_iLD6, cl_158, cl_159, cl_138, r_iST7, r_iLD7, r_iLD5, r_IINC6, r_IC1, cl_139, cl_34, eq_self, Int.reduceLT, Int.reduceLE, Int.reduceEq, true_or, or_true, and_self, true_and, and_true, w8_0, w8_1, w8_2, w8_3, w8_4, nl_I, nl_P, nl_X, pu_I, pu_J, pu_V, hw]
      rw [show (0 : Int) = ((0 : Nat) : Int) from rfl, bOr_n _ _ (by omega) (by decide)]
      exact ih
/-- the farthest, as the reference has it -/
def fR (L : Nat) (F : Nat → Int) (v : Nat) : Int := if v = 0 then -1 else mL L (bp F v).2
theorem fR_lt (hC : CO h n nb L s) : fR L (FV h n nb L s) v < mL L (FV h n nb L s v) ↔ (bp (FV h n nb L s) v).2 < FV h n nb L s v := by
  have ok := FV_ok (v := v) hC
  have hL := hC.2.2.2.2.2.1
  unfold fR
  by_cases e : v = 0
  · subst e
    rw [if_pos rfl]
    unfold okm at ok
    show (-1 : Int) < mL L _ ↔ (-1 : Int) < _
    unfold mL
    split <;> omega
  · rw [if_neg e]
    exact mL_lt hL (bp_0 hC (by omega)) ok
set_option maxHeartbeats 1000000 in
theorem lp_Rpk (hP : Rp h 0 150 n nb L s) (hnb : 1 ≤ nb) (hM : popc (zL h n) ≤ 6) (ht : t = -1 ∨ (0 ≤ t ∧ t < n)) {v2 : Int} (hq : ∀ g, FR h g → Q (aI (pkA h n nb L s t)) (sT g)) : ∀ (d v : Nat) (g : am_F) (v7 : am_V), v + d = nb ^ popc (zL h n) → am_nl v7 = true → scT h g → wp 160 (am_ju 160 81) [aP 149, aI t, aI v2, aI (zL h n : Int), aI ((bp (FV h n nb L s) v).1 : Int), aI (fR L (FV h n nb L s) v), aI (v : Int), v7] [] (sT g) Q := by
  intro d
  have l1 := ln_150
  have k1 := kd_150
  have l2 := ln_151
  have k2 := kd_151
  have hC := Rp_CO hP
  obtain ⟨r0, r1, r2, r3, r4, r5, r6, r7⟩ := id hP.1
  have h729 := pow729 r1 hM
  have hZ := zL_lt (h := h) r3
  have bp1 : ∀ v, (bp (FV h n nb L s) v).1 ≤ v := by
    intro v
    induction v with
    | zero => exact Nat.le_refl _
    | succ v ih => rw [bp]; split
                   · exact Nat.le_succ _
                   · omega
  induction d with
  | zero =>
    intro v g v7 hv hn hg
    have hv : v = nb ^ popc (zL h n) := by omega
    have e150 := tr_150 hg
    have v0 : 0 < v := by rw [hv]; exact Nat.pow_pos hnb
    have := hq
    rw [ju_160_81]
    simp (disch := first | assumption | omega | exact w8_0 | exact w8_1 _ | exact w8_2 _ _ | exact w8_3 _ _ _ | exact w8_4 _ _ _ _ | exact nl_I _ | exact nl_P _ | exact nl_X | decide | exact w8_5 _ _ _ _ _) only [r_aLD0, r_gR, r_iCONST, r_iALDc, r_iALDs, r_IF1, r_GOTO, r_iST2, r_iST3, r_iLD3, r_IC3, r_iLD2, cl_35, r_IF0, r_IINC3, r_iLD1, r_IC0, cl_32, r_iRET, r_iST4, r_iLD4, cl_25, r_iADD, r_bPUSH, r_iSHL, r_iOR, r_IINC4, cl_157, r_IC5, r_iST5, r_iST6, r_iLD6, cl_158, cl_159, cl_138, r_iST7, r_iLD7, r_iLD5, r_IINC6, r_IC1, cl_139, cl_34, eq_self, Int.reduceLT, Int.reduceLE, Int.reduceEq, true_or, or_true, and_self, true_and, and_true, w8_0, w8_1, w8_2, w8_3, w8_4, nl_I, nl_P, nl_X, pu_I, pu_J, pu_V, w3_id, Int.add_zero, kd_149, rR_149_0, e150, r0, s_ones (show zL h n < 2 ^ 31 by omega), s_power (show nb ≤ 6 by omega) hM]
    rw [if_pos (by omega), ju_160_115]
    unfold pkA at hq
    rw [← hv] at hq
    by_cases e : t = -1
    · have := hq g (FR_scT hg)
      rw [if_pos e] at this
      have e2 : fR L (FV h n nb L s) v = mL L (bp (FV h n nb L s) v).2 := by unfold fR; rw [if_neg (by omega)]
      have e3 := mL_told r5 (bp_0 hC v0)
      have hg2 : g 150 2 = (L : Int) := by rw [e150, r4]
      simp only [r_aLD0, r_gR, r_iCONST, r_iALD, r_iALDs, r_IF1, r_GOTO, r_iST2, r_iST3, r_iLD3, r_IC3, r_iLD2, cl_35, r_IF0, r_IINC3, r_iLD1, r_IC0, cl_32, r_iRET, r_iST4, r_iLD4, cl_25, r_iADD, r_bPUSH, r_iSHL, r_iOR, r_IINC4, cl_157, r_IC5, r_iST5, r_iST6, r_iLD6, cl_158, cl_159, cl_138, r_iST7, r_iLD7, r_iLD5, r_IINC6, r_IC1, cl_139, cl_34, eq_self, Int.reduceLT, Int.reduceLE, Int.reduceEq, true_or, or_true, and_self, true_and, and_true, w8_0, w8_1, w8_2, w8_3, w8_4, nl_I, nl_P, nl_X, pu_I, pu_J, pu_V, kd_149, ln_149, rR_149_0, rR_149_1, rR_149_2, rR_149_3, rR_149_5, rR_149_7, rR_149_8, rR_149_9, rR_149_10, rR_149_16, rR_149_17, rR_149_18, e, not_true_eq_false, if_false, s_orNone, hg2, e2]
      rw [e3]
      exact this
    · have htn : 0 ≤ t ∧ t < n := by
        rcases ht with q | q
        · exact absurd q e
        · exact q
      obtain ⟨t', rfl⟩ := Int.eq_ofNat_of_zero_le htn.1
      simp only [r_aLD0, r_gR, r_iCONST, r_iALD, r_iALDs, r_IF1, r_GOTO, r_iST2, r_iST3, r_iLD3, r_IC3, r_iLD2, cl_35, r_IF0, r_IINC3, r_iLD1, r_IC0, cl_32, r_iRET, r_iST4, r_iLD4, cl_25, r_iADD, r_bPUSH, r_iSHL, r_iOR, r_IINC4, cl_157, r_IC5, r_iST5, r_iST6, r_iLD6, cl_158, cl_159, cl_138, r_iST7, r_iLD7, r_iLD5, r_IINC6, r_IC1, cl_139, cl_34, eq_self, Int.reduceLT, Int.reduceLE, Int.reduceEq, true_or, or_true, and_self, true_and, and_true, w8_0, w8_1, w8_2, w8_3, w8_4, nl_I, nl_P, nl_X, pu_I, pu_J, pu_V, e, not_false_eq_true, if_true]
      rw [ju_160_122]
      simp only [r_aLD0, r_gR, r_iCONST, r_iALD, r_iALDs, r_IF1, r_GOTO, r_iST2, r_iST3, r_iLD3, r_IC3, r_iLD2, cl_35, r_IF0, r_IINC3, r_iLD1, r_IC0, cl_32, r_iRET, r_iST4, r_iLD4, cl_25, r_iADD, r_bPUSH, r_iSHL, r_iOR, r_IINC4, cl_157, r_IC5, r_iST5, r_iST6, r_iLD6, cl_158, cl_159, cl_138, r_iST7, r_iLD7, r_iLD5, r_IINC6, r_IC1, cl_139, cl_34, eq_self, Int.reduceLT, Int.reduceLE, Int.reduceEq, true_or, or_true, and_self, true_and, and_true, w8_0, w8_1, w8_2, w8_3, w8_4, nl_I, nl_P, nl_X, pu_I, pu_J, pu_V, kd_149, ln_149, rR_149_0, rR_149_1, rR_149_2, rR_149_3, rR_149_5, rR_149_7, rR_149_8, rR_149_9, rR_149_10, rR_149_16, rR_149_17, rR_149_18]
      refine s_packs hP hg hnb (by have := bp1 v; omega) (fun g' hp => ?_)
      have hg' : FR h g' := FR_scT (scT_t hg (scT_t scT_cp ⟨fun a q1 _ => hp.1 a q1, fun k _ _ => by rw [hp.1 149 (by decide)]⟩))
      have := hq g' hg'
      rw [if_neg e] at this
      unfold pbA at this
      rw [Int.toNat_natCast] at this
      have t8 : (t' : Int) < 8 := by omega
      simp (disch := first | assumption | omega | exact w8_0 | exact w8_1 _ | exact w8_2 _ _ | exact w8_3 _ _ _ | exact w8_4 _ _ _ _ | exact nl_I _ | exact nl_P _ | exact nl_X | decide | exact w8_5 _ _ _ _ _) only [r_aLD0, r_gR, r_iCONST, r_iALDc, r_iALDs, r_IF1, r_GOTO, r_iST2, r_iST3, r_iLD3, r_IC3, r_iLD2, cl_35, r_IF0, r_IINC3, r_iLD1, r_IC0, cl_32, r_iRET, r_iST4, r_iLD4, cl_25, r_iADD, r_bPUSH, r_iSHL, r_iOR, r_IINC4, cl_157, r_IC5, r_iST5, r_iST6, r_iLD6, cl_158, cl_159, cl_138, r_iST7, r_iLD7, r_iLD5, r_IINC6, r_IC1, cl_139, cl_34, eq_self, Int.reduceLT, Int.reduceLE, Int.reduceEq, true_or, or_true, and_self, true_and, and_true, w8_0, w8_1, w8_2, w8_3, w8_4, nl_I, nl_P, nl_X, pu_I, pu_J, pu_V, w3_id, Int.add_zero, s_rhas (show zL h n < 2 ^ 31 by omega) (show t' < 31 by omega), b01, kd_149, rR_149_1, s_thingAt (b := (t' : Int)) ⟨by omega, by omega⟩]
      by_cases f : (zL h n).testBit t' = true
      · rw [if_pos ⟨by omega, f⟩] at this
        rw [if_neg (by simpa using f), hp.2.2.2 t' (by omega), if_pos ⟨by omega, f⟩]
        simp only [ju_160_139, r_aLD0, r_gR, r_iCONST, r_iALD, r_iALDs, r_IF1, r_GOTO, r_iST2, r_iST3, r_iLD3, r_IC3, r_iLD2, cl_35, r_IF0, r_IINC3, r_iLD1, r_IC0, cl_32, r_iRET, r_iST4, r_iLD4, cl_25, r_iADD, r_bPUSH, r_iSHL, r_iOR, r_IINC4, cl_157, r_IC5, r_iST5, r_iST6, r_iLD6, cl_158, cl_159, cl_138, r_iST7, r_iLD7, r_iLD5, r_IINC6, r_IC1, cl_139, cl_34, eq_self, Int.reduceLT, Int.reduceLE, Int.reduceEq, true_or, or_true, and_self, true_and, and_true, w8_0, w8_1, w8_2, w8_3, w8_4, nl_I, nl_P, nl_X, pu_I, pu_J, pu_V]
        exact this
      · rw [if_neg (fun q => f q.2)] at this
        rw [if_pos f]
        simp only [ju_160_138, ju_160_139, r_aLD0, r_gR, r_iCONST, r_iALD, r_iALDs, r_IF1, r_GOTO, r_iST2, r_iST3, r_iLD3, r_IC3, r_iLD2, cl_35, r_IF0, r_IINC3, r_iLD1, r_IC0, cl_32, r_iRET, r_iST4, r_iLD4, cl_25, r_iADD, r_bPUSH, r_iSHL, r_iOR, r_IINC4, cl_157, r_IC5, r_iST5, r_iST6, r_iLD6, cl_158, cl_159, cl_138, r_iST7, r_iLD7, r_iLD5, r_IINC6, r_IC1, cl_139, cl_34, eq_self, Int.reduceLT, Int.reduceLE, Int.reduceEq, true_or, or_true, and_self, true_and, and_true, w8_0, w8_1, w8_2, w8_3, w8_4, nl_I, nl_P, nl_X, pu_I, pu_J, pu_V]
        exact this
  | succ d ih =>
    intro v g v7 hv hn hg
    have e150 := tr_150 hg
    have hw : w3 ((v : Int) + 1) = ((v + 1 : Nat) : Int) := w3_id (by omega) (by omega)
    have hl := fR_lt (v := v) hC
    have hbv : bp (FV h n nb L s) (v + 1) = if (bp (FV h n nb L s) v).2 < FV h n nb L s v then (v, FV h n nb L s v) else bp (FV h n nb L s) v := rfl
    have hfv : fR L (FV h n nb L s) (v + 1) = mL L (bp (FV h n nb L s) (v + 1)).2 := by unfold fR; rw [if_neg (by omega)]
    rw [ju_160_81]
    simp (disch := first | assumption | omega | exact w8_0 | exact w8_1 _ | exact w8_2 _ _ | exact w8_3 _ _ _ | exact w8_4 _ _ _ _ | exact nl_I _ | exact nl_P _ | exact nl_X | decide | exact w8_5 _ _ _ _ _) only [r_aLD0, r_gR, r_iCONST, r_iALDc, r_iALDs, r_IF1, r_GOTO, r_iST2, r_iST3, r_iLD3, r_IC3, r_iLD2, cl_35, r_IF0, r_IINC3, r_iLD1, r_IC0, cl_32, r_iRET, r_iST4, r_iLD4, cl_25, r_iADD, r_bPUSH, r_iSHL, r_iOR, r_IINC4, cl_157, r_IC5, r_iST5, r_iST6, r_iLD6, cl_158, cl_159, cl_138, r_iST7, r_iLD7, r_iLD5, r_IINC6, r_IC1, cl_139, cl_34, eq_self, Int.reduceLT, Int.reduceLE, Int.reduceEq, true_or, or_true, and_self, true_and, and_true, w8_0, w8_1, w8_2, w8_3, w8_4, nl_I, nl_P, nl_X, pu_I, pu_J, pu_V, w3_id, Int.add_zero, kd_149, rR_149_0, e150, r0, s_ones (show zL h n < 2 ^ 31 by omega), s_power (show nb ≤ 6 by omega) hM]
    rw [if_neg (by omega)]
    refine s_packs hP hg hnb (by omega) (fun g' hp => ?_)
    simp only [r_aLD0, r_gR, r_iCONST, r_iALD, r_iALDs, r_IF1, r_GOTO, r_iST2, r_iST3, r_iLD3, r_IC3, r_iLD2, cl_35, r_IF0, r_IINC3, r_iLD1, r_IC0, cl_32, r_iRET, r_iST4, r_iLD4, cl_25, r_iADD, r_bPUSH, r_iSHL, r_iOR, r_IINC4, cl_157, r_IC5, r_iST5, r_iST6, r_iLD6, cl_158, cl_159, cl_138, r_iST7, r_iLD7, r_iLD5, r_IINC6, r_IC1, cl_139, cl_34, eq_self, Int.reduceLT, Int.reduceLE, Int.reduceEq, true_or, or_true, and_self, true_and, and_true, w8_0, w8_1, w8_2, w8_3, w8_4, nl_I, nl_P, nl_X, pu_I, pu_J, pu_V, kd_149]
    refine s_pkHold hP hg hp (fun g2 hg2 => ?_)
    have ih := ih (v + 1) g2 (aI (mL L (FV h n nb L s v))) (by omega) rfl hg2
    rw [hfv, hbv] at ih
    simp only [r_aLD0, r_gR, r_iCONST, r_iALD, r_iALDs, r_IF1, r_GOTO, r_iST2, r_iST3, r_iLD3, r_IC3, r_iLD2, cl_35, r_IF0, r_IINC3, r_iLD1, r_IC0, cl_32, r_iRET, r_iST4, r_iLD4, cl_25, r_iADD, r_bPUSH, r_iSHL, r_iOR, r_IINC4, cl_157, r_IC5, r_iST5, r_iST6, r_iLD6, cl_158, cl_159, cl_138, r_iST7, r_iLD7, r_iLD5, r_IINC6, r_IC1, cl_139, cl_34, eq_self, Int.reduceLT, Int.reduceLE, Int.reduceEq, true_or, or_true, and_self, true_and, and_true, w8_0, w8_1, w8_2, w8_3, w8_4, nl_I, nl_P, nl_X, pu_I, pu_J, pu_V]
    by_cases e : (bp (FV h n nb L s) v).2 < FV h n nb L s v
    · rw [if_pos e] at ih
      have := hl.mpr e
      have e' : ¬ mL L (FV h n nb L s v) ≤ fR L (FV h n nb L s) v := by omega
      simp only [e', if_false, ju_160_105, ju_160_112, r_aLD0, r_gR, r_iCONST, r_iALD, r_iALDs, r_IF1, r_GOTO, r_iST2, r_iST3, r_iLD3, r_IC3, r_iLD2, cl_35, r_IF0, r_IINC3, r_iLD1, r_IC0, cl_32, r_iRET, r_iST4, r_iLD4, cl_25, r_iADD, r_bPUSH, r_iSHL, r_iOR, r_IINC4, cl_157, r_IC5, r_iST5, r_iST6, r_iLD6, cl_158, cl_159, cl_138, r_iST7, r_iLD7, r_iLD5, r_IINC6, r_IC1, cl_139, cl_34, eq_self, Int.reduceLT, Int.reduceLE, Int.reduceEq, true_or, or_true, and_self, true_and, and_true, w8_0, w8_1, w8_2, w8_3, w8_4, nl_I, nl_P, nl_X, pu_I, pu_J, pu_V, hw]
      exact ih
    · rw [if_neg e] at ih
      have e' : mL L (FV h n nb L s v) ≤ fR L (FV h n nb L s) v := by
        by_cases z : fR L (FV h n nb L s) v < mL L (FV h n nb L s v)
        · exact absurd (hl.mp z) e
        · omega
      have v0 : v ≠ 0 := fun z => by
        subst z
        have := FV_ok (v := 0) hC
        unfold okm at this
        exact e (show (-1 : Int) < FV h n nb L s 0 by omega)
      have e2 : fR L (FV h n nb L s) v = mL L (bp (FV h n nb L s) v).2 := by unfold fR; rw [if_neg v0]
      simp only [e', if_true, ju_160_104, ju_160_105, ju_160_111, ju_160_112, r_aLD0, r_gR, r_iCONST, r_iALD, r_iALDs, r_IF1, r_GOTO, r_iST2, r_iST3, r_iLD3, r_IC3, r_iLD2, cl_35, r_IF0, r_IINC3, r_iLD1, r_IC0, cl_32, r_iRET, r_iST4, r_iLD4, cl_25, r_iADD, r_bPUSH, r_iSHL, r_iOR, r_IINC4, cl_157, r_IC5, r_iST5, r_iST6, r_iLD6, cl_158, cl_159, cl_138, r_iST7, r_iLD7, r_iLD5, r_IINC6, r_IC1, cl_139, cl_34, eq_self, Int.reduceLT, Int.reduceLE, Int.reduceEq, true_or, or_true, and_self, true_and, and_true, w8_0, w8_1, w8_2, w8_3, w8_4, nl_I, nl_P, nl_X, pu_I, pu_J, pu_V, hw]
      rw [e2]
      exact ih
theorem s_Rpacking (hP : Rp h 0 150 n nb L s) (hq : ∀ g, FR h g → Q (aI (if okP h n nb t then (if popc (zL h n) ≤ 6 then pkA h n nb L s t else -3) else -1)) (sT g)) : wp 160 (am_ju 160 0) [aP 149, aI t, aX, aX, aX, aX, aX, aX] [] (sT h) Q := by
  have l1 := ln_150
  have k1 := kd_150
  obtain ⟨r0, r1, r2, r3, r4, r5, r6, r7⟩ := id hP.1
  have hq0 := hq h (FR_r h)
  have hZ := zL_lt (h := h) r3
  rw [ju_160_0]
  simp (disch := first | assumption | omega | exact w8_0 | exact w8_1 _ | exact w8_2 _ _ | exact w8_3 _ _ _ | exact w8_4 _ _ _ _ | exact nl_I _ | exact nl_P _ | exact nl_X | decide | exact w8_5 _ _ _ _ _) only [r_aLD0, r_gR, r_iCONST, r_iALDc, r_iALDs, r_IF1, r_GOTO, r_iST2, r_iST3, r_iLD3, r_IC3, r_iLD2, cl_35, r_IF0, r_IINC3, r_iLD1, r_IC0, cl_32, r_iRET, r_iST4, r_iLD4, cl_25, r_iADD, r_bPUSH, r_iSHL, r_iOR, r_IINC4, cl_157, r_IC5, r_iST5, r_iST6, r_iLD6, cl_158, cl_159, cl_138, r_iST7, r_iLD7, r_iLD5, r_IINC6, r_IC1, cl_139, cl_34, eq_self, Int.reduceLT, Int.reduceLE, Int.reduceEq, true_or, or_true, and_self, true_and, and_true, w8_0, w8_1, w8_2, w8_3, w8_4, nl_I, nl_P, nl_X, pu_I, pu_J, pu_V, w3_id, Int.add_zero, kd_149, rR_149_0, r0]
  by_cases e0 : nb = 0
  · subst e0
    rw [if_neg (fun z => z.2.1 rfl)] at hq0
    rw [if_neg (by simp), ju_160_8]
    simp only [r_aLD0, r_gR, r_iCONST, r_iALD, r_iALDs, r_IF1, r_GOTO, r_iST2, r_iST3, r_iLD3, r_IC3, r_iLD2, cl_35, r_IF0, r_IINC3, r_iLD1, r_IC0, cl_32, r_iRET, r_iST4, r_iLD4, cl_25, r_iADD, r_bPUSH, r_iSHL, r_iOR, r_IINC4, cl_157, r_IC5, r_iST5, r_iST6, r_iLD6, cl_158, cl_159, cl_138, r_iST7, r_iLD7, r_iLD5, r_IINC6, r_IC1, cl_139, cl_34, eq_self, Int.reduceLT, Int.reduceLE, Int.reduceEq, true_or, or_true, and_self, true_and, and_true, w8_0, w8_1, w8_2, w8_3, w8_4, nl_I, nl_P, nl_X, pu_I, pu_J, pu_V]
    rw [ju_160_11]
    simp (disch := first | assumption | omega | exact w8_0 | exact w8_1 _ | exact w8_2 _ _ | exact w8_3 _ _ _ | exact w8_4 _ _ _ _ | exact nl_I _ | exact nl_P _ | exact nl_X | decide | exact w8_5 _ _ _ _ _) only [r_aLD0, r_gR, r_iCONST, r_iALDc, r_iALDs, r_IF1, r_GOTO, r_iST2, r_iST3, r_iLD3, r_IC3, r_iLD2, cl_35, r_IF0, r_IINC3, r_iLD1, r_IC0, cl_32, r_iRET, r_iST4, r_iLD4, cl_25, r_iADD, r_bPUSH, r_iSHL, r_iOR, r_IINC4, cl_157, r_IC5, r_iST5, r_iST6, r_iLD6, cl_158, cl_159, cl_138, r_iST7, r_iLD7, r_iLD5, r_IINC6, r_IC1, cl_139, cl_34, eq_self, Int.reduceLT, Int.reduceLE, Int.reduceEq, true_or, or_true, and_self, true_and, and_true, w8_0, w8_1, w8_2, w8_3, w8_4, nl_I, nl_P, nl_X, pu_I, pu_J, pu_V, w3_id, Int.add_zero, kd_149, rR_149_0, r0]
    rw [if_pos (by omega), ju_160_29]
    simp only [ju_160_38, r_aLD0, r_gR, r_iCONST, r_iALD, r_iALDs, r_IF1, r_GOTO, r_iST2, r_iST3, r_iLD3, r_IC3, r_iLD2, cl_35, r_IF0, r_IINC3, r_iLD1, r_IC0, cl_32, r_iRET, r_iST4, r_iLD4, cl_25, r_iADD, r_bPUSH, r_iSHL, r_iOR, r_IINC4, cl_157, r_IC5, r_iST5, r_iST6, r_iLD6, cl_158, cl_159, cl_138, r_iST7, r_iLD7, r_iLD5, r_IINC6, r_IC1, cl_139, cl_34, eq_self, Int.reduceLT, Int.reduceLE, Int.reduceEq, true_or, or_true, and_self, true_and, and_true, w8_0, w8_1, w8_2, w8_3, w8_4, nl_I, nl_P, nl_X, pu_I, pu_J, pu_V, Int.reduceEq, not_false_eq_true, if_true]
    exact hq0
  · rw [if_pos (by omega), ju_160_7]
    simp only [ju_160_8, r_aLD0, r_gR, r_iCONST, r_iALD, r_iALDs, r_IF1, r_GOTO, r_iST2, r_iST3, r_iLD3, r_IC3, r_iLD2, cl_35, r_IF0, r_IINC3, r_iLD1, r_IC0, cl_32, r_iRET, r_iST4, r_iLD4, cl_25, r_iADD, r_bPUSH, r_iSHL, r_iOR, r_IINC4, cl_157, r_IC5, r_iST5, r_iST6, r_iLD6, cl_158, cl_159, cl_138, r_iST7, r_iLD7, r_iLD5, r_IINC6, r_IC1, cl_139, cl_34, eq_self, Int.reduceLT, Int.reduceLE, Int.reduceEq, true_or, or_true, and_self, true_and, and_true, w8_0, w8_1, w8_2, w8_3, w8_4, nl_I, nl_P, nl_X, pu_I, pu_J, pu_V]
    refine (lp_Rtn hP nb 0 (Nat.zero_add nb)).mpr ?_
    rw [ju_160_29]
    simp only [ju_160_38, r_aLD0, r_gR, r_iCONST, r_iALD, r_iALDs, r_IF1, r_GOTO, r_iST2, r_iST3, r_iLD3, r_IC3, r_iLD2, cl_35, r_IF0, r_IINC3, r_iLD1, r_IC0, cl_32, r_iRET, r_iST4, r_iLD4, cl_25, r_iADD, r_bPUSH, r_iSHL, r_iOR, r_IINC4, cl_157, r_IC5, r_iST5, r_iST6, r_iLD6, cl_158, cl_159, cl_138, r_iST7, r_iLD7, r_iLD5, r_IINC6, r_IC1, cl_139, cl_34, eq_self, Int.reduceLT, Int.reduceLE, Int.reduceEq, true_or, or_true, and_self, true_and, and_true, w8_0, w8_1, w8_2, w8_3, w8_4, nl_I, nl_P, nl_X, pu_I, pu_J, pu_V, kd_149, ln_149, rR_149_0, rR_149_1, rR_149_2, rR_149_3, rR_149_5, rR_149_7, rR_149_8, rR_149_9, rR_149_10, rR_149_16, rR_149_17, rR_149_18, s_isThing r3 r2]
    by_cases e1 : tnB h nb = true
    · rw [if_neg (fun z => by rw [z.2.2] at e1; cases e1)] at hq0
      rw [if_pos (by simp [e1])]
      exact hq0
    · have e1' : tnB h nb = false := by simpa using e1
      rw [if_neg (by simp [e1])]
      have key : (t = -1 ∨ (0 ≤ t ∧ t < n)) → wp 160 (am_ju 160 40) [aP 149, aI t, aI (if tnB h nb = true then 1 else 0), aI (nb : Int), aX, aX, aX, aX] [] (sT h) Q := by
        intro ht
        have ok : okP h n nb t := ⟨ht, e0, e1'⟩
        simp only [if_pos ok] at hq hq0
        rw [ju_160_40]
        simp only [r_aLD0, r_gR, r_iCONST, r_iALD, r_iALDs, r_IF1, r_GOTO, r_iST2, r_iST3, r_iLD3, r_IC3, r_iLD2, cl_35, r_IF0, r_IINC3, r_iLD1, r_IC0, cl_32, r_iRET, r_iST4, r_iLD4, cl_25, r_iADD, r_bPUSH, r_iSHL, r_iOR, r_IINC4, cl_157, r_IC5, r_iST5, r_iST6, r_iLD6, cl_158, cl_159, cl_138, r_iST7, r_iLD7, r_iLD5, r_IINC6, r_IC1, cl_139, cl_34, eq_self, Int.reduceLT, Int.reduceLE, Int.reduceEq, true_or, or_true, and_self, true_and, and_true, w8_0, w8_1, w8_2, w8_3, w8_4, nl_I, nl_P, nl_X, pu_I, pu_J, pu_V]
        refine (lp_Rloose hP n 0 (Nat.zero_add n)).mpr ?_
        rw [ju_160_69]
        simp only [r_aLD0, r_gR, r_iCONST, r_iALD, r_iALDs, r_IF1, r_GOTO, r_iST2, r_iST3, r_iLD3, r_IC3, r_iLD2, cl_35, r_IF0, r_IINC3, r_iLD1, r_IC0, cl_32, r_iRET, r_iST4, r_iLD4, cl_25, r_iADD, r_bPUSH, r_iSHL, r_iOR, r_IINC4, cl_157, r_IC5, r_iST5, r_iST6, r_iLD6, cl_158, cl_159, cl_138, r_iST7, r_iLD7, r_iLD5, r_IINC6, r_IC1, cl_139, cl_34, eq_self, Int.reduceLT, Int.reduceLE, Int.reduceEq, true_or, or_true, and_self, true_and, and_true, w8_0, w8_1, w8_2, w8_3, w8_4, nl_I, nl_P, nl_X, pu_I, pu_J, pu_V, s_ones (show zL h n < 2 ^ 31 by omega)]
        by_cases e3 : popc (zL h n) ≤ 6
        · simp only [if_pos e3] at hq
          rw [if_pos (by omega), ju_160_75]
          simp only [r_aLD0, r_gR, r_iCONST, r_iALD, r_iALDs, r_IF1, r_GOTO, r_iST2, r_iST3, r_iLD3, r_IC3, r_iLD2, cl_35, r_IF0, r_IINC3, r_iLD1, r_IC0, cl_32, r_iRET, r_iST4, r_iLD4, cl_25, r_iADD, r_bPUSH, r_iSHL, r_iOR, r_IINC4, cl_157, r_IC5, r_iST5, r_iST6, r_iLD6, cl_158, cl_159, cl_138, r_iST7, r_iLD7, r_iLD5, r_IINC6, r_IC1, cl_139, cl_34, eq_self, Int.reduceLT, Int.reduceLE, Int.reduceEq, true_or, or_true, and_self, true_and, and_true, w8_0, w8_1, w8_2, w8_3, w8_4, nl_I, nl_P, nl_X, pu_I, pu_J, pu_V]
          exact lp_Rpk hP (by omega) e3 ht hq (nb ^ popc (zL h n)) 0 h aX (Nat.zero_add _) rfl (scT_r h)
        · rw [if_neg e3] at hq0
          rw [if_neg (by omega)]
          exact hq0
      by_cases e : t = -1
      · rw [if_pos e]
        exact key (Or.inl e)
      · rw [if_neg e]
        by_cases f : 0 ≤ t ∧ t < n
        · rw [if_pos (by simp [f])]
          exact key (Or.inr f)
        · rw [if_neg (by simp [f])]
          rw [if_neg (fun z => by rcases z.1 with q | q; exact e q; exact f q)] at hq0
          exact hq0
theorem FR_w2 (ht : wR2 h g) : FR h g := fun a k q => by rw [ht a (by unfold scr at q; omega)]
theorem b_packing (hI : INV h) : Both 156 160 [aP 0, aI t] [aP 149, aI t, aX, aX, aX, aX, aX, aX] h := by
  obtain ⟨⟨n, nb, L, s, K, nx, hW⟩, hr⟩ := id hI
  have hP := hW.1
  refine s_Tpacking (Rp_CO hP) (fun h1 t1 => ⟨_, h1, rfl, rfl, FR_1 (FR_w2 t1), ?_⟩)
  have hF := FR_w2 t1
  have et : ∀ b, tnB h1 b = tnB h b := by
    intro b
    induction b with
    | zero => rfl
    | succ b ih => rw [tnB, tnB, ih, t1 93 (by decide)]
  have ez : zL h1 n = zL h n := by unfold zL; rw [t1 94 (by decide)]
  have eF : FV h1 n nb L s = FV h n nb L s := by
    funext v
    unfold FV rcF
    rw [ez]
    exact minB_eq (fun b _ => by rw [gW_c t1, t1 82 (by decide)])
  refine s_Rpacking (WD_FR hF hW).1 (fun h2 t2 => ⟨h2, ?_, rfl, ?_, INV_FR hI (FR_t hF t2)⟩)
  · unfold pkA okP
    rw [ez, eF, et]
  · rw [FR_1 t2, FR_1 hF]
end PQ
