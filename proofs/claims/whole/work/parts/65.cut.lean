/-! Lanes: what is kept of a long -/
def ctL (y v : Int) : Int := if y = 0 then v.bmod 256 else if y = 1 then v.bmod 65536 else if y = 2 then v.bmod 4294967296 else v
theorem bm_56 (N : Int) : (N * 72057594037927936).bmod 18446744073709551616 / 72057594037927936 = N.bmod 256 := by
  rw [Int.bmod_def, Int.bmod_def]; split <;> split <;> omega
theorem bm_48 (N : Int) : (N * 281474976710656).bmod 18446744073709551616 / 281474976710656 = N.bmod 65536 := by
  rw [Int.bmod_def, Int.bmod_def]; split <;> split <;> omega
theorem bm_32 (N : Int) : (N * 4294967296).bmod 18446744073709551616 / 4294967296 = N.bmod 4294967296 := by
  rw [Int.bmod_def, Int.bmod_def]; split <;> split <;> omega
theorem sh_of (x y : Int64) (n : Nat) (hy : (y.toBitVec.smod 64).toNat = n) : ((x <<< y) >>> y).toInt = ((x.toBitVec.toNat : Int) * 2 ^ n).bmod (2 ^ 64) / 2 ^ n := by
  show ((x <<< y) >>> y).toBitVec.toInt = _
  rw [Int64.toBitVec_shiftRight, Int64.toBitVec_shiftLeft, BitVec.toInt_sshiftRight', BitVec.shiftLeft_eq', BitVec.toInt_shiftLeft, hy, Nat.shiftLeft_eq, Int.shiftRight_eq_div_pow]
  congr 1
theorem w6_nat (v : Int) (hv : w6 v = v) : ((Int64.ofInt v).toBitVec.toNat : Int).bmod (2 ^ 64) = v := by
  rw [← BitVec.toInt_eq_toNat_bmod]
  exact hv
theorem lsh_ok (v b : Int) (n : Nat) (hb : (((Int32.ofInt b).toInt64 &&& 63).toBitVec.smod 64).toNat = n) : lShr (lShl v b) b = (((Int64.ofInt v).toBitVec.toNat : Int) * 2 ^ n).bmod (2 ^ 64) / 2 ^ n := by
  unfold lShr lShl
  rw [Int64.ofInt_toInt]
  exact sh_of _ _ n hb
theorem ct_56 {v : Int} (hv : w6 v = v) : lShr (lShl v 56) 56 = v.bmod 256 := by
  rw [lsh_ok v 56 56 (by decide)]
  have := w6_nat v hv
  generalize ((Int64.ofInt v).toBitVec.toNat : Int) = N at *
  rw [show (2 : Int) ^ 56 = 72057594037927936 by decide, show (2 : Nat) ^ 64 = 18446744073709551616 by decide, bm_56, ← this, show (2 : Nat) ^ 64 = 18446744073709551616 by decide, Int.bmod_bmod_of_dvd (by decide)]
theorem ct_48 {v : Int} (hv : w6 v = v) : lShr (lShl v 48) 48 = v.bmod 65536 := by
  rw [lsh_ok v 48 48 (by decide)]
  have := w6_nat v hv
  generalize ((Int64.ofInt v).toBitVec.toNat : Int) = N at *
  rw [show (2 : Int) ^ 48 = 281474976710656 by decide, show (2 : Nat) ^ 64 = 18446744073709551616 by decide, bm_48, ← this, show (2 : Nat) ^ 64 = 18446744073709551616 by decide, Int.bmod_bmod_of_dvd (by decide)]
theorem ct_32 {v : Int} (hv : w6 v = v) : lShr (lShl v 32) 32 = v.bmod 4294967296 := by
  rw [lsh_ok v 32 32 (by decide)]
  have := w6_nat v hv
  generalize ((Int64.ofInt v).toBitVec.toNat : Int) = N at *
  rw [show (2 : Int) ^ 32 = 4294967296 by decide, show (2 : Nat) ^ 64 = 18446744073709551616 by decide, bm_32, ← this, show (2 : Nat) ^ 64 = 18446744073709551616 by decide, Int.bmod_bmod_of_dvd (by decide)]
theorem ct_0 {v : Int} (hv : w6 v = v) : lShr (lShl v 0) 0 = v := by
  rw [lsh_ok v 0 0 (by decide)]
  have := w6_nat v hv
  generalize ((Int64.ofInt v).toBitVec.toNat : Int) = N at *
  rw [Int.pow_zero, Int.mul_one, this, Int.ediv_one]
theorem lti_ok {v : Int} (hv : w6 v = v) : (Int64.ofInt v).toInt32.toInt = v.bmod 4294967296 := by
  rw [Int64.toInt_toInt32]
  show (w6 v).bmod _ = _
  rw [hv]
theorem bm_r8 (v : Int) : -128 ≤ v.bmod 256 ∧ v.bmod 256 < 128 := by rw [Int.bmod_def]; split <;> omega
theorem bm_r16 (v : Int) : -32768 ≤ v.bmod 65536 ∧ v.bmod 65536 < 32768 := by rw [Int.bmod_def]; split <;> omega
theorem bm_r32 (v : Int) : -2147483648 ≤ v.bmod 4294967296 ∧ v.bmod 4294967296 < 2147483648 := by rw [Int.bmod_def]; split <;> omega
theorem lb_0 {v : Int} (hv : w6 v = v) : w3 (iB ((Int64.ofInt v).toInt32.toInt)) = v.bmod 256 := by
  have e : iB ((Int64.ofInt v).toInt32.toInt) = v.bmod 256 := by
    unfold iB
    rw [Int32.ofInt_toInt, Int8.toInt_toInt32, Int32.toInt_toInt8, lti_ok hv]
    exact Int.bmod_bmod_of_dvd (n := 256) (m := 4294967296) (by decide)
  have := bm_r8 v
  rw [e, w3_id (by omega) (by omega)]
theorem lb_1 {v : Int} (hv : w6 v = v) : w3 (iS ((Int64.ofInt v).toInt32.toInt)) = v.bmod 65536 := by
  have e : iS ((Int64.ofInt v).toInt32.toInt) = v.bmod 65536 := by
    unfold iS
    rw [Int32.ofInt_toInt, Int16.toInt_toInt32, Int32.toInt_toInt16, lti_ok hv]
    exact Int.bmod_bmod_of_dvd (n := 65536) (m := 4294967296) (by decide)
  have := bm_r16 v
  rw [e, w3_id (by omega) (by omega)]
theorem lb_2 {v : Int} (hv : w6 v = v) : w3 ((Int64.ofInt v).toInt32.toInt) = v.bmod 4294967296 := by
  have := bm_r32 v
  rw [lti_ok hv, w3_id (by omega) (by omega)]
section CT
variable {h h' : am_F} {Q : am_V → am_S → Prop} {c d v x y i m : Int} {l t q : Nat}
theorem s_lowest2 (hk : kd c = 6) (hy : 0 ≤ h c 2 ∧ h c 2 ≤ 3) (hv : w6 v = v) : wp 216 (am_ju 216 0) [aP c, aJ v, aX] [] (sT h) Q ↔ Q (aJ (ctL (h c 2) v)) (sT h) := by
  rw [ju_216_0]
  simp only [r_aLD0, r_gI, r_TSW, r_lLD1, r_LTI, r_ITB, r_ITL, r_lRET, r_ITS, eq_self, Int.reduceLT, Int.reduceLE, Int.reduceEq, true_or, or_true, and_self, true_and, and_true, w8_0, w8_1, w8_2, w8_3, w8_4, nl_I, nl_P, nl_X, pu_I, pu_J, pu_V, hk]
  have h4 : h c 2 = 0 ∨ h c 2 = 1 ∨ h c 2 = 2 ∨ h c 2 = 3 := by omega
  rcases h4 with e | e | e | e <;> rw [e]
  · rw [show tswT [0, 2, 17, 3, 8, 13] 0 = 3 from by decide]
    simp only [ju_216_3, r_aLD0, r_gI, r_TSW, r_lLD1, r_LTI, r_ITB, r_ITL, r_lRET, r_ITS, eq_self, Int.reduceLT, Int.reduceLE, Int.reduceEq, true_or, or_true, and_self, true_and, and_true, w8_0, w8_1, w8_2, w8_3, w8_4, nl_I, nl_P, nl_X, pu_I, pu_J, pu_V, lb_0 hv]; simp [ctL]
  · rw [show tswT [0, 2, 17, 3, 8, 13] 1 = 8 from by decide]
    simp only [ju_216_8, r_aLD0, r_gI, r_TSW, r_lLD1, r_LTI, r_ITB, r_ITL, r_lRET, r_ITS, eq_self, Int.reduceLT, Int.reduceLE, Int.reduceEq, true_or, or_true, and_self, true_and, and_true, w8_0, w8_1, w8_2, w8_3, w8_4, nl_I, nl_P, nl_X, pu_I, pu_J, pu_V, lb_1 hv]; simp [ctL]
  · rw [show tswT [0, 2, 17, 3, 8, 13] 2 = 13 from by decide]
    simp only [ju_216_13, r_aLD0, r_gI, r_TSW, r_lLD1, r_LTI, r_ITB, r_ITL, r_lRET, r_ITS, eq_self, Int.reduceLT, Int.reduceLE, Int.reduceEq, true_or, or_true, and_self, true_and, and_true, w8_0, w8_1, w8_2, w8_3, w8_4, nl_I, nl_P, nl_X, pu_I, pu_J, pu_V, lb_2 hv]; simp [ctL]
  · rw [show tswT [0, 2, 17, 3, 8, 13] 3 = 17 from by decide]
    simp only [ju_216_17, r_aLD0, r_gI, r_TSW, r_lLD1, r_LTI, r_ITB, r_ITL, r_lRET, r_ITS, eq_self, Int.reduceLT, Int.reduceLE, Int.reduceEq, true_or, or_true, and_self, true_and, and_true, w8_0, w8_1, w8_2, w8_3, w8_4, nl_I, nl_P, nl_X, pu_I, pu_J, pu_V]; simp [ctL]
theorem s_cut (hy : 0 ≤ y ∧ y ≤ 3) (hv : w6 v = v) : wp 219 (am_ju 219 0) [aI y, aJ v, aX, aX] [] (sT h) Q ↔ Q (aJ (ctL y v)) (sT h) := by
  have h4 : y = 0 ∨ y = 1 ∨ y = 2 ∨ y = 3 := by omega
  rcases h4 with rfl | rfl | rfl | rfl
  · simp only [ju_219_0, ju_219_4, ju_219_9, ju_219_14, ju_219_15, r_iLD0, r_IF1, r_bPUSH, r_GOTO, r_iCONST, r_IC1, r_iST3, r_lLD1, r_iLD3, r_lSHL, r_lSHR, r_lRET, eq_self, Int.reduceLT, Int.reduceLE, Int.reduceEq, true_or, or_true, and_self, true_and, and_true, w8_0, w8_1, w8_2, w8_3, w8_4, nl_I, nl_P, nl_X, pu_I, pu_J, pu_V, ct_56 hv]; simp [ctL, r_iLD0, r_IF1, r_bPUSH, r_GOTO, r_iCONST, r_IC1, r_iST3, r_lLD1, r_iLD3, r_lSHL, r_lSHR, r_lRET, eq_self, Int.reduceLT, Int.reduceLE, Int.reduceEq, true_or, or_true, and_self, true_and, and_true, w8_0, w8_1, w8_2, w8_3, w8_4, nl_I, nl_P, nl_X, pu_I, pu_J, pu_V, ct_56 hv]
  · simp only [ju_219_0, ju_219_4, ju_219_9, ju_219_14, ju_219_15, r_iLD0, r_IF1, r_bPUSH, r_GOTO, r_iCONST, r_IC1, r_iST3, r_lLD1, r_iLD3, r_lSHL, r_lSHR, r_lRET, eq_self, Int.reduceLT, Int.reduceLE, Int.reduceEq, true_or, or_true, and_self, true_and, and_true, w8_0, w8_1, w8_2, w8_3, w8_4, nl_I, nl_P, nl_X, pu_I, pu_J, pu_V, ct_48 hv]; simp [ctL, r_iLD0, r_IF1, r_bPUSH, r_GOTO, r_iCONST, r_IC1, r_iST3, r_lLD1, r_iLD3, r_lSHL, r_lSHR, r_lRET, eq_self, Int.reduceLT, Int.reduceLE, Int.reduceEq, true_or, or_true, and_self, true_and, and_true, w8_0, w8_1, w8_2, w8_3, w8_4, nl_I, nl_P, nl_X, pu_I, pu_J, pu_V, ct_48 hv]
  · simp only [ju_219_0, ju_219_4, ju_219_9, ju_219_14, ju_219_15, r_iLD0, r_IF1, r_bPUSH, r_GOTO, r_iCONST, r_IC1, r_iST3, r_lLD1, r_iLD3, r_lSHL, r_lSHR, r_lRET, eq_self, Int.reduceLT, Int.reduceLE, Int.reduceEq, true_or, or_true, and_self, true_and, and_true, w8_0, w8_1, w8_2, w8_3, w8_4, nl_I, nl_P, nl_X, pu_I, pu_J, pu_V, ct_32 hv]; simp [ctL, r_iLD0, r_IF1, r_bPUSH, r_GOTO, r_iCONST, r_IC1, r_iST3, r_lLD1, r_iLD3, r_lSHL, r_lSHR, r_lRET, eq_self, Int.reduceLT, Int.reduceLE, Int.reduceEq, true_or, or_true, and_self, true_and, and_true, w8_0, w8_1, w8_2, w8_3, w8_4, nl_I, nl_P, nl_X, pu_I, pu_J, pu_V, ct_32 hv]
  · simp only [ju_219_0, ju_219_4, ju_219_9, ju_219_14, ju_219_15, r_iLD0, r_IF1, r_bPUSH, r_GOTO, r_iCONST, r_IC1, r_iST3, r_lLD1, r_iLD3, r_lSHL, r_lSHR, r_lRET, eq_self, Int.reduceLT, Int.reduceLE, Int.reduceEq, true_or, or_true, and_self, true_and, and_true, w8_0, w8_1, w8_2, w8_3, w8_4, nl_I, nl_P, nl_X, pu_I, pu_J, pu_V, ct_0 hv]; simp [ctL, r_iLD0, r_IF1, r_bPUSH, r_GOTO, r_iCONST, r_IC1, r_iST3, r_lLD1, r_iLD3, r_lSHL, r_lSHR, r_lRET, eq_self, Int.reduceLT, Int.reduceLE, Int.reduceEq, true_or, or_true, and_self, true_and, and_true, w8_0, w8_1, w8_2, w8_3, w8_4, nl_I, nl_P, nl_X, pu_I, pu_J, pu_V, ct_0 hv]
theorem s_put (hk : kd c = 6) (hr : rR c 0 = c + 1) (hc : 0 ≤ c) (hk2 : kd (c + 1) = 21) (hl : ln (c + 1) = 24) (hy : 0 ≤ h c 2 ∧ h c 2 ≤ 3) (hv : w6 v = v) (hi : 0 ≤ i ∧ i < 24) : wp 217 (am_ju 217 0) [aP c, aI i, aJ v, aX] [] (sT h) Q ↔ Q aV (sT (up h (c + 1) i (ctL (h c 2) v))) := by
  obtain ⟨i0, i1⟩ := hi
  simp (disch := first | assumption | omega | exact w8_0 | exact w8_1 _ | exact w8_2 _ _ | exact w8_3 _ _ _ | exact w8_4 _ _ _ _ | exact nl_I _ | exact nl_P _ | exact nl_X | decide | exact w8_5 _ _ _ _ _) only [ju_217_0, ju_217_11, r_iLD1, r_bPUSH, cl_12, r_IF0, r_aLD0, r_gR, r_lLD2, cl_216, r_lASTc, r_vRET, eq_self, Int.reduceLT, Int.reduceLE, Int.reduceEq, true_or, or_true, and_self, true_and, and_true, w8_0, w8_1, w8_2, w8_3, w8_4, nl_I, nl_P, nl_X, pu_I, pu_J, pu_V, w3_id, Int.add_zero, s_isBelow, i0, i1, and_self, if_true, Int.reduceEq, if_false, hr, s_lowest2 hk hy hv]
end CT
