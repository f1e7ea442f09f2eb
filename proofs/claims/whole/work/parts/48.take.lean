section TA
variable {h h' : am_F} {Q : am_V → am_S → Prop} {x y t b i pl j c d : Int} {n nb L s : Nat}
theorem s_Rrestore : wp 203 (am_ju 203 0) [aP 149] [] (sT h) Q ↔ Q (aI (if h 149 4 = 0 then -4 else 1)) (sT (if h 149 4 = 0 then h else cpy h 153 0 150 0 238)) := by
  simp only [ju_203_0, ju_203_5, r_aLD0, r_gI, r_IF1, r_bPUSH, r_iRET, r_gR, cl_90, r_iCONST, eq_self, Int.reduceLT, Int.reduceLE, Int.reduceEq, true_or, or_true, and_self, true_and, and_true, w8_0, w8_1, w8_2, w8_3, w8_4, nl_I, nl_P, nl_X, pu_I, pu_J, pu_V, kd_149, ln_149, rR_149_0, rR_149_1, rR_149_2, rR_149_3, rR_149_5, rR_149_7, rR_149_8, rR_149_9, rR_149_10, rR_149_16, rR_149_17, rR_149_18, s_copies kd_153 ln_153 kd_150 ln_150 (by decide : (153 : Int) ≠ 150)]
  by_cases e : h 149 4 = 0 <;> simp [e]
theorem s_takeRow (hk : kd c = 20) (hkd : kd d = 20) {l : Int} (hl : ln c = l) (hld : ln d = l) (h0 : 0 ≤ l) : wp 71 (am_ju 71 0) [aP d, aP c] [] (sT h) Q ↔ Q aV (sT (cpy h c 0 d 0 l)) := by
  simp only [ju_71_0, r_aLD1, r_iCONST, r_aLD0, r_aLEN, r_aLENs, r_MMIN, r_ACPY, r_vRET, eq_self, Int.reduceLT, Int.reduceLE, Int.reduceEq, true_or, or_true, and_self, true_and, and_true, w8_0, w8_1, w8_2, w8_3, w8_4, nl_I, nl_P, nl_X, pu_I, pu_J, pu_V, hk, hkd, hl, hld]
  rw [if_neg (Int.lt_irrefl l)]
  exact ⟨fun z => z.2, fun z => ⟨by omega, z⟩⟩
theorem cpy_k {l : Int} (hcd : c ≠ d) {a k : Int} : cpy h c 0 d 0 l a k = if a = d ∧ 0 ≤ k ∧ k < l then h c k else h a k := by
  unfold cpy
  by_cases e : a = d ∧ 0 ≤ k ∧ k < l
  · rw [if_pos e, if_pos ⟨e.1, e.2.1, by omega⟩]; congr 1; omega
  · rw [if_neg e, if_neg (fun z => e ⟨z.1, z.2.1, by omega⟩)]
theorem s_wayK : wp 72 (am_ju 72 0) [aP 9, aP 88] [] (sT h) Q ↔ Q aV (sT (up (cpy h 89 0 10 0 20) 9 1 (cpy h 89 0 10 0 20 88 1))) := by
  simp only [ju_72_0, r_aLD0, r_gR, r_aLD1, cl_71, r_gI, r_pI, r_vRET, eq_self, Int.reduceLT, Int.reduceLE, Int.reduceEq, true_or, or_true, and_self, true_and, and_true, w8_0, w8_1, w8_2, w8_3, w8_4, nl_I, nl_P, nl_X, pu_I, pu_J, pu_V, kd_88, ln_88, rR_88_0, kd_9, ln_9, rR_9_0, s_takeRow kd_89 kd_10 ln_89 ln_10 (by decide)]
theorem s_wayW : wp 72 (am_ju 72 0) [aP 88, aP 9] [] (sT h) Q ↔ Q aV (sT (up (cpy h 10 0 89 0 20) 88 1 (cpy h 10 0 89 0 20 9 1))) := by
  simp only [ju_72_0, r_aLD0, r_gR, r_aLD1, cl_71, r_gI, r_pI, r_vRET, eq_self, Int.reduceLT, Int.reduceLE, Int.reduceEq, true_or, or_true, and_self, true_and, and_true, w8_0, w8_1, w8_2, w8_3, w8_4, nl_I, nl_P, nl_X, pu_I, pu_J, pu_V, kd_88, ln_88, rR_88_0, kd_9, ln_9, rR_9_0, s_takeRow kd_10 kd_89 ln_10 ln_89 (by decide)]
end TA
