/-- how many of the m steps from s on are bus steps -/
def bN (f : Nat → Int) : Nat → Nat → Int
  | 0, _ => 0
  | m + 1, s => (if f s = 3 then 1 else 0) + bN f m (s + 1)
section ET
variable {h h' : am_F} {Q : am_V → am_S → Prop} {x y t b i pl j : Int} {n nb L s : Nat}
theorem lp_ground (h8 : n ≤ 8) (hn : h 81 7 = (n : Int)) : ∀ (k t : Nat), t + k = n → (wp 103 (am_ju 103 4) [aP 80, aI ((setF (fun t => decide (10 ≤ h 94 t)) t : Nat) : Int), aI (t : Int)] [] (sT h) Q ↔ Q (aI ((setF (fun t => decide (10 ≤ h 94 t)) n : Nat) : Int)) (sT h)) := by
  intro k
  induction k with
  | zero =>
    intro t ht
    have ht : t = n := by omega
    subst ht
    simp only [ju_103_4, ju_103_24, r_iCONST, r_iST1, r_iST2, r_iLD2, r_aLD0, r_gR, r_gI, r_IC3, r_iALD, r_iALDs, r_bPUSH, r_IC2, r_iLD1, r_iSHL, r_iOR, r_IINC2, r_GOTO, r_iRET, eq_self, Int.reduceLT, Int.reduceLE, Int.reduceEq, true_or, or_true, and_self, true_and, and_true, w8_0, w8_1, w8_2, w8_3, w8_4, nl_I, nl_P, nl_X, pu_I, pu_J, pu_V, kd_80, ln_80, rR_80_0, rR_80_1, rR_80_2, rR_80_3, kd_81, ln_81, rR_81_0, rR_81_1, rR_81_2, rR_81_3, rR_81_4, rR_81_5, kd_90, ln_90, rR_90_0, rR_90_1, rR_90_2, rR_90_3, hn]
    rw [if_pos (by omega)]
  | succ k ih =>
    intro t ht
    rw [ju_103_4]
    simp only [ju_103_22, r_iCONST, r_iST1, r_iST2, r_iLD2, r_aLD0, r_gR, r_gI, r_IC3, r_iALD, r_iALDs, r_bPUSH, r_IC2, r_iLD1, r_iSHL, r_iOR, r_IINC2, r_GOTO, r_iRET, eq_self, Int.reduceLT, Int.reduceLE, Int.reduceEq, true_or, or_true, and_self, true_and, and_true, w8_0, w8_1, w8_2, w8_3, w8_4, nl_I, nl_P, nl_X, pu_I, pu_J, pu_V, kd_80, ln_80, rR_80_0, rR_80_1, rR_80_2, rR_80_3, kd_81, ln_81, rR_81_0, rR_81_1, rR_81_2, rR_81_3, rR_81_4, rR_81_5, kd_90, ln_90, rR_90_0, rR_90_1, rR_90_2, rR_90_3, kd_94, ln_94, hn]
    rw [if_neg (by omega)]
    have hs : setF (fun t => decide (10 ≤ h 94 t)) (t + 1) = setF (fun t => decide (10 ≤ h 94 t)) t ||| (if decide (10 ≤ h 94 t) = true then 2 ^ t else 0) := rfl
    have hlt := setF_lt (fun t => decide (10 ≤ h 94 t)) t
    have h31 : 2 ^ t < 2 ^ 31 := Nat.pow_lt_pow_right (by decide) (by omega)
    refine (and_iff_right ⟨by omega, by omega⟩).trans ?_
    have ih := ih (t + 1) (by omega)
    rw [hs] at ih
    have hw : w3 ((t : Int) + 1) = ((t + 1 : Nat) : Int) := w3_id (by omega) (by omega)
    by_cases hp : 10 ≤ h 94 t
    · rw [if_neg (by omega), hw, show (1 : Int) = ((1 : Nat) : Int) from rfl, bShl_n 1 t (by omega) (by omega), Nat.one_mul, bOr_n _ _ (by omega) h31]
      simpa [hp] using ih
    · rw [if_pos (by omega), hw]
      simpa [hp] using ih
theorem s_ground (h8 : n ≤ 8) (hn : h 81 7 = (n : Int)) : wp 103 (am_ju 103 0) [aP 80, aX, aX] [] (sT h) Q ↔ Q (aI ((setF (fun t => decide (10 ≤ h 94 t)) n : Nat) : Int)) (sT h) := by
  rw [ju_103_0]
  simp only [r_iCONST, r_iST1, r_iST2, r_iLD2, r_aLD0, r_gR, r_gI, r_IC3, r_iALD, r_iALDs, r_bPUSH, r_IC2, r_iLD1, r_iSHL, r_iOR, r_IINC2, r_GOTO, r_iRET, eq_self, Int.reduceLT, Int.reduceLE, Int.reduceEq, true_or, or_true, and_self, true_and, and_true, w8_0, w8_1, w8_2, w8_3, w8_4, nl_I, nl_P, nl_X, pu_I, pu_J, pu_V]
  exact lp_ground h8 hn n 0 (Nat.zero_add n)
theorem lp_buses (hL : h 88 1 = (L : Int)) (h20 : L ≤ 20) : ∀ (m s : Nat) (x a : Int), s + m = L → 0 ≤ a ∧ a ≤ s → (wp 104 (am_ju 104 4) [aP 88, aI x, aI a, aI (s : Int)] [] (sT h) Q ↔ Q (aI (a + bN (fun s => h 89 s) m s)) (sT h)) := by
  intro m
  induction m with
  | zero =>
    intro s x a hs ha
    simp only [ju_104_4, ju_104_16, r_iCONST, r_iST2, r_iLD1, r_iST3, r_iLD3, r_aLD0, r_gI, r_IC3, cl_100, r_IC1, r_IINC2, r_IINC3, r_GOTO, r_iLD2, r_iRET, eq_self, Int.reduceLT, Int.reduceLE, Int.reduceEq, true_or, or_true, and_self, true_and, and_true, w8_0, w8_1, w8_2, w8_3, w8_4, nl_I, nl_P, nl_X, pu_I, pu_J, pu_V, kd_88, ln_88, rR_88_0, hL]
    rw [if_pos (by omega), bN, Int.add_zero]
  | succ m ih =>
    intro s x a hs ha
    rw [ju_104_4]
    simp only [ju_104_14, r_iCONST, r_iST2, r_iLD1, r_iST3, r_iLD3, r_aLD0, r_gI, r_IC3, cl_100, r_IC1, r_IINC2, r_IINC3, r_GOTO, r_iLD2, r_iRET, eq_self, Int.reduceLT, Int.reduceLE, Int.reduceEq, true_or, or_true, and_self, true_and, and_true, w8_0, w8_1, w8_2, w8_3, w8_4, nl_I, nl_P, nl_X, pu_I, pu_J, pu_V, kd_88, ln_88, rR_88_0, hL, s_sortAt]
    rw [if_neg (by omega), show sortI h s = h 89 s from by unfold sortI; rw [if_pos ⟨by omega, by omega, by omega⟩], bN]
    have hw : w3 ((s : Int) + 1) = ((s + 1 : Nat) : Int) := w3_id (by omega) (by omega)
    have ha1 : w3 (a + 1) = a + 1 := w3_id (by omega) (by omega)
    by_cases hp : h 89 s = 3
    · rw [if_neg (by simpa using hp), if_pos hp, hw, ha1, ih (s + 1) x (a + 1) (by omega) ⟨by omega, by omega⟩, Int.add_assoc]
    · rw [if_pos hp, if_neg hp, hw, ih (s + 1) x a (by omega) ⟨by omega, by omega⟩, Int.zero_add]
theorem s_buses (hL : h 88 1 = (L : Int)) (h20 : L ≤ 20) (hs : s ≤ L) : wp 104 (am_ju 104 0) [aP 88, aI (s : Int), aX, aX] [] (sT h) Q ↔ Q (aI (bN (fun s => h 89 s) (L - s) s)) (sT h) := by
  rw [ju_104_0]
  simp only [r_iCONST, r_iST2, r_iLD1, r_iST3, r_iLD3, r_aLD0, r_gI, r_IC3, cl_100, r_IC1, r_IINC2, r_IINC3, r_GOTO, r_iLD2, r_iRET, eq_self, Int.reduceLT, Int.reduceLE, Int.reduceEq, true_or, or_true, and_self, true_and, and_true, w8_0, w8_1, w8_2, w8_3, w8_4, nl_I, nl_P, nl_X, pu_I, pu_J, pu_V]
  rw [lp_buses hL h20 (L - s) s _ 0 (by omega) ⟨by omega, by omega⟩, Int.zero_add]
end ET
