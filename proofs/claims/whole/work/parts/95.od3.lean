section OE
variable {g h h' h1 h2 u : am_F} {Q : am_V → am_S → Prop} {so j bj x y z o c w r v k : Int} {n nb L s K nx b m a q B S T i gg : Nat}
theorem lp_lk1 (hq : ∀ g, oL h g → (∀ m : Nat, m < 20 → g 140 m = if sortI h m = 3 then 8 else 1) → wp 143 (am_ju 143 23) [aP 137, aP 88, aI 20, aX] [] (sT g) Q) : ∀ (d k : Nat) (u : am_F), k + d = 20 → oL h u → (∀ m : Nat, m < k → u 140 m = if sortI h m = 3 then 8 else 1) → wp 143 (am_ju 143 6) [aP 137, aP 88, aI (k : Int), aX] [] (sT u) Q := by
  intro d
  have l1 := ln_140
  have k1 := kd_140
  induction d with
  | zero =>
    intro k u hk hu hm
    have hk : k = 20 := by omega
    subst hk
    rw [ju_143_6]
    simp only [r_aLD0, r_gR, r_aST1, r_iCONST, r_iST2, r_iLD2, r_bPUSH, r_IC3, r_aLD1, cl_100, r_IC1, r_GOTO, r_iAST, r_IINC2, r_gI, cl_142, r_iST3, r_iLD3, r_iALD, r_iALDs, r_iMUL, r_IINC3, r_iRET, eq_self, Int.reduceLT, Int.reduceLE, Int.reduceEq, true_or, or_true, and_self, true_and, and_true, w8_0, w8_1, w8_2, w8_3, w8_4, nl_I, nl_P, nl_X, pu_I, pu_J, pu_V]
    rw [if_pos (by decide)]
    exact hq u hu hm
  | succ d ih =>
    intro k u hk hu hm
    have hw : w3 ((k : Int) + 1) = ((k + 1 : Nat) : Int) := w3_id (by omega) (by omega)
    have es : sortI u (k : Int) = sortI h (k : Int) := by unfold sortI; rw [hu 88 (by decide) (by decide), hu 89 (by decide) (by decide)]
    have k0 : (0 : Int) ≤ k := by omega
    have k20 : (k : Int) < 20 := by omega
    have fin : ∀ v : Int, (v = if sortI h (k : Int) = 3 then 8 else 1) → wp 143 (am_ju 143 6) [aP 137, aP 88, aI ((k + 1 : Nat) : Int), aX] [] (sT (up u 140 (k : Int) v)) Q := fun v hv => by
      refine ih (k + 1) _ (by omega) (fun a q1 q2 => by rw [up_ne q2, hu a q1 q2]) (fun m hm2 => ?_)
      by_cases z : m = k
      · subst z; rw [up_s, hv]
      · rw [up_k (by omega), hm m (by omega)]
    rw [ju_143_6]
    simp only [r_aLD0, r_gR, r_aST1, r_iCONST, r_iST2, r_iLD2, r_bPUSH, r_IC3, r_aLD1, cl_100, r_IC1, r_GOTO, r_iAST, r_IINC2, r_gI, cl_142, r_iST3, r_iLD3, r_iALD, r_iALDs, r_iMUL, r_IINC3, r_iRET, eq_self, Int.reduceLT, Int.reduceLE, Int.reduceEq, true_or, or_true, and_self, true_and, and_true, w8_0, w8_1, w8_2, w8_3, w8_4, nl_I, nl_P, nl_X, pu_I, pu_J, pu_V, kd_137, ln_137, rR_137_0, rR_137_1, rR_137_2, rR_137_3, rR_137_4, rR_137_6, rR_137_7, rR_137_8, kd_88, s_sortAt, es]
    rw [if_neg (by omega)]
    by_cases e : sortI h (k : Int) = 3
    · have := fin 8 (by rw [if_pos e])
      rw [if_neg (by simpa using e)]
      simp (disch := first | assumption | omega | exact w8_0 | exact w8_1 _ | exact w8_2 _ _ | exact w8_3 _ _ _ | exact w8_4 _ _ _ _ | exact nl_I _ | exact nl_P _ | exact nl_X | decide | exact w8_5 _ _ _ _ _) only [ju_143_20, r_aLD0, r_gR, r_aST1, r_iCONST, r_iST2, r_iLD2, r_bPUSH, r_IC3, r_aLD1, cl_100, r_IC1, r_GOTO, r_iASTc, r_IINC2, r_gI, cl_142, r_iST3, r_iLD3, r_iALDc, r_iALDs, r_iMUL, r_IINC3, r_iRET, eq_self, Int.reduceLT, Int.reduceLE, Int.reduceEq, true_or, or_true, and_self, true_and, and_true, w8_0, w8_1, w8_2, w8_3, w8_4, nl_I, nl_P, nl_X, pu_I, pu_J, pu_V, w3_id, Int.add_zero, hw]
      exact this
    · have := fin 1 (by rw [if_neg e])
      rw [if_pos e]
      simp (disch := first | assumption | omega | exact w8_0 | exact w8_1 _ | exact w8_2 _ _ | exact w8_3 _ _ _ | exact w8_4 _ _ _ _ | exact nl_I _ | exact nl_P _ | exact nl_X | decide | exact w8_5 _ _ _ _ _) only [ju_143_19, ju_143_20, r_aLD0, r_gR, r_aST1, r_iCONST, r_iST2, r_iLD2, r_bPUSH, r_IC3, r_aLD1, cl_100, r_IC1, r_GOTO, r_iASTc, r_IINC2, r_gI, cl_142, r_iST3, r_iLD3, r_iALDc, r_iALDs, r_iMUL, r_IINC3, r_iRET, eq_self, Int.reduceLT, Int.reduceLE, Int.reduceEq, true_or, or_true, and_self, true_and, and_true, w8_0, w8_1, w8_2, w8_3, w8_4, nl_I, nl_P, nl_X, pu_I, pu_J, pu_V, w3_id, Int.add_zero, hw]
      exact this
theorem lp_lk2 (hC : CO h n nb L s) (hq : ∀ g, oL h g → lkR h g n s L nb 0 → wp 143 (am_ju 143 36) [aP 137, aP 88, aI (nb : Int), aX] [] (sT g) Q) : ∀ (d b : Nat) (u : am_F), b + d = nb → oL h u → lkR h u n s L b 0 → wp 143 (am_ju 143 25) [aP 137, aP 88, aI (b : Int), aX] [] (sT u) Q := by
  intro d
  have h3 := hC.2.1
  induction d with
  | zero =>
    intro b u hb hu hl
    have hb : b = nb := by omega
    subst hb
    have e : u 81 6 = (b : Int) := by rw [hu 81 (by decide) (by decide)]; exact hC.1
    rw [ju_143_25]
    simp only [r_aLD0, r_gR, r_aST1, r_iCONST, r_iST2, r_iLD2, r_bPUSH, r_IC3, r_aLD1, cl_100, r_IC1, r_GOTO, r_iAST, r_IINC2, r_gI, cl_142, r_iST3, r_iLD3, r_iALD, r_iALDs, r_iMUL, r_IINC3, r_iRET, eq_self, Int.reduceLT, Int.reduceLE, Int.reduceEq, true_or, or_true, and_self, true_and, and_true, w8_0, w8_1, w8_2, w8_3, w8_4, nl_I, nl_P, nl_X, pu_I, pu_J, pu_V, kd_137, ln_137, rR_137_0, rR_137_1, rR_137_2, rR_137_3, rR_137_4, rR_137_6, rR_137_7, rR_137_8, kd_80, ln_80, rR_80_0, rR_80_1, rR_80_2, rR_80_3, kd_81, ln_81, rR_81_0, rR_81_1, rR_81_2, rR_81_3, rR_81_4, rR_81_5, e]
    rw [if_pos (by omega)]
    exact hq u hu hl
  | succ d ih =>
    intro b u hb hu hl
    have e : u 81 6 = (nb : Int) := by rw [hu 81 (by decide) (by decide)]; exact hC.1
    have hw : w3 ((b : Int) + 1) = ((b + 1 : Nat) : Int) := w3_id (by omega) (by omega)
    rw [ju_143_25]
    simp only [r_aLD0, r_gR, r_aST1, r_iCONST, r_iST2, r_iLD2, r_bPUSH, r_IC3, r_aLD1, cl_100, r_IC1, r_GOTO, r_iAST, r_IINC2, r_gI, cl_142, r_iST3, r_iLD3, r_iALD, r_iALDs, r_iMUL, r_IINC3, r_iRET, eq_self, Int.reduceLT, Int.reduceLE, Int.reduceEq, true_or, or_true, and_self, true_and, and_true, w8_0, w8_1, w8_2, w8_3, w8_4, nl_I, nl_P, nl_X, pu_I, pu_J, pu_V, kd_137, ln_137, rR_137_0, rR_137_1, rR_137_2, rR_137_3, rR_137_4, rR_137_6, rR_137_7, rR_137_8, kd_80, ln_80, rR_80_0, rR_80_1, rR_80_2, rR_80_3, kd_81, ln_81, rR_81_0, rR_81_1, rR_81_2, rR_81_3, rR_81_4, rR_81_5, e]
    rw [if_neg (by omega)]
    refine s_nl hC (show b < nb by omega) hu hl (fun g hg hl' => ?_)
    simp only [r_aLD0, r_gR, r_aST1, r_iCONST, r_iST2, r_iLD2, r_bPUSH, r_IC3, r_aLD1, cl_100, r_IC1, r_GOTO, r_iAST, r_IINC2, r_gI, cl_142, r_iST3, r_iLD3, r_iALD, r_iALDs, r_iMUL, r_IINC3, r_iRET, eq_self, Int.reduceLT, Int.reduceLE, Int.reduceEq, true_or, or_true, and_self, true_and, and_true, w8_0, w8_1, w8_2, w8_3, w8_4, nl_I, nl_P, nl_X, pu_I, pu_J, pu_V, hw]
    exact ih (b + 1) g (by omega) hg hl'
theorem lkN_le (bus : Nat → Bool) (w : Nat → Nat → Nat → Bool) : lkN bus w B i ≤ 8 ^ (if bus i = true then 1 else 0) := by
  unfold lkN
  by_cases e : bus i = true
  · rw [if_pos e, if_pos e]; exact mn8_le _ _
  · rw [if_neg e, if_neg e]; split <;> decide
theorem lp_lk3 (hC : CO h n nb L s) (hu : oL h u) (hl : lkR h u n s L nb 0) : ∀ (d i acc : Nat), i + d = L - s → acc * 8 ^ buN (oB h s) d i ≤ 4096 → (wp 143 (am_ju 143 43) [aP 137, aP 88, aI (acc : Int), aI ((s + i : Nat) : Int)] [] (sT u) Q ↔ Q (aI ((acc * prN (lkN (oB h s) (oW h n s) nb) d i : Nat) : Int)) (sT u)) := by
  intro d
  have l1 := ln_140
  have k1 := kd_140
  obtain ⟨c1, c2, c3, c4, c5, c6, c7, c8, c9, c10⟩ := id hC
  have e1 : u 88 1 = (L : Int) := by rw [hu 88 (by decide) (by decide), c5]
  induction d with
  | zero =>
    intro i acc hi ha
    rw [ju_143_43]
    simp only [ju_143_56, r_aLD0, r_gR, r_aST1, r_iCONST, r_iST2, r_iLD2, r_bPUSH, r_IC3, r_aLD1, cl_100, r_IC1, r_GOTO, r_iAST, r_IINC2, r_gI, cl_142, r_iST3, r_iLD3, r_iALD, r_iALDs, r_iMUL, r_IINC3, r_iRET, eq_self, Int.reduceLT, Int.reduceLE, Int.reduceEq, true_or, or_true, and_self, true_and, and_true, w8_0, w8_1, w8_2, w8_3, w8_4, nl_I, nl_P, nl_X, pu_I, pu_J, pu_V, kd_88, e1]
    rw [if_pos (by omega), prN, Nat.mul_one]
  | succ d ih =>
    intro i acc hi ha
    have hw : w3 (((s + i : Nat) : Int) + 1) = ((s + (i + 1) : Nat) : Int) := by rw [w3_id (by omega) (by omega)]; omega
    have s0 : (0 : Int) ≤ ((s + i : Nat) : Int) := by omega
    have s20 : ((s + i : Nat) : Int) < 20 := by omega
    have l140 : u 140 ((s + i : Nat) : Int) = (lkN (oB h s) (oW h n s) nb i : Int) := by rw [hl i (by omega), if_neg (by omega)]
    have hle := lkN_le (B := nb) (i := i) (oB h s) (oW h n s)
    rw [buN, Nat.pow_add, ← Nat.mul_assoc] at ha
    have ha2 : acc * lkN (oB h s) (oW h n s) nb i * 8 ^ buN (oB h s) d (i + 1) ≤ 4096 := Nat.le_trans (Nat.mul_le_mul_right _ (Nat.mul_le_mul_left _ hle)) ha
    have ha3 : acc * lkN (oB h s) (oW h n s) nb i ≤ 4096 := Nat.le_trans (Nat.le_mul_of_pos_right _ (Nat.pow_pos (by decide))) ha2
    have hm : w3 ((acc : Int) * (lkN (oB h s) (oW h n s) nb i : Int)) = ((acc * lkN (oB h s) (oW h n s) nb i : Nat) : Int) := by
      rw [← Int.natCast_mul]
      exact w3_id (by omega) (by omega)
    have ih := ih (i + 1) (acc * lkN (oB h s) (oW h n s) nb i) (by omega) ha2
    rw [ju_143_43]
    simp only [r_aLD0, r_gR, r_aST1, r_iCONST, r_iST2, r_iLD2, r_bPUSH, r_IC3, r_aLD1, cl_100, r_IC1, r_GOTO, r_iAST, r_IINC2, r_gI, cl_142, r_iST3, r_iLD3, r_iALD, r_iALDs, r_iMUL, r_IINC3, r_iRET, eq_self, Int.reduceLT, Int.reduceLE, Int.reduceEq, true_or, or_true, and_self, true_and, and_true, w8_0, w8_1, w8_2, w8_3, w8_4, nl_I, nl_P, nl_X, pu_I, pu_J, pu_V, kd_137, ln_137, rR_137_0, rR_137_1, rR_137_2, rR_137_3, rR_137_4, rR_137_6, rR_137_7, rR_137_8, kd_140, ln_140, kd_88, e1, l140, hm, hw]
    rw [if_neg (by omega), prN, ← Nat.mul_assoc]
    exact ⟨fun q => ih.mp q.2, fun q => ⟨⟨by omega, by omega⟩, ih.mpr q⟩⟩
theorem s_lucky (hC : CO h n nb L s) (hB : buN (oB h s) (L - s) 0 ≤ 4) (hq : ∀ g, oL h g → Q (aI (prN (lkN (oB h s) (oW h n s) nb) (L - s) 0 : Int)) (sT g)) : wp 143 (am_ju 143 0) [aP 137, aX, aX, aX] [] (sT h) Q := by
  obtain ⟨c1, c2, c3, c4, c5, c6, c7, c8, c9, c10⟩ := id hC
  rw [ju_143_0]
  simp only [r_aLD0, r_gR, r_aST1, r_iCONST, r_iST2, r_iLD2, r_bPUSH, r_IC3, r_aLD1, cl_100, r_IC1, r_GOTO, r_iAST, r_IINC2, r_gI, cl_142, r_iST3, r_iLD3, r_iALD, r_iALDs, r_iMUL, r_IINC3, r_iRET, eq_self, Int.reduceLT, Int.reduceLE, Int.reduceEq, true_or, or_true, and_self, true_and, and_true, w8_0, w8_1, w8_2, w8_3, w8_4, nl_I, nl_P, nl_X, pu_I, pu_J, pu_V, kd_137, ln_137, rR_137_0, rR_137_1, rR_137_2, rR_137_3, rR_137_4, rR_137_6, rR_137_7, rR_137_8, kd_80, ln_80, rR_80_0, rR_80_1, rR_80_2, rR_80_3]
  refine lp_lk1 (fun g hg hm => ?_) 20 0 h rfl (fun _ _ _ => rfl) (fun m hm => absurd hm (by omega))
  rw [ju_143_23]
  simp only [r_aLD0, r_gR, r_aST1, r_iCONST, r_iST2, r_iLD2, r_bPUSH, r_IC3, r_aLD1, cl_100, r_IC1, r_GOTO, r_iAST, r_IINC2, r_gI, cl_142, r_iST3, r_iLD3, r_iALD, r_iALDs, r_iMUL, r_IINC3, r_iRET, eq_self, Int.reduceLT, Int.reduceLE, Int.reduceEq, true_or, or_true, and_self, true_and, and_true, w8_0, w8_1, w8_2, w8_3, w8_4, nl_I, nl_P, nl_X, pu_I, pu_J, pu_V]
  refine lp_lk2 hC (fun g2 hg2 hl2 => ?_) nb 0 g (Nat.zero_add nb) hg (fun k hk => ?_)
  · have e4 : g2 90 4 = (s : Int) := by rw [hg2 90 (by decide) (by decide), c7]
    rw [ju_143_36]
    simp only [r_aLD0, r_gR, r_aST1, r_iCONST, r_iST2, r_iLD2, r_bPUSH, r_IC3, r_aLD1, cl_100, r_IC1, r_GOTO, r_iAST, r_IINC2, r_gI, cl_142, r_iST3, r_iLD3, r_iALD, r_iALDs, r_iMUL, r_IINC3, r_iRET, eq_self, Int.reduceLT, Int.reduceLE, Int.reduceEq, true_or, or_true, and_self, true_and, and_true, w8_0, w8_1, w8_2, w8_3, w8_4, nl_I, nl_P, nl_X, pu_I, pu_J, pu_V, kd_137, ln_137, rR_137_0, rR_137_1, rR_137_2, rR_137_3, rR_137_4, rR_137_6, rR_137_7, rR_137_8, kd_80, ln_80, rR_80_0, rR_80_1, rR_80_2, rR_80_3, kd_90, ln_90, rR_90_0, rR_90_1, rR_90_2, rR_90_3, e4]
    have := lp_lk3 (Q := Q) hC hg2 hl2 (L - s) 0 1 (by omega) (by
      rw [Nat.one_mul]
      exact Nat.le_trans (Nat.pow_le_pow_right (by decide) hB) (by decide))
    rw [Nat.one_mul] at this
    exact this.mpr (hq g2 hg2)
  · rw [hm (s + k) (by omega), if_neg (show ¬ k < 0 by omega)]
    unfold lkN oB
    by_cases e : sortI h ((s + k : Nat) : Int) = 3
    · rw [if_pos e, if_pos (by simpa using e)]; rfl
    · rw [if_neg e, if_neg (by simpa using e)]; rfl
theorem buN_bN (hL : h 88 1 = (L : Int)) (hL2 : L ≤ 20) : ∀ (m i : Nat), s + i + m = L → bN (fun s => h 89 s) m (s + i) = (buN (oB h s) m i : Int) := by
  intro m
  induction m with
  | zero => intro i _; rfl
  | succ m ih =>
    intro i hi
    have ih := ih (i + 1) (by omega)
    rw [bN, buN, show s + i + 1 = s + (i + 1) by omega, ih]
    have es : sortI h ((s + i : Nat) : Int) = h 89 ((s + i : Nat) : Int) := by unfold sortI; rw [if_pos ⟨by omega, by omega, by omega⟩]
    unfold oB
    rw [es]
    by_cases e : h 89 ((s + i : Nat) : Int) = 3
    · simp only [e, if_true, decide_true]; omega
    · simp only [e, if_false, decide_false, Bool.false_eq_true]; omega
/-- the fraction in lowest terms: upper and lower number -/
def frc (u B : Nat) (x : Int) : Int := if x = 0 then ((u / Nat.gcd u (2 ^ (3 * B)) : Nat) : Int) else ((2 ^ (3 * B) / Nat.gcd u (2 ^ (3 * B)) : Nat) : Int)
theorem lp_red {v2 : Int} {g : am_F} : ∀ (k u : Nat), k ≤ 12 → u ≤ 4096 → (wp 144 (am_ju 144 30) [aP 0, aI x, aI v2, aI (u : Int), aI ((2 ^ k : Nat) : Int)] [] (sT g) Q ↔ Q (aI (if x = 0 then ((u / Nat.gcd u (2 ^ k) : Nat) : Int) else ((2 ^ k / Nat.gcd u (2 ^ k) : Nat) : Int))) (sT g)) := by
  intro k
  induction k with
  | zero =>
    intro u hk hu
    rw [ju_144_30]
    simp only [ju_144_46, ju_144_50, ju_144_51, r_iLD1, r_iCONST, cl_12, r_IF1, r_iRET, r_aLD0, r_gR, r_gI, cl_104, r_iST2, r_iLD2, r_IC5, r_bPUSH, cl_143, r_iST3, r_iMUL, r_iSHL, r_iST4, r_iLD4, r_iLD3, r_iREM, r_iDIV, r_GOTO, eq_self, Int.reduceLT, Int.reduceLE, Int.reduceEq, true_or, or_true, and_self, true_and, and_true, w8_0, w8_1, w8_2, w8_3, w8_4, nl_I, nl_P, nl_X, pu_I, pu_J, pu_V, Nat.pow_zero, Nat.gcd_one_right, Nat.div_one]
    rw [if_pos (by decide)]
    by_cases e : x = 0
    · simp [e]
    · simp [e]
  | succ k ih =>
    intro u hk hu
    have hp : 2 ^ (k + 1) ≤ 2 ^ 12 := Nat.pow_le_pow_right (by decide) hk
    have hp1 : 0 < 2 ^ k := Nat.two_pow_pos k
    have hpk : 2 ^ (k + 1) = 2 * 2 ^ k := by rw [Nat.pow_succ, Nat.mul_comm]
    have em : iRm (u : Int) 2 = ((u % 2 : Nat) : Int) := by rw [iRm_n (by omega) (by omega) (by omega) (by omega)]; omega
    have ed : iDv (u : Int) 2 = ((u / 2 : Nat) : Int) := by rw [iDv_n (by omega) (by omega) (by omega) (by omega)]; omega
    have el : iDv ((2 ^ (k + 1) : Nat) : Int) 2 = ((2 ^ k : Nat) : Int) := by
      rw [iDv_n (by omega) (by omega) (by omega) (by omega), hpk]; omega
    rw [ju_144_30]
    simp only [r_iLD1, r_iCONST, cl_12, r_IF1, r_iRET, r_aLD0, r_gR, r_gI, cl_104, r_iST2, r_iLD2, r_IC5, r_bPUSH, cl_143, r_iST3, r_iMUL, r_iSHL, r_iST4, r_iLD4, r_iLD3, r_iREM, r_iDIV, r_GOTO, eq_self, Int.reduceLT, Int.reduceLE, Int.reduceEq, true_or, or_true, and_self, true_and, and_true, w8_0, w8_1, w8_2, w8_3, w8_4, nl_I, nl_P, nl_X, pu_I, pu_J, pu_V, em, ed, el, ne_eq, Int.reduceEq, not_false_eq_true]
    rw [if_neg (by omega)]
    by_cases e : u % 2 = 0
    · have ge := gcd_even (k := k) e
      have ih := ih (u / 2) (by omega) (by omega)
      rw [if_neg (by omega)]
      rw [ge, ← Nat.div_div_eq_div_mul, ← Nat.div_div_eq_div_mul, hpk, Nat.mul_div_cancel_left _ (by decide)]
      exact ih
    · have ge := gcd_odd (u := u) (k := k + 1) (by omega)
      rw [if_pos (by omega), ju_144_46]
      simp only [ju_144_50, ju_144_51, r_iLD1, r_iCONST, cl_12, r_IF1, r_iRET, r_aLD0, r_gR, r_gI, cl_104, r_iST2, r_iLD2, r_IC5, r_bPUSH, cl_143, r_iST3, r_iMUL, r_iSHL, r_iST4, r_iLD4, r_iLD3, r_iREM, r_iDIV, r_GOTO, eq_self, Int.reduceLT, Int.reduceLE, Int.reduceEq, true_or, or_true, and_self, true_and, and_true, w8_0, w8_1, w8_2, w8_3, w8_4, nl_I, nl_P, nl_X, pu_I, pu_J, pu_V, ge, Nat.div_one]
      by_cases f : x = 0
      · simp [f]
      · simp [f]
theorem s_Todds (hC : CO h n nb L s) (hq : ∀ g, oL h g → Q (aI (if 0 ≤ x ∧ x < 2 then (if buN (oB h s) (L - s) 0 ≤ 4 then frc (prN (lkN (oB h s) (oW h n s) nb) (L - s) 0) (buN (oB h s) (L - s) 0) x else -3) else -1)) (sT g)) : wp 144 (am_ju 144 0) [aP 0, aI x, aX, aX, aX] [] (sT h) Q := by
  obtain ⟨c1, c2, c3, c4, c5, c6, c7, c8, c9, c10⟩ := id hC
  have eb := buN_bN (h := h) (s := s) c5 c6 (L - s) 0 (by omega)
  rw [Nat.add_zero] at eb
  simp only [ju_144_0, r_iLD1, r_iCONST, cl_12, r_IF1, r_iRET, r_aLD0, r_gR, r_gI, cl_104, r_iST2, r_iLD2, r_IC5, r_bPUSH, cl_143, r_iST3, r_iMUL, r_iSHL, r_iST4, r_iLD4, r_iLD3, r_iREM, r_iDIV, r_GOTO, eq_self, Int.reduceLT, Int.reduceLE, Int.reduceEq, true_or, or_true, and_self, true_and, and_true, w8_0, w8_1, w8_2, w8_3, w8_4, nl_I, nl_P, nl_X, pu_I, pu_J, pu_V, s_isBelow]
  by_cases e : 0 ≤ x ∧ x < 2
  · simp only [if_pos e] at hq
    rw [if_pos (by simp [e]), ju_144_6]
    simp only [r_iLD1, r_iCONST, cl_12, r_IF1, r_iRET, r_aLD0, r_gR, r_gI, cl_104, r_iST2, r_iLD2, r_IC5, r_bPUSH, cl_143, r_iST3, r_iMUL, r_iSHL, r_iST4, r_iLD4, r_iLD3, r_iREM, r_iDIV, r_GOTO, eq_self, Int.reduceLT, Int.reduceLE, Int.reduceEq, true_or, or_true, and_self, true_and, and_true, w8_0, w8_1, w8_2, w8_3, w8_4, nl_I, nl_P, nl_X, pu_I, pu_J, pu_V, kd_0, ln_0, rR_0_0, rR_0_1, rR_0_3, rR_0_4, rR_0_5, rR_0_6, rR_0_7, rR_0_8, rR_0_9, rR_0_10, kd_80, ln_80, rR_80_0, rR_80_1, rR_80_2, rR_80_3, kd_88, ln_88, rR_88_0, kd_90, ln_90, rR_90_0, rR_90_1, rR_90_2, rR_90_3, c7, s_buses c5 c6 c8, eb]
    by_cases f : buN (oB h s) (L - s) 0 ≤ 4
    · simp only [if_pos f] at hq
      rw [if_pos (by omega), ju_144_20]
      simp only [r_iLD1, r_iCONST, cl_12, r_IF1, r_iRET, r_aLD0, r_gR, r_gI, cl_104, r_iST2, r_iLD2, r_IC5, r_bPUSH, cl_143, r_iST3, r_iMUL, r_iSHL, r_iST4, r_iLD4, r_iLD3, r_iREM, r_iDIV, r_GOTO, eq_self, Int.reduceLT, Int.reduceLE, Int.reduceEq, true_or, or_true, and_self, true_and, and_true, w8_0, w8_1, w8_2, w8_3, w8_4, nl_I, nl_P, nl_X, pu_I, pu_J, pu_V, kd_0, ln_0, rR_0_0, rR_0_1, rR_0_3, rR_0_4, rR_0_5, rR_0_6, rR_0_7, rR_0_8, rR_0_9, rR_0_10, kd_137, ln_137, rR_137_0, rR_137_1, rR_137_2, rR_137_3, rR_137_4, rR_137_6, rR_137_7, rR_137_8]
      refine s_lucky hC f (fun g hg => ?_)
      have hpl := prN_le (oB h s) (oW h n s) nb (fun b i p q => oW_mono hC) (L - s) 0
      have hp8 : 8 ^ buN (oB h s) (L - s) 0 ≤ 8 ^ 4 := Nat.pow_le_pow_right (by decide) f
      generalize prN (lkN (oB h s) (oW h n s) nb) (L - s) 0 = P at hq hpl ⊢
      generalize buN (oB h s) (L - s) 0 = B at hq f hpl hp8 ⊢
      have hw : w3 (3 * (B : Int)) = ((3 * B : Nat) : Int) := by rw [w3_id (by omega) (by omega)]; omega
      have h2 : 2 ^ (3 * B) ≤ 2 ^ 12 := Nat.pow_le_pow_right (by decide) (by omega)
      have hs : bShl 1 ((3 * B : Nat) : Int) = ((2 ^ (3 * B) : Nat) : Int) := by
        have := bShl_n 1 (3 * B) (by omega) (by omega)
        rw [Nat.one_mul] at this
        exact this
      simp only [r_iLD1, r_iCONST, cl_12, r_IF1, r_iRET, r_aLD0, r_gR, r_gI, cl_104, r_iST2, r_iLD2, r_IC5, r_bPUSH, cl_143, r_iST3, r_iMUL, r_iSHL, r_iST4, r_iLD4, r_iLD3, r_iREM, r_iDIV, r_GOTO, eq_self, Int.reduceLT, Int.reduceLE, Int.reduceEq, true_or, or_true, and_self, true_and, and_true, w8_0, w8_1, w8_2, w8_3, w8_4, nl_I, nl_P, nl_X, pu_I, pu_J, pu_V, hw, hs]
      exact (lp_red (3 * B) P (by omega) (by omega)).mpr (hq g hg)
    · have := hq h (fun _ _ _ => rfl)
      rw [if_neg f] at this
      rw [if_neg (by omega)]
      exact this
  · have := hq h (fun _ _ _ => rfl)
    rw [if_neg e] at this
    rw [if_neg (by simp [e])]
    exact this
end OE
