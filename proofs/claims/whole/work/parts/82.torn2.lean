section TM
variable {g h h' h1 h2 u : am_F} {Q : am_V → am_S → Prop} {so j bj x y z : Int} {n nb L s K nx b i m k a : Nat}
theorem FR_oR (ht : oR h g) : FR h g := fun a k q => by rw [ht a (fun e => q (by unfold scr; omega)) (fun e => q (by unfold scr; omega))]
abbrev okN (n nb : Nat) (y x z : Int) : Prop := ((0 ≤ y ∧ y < nb) ∧ 0 ≤ z ∧ z < 2) ∧ 1 ≤ x ∧ x < 2 ^ n
theorem pow_n (h8 : n ≤ 8) : bShl 1 (n : Int) = 2 ^ n ∧ (2 : Int) ^ n ≤ 256 := by
  have h9 : 2 ^ n ≤ 2 ^ 8 := Nat.pow_le_pow_right (by decide) h8
  have := bShl_n 1 n (by omega) (by omega)
  rw [Nat.one_mul] at this
  rw [show (1 : Int) = ((1 : Nat) : Int) from rfl, this, Int.natCast_pow]
  refine ⟨rfl, ?_⟩
  have : ((2 ^ n : Nat) : Int) ≤ ((2 ^ 8 : Nat) : Int) := by omega
  rw [Int.natCast_pow] at this
  exact this
theorem s_Ttorn (hC : CO h n nb L s) (hq : ∀ g', oR h g' → okN n nb y x z → Q (aI (tAns (tAt h n s L y.toNat x) z)) (sT g')) (hq0 : ¬ okN n nb y x z → Q (aI (-1)) (sT h)) : wp 195 (am_ju 195 0) [aP 0, aI y, aI x, aI z, aX, aX, aX, aX] [] (sT h) Q := by
  obtain ⟨c1, c2, c3, c4, c5, c6, c7, c8, c9, c10⟩ := id hC
  obtain ⟨pn, pn2⟩ := pow_n c4
  simp only [ju_195_0, ju_195_10, r_aLD0, r_gR, r_iLD1, cl_28, r_IF0, r_iLD3, r_iCONST, cl_12, r_IF1, r_iRET, r_iLD2, r_IC2, r_gI, r_iSHL, r_iST4, r_bPUSH, r_iST5, r_iST6, r_iLD6, r_IC3, cl_194, r_iST7, r_iLD7, r_IINC4, r_iLD5, r_MMIN, r_IINC6, r_GOTO, r_iLD4, cl_136, eq_self, Int.reduceLT, Int.reduceLE, Int.reduceEq, true_or, or_true, and_self, true_and, and_true, w8_0, w8_1, w8_2, w8_3, w8_4, nl_I, nl_P, nl_X, pu_I, pu_J, pu_V, kd_0, ln_0, rR_0_0, rR_0_1, rR_0_3, rR_0_4, rR_0_5, rR_0_6, rR_0_7, rR_0_8, rR_0_9, rR_0_10, kd_80, ln_80, rR_80_0, rR_80_1, rR_80_2, rR_80_3, kd_81, ln_81, rR_81_0, rR_81_1, rR_81_2, rR_81_3, rR_81_4, rR_81_5, s_hasBag kd_81, s_isBelow, c1]
  by_cases e1 : 0 ≤ y ∧ y < nb
  · rw [if_neg (by simp [e1])]
    by_cases e2 : 0 ≤ z ∧ z < 2
    · rw [if_pos (by simp [e2])]
      simp only [ju_195_12, ju_195_23, r_aLD0, r_gR, r_iLD1, cl_28, r_IF0, r_iLD3, r_iCONST, cl_12, r_IF1, r_iRET, r_iLD2, r_IC2, r_gI, r_iSHL, r_iST4, r_bPUSH, r_iST5, r_iST6, r_iLD6, r_IC3, cl_194, r_iST7, r_iLD7, r_IINC4, r_iLD5, r_MMIN, r_IINC6, r_GOTO, r_iLD4, cl_136, eq_self, Int.reduceLT, Int.reduceLE, Int.reduceEq, true_or, or_true, and_self, true_and, and_true, w8_0, w8_1, w8_2, w8_3, w8_4, nl_I, nl_P, nl_X, pu_I, pu_J, pu_V, kd_0, ln_0, rR_0_0, rR_0_1, rR_0_3, rR_0_4, rR_0_5, rR_0_6, rR_0_7, rR_0_8, rR_0_9, rR_0_10, kd_80, ln_80, rR_80_0, rR_80_1, rR_80_2, rR_80_3, kd_81, ln_81, rR_81_0, rR_81_1, rR_81_2, rR_81_3, rR_81_4, rR_81_5, c3, pn]
      by_cases e3 : x < 1
      · rw [if_pos e3]
        exact hq0 (fun q => by omega)
      · rw [if_neg e3]
        by_cases e4 : x < 2 ^ n
        · rw [if_pos e4, ju_195_25]
          obtain ⟨b, rfl⟩ := Int.eq_ofNat_of_zero_le e1.1
          have ok : okN n nb b x z := ⟨⟨e1, e2⟩, by omega, e4⟩
          simp only [r_aLD0, r_gR, r_iLD1, cl_28, r_IF0, r_iLD3, r_iCONST, cl_12, r_IF1, r_iRET, r_iLD2, r_IC2, r_gI, r_iSHL, r_iST4, r_bPUSH, r_iST5, r_iST6, r_iLD6, r_IC3, cl_194, r_iST7, r_iLD7, r_IINC4, r_iLD5, r_MMIN, r_IINC6, r_GOTO, r_iLD4, cl_136, eq_self, Int.reduceLT, Int.reduceLE, Int.reduceEq, true_or, or_true, and_self, true_and, and_true, w8_0, w8_1, w8_2, w8_3, w8_4, nl_I, nl_P, nl_X, pu_I, pu_J, pu_V]
          exact lp_Ttorn hC (show b < nb by omega) (fun g' hg' => hq g' hg' ok) 8 0 h aX rfl rfl (fun _ _ _ => rfl)
        · rw [if_neg e4]
          exact hq0 (fun q => e4 q.2.2)
    · rw [if_neg (by simp [e2])]
      exact hq0 (fun q => e2 q.1.2)
  · rw [if_pos (by simp [e1])]
    exact hq0 (fun q => e1 q.1.1)
theorem s_Rtorn (hP : Rp h 0 150 n nb L s) (hq : ∀ g', FR h g' → okN n nb y x z → Q (aI (tAns (tAt h n s L y.toNat x) z)) (sT g')) (hq0 : ¬ okN n nb y x z → Q (aI (-1)) (sT h)) : wp 197 (am_ju 197 0) [aP 149, aI y, aI x, aI z, aX, aX, aX, aX] [] (sT h) Q := by
  obtain ⟨r0, r1, r2, r3, r4, r5, r6, r7⟩ := id hP.1
  obtain ⟨pn, pn2⟩ := pow_n r3
  have hw : w3 ((2 : Int) ^ n - 1) = 2 ^ n - 1 := by
    have : (0 : Int) ≤ 2 ^ n := Int.pow_nonneg (by decide)
    exact w3_id (by omega) (by omega)
  simp only [ju_197_0, ju_197_21, r_aLD0, r_iLD1, cl_33, r_IF0, r_iLD2, r_iCONST, r_gR, r_iALD, r_iALDs, r_iSHL, r_iSUB, cl_17, r_iLD3, r_IF1, r_iRET, r_iST4, r_iST5, r_iST6, r_iLD6, r_bPUSH, r_IC3, cl_196, r_iST7, r_iLD7, r_IF2, r_iLD5, r_GOTO, r_iLD4, r_iADD, r_IINC6, r_IF3, eq_self, Int.reduceLT, Int.reduceLE, Int.reduceEq, true_or, or_true, and_self, true_and, and_true, w8_0, w8_1, w8_2, w8_3, w8_4, nl_I, nl_P, nl_X, pu_I, pu_J, pu_V, kd_149, ln_149, rR_149_0, rR_149_1, rR_149_2, rR_149_3, rR_149_5, rR_149_7, rR_149_8, rR_149_9, rR_149_10, rR_149_16, rR_149_17, rR_149_18, kd_150, ln_150, s_isBag r1 r0, s_in, r2, pn, hw]
  by_cases e1 : 0 ≤ y ∧ y < nb
  · rw [if_neg (by simp [e1])]
    by_cases e3 : 1 ≤ x ∧ x ≤ 2 ^ n - 1
    · rw [if_neg (by simp [e3])]
      by_cases e2 : 0 ≤ z ∧ z ≤ 1
      · rw [if_pos (by simp [e2]), ju_197_23]
        obtain ⟨b, rfl⟩ := Int.eq_ofNat_of_zero_le e1.1
        have ok : okN n nb b x z := ⟨⟨e1, e2.1, by omega⟩, e3.1, by omega⟩
        simp only [r_aLD0, r_iLD1, cl_33, r_IF0, r_iLD2, r_iCONST, r_gR, r_iALD, r_iALDs, r_iSHL, r_iSUB, cl_17, r_iLD3, r_IF1, r_iRET, r_iST4, r_iST5, r_iST6, r_iLD6, r_bPUSH, r_IC3, cl_196, r_iST7, r_iLD7, r_IF2, r_iLD5, r_GOTO, r_iLD4, r_iADD, r_IINC6, r_IF3, eq_self, Int.reduceLT, Int.reduceLE, Int.reduceEq, true_or, or_true, and_self, true_and, and_true, w8_0, w8_1, w8_2, w8_3, w8_4, nl_I, nl_P, nl_X, pu_I, pu_J, pu_V]
        exact lp_Rtorn hP (show b < nb by omega) (fun g' hg' => hq g' hg' ok) 8 0 h aX rfl rfl (FR_r h)
      · rw [if_neg (by simp [e2])]
        exact hq0 (fun q => e2 ⟨q.1.2.1, by omega⟩)
    · rw [if_pos (by simp [e3])]
      exact hq0 (fun q => e3 ⟨q.2.1, by omega⟩)
  · rw [if_pos (by simp [e1])]
    exact hq0 (fun q => e1 q.1.1)
theorem evS_c (e1 : ∀ a, 83 ≤ a → a ≤ 89 → u a = h a) {k : Int} {w : Int × Int × Nat × Nat} : ∀ i, evS u k bj s w i = evS h k bj s w i := by
  have es : ∀ v, sortI u v = sortI h v := fun v => by unfold sortI; rw [e1 88 (by decide) (by decide), e1 89 (by decide) (by decide)]
  intro i
  induction i with
  | zero => rfl
  | succ i ih => rw [evS, evS, ih, es, cy_c (fun a q1 q2 => e1 a q1 (by omega))]
theorem eF_c (hF : FR h u) : eF u n bj s b i = eF h n bj s b i ∧ eS u n bj s b i = eS h n bj s b i := by
  have f : ∀ a, 80 ≤ a → a ≤ 136 → u a = h a := fun a q1 q2 => funext fun k => hF a k (by unfold scr; omega)
  have es : ∀ v, sortI u v = sortI h v := fun v => by unfold sortI; rw [f 88 (by decide) (by decide), f 89 (by decide) (by decide)]
  have e : eS u n bj s b i = eS h n bj s b i := by
    unfold eS cS
    rw [evS_c (fun a q1 q2 => f a (by omega) (by omega)), f 82 (by decide) (by decide), f 91 (by decide) (by decide), f 92 (by decide) (by decide), f 93 (by decide) (by decide), f 94 (by decide) (by decide)]
  refine ⟨?_, e⟩
  unfold eF
  rw [e, es, cy_c (fun a q1 q2 => f a (by omega) (by omega)), f 82 (by decide) (by decide)]
theorem tAt_c (hF : FR h u) : tAt u n s L b x = tAt h n s L b x := by
  funext j
  unfold tAt
  congr 1
  funext k
  unfold Gf
  rw [(eF_c hF).1]
theorem b_torn (hI : INV h) : Both 195 197 [aP 0, aI y, aI x, aI z, aX, aX, aX, aX] [aP 149, aI y, aI x, aI z, aX, aX, aX, aX] h := by
  obtain ⟨⟨n, nb, L, s, K, nx, hW⟩, hr⟩ := id hI
  have hP := hW.1
  refine s_Ttorn (Rp_CO hP) (fun h1 t1 ok => ⟨_, h1, rfl, rfl, FR_1 (FR_oR t1), ?_⟩) (fun no => ⟨_, h, rfl, rfl, rfl, ?_⟩)
  · have hF := FR_oR t1
    refine s_Rtorn (WD_FR hF hW).1 (fun h2 t2 _ => ⟨h2, ?_, rfl, ?_, INV_FR hI (FR_t hF t2)⟩) (fun no => absurd ok no)
    · rw [tAt_c hF]
    · rw [FR_1 t2, FR_1 hF]
  · exact s_Rtorn hP (fun h2 t2 ok => absurd ok no) (fun _ => ⟨_, rfl, rfl, rfl, hI⟩)
end TM
