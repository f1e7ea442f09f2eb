section OG2
variable {g h h' h1 h2 u : am_F} {Q : am_V → am_S → Prop} {so j bj x y z o c w r v k : Int} {n nb L s K nx b m a q B S T i gg l : Nat}
theorem lp_Rodds (hP : Rp h 0 150 n nb L s) {A : Nat} (hA : A ≤ 4096) {v2 : Int} {v6 v7 : am_V} (hq : ∀ g, scT h g → wp 146 (am_ju 146 40) [aP 149, aI x, aI v2, aI (A : Int), aI (cN (hBy (oB h s) (oW h n s) nb (L - s) 0) A : Int), aI (A : Int), v6, v7] [] (sT g) Q) : ∀ (d l : Nat) (g : am_F), l + d = A → scT h g → wp 146 (am_ju 146 25) [aP 149, aI x, aI v2, aI (A : Int), aI (cN (hBy (oB h s) (oW h n s) nb (L - s) 0) l : Int), aI (l : Int), v6, v7] [] (sT g) Q := by
  intro d
  induction d with
  | zero =>
    intro l g hl hg
    have hl : l = A := by omega
    subst hl
    rw [ju_146_25]
    simp only [r_iLD1, r_iCONST, cl_17, r_IF1, r_iRET, r_aLD0, cl_107, r_iST2, r_iLD2, r_IC5, r_bPUSH, r_iMUL, r_iSHL, r_iST3, r_iST4, r_iST5, r_iLD5, r_iLD3, r_IC3, r_iLD4, cl_145, r_IF0, r_GOTO, r_iADD, r_IINC5, r_iST6, r_iLD6, r_iREM, r_iST7, r_iLD7, r_iDIV, eq_self, Int.reduceLT, Int.reduceLE, Int.reduceEq, true_or, or_true, and_self, true_and, and_true, w8_0, w8_1, w8_2, w8_3, w8_4, nl_I, nl_P, nl_X, pu_I, pu_J, pu_V]
    rw [if_pos (by omega)]
    exact hq g hg
  | succ d ih =>
    intro l g hl hg
    have hw : w3 ((l : Int) + 1) = ((l + 1 : Nat) : Int) := w3_id (by omega) (by omega)
    have hc := cN_le (hBy (oB h s) (oW h n s) nb (L - s) 0) l
    have hw1 : w3 ((cN (hBy (oB h s) (oW h n s) nb (L - s) 0) l : Int) + 1) = ((cN (hBy (oB h s) (oW h n s) nb (L - s) 0) l + 1 : Nat) : Int) := w3_id (by omega) (by omega)
    have hw0 : w3 ((cN (hBy (oB h s) (oW h n s) nb (L - s) 0) l : Int) + 0) = ((cN (hBy (oB h s) (oW h n s) nb (L - s) 0) l + 0 : Nat) : Int) := w3_id (by omega) (by omega)
    rw [ju_146_25]
    simp only [r_iLD1, r_iCONST, cl_17, r_IF1, r_iRET, r_aLD0, cl_107, r_iST2, r_iLD2, r_IC5, r_bPUSH, r_iMUL, r_iSHL, r_iST3, r_iST4, r_iST5, r_iLD5, r_iLD3, r_IC3, r_iLD4, cl_145, r_IF0, r_GOTO, r_iADD, r_IINC5, r_iST6, r_iLD6, r_iREM, r_iST7, r_iLD7, r_iDIV, eq_self, Int.reduceLT, Int.reduceLE, Int.reduceEq, true_or, or_true, and_self, true_and, and_true, w8_0, w8_1, w8_2, w8_3, w8_4, nl_I, nl_P, nl_X, pu_I, pu_J, pu_V, kd_149, ln_149, rR_149_0, rR_149_1, rR_149_2, rR_149_3, rR_149_5, rR_149_7, rR_149_8, rR_149_9, rR_149_10, rR_149_16, rR_149_17, rR_149_18]
    rw [if_neg (by omega)]
    refine s_hBy hP hg (by omega) (fun g' hg' => ?_)
    have ih := ih (l + 1) g' (by omega) hg'
    rw [cN] at ih
    simp only [r_iLD1, r_iCONST, cl_17, r_IF1, r_iRET, r_aLD0, cl_107, r_iST2, r_iLD2, r_IC5, r_bPUSH, r_iMUL, r_iSHL, r_iST3, r_iST4, r_iST5, r_iLD5, r_iLD3, r_IC3, r_iLD4, cl_145, r_IF0, r_GOTO, r_iADD, r_IINC5, r_iST6, r_iLD6, r_iREM, r_iST7, r_iLD7, r_iDIV, eq_self, Int.reduceLT, Int.reduceLE, Int.reduceEq, true_or, or_true, and_self, true_and, and_true, w8_0, w8_1, w8_2, w8_3, w8_4, nl_I, nl_P, nl_X, pu_I, pu_J, pu_V]
    by_cases e : hBy (oB h s) (oW h n s) nb (L - s) 0 l = true
    · rw [if_pos e] at ih
      simp only [e, if_true, Int.reduceEq, if_false, ju_146_36, r_iLD1, r_iCONST, cl_17, r_IF1, r_iRET, r_aLD0, cl_107, r_iST2, r_iLD2, r_IC5, r_bPUSH, r_iMUL, r_iSHL, r_iST3, r_iST4, r_iST5, r_iLD5, r_iLD3, r_IC3, r_iLD4, cl_145, r_IF0, r_GOTO, r_iADD, r_IINC5, r_iST6, r_iLD6, r_iREM, r_iST7, r_iLD7, r_iDIV, eq_self, Int.reduceLT, Int.reduceLE, Int.reduceEq, true_or, or_true, and_self, true_and, and_true, w8_0, w8_1, w8_2, w8_3, w8_4, nl_I, nl_P, nl_X, pu_I, pu_J, pu_V, hw, hw1]
      exact ih
    · rw [if_neg e] at ih
      simp only [e, if_false, if_true, ju_146_35, ju_146_36, r_iLD1, r_iCONST, cl_17, r_IF1, r_iRET, r_aLD0, cl_107, r_iST2, r_iLD2, r_IC5, r_bPUSH, r_iMUL, r_iSHL, r_iST3, r_iST4, r_iST5, r_iLD5, r_iLD3, r_IC3, r_iLD4, cl_145, r_IF0, r_GOTO, r_iADD, r_IINC5, r_iST6, r_iLD6, r_iREM, r_iST7, r_iLD7, r_iDIV, eq_self, Int.reduceLT, Int.reduceLE, Int.reduceEq, true_or, or_true, and_self, true_and, and_true, w8_0, w8_1, w8_2, w8_3, w8_4, nl_I, nl_P, nl_X, pu_I, pu_J, pu_V, hw, hw0]
      exact ih
theorem lp_gcd {A N v2 : Int} (hA : 0 ≤ A ∧ A ≤ 4096) (hN : 0 ≤ N ∧ N ≤ 4096) : ∀ (Y X : Nat) (v7 : am_V), X ≤ 4096 → Y ≤ 4096 → am_nl v7 = true → (∃ k, k ≠ 0 ∧ Nat.gcd X Y = k) → (wp 146 (am_ju 146 44) [aP 149, aI x, aI v2, aI A, aI N, aI (X : Int), aI (Y : Int), v7] [] (sT g) Q ↔ Q (aI (if x = 0 then N / (Nat.gcd X Y : Int) else A / (Nat.gcd X Y : Int))) (sT g)) := by
  intro Y
  induction Y using Nat.strongRecOn with
  | ind Y ih =>
    intro X v7 hX hY hv hk
    rw [ju_146_44]
    by_cases e : Y = 0
    · subst e
      obtain ⟨k, k0, hk⟩ := hk
      rw [Nat.gcd_zero_right] at hk ⊢
      have x0 : ¬ ((X : Int) = 0) := by omega
      simp only [ju_146_55, ju_146_59, ju_146_60, r_iLD1, r_iCONST, cl_17, r_IF1, r_iRET, r_aLD0, cl_107, r_iST2, r_iLD2, r_IC5, r_bPUSH, r_iMUL, r_iSHL, r_iST3, r_iST4, r_iST5, r_iLD5, r_iLD3, r_IC3, r_iLD4, cl_145, r_IF0, r_GOTO, r_iADD, r_IINC5, r_iST6, r_iLD6, r_iREM, r_iST7, r_iLD7, r_iDIV, eq_self, Int.reduceLT, Int.reduceLE, Int.reduceEq, true_or, or_true, and_self, true_and, and_true, w8_0, w8_1, w8_2, w8_3, w8_4, nl_I, nl_P, nl_X, pu_I, pu_J, pu_V, Int.natCast_zero, if_true, x0, ne_eq, not_false_eq_true]
      by_cases f : x = 0
      · simp only [f, not_true_eq_false, if_false, if_true]
        rw [iDv_n hN.1 (by omega) (by omega) (by omega)]
      · simp only [f, not_false_eq_true, if_true, if_false]
        rw [iDv_n hA.1 (by omega) (by omega) (by omega)]
    · have y0 : ¬ ((Y : Int) = 0) := by omega
      have em : iRm (X : Int) (Y : Int) = ((X % Y : Nat) : Int) := by
        rw [iRm_n (by omega) (by omega) (by omega) (by omega)]; exact (Int.natCast_emod X Y).symm
      have hlt : X % Y < Y := Nat.mod_lt _ (by omega)
      have eg : Nat.gcd Y (X % Y) = Nat.gcd X Y := by
        rw [Nat.gcd_comm Y (X % Y), ← Nat.gcd_rec, Nat.gcd_comm]
      have ih := ih (X % Y) hlt Y (aI ((X % Y : Nat) : Int)) hY (by omega) rfl (by rw [eg]; exact hk)
      rw [eg] at ih
      simp only [r_iLD1, r_iCONST, cl_17, r_IF1, r_iRET, r_aLD0, cl_107, r_iST2, r_iLD2, r_IC5, r_bPUSH, r_iMUL, r_iSHL, r_iST3, r_iST4, r_iST5, r_iLD5, r_iLD3, r_IC3, r_iLD4, cl_145, r_IF0, r_GOTO, r_iADD, r_IINC5, r_iST6, r_iLD6, r_iREM, r_iST7, r_iLD7, r_iDIV, eq_self, Int.reduceLT, Int.reduceLE, Int.reduceEq, true_or, or_true, and_self, true_and, and_true, w8_0, w8_1, w8_2, w8_3, w8_4, nl_I, nl_P, nl_X, pu_I, pu_J, pu_V, y0, if_false, ne_eq, not_false_eq_true, em]
      exact ih
theorem s_Rodds (hP : Rp h 0 150 n nb L s) (hq : ∀ g, scT h g → Q (aI (if 0 ≤ x ∧ x < 2 then (if buN (oB h s) (L - s) 0 ≤ 4 then frc (prN (lkN (oB h s) (oW h n s) nb) (L - s) 0) (buN (oB h s) (L - s) 0) x else -3) else -1)) (sT g)) : wp 146 (am_ju 146 0) [aP 149, aI x, aX, aX, aX, aX, aX, aX] [] (sT h) Q := by
  obtain ⟨r0, r1, r2, r3, r4, r5, r6, r7⟩ := id hP.1
  have p3 := hP.2.2.2.1
  have p5 := hP.2.2.2.2.2.1
  have p6 := hP.2.2.2.2.2.2.1
  rw [Int.add_zero] at p3
  have hC := Rp_CO hP
  have eb := buN_bN (h := h) (s := s) p3 r5 (L - s) 0 (by omega)
  rw [Nat.add_zero] at eb
  have ebR : bN (fun s => h 150 (66 + s)) (L - s) s = (buN (oB h s) (L - s) 0 : Int) := by
    rw [← eb]
    exact bN_c (L - s) s (fun i hi => Rp_i hP (by omega) (by omega))
  simp only [ju_146_0, r_iLD1, r_iCONST, cl_17, r_IF1, r_iRET, r_aLD0, cl_107, r_iST2, r_iLD2, r_IC5, r_bPUSH, r_iMUL, r_iSHL, r_iST3, r_iST4, r_iST5, r_iLD5, r_iLD3, r_IC3, r_iLD4, cl_145, r_IF0, r_GOTO, r_iADD, r_IINC5, r_iST6, r_iLD6, r_iREM, r_iST7, r_iLD7, r_iDIV, eq_self, Int.reduceLT, Int.reduceLE, Int.reduceEq, true_or, or_true, and_self, true_and, and_true, w8_0, w8_1, w8_2, w8_3, w8_4, nl_I, nl_P, nl_X, pu_I, pu_J, pu_V, s_in]
  by_cases e : 0 ≤ x ∧ x < 2
  · have e1 : 0 ≤ x ∧ x ≤ 1 := ⟨e.1, by omega⟩
    simp only [if_pos e] at hq
    rw [if_pos (by simp [e1]), ju_146_7]
    simp only [r_iLD1, r_iCONST, cl_17, r_IF1, r_iRET, r_aLD0, cl_107, r_iST2, r_iLD2, r_IC5, r_bPUSH, r_iMUL, r_iSHL, r_iST3, r_iST4, r_iST5, r_iLD5, r_iLD3, r_IC3, r_iLD4, cl_145, r_IF0, r_GOTO, r_iADD, r_IINC5, r_iST6, r_iLD6, r_iREM, r_iST7, r_iLD7, r_iDIV, eq_self, Int.reduceLT, Int.reduceLE, Int.reduceEq, true_or, or_true, and_self, true_and, and_true, w8_0, w8_1, w8_2, w8_3, w8_4, nl_I, nl_P, nl_X, pu_I, pu_J, pu_V, kd_149, ln_149, rR_149_0, rR_149_1, rR_149_2, rR_149_3, rR_149_5, rR_149_7, rR_149_8, rR_149_9, rR_149_10, rR_149_16, rR_149_17, rR_149_18, s_Rbuses r4 r5 p5 p6, ebR]
    by_cases f : buN (oB h s) (L - s) 0 ≤ 4
    · simp only [if_pos f] at hq
      have hod := odds_c (oB h s) (oW h n s) nb (fun b i p q => oW_mono hC) (L - s) 0
      have hp8 : 8 ^ buN (oB h s) (L - s) 0 ≤ 8 ^ 4 := Nat.pow_le_pow_right (by decide) f
      have h82 : ∀ B : Nat, 8 ^ B = 2 ^ (3 * B) := fun B => by rw [Nat.pow_mul]
      have hw : w3 (3 * (buN (oB h s) (L - s) 0 : Int)) = ((3 * buN (oB h s) (L - s) 0 : Nat) : Int) := by rw [w3_id (by omega) (by omega)]; omega
      have h2 : 2 ^ (3 * buN (oB h s) (L - s) 0) ≤ 2 ^ 12 := Nat.pow_le_pow_right (by decide) (by omega)
      have hs : bShl 1 ((3 * buN (oB h s) (L - s) 0 : Nat) : Int) = ((2 ^ (3 * buN (oB h s) (L - s) 0) : Nat) : Int) := by
        have := bShl_n 1 (3 * buN (oB h s) (L - s) 0) (by omega) (by omega)
        rw [Nat.one_mul] at this
        exact this
      rw [if_pos (by omega), ju_146_15]
      simp only [r_iLD1, r_iCONST, cl_17, r_IF1, r_iRET, r_aLD0, cl_107, r_iST2, r_iLD2, r_IC5, r_bPUSH, r_iMUL, r_iSHL, r_iST3, r_iST4, r_iST5, r_iLD5, r_iLD3, r_IC3, r_iLD4, cl_145, r_IF0, r_GOTO, r_iADD, r_IINC5, r_iST6, r_iLD6, r_iREM, r_iST7, r_iLD7, r_iDIV, eq_self, Int.reduceLT, Int.reduceLE, Int.reduceEq, true_or, or_true, and_self, true_and, and_true, w8_0, w8_1, w8_2, w8_3, w8_4, nl_I, nl_P, nl_X, pu_I, pu_J, pu_V, hw, hs]
      rw [h82] at hod
      have hpos : 0 < 2 ^ (3 * buN (oB h s) (L - s) 0) := Nat.two_pow_pos _
      refine lp_Rodds hP (A := 2 ^ (3 * buN (oB h s) (L - s) 0)) (by omega) (fun g hg => ?_) (2 ^ (3 * buN (oB h s) (L - s) 0)) 0 h (Nat.zero_add _) (scT_r h)
      have hcl := cN_le (hBy (oB h s) (oW h n s) nb (L - s) 0) (2 ^ (3 * buN (oB h s) (L - s) 0))
      have := hq g hg
      rw [hod] at hcl ⊢
      rw [ju_146_40]
      simp only [r_iLD1, r_iCONST, cl_17, r_IF1, r_iRET, r_aLD0, cl_107, r_iST2, r_iLD2, r_IC5, r_bPUSH, r_iMUL, r_iSHL, r_iST3, r_iST4, r_iST5, r_iLD5, r_iLD3, r_IC3, r_iLD4, cl_145, r_IF0, r_GOTO, r_iADD, r_IINC5, r_iST6, r_iLD6, r_iREM, r_iST7, r_iLD7, r_iDIV, eq_self, Int.reduceLT, Int.reduceLE, Int.reduceEq, true_or, or_true, and_self, true_and, and_true, w8_0, w8_1, w8_2, w8_3, w8_4, nl_I, nl_P, nl_X, pu_I, pu_J, pu_V]
      generalize prN (lkN (oB h s) (oW h n s) nb) (L - s) 0 = P at *
      generalize hA : 2 ^ (3 * buN (oB h s) (L - s) 0) = A at *
      refine (lp_gcd ⟨by omega, by omega⟩ ⟨by omega, by omega⟩ A P aX (by omega) (by omega) rfl ⟨_, Nat.gcd_ne_zero_right (by omega), rfl⟩).mpr ?_
      unfold frc at this
      rw [hA] at this
      rw [Int.natCast_ediv, Int.natCast_ediv] at this
      exact this
    · have := hq h (scT_r h)
      rw [if_neg f] at this
      rw [if_neg (by omega)]
      exact this
  · have e1 : ¬ (0 ≤ x ∧ x ≤ 1) := fun q => e ⟨q.1, by omega⟩
    have := hq h (scT_r h)
    rw [if_neg e] at this
    rw [if_neg (by simp [e1])]
    exact this
theorem FR_oL (ht : oL h g) : FR h g := fun a k q => by rw [ht a (fun e => q (by unfold scr; omega)) (fun e => q (by unfold scr; omega))]
theorem oB_c (hF : FR h u) : oB u s = oB h s ∧ oW u n s = oW h n s := by
  have f : ∀ a, 80 ≤ a → a ≤ 136 → u a = h a := fun a q1 q2 => funext fun k => hF a k (by unfold scr; omega)
  have es : ∀ v, sortI u v = sortI h v := fun v => by unfold sortI; rw [f 88 (by decide) (by decide), f 89 (by decide) (by decide)]
  have eS : ∀ S w r k, sgS u S s w r k = sgS h S s w r k := by
    intro S w r k
    induction k with
    | zero => rfl
    | succ k ih => rw [sgS, sgS, ih, es]; unfold aW aR; rw [f 84 (by decide) (by decide), f 85 (by decide) (by decide)]
  constructor
  · funext i; unfold oB; rw [es]
  · funext b i j
    unfold oW oSt cS
    rw [es, eS, f 82 (by decide) (by decide), f 91 (by decide) (by decide), f 92 (by decide) (by decide), f 93 (by decide) (by decide), f 94 (by decide) (by decide), wkS_c (fun a q1 q2 => f a (by omega) (by omega))]
theorem b_odds (hI : INV h) : Both 144 146 [aP 0, aI x, aX, aX, aX] [aP 149, aI x, aX, aX, aX, aX, aX, aX] h := by
  obtain ⟨⟨n, nb, L, s, K, nx, hW⟩, hr⟩ := id hI
  have hP := hW.1
  refine s_Todds (Rp_CO hP) (fun h1 t1 => ⟨_, h1, rfl, rfl, FR_1 (FR_oL t1), ?_⟩)
  have hF := FR_oL t1
  obtain ⟨e1, e2⟩ := oB_c (n := n) (s := s) hF
  refine s_Rodds (WD_FR hF hW).1 (fun h2 t2 => ⟨h2, ?_, rfl, ?_, INV_FR hI (FR_t hF (FR_scT t2))⟩)
  · rw [e1, e2]
  · rw [FR_1 (FR_scT t2), FR_1 hF]
end OG2
