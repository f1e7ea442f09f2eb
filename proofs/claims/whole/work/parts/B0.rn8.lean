section RX
variable {g h h' h1 h2 u : am_F} {Q : am_V → am_S → Prop} {so j bj x y z o c w r k t : Int} {n nb L s K nx b m a q B S T i gg l M Z v ch N d : Nat}
theorem ecbR (h8 : n ≤ 8) : cb (yR h n) n = popc (yR h n) := by
  have : ∀ d, n + d ≤ 8 → cb (yR h n) (n + d) = cb (yR h n) n := by
    intro d
    induction d with
    | zero => intro _; rfl
    | succ d ih =>
      intro hd
      rw [show n + (d + 1) = (n + d) + 1 by omega, cb_s, ih (by omega), if_neg (fun z => by rw [yR_bit, Bool.and_eq_true, decide_eq_true_eq] at z; omega)]
      rfl
  rw [← cb_8, ← this (8 - n) (by omega)]
  congr 1
  omega
theorem lp_Rlist (hP : Rp h 0 150 n nb L s) {v4 v5 v6 : am_V} (hq3 : 6 < popc (yR h n) → ∀ g, rR2 h g → Q (aI (-3)) (sT g)) (hq : popc (yR h n) ≤ 6 → ∀ g, rR2 h g → (∀ k : Nat, k < popc (yR h n) → g 159 k = (mvN (yR h n) k : Int)) → wp 188 (am_ju 188 34) [aP 149, aI x, aI (popc (yR h n) : Int), aI (n : Int), v4, v5, v6] [] (sT g) Q) : ∀ (d t : Nat) (g : am_F), t + d = n → rR2 h g → cb (yR h n) t ≤ 6 → (∀ k : Nat, k < cb (yR h n) t → g 159 k = (mvN (yR h n) k : Int)) → wp 188 (am_ju 188 11) [aP 149, aI x, aI (cb (yR h n) t : Int), aI (t : Int), v4, v5, v6] [] (sT g) Q := by
  intro d
  have l1 := ln_159
  have k1 := kd_159
  have l3 := ln_150
  have k3 := kd_150
  obtain ⟨r0, r1, r2, r3, r4, r5, r6, r7⟩ := id hP.1
  have hZ := yR_lt (h := h) r3
  have ec := ecbR (h := h) r3
  induction d with
  | zero =>
    intro t g ht hg hc h9
    have ht : t = n := by omega
    subst ht
    have g2 : g 150 1 = (t : Int) := by rw [hg 150 (by decide), r2]
    rw [ju_188_11]
    simp (disch := first | assumption | omega | exact w8_0 | exact w8_1 _ | exact w8_2 _ _ | exact w8_3 _ _ _ | exact w8_4 _ _ _ _ | exact nl_I _ | exact nl_P _ | exact nl_X | decide | exact w8_5 _ _ _ _ _) only [r_iLD1, r_iCONST, r_bPUSH, cl_17, r_IF1, r_iRET, r_iST2, r_iST3, r_iLD3, r_aLD0, r_gR, r_iALDc, r_iALDs, r_IC3, cl_175, r_IF0, r_iLD2, r_IC1, r_iASTc, r_IINC2, r_IINC3, r_GOTO, r_iST4, r_iLD4, cl_158, cl_186, cl_187, r_iST5, r_iST6, r_iLD6, r_iLD5, r_IC5, r_IINC6, r_IINC4, eq_self, Int.reduceLT, Int.reduceLE, Int.reduceEq, true_or, or_true, and_self, true_and, and_true, w8_0, w8_1, w8_2, w8_3, w8_4, nl_I, nl_P, nl_X, pu_I, pu_J, pu_V, w3_id, Int.add_zero, kd_149, rR_149_0, g2]
    rw [if_pos (by omega)]
    rw [ec] at hc h9 ⊢
    exact hq hc g hg h9
  | succ d ih =>
    intro t g ht hg hc h9
    have g2 : g 150 1 = (n : Int) := by rw [hg 150 (by decide), r2]
    have hw : w3 ((t : Int) + 1) = ((t + 1 : Nat) : Int) := w3_id (by omega) (by omega)
    have hRt := Rp_t hP (t := (t : Int)) (by omega) (by omega)
    have e4 : g 150 (18 + 6 * (t : Int) + 4) = h 87 t := by rw [hg 150 (by decide), hRt.2.2.2.2.1]
    have e5 : g 150 (18 + 6 * (t : Int) + 5) = h 94 t := by rw [hg 150 (by decide), hRt.2.2.2.2.2]
    have hs := cb_s (yR h n) t
    have yb := yR_bit (h := h) (n := n) (t := t)
    rw [ju_188_11]
    simp (disch := first | assumption | omega | exact w8_0 | exact w8_1 _ | exact w8_2 _ _ | exact w8_3 _ _ _ | exact w8_4 _ _ _ _ | exact nl_I _ | exact nl_P _ | exact nl_X | decide | exact w8_5 _ _ _ _ _) only [r_iLD1, r_iCONST, r_bPUSH, cl_17, r_IF1, r_iRET, r_iST2, r_iST3, r_iLD3, r_aLD0, r_gR, r_iALDc, r_iALDs, r_IC3, cl_175, r_IF0, r_iLD2, r_IC1, r_iASTc, r_IINC2, r_IINC3, r_GOTO, r_iST4, r_iLD4, cl_158, cl_186, cl_187, r_iST5, r_iST6, r_iLD6, r_iLD5, r_IC5, r_IINC6, r_IINC4, eq_self, Int.reduceLT, Int.reduceLE, Int.reduceEq, true_or, or_true, and_self, true_and, and_true, w8_0, w8_1, w8_2, w8_3, w8_4, nl_I, nl_P, nl_X, pu_I, pu_J, pu_V, w3_id, Int.add_zero, kd_149, rR_149_0, g2, s_RisRoll (h := g) (t := (t : Int)) ⟨by omega, by omega⟩, e4, e5]
    rw [if_neg (by omega)]
    by_cases e : h 87 t = 1 ∧ 10 ≤ h 94 t
    · have hb : (yR h n).testBit t = true := by rw [yb]; simp [e]; omega
      have mk := (mv_ok (yR h n) hZ t (by omega)).2 hb
      rw [if_pos hb] at hs
      rw [if_neg (by simp [e])]
      by_cases e6 : cb (yR h n) t = 6
      · have : cb (yR h n) (t + 1) ≤ popc (yR h n) := cb_mono (yR h n) (show t + 1 ≤ 8 by omega)
        rw [if_neg (by omega)]
        exact hq3 (by omega) g hg
      · have hw2 : w3 ((cb (yR h n) t : Int) + 1) = ((cb (yR h n) (t + 1) : Nat) : Int) := by rw [hs]; exact w3_id (by omega) (by omega)
        have c0 : (0 : Int) ≤ (cb (yR h n) t : Int) := by omega
        have c6 : (cb (yR h n) t : Int) < 6 := by omega
        rw [if_pos (by omega), ju_188_26]
        simp (disch := first | assumption | omega | exact w8_0 | exact w8_1 _ | exact w8_2 _ _ | exact w8_3 _ _ _ | exact w8_4 _ _ _ _ | exact nl_I _ | exact nl_P _ | exact nl_X | decide | exact w8_5 _ _ _ _ _) only [ju_188_32, r_iLD1, r_iCONST, r_bPUSH, cl_17, r_IF1, r_iRET, r_iST2, r_iST3, r_iLD3, r_aLD0, r_gR, r_iALDc, r_iALDs, r_IC3, cl_175, r_IF0, r_iLD2, r_IC1, r_iASTc, r_IINC2, r_IINC3, r_GOTO, r_iST4, r_iLD4, cl_158, cl_186, cl_187, r_iST5, r_iST6, r_iLD6, r_iLD5, r_IC5, r_IINC6, r_IINC4, eq_self, Int.reduceLT, Int.reduceLE, Int.reduceEq, true_or, or_true, and_self, true_and, and_true, w8_0, w8_1, w8_2, w8_3, w8_4, nl_I, nl_P, nl_X, pu_I, pu_J, pu_V, w3_id, Int.add_zero, kd_149, rR_149_16, hw, hw2]
        have ih := fun g => ih (t + 1) g
        rw [hs] at ih
        refine ih _ (by omega) (fun a ha => by rw [up_ne (by omega), hg a ha]) (by omega) (fun k hk => ?_)
        by_cases z : k = cb (yR h n) t
        · subst z
          rw [up_s, mk.1]
        · rw [up_k (by omega)]
          exact h9 k (by omega)
    · have hb : (yR h n).testBit t = false := by rw [yb]; simp [e]
      rw [if_neg (by simp [hb]), Nat.add_zero] at hs
      rw [if_pos (by simp [e]), ju_188_32]
      simp only [r_iLD1, r_iCONST, r_bPUSH, cl_17, r_IF1, r_iRET, r_iST2, r_iST3, r_iLD3, r_aLD0, r_gR, r_iALD, r_iALDs, r_IC3, cl_175, r_IF0, r_iLD2, r_IC1, r_iAST, r_IINC2, r_IINC3, r_GOTO, r_iST4, r_iLD4, cl_158, cl_186, cl_187, r_iST5, r_iST6, r_iLD6, r_iLD5, r_IC5, r_IINC6, r_IINC4, eq_self, Int.reduceLT, Int.reduceLE, Int.reduceEq, true_or, or_true, and_self, true_and, and_true, w8_0, w8_1, w8_2, w8_3, w8_4, nl_I, nl_P, nl_X, pu_I, pu_J, pu_V, hw]
      have hs2 : cb (yR h n) (t + 1) = cb (yR h n) t := by omega
      have ih := ih (t + 1) g (by omega) hg (by omega)
      rw [hs2] at ih
      exact ih h9
/-- the digits of the greedy code -/
theorem gr_lt (h8 : n ≤ 8) (hwr : ∀ t : Nat, t < n → 0 ≤ h 86 t ∧ h 86 t ≤ 99) (hM : popc (yR h n) ≤ 6) : ∀ m B, B < 2 ^ popc (yR h n) → popc B + m = popc (yR h n) → gr (popc (yR h n)) (gG h n) m B < popc (yR h n) ^ m := by
  intro m
  have h64 : 2 ^ popc (yR h n) ≤ 2 ^ 6 := Nat.pow_le_pow_right (by decide) hM
  induction m with
  | zero => intro B _ _; rw [gr, Nat.pow_zero]; decide
  | succ m ih =>
    intro B hB hp
    obtain ⟨f1, f2, -, -⟩ := fbm_ok (m := m) h8 hwr hM hB (by omega)
    rw [← fbm_G] at f1 f2
    have := ih _ (or_lt6 hM hB f1) (by rw [(pcq6 B (by omega) _ (by omega)).1 f2]; omega)
    have hmul := Nat.mul_le_mul_right (popc (yR h n) ^ m) f1
    rw [Nat.succ_mul] at hmul
    rw [gr, Nat.pow_succ, Nat.mul_comm (popc (yR h n) ^ m)]
    omega
theorem gB_G : ∀ j, gB (popc (yR h n)) (gG h n) j = gB (popc (yR h n)) (gF h n) j := by
  intro j
  induction j with
  | zero => rfl
  | succ j ih => rw [gB, gB, ih, fbm_G]
theorem gr_dig (h8 : n ≤ 8) (hwr : ∀ t : Nat, t < n → 0 ≤ h 86 t ∧ h 86 t ≤ 99) (hM : popc (yR h n) ≤ 6) : ∀ j, j ≤ popc (yR h n) → ∃ c, gr (popc (yR h n)) (gG h n) (popc (yR h n)) 0 = c * popc (yR h n) ^ (popc (yR h n) - j) + gr (popc (yR h n)) (gG h n) (popc (yR h n) - j) (gB (popc (yR h n)) (gF h n) j) := by
  intro j
  induction j with
  | zero => intro _; exact ⟨0, by rw [Nat.zero_mul, Nat.zero_add]; rfl⟩
  | succ j ih =>
    intro hj
    obtain ⟨c, hc⟩ := ih (by omega)
    refine ⟨c * popc (yR h n) + fbm (popc (yR h n)) (gF h n) (popc (yR h n) - 1 - j) (gB (popc (yR h n)) (gF h n) j), ?_⟩
    rw [hc, show popc (yR h n) - j = (popc (yR h n) - (j + 1)) + 1 by omega, gr, fbm_G, gB, show popc (yR h n) - 1 - j = popc (yR h n) - (j + 1) by omega, Nat.pow_succ, Nat.add_mul, Nat.mul_comm (popc (yR h n) ^ (popc (yR h n) - (j + 1))), ← Nat.mul_assoc, Nat.add_assoc]
theorem gr_d (h8 : n ≤ 8) (hwr : ∀ t : Nat, t < n → 0 ≤ h 86 t ∧ h 86 t ≤ 99) (hM : popc (yR h n) ≤ 6) (hi : i < popc (yR h n)) : gr (popc (yR h n)) (gG h n) (popc (yR h n)) 0 / popc (yR h n) ^ (popc (yR h n) - 1 - i) % popc (yR h n) = fbm (popc (yR h n)) (gF h n) (popc (yR h n) - 1 - i) (gB (popc (yR h n)) (gF h n) i) := by
  obtain ⟨c, hc⟩ := gr_dig h8 hwr hM i (by omega)
  have h64 : 2 ^ popc (yR h n) ≤ 2 ^ 6 := Nat.pow_le_pow_right (by decide) hM
  obtain ⟨g1, g2⟩ := gB_ok h8 hwr hM i (by omega)
  obtain ⟨f1, f2, -, -⟩ := fbm_ok (m := popc (yR h n) - 1 - i) h8 hwr hM g1 (by omega)
  have hlt := gr_lt h8 hwr hM (popc (yR h n) - 1 - i) _ (or_lt6 hM g1 f1) (by rw [(pcq6 _ (by omega) _ (by omega)).1 f2]; omega)
  rw [hc, show popc (yR h n) - i = (popc (yR h n) - 1 - i) + 1 by omega, gr, fbm_G, Nat.pow_succ]
  have hp : 0 < popc (yR h n) ^ (popc (yR h n) - 1 - i) := Nat.pow_pos (by omega)
  generalize gr (popc (yR h n)) (gG h n) (popc (yR h n) - 1 - i) (gB (popc (yR h n)) (gF h n) i ||| 2 ^ fbm (popc (yR h n)) (gF h n) (popc (yR h n) - 1 - i) (gB (popc (yR h n)) (gF h n) i)) = R at *
  generalize fbm (popc (yR h n)) (gF h n) (popc (yR h n) - 1 - i) (gB (popc (yR h n)) (gF h n) i) = D at *
  generalize popc (yR h n) ^ (popc (yR h n) - 1 - i) = P at *
  rw [show c * (P * popc (yR h n)) + (D * P + R) = P * (D + popc (yR h n) * c) + R by
    rw [Nat.mul_add, Nat.mul_comm D P, Nat.mul_comm c, Nat.mul_assoc, ← Nat.add_assoc, Nat.add_comm (P * D)], Nat.mul_add_div hp, Nat.div_eq_of_lt hlt, Nat.add_zero, Nat.add_mul_mod_self_left, Nat.mod_eq_of_lt f1]
end RX
