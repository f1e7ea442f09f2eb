/-- the things of a choice of the moved ones -/
def thC (Z ch : Nat) : Nat → Nat
  | 0 => 0
  | k + 1 => thC Z ch k ||| (if ch.testBit k = true then 2 ^ mvN Z k else 0)
/-- the world is as it was -/
def wR2 (h g : am_F) : Prop := ∀ a, a < 137 ∨ 145 ≤ a → g a = h a
section PL
variable {g h h' h1 h2 u : am_F} {Q : am_V → am_S → Prop} {so j bj x y z o c w r k : Int} {n nb L s K nx b m a q B S T i gg l M Z v ch : Nat}
theorem thC_bit {t : Nat} : ∀ k, ((thC Z ch k).testBit t = true ↔ ∃ i, i < k ∧ ch.testBit i = true ∧ mvN Z i = t) := by
  intro k
  induction k with
  | zero => simp [thC]
  | succ k ih =>
    rw [thC, Nat.testBit_or, Bool.or_eq_true, ih]
    constructor
    · rintro (⟨i, q1, q2, q3⟩ | q)
      · exact ⟨i, by omega, q2, q3⟩
      · by_cases e : ch.testBit k = true
        · rw [if_pos e, Nat.testBit_two_pow, decide_eq_true_eq] at q
          exact ⟨k, by omega, e, q⟩
        · rw [if_neg e] at q; simp at q
    · rintro ⟨i, q1, q2, q3⟩
      by_cases e : i = k
      · subst e
        right
        rw [if_pos q2, Nat.testBit_two_pow, decide_eq_true_eq]
        exact q3
      · exact Or.inl ⟨i, by omega, q2, q3⟩
theorem thC_lt (hZ : Z < 256) : ∀ k, k ≤ popc Z → thC Z ch k < 256 := by
  intro k
  induction k with
  | zero => intro _; simp [thC]
  | succ k ih =>
    intro hk
    rw [thC]
    refine Nat.or_lt_two_pow (n := 8) (ih (by omega)) ?_
    split
    · have := popc_le Z
      exact Nat.pow_lt_pow_right (by decide) ((mv_ok Z hZ k (by omega)).1 (by omega)).2.1
    · decide
theorem thC_gd (hC : CO h n nb L s) {k : Nat} (hk : k ≤ popc (zL h n)) : gd h (thC (zL h n) ch k) := by
  intro t ht
  have h8 := hC.2.2.2.1
  obtain ⟨i, q1, q2, q3⟩ := (thC_bit k).mp ht
  have := popc_le (zL h n)
  have z := ((mv_ok (zL h n) (zL_lt h8) i (by omega)).1 (by omega)).1
  rw [q3] at z
  unfold zL at z
  rw [setF_bit, Bool.and_eq_true, decide_eq_true_eq] at z
  exact hC.2.2.2.2.2.2.2.2.1 t z.1
theorem lp_list (hZ : Z < 256) (hM : popc Z ≤ 6) (hq : ∀ g, (∀ a, a ≠ 137 → a ≠ 141 → g a = u a) → (∀ k : Int, k ≠ 5 → g 137 k = u 137 k) → g 137 5 = (popc Z : Int) → (∀ k : Nat, k < popc Z → g 141 k = (mvN Z k : Int)) → Q aV (sT g)) : ∀ (d t : Nat) (g : am_F), t + d = 8 → (∀ a, a ≠ 137 → a ≠ 141 → g a = u a) → (∀ k : Int, k ≠ 5 → g 137 k = u 137 k) → g 137 5 = (cb Z t : Int) → (∀ k : Nat, k < cb Z t → g 141 k = (mvN Z k : Int)) → wp 149 (am_ju 149 9) [aP 137, aI (Z : Int), aI (t : Int)] [] (sT g) Q := by
  intro d
  have l1 := ln_141
  have k1 := kd_141
  induction d with
  | zero =>
    intro t g ht h1 h2 h3 h4
    have ht : t = 8 := by omega
    subst ht
    rw [ju_149_9]
    simp only [ju_149_34, r_aLD0, r_gR, cl_148, r_iST1, r_iCONST, r_pI, r_iST2, r_iLD2, r_bPUSH, r_IC3, r_gI, r_iLD1, cl_29, r_IF0, r_iAST, r_DUPI, r_DUPP, r_iADD, r_IINC2, r_GOTO, r_vRET, eq_self, Int.reduceLT, Int.reduceLE, Int.reduceEq, true_or, or_true, and_self, true_and, and_true, w8_0, w8_1, w8_2, w8_3, w8_4, nl_I, nl_P, nl_X, pu_I, pu_J, pu_V]
    rw [if_pos (by decide)]
    exact hq g h1 h2 h3 h4
  | succ d ih =>
    intro t g ht h1 h2 h3 h4
    have hcb : cb Z t ≤ popc Z := cb_mono Z (show t ≤ 8 by omega)
    have hw : w3 ((t : Int) + 1) = ((t + 1 : Nat) : Int) := w3_id (by omega) (by omega)
    rw [ju_149_9]
    simp only [r_aLD0, r_gR, cl_148, r_iST1, r_iCONST, r_pI, r_iST2, r_iLD2, r_bPUSH, r_IC3, r_gI, r_iLD1, cl_29, r_IF0, r_iAST, r_DUPI, r_DUPP, r_iADD, r_IINC2, r_GOTO, r_vRET, eq_self, Int.reduceLT, Int.reduceLE, Int.reduceEq, true_or, or_true, and_self, true_and, and_true, w8_0, w8_1, w8_2, w8_3, w8_4, nl_I, nl_P, nl_X, pu_I, pu_J, pu_V, kd_137, h3]
    rw [if_neg (by omega)]
    by_cases e6 : 6 ≤ cb Z t
    · have hm : cb Z t = popc Z := by omega
      rw [if_pos (by omega), ju_149_34]
      simp only [r_aLD0, r_gR, cl_148, r_iST1, r_iCONST, r_pI, r_iST2, r_iLD2, r_bPUSH, r_IC3, r_gI, r_iLD1, cl_29, r_IF0, r_iAST, r_DUPI, r_DUPP, r_iADD, r_IINC2, r_GOTO, r_vRET, eq_self, Int.reduceLT, Int.reduceLE, Int.reduceEq, true_or, or_true, and_self, true_and, and_true, w8_0, w8_1, w8_2, w8_3, w8_4, nl_I, nl_P, nl_X, pu_I, pu_J, pu_V]
      rw [hm] at h3 h4
      exact hq g h1 h2 h3 h4
    · rw [if_neg (by omega)]
      have hs := cb_s Z t
      simp only [s_has (show Z < 2 ^ 31 by omega) (show t < 31 by omega), b01, r_aLD0, r_gR, cl_148, r_iST1, r_iCONST, r_pI, r_iST2, r_iLD2, r_bPUSH, r_IC3, r_gI, r_iLD1, cl_29, r_IF0, r_iAST, r_DUPI, r_DUPP, r_iADD, r_IINC2, r_GOTO, r_vRET, eq_self, Int.reduceLT, Int.reduceLE, Int.reduceEq, true_or, or_true, and_self, true_and, and_true, w8_0, w8_1, w8_2, w8_3, w8_4, nl_I, nl_P, nl_X, pu_I, pu_J, pu_V]
      by_cases e : Z.testBit t = true
      · have mt := ((mv_ok Z hZ t (by omega)).2 e)
        rw [if_pos e] at hs
        have c0 : (0 : Int) ≤ (cb Z t : Int) := by omega
        have c6 : (cb Z t : Int) < 6 := by omega
        have e5 : up g 141 (cb Z t : Int) (t : Int) 137 5 = (cb Z t : Int) := by rw [up_ne (by decide), h3]
        have hw2 : w3 ((cb Z t : Int) + 1) = ((cb Z (t + 1) : Nat) : Int) := by rw [w3_id (by omega) (by omega), hs]; rfl
        rw [if_neg (by simpa using e)]
        simp (disch := first | assumption | omega | decide | exact w8_0 | exact w8_1 _ | exact w8_2 _ _ | exact w8_3 _ _ _ | exact nl_I _ | exact nl_P _ | exact nl_X) only [r_aLD0, r_gR, r_gI, r_iLD1, r_iLD2, r_iASTc, r_DUPP, r_iCONST, r_iADD, r_pI, r_IINC2, r_GOTO, kd_137, rR_137_4, h3, e5, hw2, ju_149_32, hw]
        refine ih (t + 1) _ (by omega) (fun a q1 q2 => by rw [up_ne q1, up_ne q2, h1 a q1 q2]) (fun k q => by rw [up_k q, up_ne (by decide), h2 k q]) up_s (fun k hk => ?_)
        rw [up_ne (by decide)]
        by_cases z : k = cb Z t
        · subst z; rw [up_s, mt.1]
        · rw [up_k (by omega)]; exact h4 k (by omega)
      · rw [if_neg e, Nat.add_zero] at hs
        rw [if_pos e, ju_149_32]
        simp only [r_aLD0, r_gR, cl_148, r_iST1, r_iCONST, r_pI, r_iST2, r_iLD2, r_bPUSH, r_IC3, r_gI, r_iLD1, cl_29, r_IF0, r_iAST, r_DUPI, r_DUPP, r_iADD, r_IINC2, r_GOTO, r_vRET, eq_self, Int.reduceLT, Int.reduceLE, Int.reduceEq, true_or, or_true, and_self, true_and, and_true, w8_0, w8_1, w8_2, w8_3, w8_4, nl_I, nl_P, nl_X, pu_I, pu_J, pu_V, hw]
        exact ih (t + 1) g (by omega) h1 h2 (by rw [hs]; exact h3) (by rw [hs]; exact h4)
theorem s_list (h8 : n ≤ 8) (hn : u 81 7 = (n : Int)) (hM : popc (zL u n) ≤ 6) (hq : ∀ g, (∀ a, a ≠ 137 → a ≠ 141 → g a = u a) → (∀ k : Int, k ≠ 5 → g 137 k = u 137 k) → g 137 5 = (popc (zL u n) : Int) → (∀ k : Nat, k < popc (zL u n) → g 141 k = (mvN (zL u n) k : Int)) → Q aV (sT g)) : wp 149 (am_ju 149 0) [aP 137, aX, aX] [] (sT u) Q := by
  rw [ju_149_0]
  simp only [r_aLD0, r_gR, cl_148, r_iST1, r_iCONST, r_pI, r_iST2, r_iLD2, r_bPUSH, r_IC3, r_gI, r_iLD1, cl_29, r_IF0, r_iAST, r_DUPI, r_DUPP, r_iADD, r_IINC2, r_GOTO, r_vRET, eq_self, Int.reduceLT, Int.reduceLE, Int.reduceEq, true_or, or_true, and_self, true_and, and_true, w8_0, w8_1, w8_2, w8_3, w8_4, nl_I, nl_P, nl_X, pu_I, pu_J, pu_V, kd_137, ln_137, rR_137_0, rR_137_1, rR_137_2, rR_137_3, rR_137_4, rR_137_6, rR_137_7, rR_137_8, kd_80, ln_80, rR_80_0, rR_80_1, rR_80_2, rR_80_3, s_toPack h8 hn]
  refine lp_list (zL_lt h8) hM hq 8 0 _ rfl (fun a q1 q2 => up_ne q1 _ _) (fun k q => up_k q) up_s (fun k hk => absurd hk (by unfold cb; simp))
theorem gW_c (hu : wR2 h u) {kk : Int} : gW u L s bj kk b S = gW h L s bj kk b S := by
  have e1 : (fun s : Nat => sortI u s) = fun s : Nat => sortI h s := by funext s; unfold sortI; rw [hu 88 (by decide), hu 89 (by decide)]
  unfold gW
  rw [fgv_fg0, fgv_fg0, e1, hu 83 (by decide), hu 84 (by decide), hu 85 (by decide), hu 91 (by decide), hu 92 (by decide), hu 93 (by decide)]
theorem CO_w (hu : wR2 h u) (hC : CO h n nb L s) : CO u n nb L s := CO_c (fun a q1 q2 _ => hu a (by omega)) (by rw [hu 90 (by decide)]) hC
theorem lp_mr1 (hZ : Z < 256) (hM : popc Z ≤ 6) (hch : ch < 64) (h5 : u 137 5 = (popc Z : Int)) (h41 : ∀ k : Nat, k < popc Z → u 141 k = (mvN Z k : Int)) : ∀ (d k : Nat), k + d = popc Z → (wp 151 (am_ju 151 12) [aP 137, aI (ch : Int), aI (thC Z ch k : Int), aI (k : Int)] [] (sT u) Q ↔ wp 151 (am_ju 151 31) [aP 137, aI (ch : Int), aI (thC Z ch (popc Z) : Int), aI (popc Z : Int)] [] (sT u) Q) := by
  intro d
  have l1 := ln_141
  have k1 := kd_141
  induction d with
  | zero =>
    intro k hk
    have hk : k = popc Z := by omega
    subst hk
    rw [ju_151_12]
    simp only [r_iCONST, r_iST1, r_iLD1, r_aLD0, r_gI, r_iSHL, r_IC3, r_iST2, r_iST3, r_iLD3, cl_29, r_IF0, r_iLD2, r_gR, r_iALD, r_iALDs, r_iOR, r_IINC3, r_GOTO, r_bPUSH, r_iMUL, r_iADD, cl_150, r_iAST, r_IINC1, r_vRET, eq_self, Int.reduceLT, Int.reduceLE, Int.reduceEq, true_or, or_true, and_self, true_and, and_true, w8_0, w8_1, w8_2, w8_3, w8_4, nl_I, nl_P, nl_X, pu_I, pu_J, pu_V, kd_137, h5]
    rw [if_pos (by omega)]
  | succ d ih =>
    intro k hk
    have hw : w3 ((k : Int) + 1) = ((k + 1 : Nat) : Int) := w3_id (by omega) (by omega)
    have k0 : (0 : Int) ≤ k := by omega
    have k6 : (k : Int) < 6 := by omega
    have hmv := ((mv_ok Z hZ k (by omega)).1 (by omega)).2.1
    have ht := thC_lt (ch := ch) hZ k (by omega)
    have h31 : 2 ^ mvN Z k < 2 ^ 31 := Nat.pow_lt_pow_right (by decide) (by omega)
    have e1 : bOr (thC Z ch k : Int) (bShl 1 (mvN Z k : Int)) = ((thC Z ch k ||| 2 ^ mvN Z k : Nat) : Int) := by
      rw [show (1 : Int) = ((1 : Nat) : Int) from rfl, bShl_n 1 (mvN Z k) (by omega) (by omega), Nat.one_mul, bOr_n _ _ (by omega) h31]
    have ih := ih (k + 1) (by omega)
    rw [thC] at ih
    rw [ju_151_12]
    simp (disch := first | assumption | omega | exact w8_0 | exact w8_1 _ | exact w8_2 _ _ | exact w8_3 _ _ _ | exact w8_4 _ _ _ _ | exact nl_I _ | exact nl_P _ | exact nl_X | decide | exact w8_5 _ _ _ _ _) only [ju_151_29, r_iCONST, r_iST1, r_iLD1, r_aLD0, r_gI, r_iSHL, r_IC3, r_iST2, r_iST3, r_iLD3, cl_29, r_IF0, r_iLD2, r_gR, r_iALDc, r_iALDs, r_iOR, r_IINC3, r_GOTO, r_bPUSH, r_iMUL, r_iADD, cl_150, r_iASTc, r_IINC1, r_vRET, eq_self, Int.reduceLT, Int.reduceLE, Int.reduceEq, true_or, or_true, and_self, true_and, and_true, w8_0, w8_1, w8_2, w8_3, w8_4, nl_I, nl_P, nl_X, pu_I, pu_J, pu_V, w3_id, Int.add_zero, kd_137, rR_137_4, h5, s_has (show ch < 2 ^ 31 by omega) (show k < 31 by omega), b01, h41 k (by omega), e1, hw]
    rw [if_neg (by omega)]
    by_cases e : ch.testBit k = true
    · rw [if_pos e] at ih
      rw [if_neg (by simpa using e)]
      exact ih
    · rw [if_neg e, Nat.or_zero] at ih
      rw [if_pos e]
      exact ih
def rcF (h : am_F) (n L s ch b : Nat) : Int := gW h L s 7 (h 82 b) b (thC (zL h n) ch (popc (zL h n)))
/-- the table of reach: choices below ch for all bags, of ch itself for those below b -/
def rcT (h g : am_F) (n nb L s ch b : Nat) : Prop := ∀ b' c' : Nat, b' < nb → (c' < ch ∨ (c' = ch ∧ b' < b)) → g 142 (64 * (b' : Int) + c') = rcF h n L s c' b'
def mvd (h g : am_F) (n : Nat) : Prop := g 137 5 = (popc (zL h n) : Int) ∧ ∀ k : Nat, k < popc (zL h n) → g 141 k = (mvN (zL h n) k : Int)
/-- all but trial and reach are as in u -/
def tq (u g : am_F) : Prop := ∀ a, a ≠ 138 → a ≠ 142 → g a = u a
theorem lp_mr2 (hC : CO h n nb L s) (hM : popc (zL h n) ≤ 6) (hch : ch < 64) (hu : wR2 h u) (hm : mvd h u n) (hq : ∀ g, tq u g → rcT h g n nb L s ch nb → wp 151 (am_ju 151 54) [aP 137, aI (ch : Int), aI (thC (zL h n) ch (popc (zL h n)) : Int), aI (nb : Int)] [] (sT g) Q) : ∀ (d b : Nat) (g : am_F), b + d = nb → tq u g → rcT h g n nb L s ch b → wp 151 (am_ju 151 33) [aP 137, aI (ch : Int), aI (thC (zL h n) ch (popc (zL h n)) : Int), aI (b : Int)] [] (sT g) Q := by
  intro d
  have l1 := ln_142
  have k1 := kd_142
  obtain ⟨c1, c2, c3, c4, c5, c6, c7, c8, c9, c10⟩ := id hC
  induction d with
  | zero =>
    intro b g hb hg hr
    have hb : b = nb := by omega
    subst hb
    have e : g 81 6 = (b : Int) := by rw [hg 81 (by decide) (by decide), hu 81 (by decide)]; exact c1
    rw [ju_151_33]
    simp only [r_iCONST, r_iST1, r_iLD1, r_aLD0, r_gI, r_iSHL, r_IC3, r_iST2, r_iST3, r_iLD3, cl_29, r_IF0, r_iLD2, r_gR, r_iALD, r_iALDs, r_iOR, r_IINC3, r_GOTO, r_bPUSH, r_iMUL, r_iADD, cl_150, r_iAST, r_IINC1, r_vRET, eq_self, Int.reduceLT, Int.reduceLE, Int.reduceEq, true_or, or_true, and_self, true_and, and_true, w8_0, w8_1, w8_2, w8_3, w8_4, nl_I, nl_P, nl_X, pu_I, pu_J, pu_V, kd_137, ln_137, rR_137_0, rR_137_1, rR_137_2, rR_137_3, rR_137_4, rR_137_6, rR_137_7, rR_137_8, kd_80, ln_80, rR_80_0, rR_80_1, rR_80_2, rR_80_3, kd_81, ln_81, rR_81_0, rR_81_1, rR_81_2, rR_81_3, rR_81_4, rR_81_5, e]
    rw [if_pos (by omega)]
    exact hq g hg hr
  | succ d ih =>
    intro b g hb hg hr
    have e : g 81 6 = (nb : Int) := by rw [hg 81 (by decide) (by decide), hu 81 (by decide)]; exact c1
    have hw : w3 ((b : Int) + 1) = ((b + 1 : Nat) : Int) := w3_id (by omega) (by omega)
    have hwi : w3 (w3 ((b : Int) * 64) + (ch : Int)) = 64 * (b : Int) + ch := by rw [w3_id (x := (b : Int) * 64) (by omega) (by omega), w3_id (by omega) (by omega)]; omega
    have hgw : wR2 h g := fun a ha => by
      by_cases z : a = 138 ∨ a = 142
      · omega
      · rw [hg a (by omega) (by omega), hu a ha]
    rw [ju_151_33]
    simp only [r_iCONST, r_iST1, r_iLD1, r_aLD0, r_gI, r_iSHL, r_IC3, r_iST2, r_iST3, r_iLD3, cl_29, r_IF0, r_iLD2, r_gR, r_iALD, r_iALDs, r_iOR, r_IINC3, r_GOTO, r_bPUSH, r_iMUL, r_iADD, cl_150, r_iAST, r_IINC1, r_vRET, eq_self, Int.reduceLT, Int.reduceLE, Int.reduceEq, true_or, or_true, and_self, true_and, and_true, w8_0, w8_1, w8_2, w8_3, w8_4, nl_I, nl_P, nl_X, pu_I, pu_J, pu_V, kd_137, ln_137, rR_137_0, rR_137_1, rR_137_2, rR_137_3, rR_137_4, rR_137_6, rR_137_7, rR_137_8, kd_80, ln_80, rR_80_0, rR_80_1, rR_80_2, rR_80_3, kd_81, ln_81, rR_81_0, rR_81_1, rR_81_2, rR_81_3, rR_81_4, rR_81_5, e, hwi]
    rw [if_neg (by omega)]
    have hlt := thC_lt (ch := ch) (zL_lt (h := h) c4) (popc (zL h n)) (Nat.le_refl _)
    refine s_giveWith (CO_w hgw hC) (h := g) (u := g) (fun _ _ => rfl) (show b < nb by omega) hlt (fun t ht => by rw [hgw 83 (by decide), hgw 84 (by decide), hgw 85 (by decide)]; exact thC_gd hC (Nat.le_refl _) t ht) ⟨by decide, by decide⟩ (fun g' hg' => ?_)
    rw [hgw 82 (by decide), gW_c hgw]
    have b0 : (0 : Int) ≤ 64 * (b : Int) + ch := by omega
    have b192 : 64 * (b : Int) + ch < 192 := by omega
    simp (disch := first | assumption | omega | exact w8_0 | exact w8_1 _ | exact w8_2 _ _ | exact w8_3 _ _ _ | exact w8_4 _ _ _ _ | exact nl_I _ | exact nl_P _ | exact nl_X | decide | exact w8_5 _ _ _ _ _) only [r_iCONST, r_iST1, r_iLD1, r_aLD0, r_gI, r_iSHL, r_IC3, r_iST2, r_iST3, r_iLD3, cl_29, r_IF0, r_iLD2, r_gR, r_iALDc, r_iALDs, r_iOR, r_IINC3, r_GOTO, r_bPUSH, r_iMUL, r_iADD, cl_150, r_iASTc, r_IINC1, r_vRET, eq_self, Int.reduceLT, Int.reduceLE, Int.reduceEq, true_or, or_true, and_self, true_and, and_true, w8_0, w8_1, w8_2, w8_3, w8_4, nl_I, nl_P, nl_X, pu_I, pu_J, pu_V, w3_id, Int.add_zero, hw]
    refine ih (b + 1) _ (by omega) (fun a q1 q2 => by rw [up_ne q2, hg' a q1, hg a q1 q2]) (fun b' c' q1 q2 => ?_)
    by_cases z : b' = b ∧ c' = ch
    · obtain ⟨rfl, rfl⟩ := z
      rw [up_s]; rfl
    · rw [up_k (by omega), hg' 142 (by decide)]
      exact hr b' c' q1 (by omega)
theorem lp_mr3 (hC : CO h n nb L s) (hM : popc (zL h n) ≤ 6) (hu : wR2 h u) (hm : mvd h u n) (hq : ∀ g, tq u g → rcT h g n nb L s (2 ^ popc (zL h n)) 0 → Q aV (sT g)) {v2 v3 : am_V} : ∀ (d ch : Nat) (g : am_F) (v2 v3 : am_V), ch + d = 2 ^ popc (zL h n) → am_nl v2 = true → am_nl v3 = true → tq u g → rcT h g n nb L s ch 0 → wp 151 (am_ju 151 2) [aP 137, aI (ch : Int), v2, v3] [] (sT g) Q := by
  intro d
  have h64 : 2 ^ popc (zL h n) ≤ 2 ^ 6 := Nat.pow_le_pow_right (by decide) hM
  have hs : bShl 1 (popc (zL h n) : Int) = ((2 ^ popc (zL h n) : Nat) : Int) := by
    have := bShl_n 1 (popc (zL h n)) (by omega) (by omega)
    rw [Nat.one_mul] at this
    exact this
  have hm5 : ∀ g, tq u g → g 137 5 = (popc (zL h n) : Int) := fun g hg => by rw [hg 137 (by decide) (by decide)]; exact hm.1
  induction d with
  | zero =>
    intro ch g v2 v3 hc h2 h3 hg hr
    have hc : ch = 2 ^ popc (zL h n) := by omega
    subst hc
    rw [ju_151_2]
    simp only [ju_151_56, r_iCONST, r_iST1, r_iLD1, r_aLD0, r_gI, r_iSHL, r_IC3, r_iST2, r_iST3, r_iLD3, cl_29, r_IF0, r_iLD2, r_gR, r_iALD, r_iALDs, r_iOR, r_IINC3, r_GOTO, r_bPUSH, r_iMUL, r_iADD, cl_150, r_iAST, r_IINC1, r_vRET, eq_self, Int.reduceLT, Int.reduceLE, Int.reduceEq, true_or, or_true, and_self, true_and, and_true, w8_0, w8_1, w8_2, w8_3, w8_4, nl_I, nl_P, nl_X, pu_I, pu_J, pu_V, kd_137, hm5 g hg, hs]
    rw [if_pos (by omega)]
    exact hq g hg hr
  | succ d ih =>
    intro ch g v2 v3 hc h2 h3 hg hr
    have hw : w3 ((ch : Int) + 1) = ((ch + 1 : Nat) : Int) := w3_id (by omega) (by omega)
    rw [ju_151_2]
    simp (disch := first | assumption | omega | decide | exact nl_I _) only [r_iCONST, r_iST1, r_iLD1, r_aLD0, r_gI, r_iSHL, r_IC3, r_iST2, r_iST3, r_iLD3, cl_29, r_IF0, r_iLD2, r_gR, r_iALD, r_iALDs, r_iOR, r_IINC3, r_GOTO, r_bPUSH, r_iMUL, r_iADD, cl_150, r_iAST, r_IINC1, r_vRET, eq_self, Int.reduceLT, Int.reduceLE, Int.reduceEq, true_or, or_true, and_self, true_and, and_true, w8_0, w8_1, w8_2, w8_3, w8_4, nl_I, nl_P, nl_X, pu_I, pu_J, pu_V, kd_137, hm5 g hg, hs, h2]
    rw [if_neg (by omega)]
    refine (lp_mr1 (zL_lt hC.2.2.2.1) hM (show ch < 64 by omega) (hm5 g hg) (fun k hk => by rw [hg 141 (by decide) (by decide)]; exact hm.2 k hk) (popc (zL h n)) 0 (Nat.zero_add _)).mpr ?_
    rw [ju_151_31]
    simp only [r_iCONST, r_iST1, r_iLD1, r_aLD0, r_gI, r_iSHL, r_IC3, r_iST2, r_iST3, r_iLD3, cl_29, r_IF0, r_iLD2, r_gR, r_iALD, r_iALDs, r_iOR, r_IINC3, r_GOTO, r_bPUSH, r_iMUL, r_iADD, cl_150, r_iAST, r_IINC1, r_vRET, eq_self, Int.reduceLT, Int.reduceLE, Int.reduceEq, true_or, or_true, and_self, true_and, and_true, w8_0, w8_1, w8_2, w8_3, w8_4, nl_I, nl_P, nl_X, pu_I, pu_J, pu_V]
    refine lp_mr2 hC hM (show ch < 64 by omega) hu hm (fun g' hg' hr' => ?_) nb 0 g (Nat.zero_add _) hg hr
    rw [ju_151_54]
    simp only [r_iCONST, r_iST1, r_iLD1, r_aLD0, r_gI, r_iSHL, r_IC3, r_iST2, r_iST3, r_iLD3, cl_29, r_IF0, r_iLD2, r_gR, r_iALD, r_iALDs, r_iOR, r_IINC3, r_GOTO, r_bPUSH, r_iMUL, r_iADD, cl_150, r_iAST, r_IINC1, r_vRET, eq_self, Int.reduceLT, Int.reduceLE, Int.reduceEq, true_or, or_true, and_self, true_and, and_true, w8_0, w8_1, w8_2, w8_3, w8_4, nl_I, nl_P, nl_X, pu_I, pu_J, pu_V, hw]
    exact ih (ch + 1) g' _ _ (by omega) rfl rfl hg' (fun b' c' q1 q2 => hr' b' c' q1 (by omega))
theorem s_measure (hC : CO h n nb L s) (hM : popc (zL h n) ≤ 6) (hu : wR2 h u) (hm : mvd h u n) (hq : ∀ g, tq u g → rcT h g n nb L s (2 ^ popc (zL h n)) 0 → Q aV (sT g)) : wp 151 (am_ju 151 0) [aP 137, aX, aX, aX] [] (sT u) Q := by
  rw [ju_151_0]
  simp only [r_iCONST, r_iST1, r_iLD1, r_aLD0, r_gI, r_iSHL, r_IC3, r_iST2, r_iST3, r_iLD3, cl_29, r_IF0, r_iLD2, r_gR, r_iALD, r_iALDs, r_iOR, r_IINC3, r_GOTO, r_bPUSH, r_iMUL, r_iADD, cl_150, r_iAST, r_IINC1, r_vRET, eq_self, Int.reduceLT, Int.reduceLE, Int.reduceEq, true_or, or_true, and_self, true_and, and_true, w8_0, w8_1, w8_2, w8_3, w8_4, nl_I, nl_P, nl_X, pu_I, pu_J, pu_V]
  exact lp_mr3 hC hM hu hm hq (v2 := aX) (v3 := aX) (2 ^ popc (zL h n)) 0 u aX aX (Nat.zero_add _) rfl rfl (fun _ _ _ => rfl) (fun b' c' q1 q2 => absurd q2 (by omega))
end PL
