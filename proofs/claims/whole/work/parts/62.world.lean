/-! Worlds are copied (written by program for both ways) -/
section WTK
variable {h g h' : am_F} {Q : am_V → am_S → Prop} {n nb L s K nx : Nat}
def gT6K (h : am_F) : am_F := cpy (cpy (cpy (cpy (cpy (cpy h 82 0 3 0 3) 83 0 4 0 8) 84 0 5 0 8) 85 0 6 0 8) 86 0 7 0 8) 87 0 8 0 8
def gTkK (h : am_F) : am_F := up (up (gT6K h) 2 6 (gT6K h 81 6)) 2 7 (up (gT6K h) 2 6 (gT6K h 81 6) 81 7)
theorem s_gTkK : wp 87 (am_ju 87 0) [aP 2, aP 81] [] (sT h) Q ↔ Q aV (sT (gTkK h)) := by
  simp only [ju_87_0, r_aLD0, r_gR, r_aLD1, cl_71, r_gI, r_pI, r_vRET, eq_self, Int.reduceLT, Int.reduceLE, Int.reduceEq, true_or, or_true, and_self, true_and, and_true, w8_0, w8_1, w8_2, w8_3, w8_4, nl_I, nl_P, nl_X, pu_I, pu_J, pu_V, kd_2, ln_2, rR_2_0, rR_2_1, rR_2_2, rR_2_3, rR_2_4, rR_2_5, kd_81, ln_81, rR_81_0, rR_81_1, rR_81_2, rR_81_3, rR_81_4, rR_81_5, s_takeRow kd_82 kd_3 ln_82 ln_3 (by decide), s_takeRow kd_83 kd_4 ln_83 ln_4 (by decide), s_takeRow kd_84 kd_5 ln_84 ln_5 (by decide), s_takeRow kd_85 kd_6 ln_85 ln_6 (by decide), s_takeRow kd_86 kd_7 ln_86 ln_7 (by decide), s_takeRow kd_87 kd_8 ln_87 ln_8 (by decide)]
  rfl
theorem gTk_oK : (∀ a k, lv a k → a < 88 → gTkK h (a + -79) k = h (a + 0) k) ∧ ∀ a, a < 2 ∨ 8 < a → gTkK h a = h a := by
  unfold gTkK gT6K
  constructor
  · intro a k hl ha
    have q : (a = 81 ∧ (k = 6 ∨ k = 7)) ∨ (a = 82 ∧ 0 ≤ k ∧ k < 3) ∨ (a = 83 ∧ 0 ≤ k ∧ k < 8) ∨ (a = 84 ∧ 0 ≤ k ∧ k < 8) ∨ (a = 85 ∧ 0 ≤ k ∧ k < 8) ∨ (a = 86 ∧ 0 ≤ k ∧ k < 8) ∨ (a = 87 ∧ 0 ≤ k ∧ k < 8) := by unfold lv at hl; omega
    rcases q with ⟨rfl, rfl | rfl⟩ | ⟨rfl, k0, k1⟩ | ⟨rfl, k0, k1⟩ | ⟨rfl, k0, k1⟩ | ⟨rfl, k0, k1⟩ | ⟨rfl, k0, k1⟩ | ⟨rfl, k0, k1⟩ <;> simp (disch := first | assumption | decide) only [Int.reduceAdd, Int.reduceNeg, up_k, up_ne, up_s, cpy_hit, cpy_out, ne_eq, Int.reduceEq, not_false_eq_true]
  · intro a ha
    rw [up_ne (by omega), up_ne (by omega), cpy_out (by omega), cpy_out (by omega), cpy_out (by omega), cpy_out (by omega), cpy_out (by omega), cpy_out (by omega)]
/-- the moments are copied: the first p of them -/
def PTK (h g : am_F) (p : Nat) : Prop := (∀ a k, lv a k → 97 ≤ a → a < 97 + 5 * (p : Int) → g (a + -79) k = h (a + 0) k) ∧ ∀ a, a < 18 ∨ 18 + 5 * (p : Int) ≤ a → g a = h a
theorem PT_sK {p : Nat} (hp : p < 8) (hT : PTK h g p) : PTK h (mTk g (18 + 5 * p) (97 + 5 * p)) (p + 1) := by
  obtain ⟨t1, t2⟩ := hT
  have hcd : 18 + 5 * (p : Int) + 5 ≤ 97 + 5 * p ∨ 97 + 5 * (p : Int) + 5 ≤ 18 + 5 * p := by omega
  obtain ⟨-, -, -, -, m5⟩ := mTk_o (h := g) hcd
  constructor
  · intro a k hl h1 h2
    by_cases q : a < 97 + 5 * (p : Int)
    · rw [m5 _ (by omega)]; exact t1 a k hl h1 q
    · have := mTk_lv (h := g) hcd (a := a - 97 - 5 * p) (k := k) (by omega) (by unfold lv at hl; omega)
      rw [show 18 + 5 * (p : Int) + (a - 97 - 5 * p) = a + -79 by omega, show 97 + 5 * (p : Int) + (a - 97 - 5 * p) = a + 0 by omega] at this
      rw [this, t2 _ (by omega)]
  · intro a ha
    rw [m5 a (by omega), t2 a (by omega)]
theorem lp_pTkK (hq : ∀ g, PTK h g 8 → wp 198 (am_ju 198 16) [aP 16, aP 95, aI 8] [] (sT g) Q) : ∀ (k p : Nat) (g : am_F), p + k = 8 → PTK h g p → wp 198 (am_ju 198 2) [aP 16, aP 95, aI (p : Int)] [] (sT g) Q := by
  intro k
  induction k with
  | zero =>
    intro p g hp hT
    have hp : p = 8 := by omega
    subst hp
    rw [ju_198_2]
    simp only [r_iCONST, r_iST2, r_iLD2, r_bPUSH, r_IC3, r_aLD0, r_gR, r_aALD, r_aLD1, cl_110, r_IINC2, r_GOTO, r_gI, r_pI, r_vRET, eq_self, Int.reduceLT, Int.reduceLE, Int.reduceEq, true_or, or_true, and_self, true_and, and_true, w8_0, w8_1, w8_2, w8_3, w8_4, nl_I, nl_P, nl_X, pu_I, pu_J, pu_V]
    rw [if_pos (by decide)]
    exact hq g hT
  | succ k ih =>
    intro p g hp hT
    have hw : w3 ((p : Int) + 1) = ((p + 1 : Nat) : Int) := w3_id (by omega) (by omega)
    obtain ⟨mp, mp', rp, rp'⟩ := mo_p p (by omega)
    have n2 : (p : Int) < 8 := by omega
    have n0 : (0 : Int) ≤ p := by omega
    have kk : kd 96 = 22 ∨ kd 96 = 23 := Or.inl kd_96
    have kk' : kd 17 = 22 ∨ kd 17 = 23 := Or.inl kd_17
    have kp : kd (97 + 5 * (p : Int)) = 3 := mp.1.1
    have kp' : kd (18 + 5 * (p : Int)) = 3 := mp'.1.1
    have r0 : (0 : Int) ≤ rR 96 p := by rw [rp]; omega
    have r0' : (0 : Int) ≤ rR 17 p := by rw [rp']; omega
    have ih := ih (p + 1) _ (by omega) (PT_sK (by omega) hT)
    rw [ju_198_2]
    simp (disch := first | assumption | omega | exact w8_0 | exact w8_1 _ | exact w8_2 _ _ | exact w8_3 _ _ _ | exact w8_4 _ _ _ _ | exact nl_I _ | exact nl_P _ | exact nl_X | decide | exact w8_5 _ _ _ _ _) only [r_iCONST, r_iST2, r_iLD2, r_bPUSH, r_IC3, r_aLD0, r_gR, r_aALD, r_aLD1, cl_110, r_IINC2, r_GOTO, r_gI, r_pI, r_vRET, eq_self, Int.reduceLT, Int.reduceLE, Int.reduceEq, true_or, or_true, and_self, true_and, and_true, w8_0, w8_1, w8_2, w8_3, w8_4, nl_I, nl_P, nl_X, pu_I, pu_J, pu_V, w3_id, Int.add_zero, kd_95, kd_16, rR_95_0, rR_16_0, kk, kk', r0, r0', rp, rp', ln_96, ln_17, and_self, true_and, kp, kp', s_mTake mp mp', s_mTake mp' mp, hw, n0, n2]
    rw [if_neg (by omega)]
    exact ih
theorem s_wTkK (hq : ∀ h', (∀ a k, lv a k → h' (a + -79) k = h (a + 0) k) → (∀ a, a < 1 ∨ 57 < a → h' a = h a) → Q aV (sT h')) : wp 199 (am_ju 199 0) [aP 1, aP 80] [] (sT h) Q := by
  rw [ju_199_0]
  simp only [r_aLD0, r_gR, r_aLD1, cl_87, cl_72, cl_110, cl_198, r_vRET, eq_self, Int.reduceLT, Int.reduceLE, Int.reduceEq, true_or, or_true, and_self, true_and, and_true, w8_0, w8_1, w8_2, w8_3, w8_4, nl_I, nl_P, nl_X, pu_I, pu_J, pu_V, kd_1, ln_1, rR_1_0, rR_1_1, rR_1_2, rR_1_3, kd_80, ln_80, rR_80_0, rR_80_1, rR_80_2, rR_80_3, kd_2, ln_2, rR_2_0, rR_2_1, rR_2_2, rR_2_3, rR_2_4, rR_2_5, kd_9, ln_9, rR_9_0, kd_11, ln_11, rR_11_0, rR_11_1, rR_11_2, rR_11_3, kd_16, ln_16, rR_16_0, s_gTkK]
  obtain ⟨g1, g2⟩ := gTk_oK (h := h)
  generalize gTkK h = u at g1 g2 ⊢
  simp only [s_wayK, r_aLD0, r_gR, r_aLD1, cl_87, cl_72, cl_110, cl_198, r_vRET, eq_self, Int.reduceLT, Int.reduceLE, Int.reduceEq, true_or, or_true, and_self, true_and, and_true, w8_0, w8_1, w8_2, w8_3, w8_4, nl_I, nl_P, nl_X, pu_I, pu_J, pu_V, kd_1, ln_1, rR_1_0, rR_1_1, rR_1_2, rR_1_3, kd_80, ln_80, rR_80_0, rR_80_1, rR_80_2, rR_80_3, kd_11, ln_11, rR_11_0, rR_11_1, rR_11_2, rR_11_3, kd_16, ln_16, rR_16_0]
  have w1 : ∀ a k, lv a k → 88 ≤ a → a ≤ 89 → up (cpy u 89 0 10 0 20) 9 1 (cpy u 89 0 10 0 20 88 1) (a + -79) k = u (a + 0) k := by
    intro a k hl q1 q2
    have q : (a = 88 ∧ k = 1) ∨ (a = 89 ∧ 0 ≤ k ∧ k < 20) := by unfold lv at hl; omega
    rcases q with ⟨rfl, rfl⟩ | ⟨rfl, k0, k1⟩ <;> simp (disch := first | assumption | decide) only [Int.reduceAdd, Int.reduceNeg, up_k, up_ne, up_s, cpy_hit, cpy_out, ne_eq, Int.reduceEq, not_false_eq_true]
  have w2 : ∀ a, a < 9 ∨ 10 < a → up (cpy u 89 0 10 0 20) 9 1 (cpy u 89 0 10 0 20 88 1) a = u a := fun a ha => by rw [up_ne (by omega), cpy_out (by omega)]
  generalize up (cpy u 89 0 10 0 20) 9 1 (cpy u 89 0 10 0 20 88 1) = v at w1 w2 ⊢
  simp only [s_mTake mo_11 mo_90, r_aLD0, r_gR, r_aLD1, cl_87, cl_72, cl_110, cl_198, r_vRET, eq_self, Int.reduceLT, Int.reduceLE, Int.reduceEq, true_or, or_true, and_self, true_and, and_true, w8_0, w8_1, w8_2, w8_3, w8_4, nl_I, nl_P, nl_X, pu_I, pu_J, pu_V, kd_1, ln_1, rR_1_0, rR_1_1, rR_1_2, rR_1_3, kd_80, ln_80, rR_80_0, rR_80_1, rR_80_2, rR_80_3, kd_11, ln_11, rR_11_0, rR_11_1, rR_11_2, rR_11_3, kd_16, ln_16, rR_16_0]
  have m1 : ∀ a k, lv a k → 90 ≤ a → a ≤ 94 → mTk v 11 90 (a + -79) k = v (a + 0) k := by
    intro a k hl q1 q2
    have := mTk_lv (h := v) (p := 11) (q := 90) (by omega) (a := a - 90) (k := k) (by omega) (by unfold lv at hl; omega)
    rw [show (11 : Int) + (a - 90) = a + -79 by omega, show (90 : Int) + (a - 90) = a + 0 by omega] at this
    exact this
  have m2 : ∀ a, a < 11 ∨ 15 < a → mTk v 11 90 a = v a := fun a ha => (mTk_o (by omega)).2.2.2.2 a (by omega)
  generalize mTk v 11 90 = x at m1 m2 ⊢
  rw [ju_198_0]
  simp only [r_iCONST, r_iST2, r_iLD2, r_bPUSH, r_IC3, r_aLD0, r_gR, r_aALD, r_aLD1, cl_110, r_IINC2, r_GOTO, r_gI, r_pI, r_vRET, eq_self, Int.reduceLT, Int.reduceLE, Int.reduceEq, true_or, or_true, and_self, true_and, and_true, w8_0, w8_1, w8_2, w8_3, w8_4, nl_I, nl_P, nl_X, pu_I, pu_J, pu_V]
  refine lp_pTkK (h := x) (fun g hT => ?_) 8 0 x rfl ⟨fun a k _ q1 q2 => absurd q1 (by omega), fun _ _ => rfl⟩
  obtain ⟨t1, t2⟩ := hT
  rw [ju_198_16]
  simp only [r_iCONST, r_iST2, r_iLD2, r_bPUSH, r_IC3, r_aLD0, r_gR, r_aALD, r_aLD1, cl_110, r_IINC2, r_GOTO, r_gI, r_pI, r_vRET, cl_87, cl_72, cl_198, eq_self, Int.reduceLT, Int.reduceLE, Int.reduceEq, true_or, or_true, and_self, true_and, and_true, w8_0, w8_1, w8_2, w8_3, w8_4, nl_I, nl_P, nl_X, pu_I, pu_J, pu_V, kd_16, kd_95]
  refine hq _ (fun a k hl => ?_) (fun a ha => ?_)
  · have hr : (81 ≤ a ∧ a < 88) ∨ (88 ≤ a ∧ a ≤ 89) ∨ (90 ≤ a ∧ a ≤ 94) ∨ (a = 95 ∧ (k = 1 ∨ k = 2)) ∨ (97 ≤ a ∧ a < 97 + 5 * ((8 : Nat) : Int)) := by unfold lv at hl; omega
    rcases hr with z | z | z | ⟨rfl, rfl | rfl⟩ | z
    · rw [up_ne (by omega), up_ne (by omega), t2 _ (by omega), m2 _ (by omega), w2 _ (by omega)]; exact g1 a k hl z.2
    · rw [up_ne (by omega), up_ne (by omega), t2 _ (by omega), m2 _ (by omega), w1 a k hl z.1 z.2, g2 _ (by omega)]
    · rw [up_ne (by omega), up_ne (by omega), t2 _ (by omega), m1 a k hl z.1 z.2, w2 _ (by omega), g2 _ (by omega)]
    · simp only [Int.reduceAdd, Int.reduceNeg]
      rw [up_k (by decide), up_s, t2 _ (by omega), m2 _ (by omega), w2 _ (by omega), g2 _ (by omega)]
    · simp only [Int.reduceAdd, Int.reduceNeg]
      rw [up_s, up_ne (by omega), t2 _ (by omega), m2 _ (by omega), w2 _ (by omega), g2 _ (by omega)]
    · rw [up_ne (by omega), up_ne (by omega), t1 a k hl z.1 z.2, m2 _ (by omega), w2 _ (by omega), g2 _ (by omega)]
  · rw [up_ne (by omega), up_ne (by omega), t2 _ (by omega), m2 _ (by omega), w2 _ (by omega), g2 _ (by omega)]
end WTK

section WTW
variable {h g h' : am_F} {Q : am_V → am_S → Prop} {n nb L s K nx : Nat}
def gT6W (h : am_F) : am_F := cpy (cpy (cpy (cpy (cpy (cpy h 3 0 82 0 3) 4 0 83 0 8) 5 0 84 0 8) 6 0 85 0 8) 7 0 86 0 8) 8 0 87 0 8
def gTkW (h : am_F) : am_F := up (up (gT6W h) 81 6 (gT6W h 2 6)) 81 7 (up (gT6W h) 81 6 (gT6W h 2 6) 2 7)
theorem s_gTkW : wp 87 (am_ju 87 0) [aP 81, aP 2] [] (sT h) Q ↔ Q aV (sT (gTkW h)) := by
  simp only [ju_87_0, r_aLD0, r_gR, r_aLD1, cl_71, r_gI, r_pI, r_vRET, eq_self, Int.reduceLT, Int.reduceLE, Int.reduceEq, true_or, or_true, and_self, true_and, and_true, w8_0, w8_1, w8_2, w8_3, w8_4, nl_I, nl_P, nl_X, pu_I, pu_J, pu_V, kd_81, ln_81, rR_81_0, rR_81_1, rR_81_2, rR_81_3, rR_81_4, rR_81_5, kd_2, ln_2, rR_2_0, rR_2_1, rR_2_2, rR_2_3, rR_2_4, rR_2_5, s_takeRow kd_3 kd_82 ln_3 ln_82 (by decide), s_takeRow kd_4 kd_83 ln_4 ln_83 (by decide), s_takeRow kd_5 kd_84 ln_5 ln_84 (by decide), s_takeRow kd_6 kd_85 ln_6 ln_85 (by decide), s_takeRow kd_7 kd_86 ln_7 ln_86 (by decide), s_takeRow kd_8 kd_87 ln_8 ln_87 (by decide)]
  rfl
theorem gTk_oW : (∀ a k, lv a k → a < 88 → gTkW h (a + 0) k = h (a + -79) k) ∧ ∀ a, a < 81 ∨ 87 < a → gTkW h a = h a := by
  unfold gTkW gT6W
  constructor
  · intro a k hl ha
    have q : (a = 81 ∧ (k = 6 ∨ k = 7)) ∨ (a = 82 ∧ 0 ≤ k ∧ k < 3) ∨ (a = 83 ∧ 0 ≤ k ∧ k < 8) ∨ (a = 84 ∧ 0 ≤ k ∧ k < 8) ∨ (a = 85 ∧ 0 ≤ k ∧ k < 8) ∨ (a = 86 ∧ 0 ≤ k ∧ k < 8) ∨ (a = 87 ∧ 0 ≤ k ∧ k < 8) := by unfold lv at hl; omega
    rcases q with ⟨rfl, rfl | rfl⟩ | ⟨rfl, k0, k1⟩ | ⟨rfl, k0, k1⟩ | ⟨rfl, k0, k1⟩ | ⟨rfl, k0, k1⟩ | ⟨rfl, k0, k1⟩ | ⟨rfl, k0, k1⟩ <;> simp (disch := first | assumption | decide) only [Int.reduceAdd, Int.reduceNeg, up_k, up_ne, up_s, cpy_hit, cpy_out, ne_eq, Int.reduceEq, not_false_eq_true]
  · intro a ha
    rw [up_ne (by omega), up_ne (by omega), cpy_out (by omega), cpy_out (by omega), cpy_out (by omega), cpy_out (by omega), cpy_out (by omega), cpy_out (by omega)]
/-- the moments are copied: the first p of them -/
def PTW (h g : am_F) (p : Nat) : Prop := (∀ a k, lv a k → 97 ≤ a → a < 97 + 5 * (p : Int) → g (a + 0) k = h (a + -79) k) ∧ ∀ a, a < 97 ∨ 97 + 5 * (p : Int) ≤ a → g a = h a
theorem PT_sW {p : Nat} (hp : p < 8) (hT : PTW h g p) : PTW h (mTk g (97 + 5 * p) (18 + 5 * p)) (p + 1) := by
  obtain ⟨t1, t2⟩ := hT
  have hcd : 97 + 5 * (p : Int) + 5 ≤ 18 + 5 * p ∨ 18 + 5 * (p : Int) + 5 ≤ 97 + 5 * p := by omega
  obtain ⟨-, -, -, -, m5⟩ := mTk_o (h := g) hcd
  constructor
  · intro a k hl h1 h2
    by_cases q : a < 97 + 5 * (p : Int)
    · rw [m5 _ (by omega)]; exact t1 a k hl h1 q
    · have := mTk_lv (h := g) hcd (a := a - 97 - 5 * p) (k := k) (by omega) (by unfold lv at hl; omega)
      rw [show 97 + 5 * (p : Int) + (a - 97 - 5 * p) = a + 0 by omega, show 18 + 5 * (p : Int) + (a - 97 - 5 * p) = a + -79 by omega] at this
      rw [this, t2 _ (by omega)]
  · intro a ha
    rw [m5 a (by omega), t2 a (by omega)]
theorem lp_pTkW (hq : ∀ g, PTW h g 8 → wp 198 (am_ju 198 16) [aP 95, aP 16, aI 8] [] (sT g) Q) : ∀ (k p : Nat) (g : am_F), p + k = 8 → PTW h g p → wp 198 (am_ju 198 2) [aP 95, aP 16, aI (p : Int)] [] (sT g) Q := by
  intro k
  induction k with
  | zero =>
    intro p g hp hT
    have hp : p = 8 := by omega
    subst hp
    rw [ju_198_2]
    simp only [r_iCONST, r_iST2, r_iLD2, r_bPUSH, r_IC3, r_aLD0, r_gR, r_aALD, r_aLD1, cl_110, r_IINC2, r_GOTO, r_gI, r_pI, r_vRET, eq_self, Int.reduceLT, Int.reduceLE, Int.reduceEq, true_or, or_true, and_self, true_and, and_true, w8_0, w8_1, w8_2, w8_3, w8_4, nl_I, nl_P, nl_X, pu_I, pu_J, pu_V]
    rw [if_pos (by decide)]
    exact hq g hT
  | succ k ih =>
    intro p g hp hT
    have hw : w3 ((p : Int) + 1) = ((p + 1 : Nat) : Int) := w3_id (by omega) (by omega)
    obtain ⟨mp, mp', rp, rp'⟩ := mo_p p (by omega)
    have n2 : (p : Int) < 8 := by omega
    have n0 : (0 : Int) ≤ p := by omega
    have kk : kd 96 = 22 ∨ kd 96 = 23 := Or.inl kd_96
    have kk' : kd 17 = 22 ∨ kd 17 = 23 := Or.inl kd_17
    have kp : kd (97 + 5 * (p : Int)) = 3 := mp.1.1
    have kp' : kd (18 + 5 * (p : Int)) = 3 := mp'.1.1
    have r0 : (0 : Int) ≤ rR 96 p := by rw [rp]; omega
    have r0' : (0 : Int) ≤ rR 17 p := by rw [rp']; omega
    have ih := ih (p + 1) _ (by omega) (PT_sW (by omega) hT)
    rw [ju_198_2]
    simp (disch := first | assumption | omega | exact w8_0 | exact w8_1 _ | exact w8_2 _ _ | exact w8_3 _ _ _ | exact w8_4 _ _ _ _ | exact nl_I _ | exact nl_P _ | exact nl_X | decide | exact w8_5 _ _ _ _ _) only [r_iCONST, r_iST2, r_iLD2, r_bPUSH, r_IC3, r_aLD0, r_gR, r_aALD, r_aLD1, cl_110, r_IINC2, r_GOTO, r_gI, r_pI, r_vRET, eq_self, Int.reduceLT, Int.reduceLE, Int.reduceEq, true_or, or_true, and_self, true_and, and_true, w8_0, w8_1, w8_2, w8_3, w8_4, nl_I, nl_P, nl_X, pu_I, pu_J, pu_V, w3_id, Int.add_zero, kd_95, kd_16, rR_95_0, rR_16_0, kk, kk', r0, r0', rp, rp', ln_96, ln_17, and_self, true_and, kp, kp', s_mTake mp mp', s_mTake mp' mp, hw, n0, n2]
    rw [if_neg (by omega)]
    exact ih
theorem s_wTkW (hq : ∀ h', (∀ a k, lv a k → h' (a + 0) k = h (a + -79) k) → (∀ a, a < 80 ∨ 136 < a → h' a = h a) → Q aV (sT h')) : wp 199 (am_ju 199 0) [aP 80, aP 1] [] (sT h) Q := by
  rw [ju_199_0]
  simp only [r_aLD0, r_gR, r_aLD1, cl_87, cl_72, cl_110, cl_198, r_vRET, eq_self, Int.reduceLT, Int.reduceLE, Int.reduceEq, true_or, or_true, and_self, true_and, and_true, w8_0, w8_1, w8_2, w8_3, w8_4, nl_I, nl_P, nl_X, pu_I, pu_J, pu_V, kd_80, ln_80, rR_80_0, rR_80_1, rR_80_2, rR_80_3, kd_1, ln_1, rR_1_0, rR_1_1, rR_1_2, rR_1_3, kd_81, ln_81, rR_81_0, rR_81_1, rR_81_2, rR_81_3, rR_81_4, rR_81_5, kd_88, ln_88, rR_88_0, kd_90, ln_90, rR_90_0, rR_90_1, rR_90_2, rR_90_3, kd_95, ln_95, rR_95_0, s_gTkW]
  obtain ⟨g1, g2⟩ := gTk_oW (h := h)
  generalize gTkW h = u at g1 g2 ⊢
  simp only [s_wayW, r_aLD0, r_gR, r_aLD1, cl_87, cl_72, cl_110, cl_198, r_vRET, eq_self, Int.reduceLT, Int.reduceLE, Int.reduceEq, true_or, or_true, and_self, true_and, and_true, w8_0, w8_1, w8_2, w8_3, w8_4, nl_I, nl_P, nl_X, pu_I, pu_J, pu_V, kd_80, ln_80, rR_80_0, rR_80_1, rR_80_2, rR_80_3, kd_1, ln_1, rR_1_0, rR_1_1, rR_1_2, rR_1_3, kd_90, ln_90, rR_90_0, rR_90_1, rR_90_2, rR_90_3, kd_95, ln_95, rR_95_0]
  have w1 : ∀ a k, lv a k → 88 ≤ a → a ≤ 89 → up (cpy u 10 0 89 0 20) 88 1 (cpy u 10 0 89 0 20 9 1) (a + 0) k = u (a + -79) k := by
    intro a k hl q1 q2
    have q : (a = 88 ∧ k = 1) ∨ (a = 89 ∧ 0 ≤ k ∧ k < 20) := by unfold lv at hl; omega
    rcases q with ⟨rfl, rfl⟩ | ⟨rfl, k0, k1⟩ <;> simp (disch := first | assumption | decide) only [Int.reduceAdd, Int.reduceNeg, up_k, up_ne, up_s, cpy_hit, cpy_out, ne_eq, Int.reduceEq, not_false_eq_true]
  have w2 : ∀ a, a < 88 ∨ 89 < a → up (cpy u 10 0 89 0 20) 88 1 (cpy u 10 0 89 0 20 9 1) a = u a := fun a ha => by rw [up_ne (by omega), cpy_out (by omega)]
  generalize up (cpy u 10 0 89 0 20) 88 1 (cpy u 10 0 89 0 20 9 1) = v at w1 w2 ⊢
  simp only [s_mTake mo_90 mo_11, r_aLD0, r_gR, r_aLD1, cl_87, cl_72, cl_110, cl_198, r_vRET, eq_self, Int.reduceLT, Int.reduceLE, Int.reduceEq, true_or, or_true, and_self, true_and, and_true, w8_0, w8_1, w8_2, w8_3, w8_4, nl_I, nl_P, nl_X, pu_I, pu_J, pu_V, kd_80, ln_80, rR_80_0, rR_80_1, rR_80_2, rR_80_3, kd_1, ln_1, rR_1_0, rR_1_1, rR_1_2, rR_1_3, kd_90, ln_90, rR_90_0, rR_90_1, rR_90_2, rR_90_3, kd_95, ln_95, rR_95_0]
  have m1 : ∀ a k, lv a k → 90 ≤ a → a ≤ 94 → mTk v 90 11 (a + 0) k = v (a + -79) k := by
    intro a k hl q1 q2
    have := mTk_lv (h := v) (p := 90) (q := 11) (by omega) (a := a - 90) (k := k) (by omega) (by unfold lv at hl; omega)
    rw [show (90 : Int) + (a - 90) = a + 0 by omega, show (11 : Int) + (a - 90) = a + -79 by omega] at this
    exact this
  have m2 : ∀ a, a < 90 ∨ 94 < a → mTk v 90 11 a = v a := fun a ha => (mTk_o (by omega)).2.2.2.2 a (by omega)
  generalize mTk v 90 11 = x at m1 m2 ⊢
  rw [ju_198_0]
  simp only [r_iCONST, r_iST2, r_iLD2, r_bPUSH, r_IC3, r_aLD0, r_gR, r_aALD, r_aLD1, cl_110, r_IINC2, r_GOTO, r_gI, r_pI, r_vRET, eq_self, Int.reduceLT, Int.reduceLE, Int.reduceEq, true_or, or_true, and_self, true_and, and_true, w8_0, w8_1, w8_2, w8_3, w8_4, nl_I, nl_P, nl_X, pu_I, pu_J, pu_V]
  refine lp_pTkW (h := x) (fun g hT => ?_) 8 0 x rfl ⟨fun a k _ q1 q2 => absurd q1 (by omega), fun _ _ => rfl⟩
  obtain ⟨t1, t2⟩ := hT
  rw [ju_198_16]
  simp only [r_iCONST, r_iST2, r_iLD2, r_bPUSH, r_IC3, r_aLD0, r_gR, r_aALD, r_aLD1, cl_110, r_IINC2, r_GOTO, r_gI, r_pI, r_vRET, cl_87, cl_72, cl_198, eq_self, Int.reduceLT, Int.reduceLE, Int.reduceEq, true_or, or_true, and_self, true_and, and_true, w8_0, w8_1, w8_2, w8_3, w8_4, nl_I, nl_P, nl_X, pu_I, pu_J, pu_V, kd_95, kd_16]
  refine hq _ (fun a k hl => ?_) (fun a ha => ?_)
  · have hr : (81 ≤ a ∧ a < 88) ∨ (88 ≤ a ∧ a ≤ 89) ∨ (90 ≤ a ∧ a ≤ 94) ∨ (a = 95 ∧ (k = 1 ∨ k = 2)) ∨ (97 ≤ a ∧ a < 97 + 5 * ((8 : Nat) : Int)) := by unfold lv at hl; omega
    rcases hr with z | z | z | ⟨rfl, rfl | rfl⟩ | z
    · rw [up_ne (by omega), up_ne (by omega), t2 _ (by omega), m2 _ (by omega), w2 _ (by omega)]; exact g1 a k hl z.2
    · rw [up_ne (by omega), up_ne (by omega), t2 _ (by omega), m2 _ (by omega), w1 a k hl z.1 z.2, g2 _ (by omega)]
    · rw [up_ne (by omega), up_ne (by omega), t2 _ (by omega), m1 a k hl z.1 z.2, w2 _ (by omega), g2 _ (by omega)]
    · simp only [Int.reduceAdd, Int.reduceNeg]
      rw [up_k (by decide), up_s, t2 _ (by omega), m2 _ (by omega), w2 _ (by omega), g2 _ (by omega)]
    · simp only [Int.reduceAdd, Int.reduceNeg]
      rw [up_s, up_ne (by omega), t2 _ (by omega), m2 _ (by omega), w2 _ (by omega), g2 _ (by omega)]
    · rw [up_ne (by omega), up_ne (by omega), t1 a k hl z.1 z.2, m2 _ (by omega), w2 _ (by omega), g2 _ (by omega)]
  · rw [up_ne (by omega), up_ne (by omega), t2 _ (by omega), m2 _ (by omega), w2 _ (by omega), g2 _ (by omega)]
end WTW
