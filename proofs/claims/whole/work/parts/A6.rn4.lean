theorem pcr6 : ∀ B : Nat, B < 64 → ∀ k : Nat, k < 6 → B.testBit k = false → B < B ||| 2 ^ k := by decide +kernel
theorem pcs6 : ∀ N : Nat, N < 7 → popc (2 ^ N - 1) = N ∧ ∀ B : Nat, B < 64 → B < 2 ^ N - 1 → popc B < N := by decide +kernel
def gB (N : Nat) (g : Nat → Nat → Int) : Nat → Nat
  | 0 => 0
  | j + 1 => gB N g j ||| 2 ^ fbm N g (N - 1 - j) (gB N g j)
/-- the table of the most worth, from lo on -/
def mtT (h g : am_F) (n lo : Nat) : Prop := ∀ C : Nat, lo ≤ C → C < 2 ^ popc (yR h n) → g 148 C = mx (popc (yR h n)) (gF h n) (popc (yR h n) - popc C) C
theorem mxF_le {B : Nat} {f : Nat → Int} {c : Int} (hc : 0 ≤ c) (hf : ∀ k, f k ≤ c) : ∀ k, mxF B f k ≤ c := by
  intro k
  induction k with
  | zero => exact hc
  | succ k ih => rw [mxF]; split
                 · exact hf k
                 · exact ih
theorem mx_le {N : Nat} {g : Nat → Nat → Int} (hg : ∀ B k, g B k ≤ 99) : ∀ m B, mx N g m B ≤ 99 * m := by
  intro m
  induction m with
  | zero => intro B; exact Int.le_refl _
  | succ m ih =>
    intro B
    rw [mx]
    refine mxF_le (by omega) (fun k => ?_) N
    have := hg B k
    have := ih (B ||| 2 ^ k)
    omega
section RV
variable {g h h' h1 h2 u : am_F} {Q : am_V → am_S → Prop} {so j bj x y z o c w r k t : Int} {n nb L s K nx b m a q B S T i gg l M Z v ch N d : Nat}
theorem gF_r (h8 : n ≤ 8) (hwr : ∀ t : Nat, t < n → 0 ≤ h 86 t ∧ h 86 t ≤ 99) (hk : i < popc (yR h n)) : 0 ≤ gF h n B i ∧ gF h n B i ≤ 99 := by
  have := popc_le (yR h n)
  have m1 := ((mv_ok (yR h n) (yR_lt h8) i (by omega)).1 hk).1
  rw [yR_bit, Bool.and_eq_true, decide_eq_true_eq] at m1
  have := hwr _ m1.1
  unfold gF woR
  split <;> omega
/-- the same, with 0 beyond the last runner -/
def gG (h : am_F) (n B k : Nat) : Int := if k < popc (yR h n) then gF h n B k else 0
theorem mxF_c {B : Nat} {f g : Nat → Int} : ∀ k, (∀ i, i < k → f i = g i) → mxF B f k = mxF B g k := by
  intro k
  induction k with
  | zero => intro _; rfl
  | succ k ih => intro hq; rw [mxF, mxF, ih (fun i hi => hq i (by omega)), hq k (by omega)]
theorem fbF_c {B : Nat} {f g : Nat → Int} : ∀ k, (∀ i, i < k → f i = g i) → fbF B f k = fbF B g k := by
  intro k
  induction k with
  | zero => intro _; rfl
  | succ k ih => intro hq; rw [fbF, fbF, ih (fun i hi => hq i (by omega)), hq k (by omega), mxF_c k (fun i hi => hq i (by omega))]
theorem mx_G : ∀ m B, mx (popc (yR h n)) (gG h n) m B = mx (popc (yR h n)) (gF h n) m B := by
  intro m
  induction m with
  | zero => intro B; rfl
  | succ m ih =>
    intro B
    rw [mx, mx]
    refine mxF_c _ (fun i hi => ?_)
    rw [ih]
    unfold gG
    rw [if_pos hi]
theorem gG_r (h8 : n ≤ 8) (hwr : ∀ t : Nat, t < n → 0 ≤ h 86 t ∧ h 86 t ≤ 99) (B k : Nat) : 0 ≤ gG h n B k ∧ gG h n B k ≤ 99 := by
  unfold gG
  split
  · next e => exact gF_r h8 hwr e
  · omega
theorem mx_r (h8 : n ≤ 8) (hwr : ∀ t : Nat, t < n → 0 ≤ h 86 t ∧ h 86 t ≤ 99) (m B : Nat) : 0 ≤ mx (popc (yR h n)) (gF h n) m B ∧ mx (popc (yR h n)) (gF h n) m B ≤ 99 * m := by
  rw [← mx_G]
  exact ⟨mx_0 m B, mx_le (fun B k => (gG_r h8 hwr B k).2) m B⟩
theorem s_worthBy (h8 : n ≤ 8) (hwr : ∀ t : Nat, t < n → 0 ≤ h 86 t ∧ h 86 t ≤ 99) (hM : popc (yR h n) ≤ 6) (hg : chL h g n) (hB : B < 2 ^ popc (yR h n)) (hk : i < popc (yR h n)) (hfr : B.testBit i = false) {lo : Nat} (hlo : lo ≤ B + 1) (hm : mtT h g n lo) : wp 181 (am_ju 181 0) [aP 145, aI (B : Int), aI (i : Int), aX] [] (sT g) Q ↔ Q (aI (gF h n B i + mx (popc (yR h n)) (gF h n) (popc (yR h n) - popc B - 1) (B ||| 2 ^ i))) (sT g) := by
  have l1 := ln_148
  have k1 := kd_148
  have l2 := ln_146
  have k2 := kd_146
  have l3 := ln_86
  have k3 := kd_86
  have h64 : 2 ^ popc (yR h n) ≤ 2 ^ 6 := Nat.pow_le_pow_right (by decide) hM
  have hB64 : B < 64 := by omega
  have i0 : (0 : Int) ≤ i := by omega
  have i6 : (i : Int) < 6 := by omega
  have h2i : 2 ^ i < 2 ^ 6 := Nat.pow_lt_pow_right (by decide) (by omega)
  have eo : bOr (B : Int) (bShl 1 (i : Int)) = ((B ||| 2 ^ i : Nat) : Int) := by
    have := bShl_n 1 i (by omega) (by omega)
    rw [Nat.one_mul] at this
    rw [show bShl 1 (i : Int) = ((2 ^ i : Nat) : Int) from this, bOr_n _ _ (by omega) (by omega)]
  have hgt := pcr6 B hB64 i (by omega) hfr
  have hpc := (pcq6 B hB64 i (by omega)).1 hfr
  have hlt : B ||| 2 ^ i < 2 ^ popc (yR h n) := Nat.or_lt_two_pow hB (Nat.pow_lt_pow_right (by decide) hk)
  have em : g 148 ((B ||| 2 ^ i : Nat) : Int) = mx (popc (yR h n)) (gF h n) (popc (yR h n) - popc B - 1) (B ||| 2 ^ i) := by
    rw [hm _ (by omega) hlt, hpc, Nat.sub_add_eq]
  have gi := (hg.2.2 i hk).1
  have mk := ((mv_ok (yR h n) (yR_lt h8) i (by omega)).1 hk)
  have mk8 : (mvN (yR h n) i : Int) < 8 := by omega
  have hmr := mx_r (h := h) h8 hwr (popc (yR h n) - popc B - 1) (B ||| 2 ^ i)
  have hgr := gF_r (B := B) h8 hwr hk
  have o0 : (0 : Int) ≤ ((B ||| 2 ^ i : Nat) : Int) := by omega
  have o64 : ((B ||| 2 ^ i : Nat) : Int) < 64 := by omega
  have g86 : g 86 = h 86 := hg.1 86 (by decide)
  rw [ju_181_0]
  simp (disch := first | assumption | omega | exact w8_0 | exact w8_1 _ | exact w8_2 _ _ | exact w8_3 _ _ _ | exact w8_4 _ _ _ _ | exact nl_I _ | exact nl_P _ | exact nl_X | decide | exact w8_5 _ _ _ _ _) only [r_aLD0, r_gR, r_iLD1, r_iCONST, r_iLD2, r_iSHL, r_iOR, r_iALDc, r_iALDs, r_iST3, cl_180, r_IF0, r_iLD3, r_iADD, r_GOTO, r_iRET, eq_self, Int.reduceLT, Int.reduceLE, Int.reduceEq, true_or, or_true, and_self, true_and, and_true, w8_0, w8_1, w8_2, w8_3, w8_4, nl_I, nl_P, nl_X, pu_I, pu_J, pu_V, w3_id, Int.add_zero, kd_145, rR_145_4, eo, em, s_isHad hM hg hB64 hk]
  by_cases e : had (faR h n) (popc (yR h n)) B i
  · have eg : gF h n B i = woR h n i := by unfold gF; rw [if_pos e]
    have ew : g 86 (mvN (yR h n) i : Int) = woR h n i := by rw [g86]; rfl
    rw [if_neg (by simp [e])]
    simp (disch := first | assumption | omega | exact w8_0 | exact w8_1 _ | exact w8_2 _ _ | exact w8_3 _ _ _ | exact w8_4 _ _ _ _ | exact nl_I _ | exact nl_P _ | exact nl_X | decide | exact w8_5 _ _ _ _ _) only [r_aLD0, r_gR, r_iLD1, r_iCONST, r_iLD2, r_iSHL, r_iOR, r_iALDc, r_iALDs, r_iST3, cl_180, r_IF0, r_iLD3, r_iADD, r_GOTO, r_iRET, eq_self, Int.reduceLT, Int.reduceLE, Int.reduceEq, true_or, or_true, and_self, true_and, and_true, w8_0, w8_1, w8_2, w8_3, w8_4, nl_I, nl_P, nl_X, pu_I, pu_J, pu_V, w3_id, Int.add_zero, kd_145, kd_80, kd_81, rR_145_0, rR_145_1, rR_80_0, rR_81_4, gi, ew, ju_181_27]
    rw [eg, Int.add_comm]
  · have eg : gF h n B i = 0 := by unfold gF; rw [if_neg e]
    rw [if_pos (by simp [e]), eg, Int.zero_add]
    simp only [ju_181_26, ju_181_27, r_aLD0, r_gR, r_iLD1, r_iCONST, r_iLD2, r_iSHL, r_iOR, r_iALD, r_iALDs, r_iST3, cl_180, r_IF0, r_iLD3, r_iADD, r_GOTO, r_iRET, eq_self, Int.reduceLT, Int.reduceLE, Int.reduceEq, true_or, or_true, and_self, true_and, and_true, w8_0, w8_1, w8_2, w8_3, w8_4, nl_I, nl_P, nl_X, pu_I, pu_J, pu_V]
theorem lp_fo1 (h8 : n ≤ 8) (hwr : ∀ t : Nat, t < n → 0 ≤ h 86 t ∧ h 86 t ≤ 99) (hM : popc (yR h n) ≤ 6) (hg : chL h g n) (hB : B < 2 ^ popc (yR h n)) (hm : mtT h g n (B + 1)) {v1 : Int} : ∀ (d i : Nat), i + d = popc (yR h n) → (wp 182 (am_ju 182 24) [aP 145, aI v1, aI (B : Int), aI (mxF B (fun k => gF h n B k + mx (popc (yR h n)) (gF h n) (popc (yR h n) - popc B - 1) (B ||| 2 ^ k)) i), aI (i : Int)] [] (sT g) Q ↔ wp 182 (am_ju 182 41) [aP 145, aI v1, aI (B : Int), aI (mxF B (fun k => gF h n B k + mx (popc (yR h n)) (gF h n) (popc (yR h n) - popc B - 1) (B ||| 2 ^ k)) (popc (yR h n))), aI (popc (yR h n) : Int)] [] (sT g) Q) := by
  intro d
  have h64 : 2 ^ popc (yR h n) ≤ 2 ^ 6 := Nat.pow_le_pow_right (by decide) hM
  induction d with
  | zero =>
    intro i hi
    have hi : i = popc (yR h n) := by omega
    subst hi
    rw [ju_182_24]
    simp only [r_aLD0, cl_179, r_iCONST, r_gI, r_iSHL, r_iSUB, r_iST1, r_gR, r_iLD1, r_iAST, r_iST2, r_iLD2, r_IF2, r_iST3, r_iST4, r_iLD4, r_IC3, cl_29, r_IF1, r_iLD3, cl_181, r_MMAX, r_IINC4, r_GOTO, r_IINC2, r_vRET, eq_self, Int.reduceLT, Int.reduceLE, Int.reduceEq, true_or, or_true, and_self, true_and, and_true, w8_0, w8_1, w8_2, w8_3, w8_4, nl_I, nl_P, nl_X, pu_I, pu_J, pu_V, kd_145, hg.2.1]
    rw [if_pos (by omega)]
  | succ d ih =>
    intro i hi
    have hw : w3 ((i : Int) + 1) = ((i + 1 : Nat) : Int) := w3_id (by omega) (by omega)
    have ih := ih (i + 1) (by omega)
    rw [mxF] at ih
    rw [ju_182_24]
    simp only [r_aLD0, cl_179, r_iCONST, r_gI, r_iSHL, r_iSUB, r_iST1, r_gR, r_iLD1, r_iAST, r_iST2, r_iLD2, r_IF2, r_iST3, r_iST4, r_iLD4, r_IC3, cl_29, r_IF1, r_iLD3, cl_181, r_MMAX, r_IINC4, r_GOTO, r_IINC2, r_vRET, eq_self, Int.reduceLT, Int.reduceLE, Int.reduceEq, true_or, or_true, and_self, true_and, and_true, w8_0, w8_1, w8_2, w8_3, w8_4, nl_I, nl_P, nl_X, pu_I, pu_J, pu_V, kd_145, hg.2.1, s_has (show B < 2 ^ 31 by omega) (show i < 31 by omega), b01]
    rw [if_neg (by omega)]
    cases e : B.testBit i with
    | true =>
      rw [if_neg (fun q => by rw [e] at q; cases q.1)] at ih
      simp only [if_true, Int.reduceEq, not_false_eq_true, ju_182_39, r_aLD0, cl_179, r_iCONST, r_gI, r_iSHL, r_iSUB, r_iST1, r_gR, r_iLD1, r_iAST, r_iST2, r_iLD2, r_IF2, r_iST3, r_iST4, r_iLD4, r_IC3, cl_29, r_IF1, r_iLD3, cl_181, r_MMAX, r_IINC4, r_GOTO, r_IINC2, r_vRET, eq_self, Int.reduceLT, Int.reduceLE, Int.reduceEq, true_or, or_true, and_self, true_and, and_true, w8_0, w8_1, w8_2, w8_3, w8_4, nl_I, nl_P, nl_X, pu_I, pu_J, pu_V, hw]
      exact ih
    | false =>
      simp only [Bool.false_eq_true, if_false, not_true_eq_false]
      simp only [s_worthBy h8 hwr hM hg hB (show i < popc (yR h n) by omega) e (Nat.le_refl _) hm, ju_182_39, r_aLD0, cl_179, r_iCONST, r_gI, r_iSHL, r_iSUB, r_iST1, r_gR, r_iLD1, r_iAST, r_iST2, r_iLD2, r_IF2, r_iST3, r_iST4, r_iLD4, r_IC3, cl_29, r_IF1, r_iLD3, cl_181, r_MMAX, r_IINC4, r_GOTO, r_IINC2, r_vRET, eq_self, Int.reduceLT, Int.reduceLE, Int.reduceEq, true_or, or_true, and_self, true_and, and_true, w8_0, w8_1, w8_2, w8_3, w8_4, nl_I, nl_P, nl_X, pu_I, pu_J, pu_V, kd_145, hw]
      rw [e] at ih
      simp only [true_and] at ih
      exact ih
theorem lp_fo2 (h8 : n ≤ 8) (hwr : ∀ t : Nat, t < n → 0 ≤ h 86 t ∧ h 86 t ≤ 99) (hM : popc (yR h n) ≤ 6) (hq : ∀ g, chL h g n → mtT h g n 0 → Q aV (sT g)) {v1 : Int} : ∀ (d : Nat) (g : am_F) (v3 v4 : am_V), d ≤ 2 ^ popc (yR h n) - 1 → am_nl v3 = true → am_nl v4 = true → chL h g n → mtT h g n d → wp 182 (am_ju 182 18) [aP 145, aI v1, aI ((d : Int) - 1), v3, v4] [] (sT g) Q := by
  intro d
  have l1 := ln_148
  have k1 := kd_148
  have h64 : 2 ^ popc (yR h n) ≤ 2 ^ 6 := Nat.pow_le_pow_right (by decide) hM
  induction d with
  | zero =>
    intro g v3 v4 hd h3 h4 hg hm
    rw [ju_182_18]
    simp only [ju_182_48, r_aLD0, cl_179, r_iCONST, r_gI, r_iSHL, r_iSUB, r_iST1, r_gR, r_iLD1, r_iAST, r_iST2, r_iLD2, r_IF2, r_iST3, r_iST4, r_iLD4, r_IC3, cl_29, r_IF1, r_iLD3, cl_181, r_MMAX, r_IINC4, r_GOTO, r_IINC2, r_vRET, eq_self, Int.reduceLT, Int.reduceLE, Int.reduceEq, true_or, or_true, and_self, true_and, and_true, w8_0, w8_1, w8_2, w8_3, w8_4, nl_I, nl_P, nl_X, pu_I, pu_J, pu_V]
    rw [if_pos (by omega)]
    exact hq g hg hm
  | succ d ih =>
    intro g v3 v4 hd h3 h4 hg hm
    have e1 : ((d + 1 : Nat) : Int) - 1 = (d : Int) := by omega
    have hwm : w3 ((d : Int) + -1) = (d : Int) - 1 := by rw [w3_id (by omega) (by omega)]; omega
    have hpd := (pcs6 (popc (yR h n)) (by omega)).2 d (by omega) (by omega)
    have d0 : (0 : Int) ≤ d := by omega
    have d64 : (d : Int) < 64 := by omega
    rw [e1, ju_182_18]
    simp (disch := first | assumption | omega | decide | exact nl_I _) only [r_aLD0, cl_179, r_iCONST, r_gI, r_iSHL, r_iSUB, r_iST1, r_gR, r_iLD1, r_iAST, r_iST2, r_iLD2, r_IF2, r_iST3, r_iST4, r_iLD4, r_IC3, cl_29, r_IF1, r_iLD3, cl_181, r_MMAX, r_IINC4, r_GOTO, r_IINC2, r_vRET, eq_self, Int.reduceLT, Int.reduceLE, Int.reduceEq, true_or, or_true, and_self, true_and, and_true, w8_0, w8_1, w8_2, w8_3, w8_4, nl_I, nl_P, nl_X, pu_I, pu_J, pu_V, h3]
    rw [if_neg (by omega)]
    refine (lp_fo1 h8 hwr hM hg (by omega) hm (popc (yR h n)) 0 (Nat.zero_add _)).mpr ?_
    rw [ju_182_41]
    simp (disch := first | assumption | omega | exact w8_0 | exact w8_1 _ | exact w8_2 _ _ | exact w8_3 _ _ _ | exact w8_4 _ _ _ _ | exact nl_I _ | exact nl_P _ | exact nl_X | decide | exact w8_5 _ _ _ _ _) only [r_aLD0, cl_179, r_iCONST, r_gI, r_iSHL, r_iSUB, r_iST1, r_gR, r_iLD1, r_iASTc, r_iST2, r_iLD2, r_IF2, r_iST3, r_iST4, r_iLD4, r_IC3, cl_29, r_IF1, r_iLD3, cl_181, r_MMAX, r_IINC4, r_GOTO, r_IINC2, r_vRET, eq_self, Int.reduceLT, Int.reduceLE, Int.reduceEq, true_or, or_true, and_self, true_and, and_true, w8_0, w8_1, w8_2, w8_3, w8_4, nl_I, nl_P, nl_X, pu_I, pu_J, pu_V, w3_id, Int.add_zero, kd_145, rR_145_4, hwm]
    refine ih _ _ _ (by omega) rfl rfl ⟨fun a ha => by rw [up_ne (by omega), hg.1 a ha], by rw [up_ne (by decide)]; exact hg.2.1, fun k hk => by rw [up_ne (by decide), up_ne (by decide)]; exact hg.2.2 k hk⟩ (fun C q1 q2 => ?_)
    by_cases z : C = d
    · subst z
      rw [up_s, show popc (yR h n) - popc C = (popc (yR h n) - popc C - 1) + 1 by omega, mx]
      rfl
    · rw [up_k (by omega)]
      exact hm C (by omega) q2
theorem s_findOrder (h8 : n ≤ 8) (hn : h 81 7 = (n : Int)) (hwh : ∀ t : Nat, t < n → 0 ≤ h 94 t ∧ h 94 t ≤ 40) (hwr : ∀ t : Nat, t < n → 0 ≤ h 86 t ∧ h 86 t ≤ 99) (hM : popc (yR h n) ≤ 6) (hq : ∀ g, chL h g n → mtT h g n 0 → Q aV (sT g)) : wp 182 (am_ju 182 0) [aP 145, aX, aX, aX, aX] [] (sT h) Q := by
  have l1 := ln_148
  have k1 := kd_148
  have h64 : 2 ^ popc (yR h n) ≤ 2 ^ 6 := Nat.pow_le_pow_right (by decide) hM
  have hp : 0 < 2 ^ popc (yR h n) := Nat.two_pow_pos _
  have es : bShl 1 (popc (yR h n) : Int) = ((2 ^ popc (yR h n) : Nat) : Int) := by
    have := bShl_n 1 (popc (yR h n)) (by omega) (by omega)
    rw [Nat.one_mul] at this
    exact this
  have hw1 : ((2 ^ popc (yR h n) : Nat) : Int) - 1 = ((2 ^ popc (yR h n) - 1 : Nat) : Int) := by omega
  have a0 : (0 : Int) ≤ ((2 ^ popc (yR h n) - 1 : Nat) : Int) := by omega
  have a64 : ((2 ^ popc (yR h n) - 1 : Nat) : Int) < 64 := by omega
  rw [ju_182_0]
  simp only [r_aLD0, cl_179, r_iCONST, r_gI, r_iSHL, r_iSUB, r_iST1, r_gR, r_iLD1, r_iAST, r_iST2, r_iLD2, r_IF2, r_iST3, r_iST4, r_iLD4, r_IC3, cl_29, r_IF1, r_iLD3, cl_181, r_MMAX, r_IINC4, r_GOTO, r_IINC2, r_vRET, eq_self, Int.reduceLT, Int.reduceLE, Int.reduceEq, true_or, or_true, and_self, true_and, and_true, w8_0, w8_1, w8_2, w8_3, w8_4, nl_I, nl_P, nl_X, pu_I, pu_J, pu_V, kd_145]
  refine s_runners h8 hn hwh hM (fun g hg => ?_)
  simp (disch := first | assumption | omega | exact w8_0 | exact w8_1 _ | exact w8_2 _ _ | exact w8_3 _ _ _ | exact w8_4 _ _ _ _ | exact nl_I _ | exact nl_P _ | exact nl_X | decide | exact w8_5 _ _ _ _ _) only [r_aLD0, cl_179, r_iCONST, r_gI, r_iSHL, r_iSUB, r_iST1, r_gR, r_iLD1, r_iASTc, r_iST2, r_iLD2, r_IF2, r_iST3, r_iST4, r_iLD4, r_IC3, cl_29, r_IF1, r_iLD3, cl_181, r_MMAX, r_IINC4, r_GOTO, r_IINC2, r_vRET, eq_self, Int.reduceLT, Int.reduceLE, Int.reduceEq, true_or, or_true, and_self, true_and, and_true, w8_0, w8_1, w8_2, w8_3, w8_4, nl_I, nl_P, nl_X, pu_I, pu_J, pu_V, w3_id, Int.add_zero, kd_145, rR_145_4, hg.2.1, es, hw1]
  refine lp_fo2 h8 hwr hM hq (2 ^ popc (yR h n) - 1) _ aX aX (Nat.le_refl _) rfl rfl ⟨fun a ha => by rw [up_ne (by omega), hg.1 a ha], by rw [up_ne (by decide)]; exact hg.2.1, fun k hk => by rw [up_ne (by decide), up_ne (by decide)]; exact hg.2.2 k hk⟩ (fun C q1 q2 => ?_)
  have e : C = 2 ^ popc (yR h n) - 1 := by omega
  subst e
  rw [up_s, (pcs6 (popc (yR h n)) (by omega)).1, Nat.sub_self]
  rfl
end RV
