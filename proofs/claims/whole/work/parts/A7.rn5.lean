section RW2
variable {g h h' h1 h2 u : am_F} {Q : am_V → am_S → Prop} {so j bj x y z o c w r k t : Int} {n nb L s K nx b m a q B S T i gg l M Z v ch N d : Nat}
theorem fbm_G (m B : Nat) : fbm (popc (yR h n)) (gG h n) m B = fbm (popc (yR h n)) (gF h n) m B := by
  unfold fbm
  refine fbF_c _ (fun i hi => ?_)
  rw [mx_G]
  unfold gG
  rw [if_pos hi]
theorem fbm_ok (h8 : n ≤ 8) (hwr : ∀ t : Nat, t < n → 0 ≤ h 86 t ∧ h 86 t ≤ 99) (hM : popc (yR h n) ≤ 6) (hB : B < 2 ^ popc (yR h n)) (hp : popc B < popc (yR h n)) : fbm (popc (yR h n)) (gF h n) m B < popc (yR h n) ∧ B.testBit (fbm (popc (yR h n)) (gF h n) m B) = false ∧ gF h n B (fbm (popc (yR h n)) (gF h n) m B) + mx (popc (yR h n)) (gF h n) m (B ||| 2 ^ fbm (popc (yR h n)) (gF h n) m B) = mx (popc (yR h n)) (gF h n) (m + 1) B ∧ ∀ i, i < fbm (popc (yR h n)) (gF h n) m B → B.testBit i = false → gF h n B i + mx (popc (yR h n)) (gF h n) m (B ||| 2 ^ i) < mx (popc (yR h n)) (gF h n) (m + 1) B := by
  have h64 : 2 ^ popc (yR h n) ≤ 2 ^ 6 := Nat.pow_le_pow_right (by decide) hM
  have hex := ex_6 (popc (yR h n)) (by omega) B (by omega) hB hp
  have := fbF_ok (B := B) (f := fun k => gG h n B k + mx (popc (yR h n)) (gG h n) m (B ||| 2 ^ k)) (fun k => by
    have := (gG_r h8 hwr B k).1
    have := mx_0 (N := popc (yR h n)) (g := gG h n) m (B ||| 2 ^ k)
    show 0 ≤ gG h n B k + mx (popc (yR h n)) (gG h n) m (B ||| 2 ^ k)
    omega) (popc (yR h n)) hex
  have e1 : fbF B (fun k => gG h n B k + mx (popc (yR h n)) (gG h n) m (B ||| 2 ^ k)) (popc (yR h n)) = fbm (popc (yR h n)) (gF h n) m B := by rw [← fbm_G]; rfl
  have e2 : mxF B (fun k => gG h n B k + mx (popc (yR h n)) (gG h n) m (B ||| 2 ^ k)) (popc (yR h n)) = mx (popc (yR h n)) (gF h n) (m + 1) B := by rw [← mx_G]; rfl
  rw [e1, e2] at this
  obtain ⟨a1, a2, a3, a4, -⟩ := this
  refine ⟨a1, a2, ?_, fun i hi hb => ?_⟩
  · rw [← a3]
    show _ = gG h n B _ + mx (popc (yR h n)) (gG h n) m _
    rw [mx_G]
    unfold gG
    rw [if_pos a1]
  · have := a4 i hi hb
    have e3 : gG h n B i + mx (popc (yR h n)) (gG h n) m (B ||| 2 ^ i) = gF h n B i + mx (popc (yR h n)) (gF h n) m (B ||| 2 ^ i) := by
      rw [mx_G]
      unfold gG
      rw [if_pos (by omega)]
    rw [← e3]
    exact this
theorem lp_fb (h8 : n ≤ 8) (hwr : ∀ t : Nat, t < n → 0 ≤ h 86 t ∧ h 86 t ≤ 99) (hM : popc (yR h n) ≤ 6) (hg : chL h g n) (hm : mtT h g n 0) (hB : B < 2 ^ popc (yR h n)) (hp : popc B < popc (yR h n)) : ∀ (d i : Nat), i + d = fbm (popc (yR h n)) (gF h n) (popc (yR h n) - popc B - 1) B → (wp 183 (am_ju 183 2) [aP 145, aI (B : Int), aI (i : Int)] [] (sT g) Q ↔ Q (aI (fbm (popc (yR h n)) (gF h n) (popc (yR h n) - popc B - 1) B : Int)) (sT g)) := by
  intro d
  have l1 := ln_148
  have k1 := kd_148
  have h64 : 2 ^ popc (yR h n) ≤ 2 ^ 6 := Nat.pow_le_pow_right (by decide) hM
  obtain ⟨f1, f2, f3, f4⟩ := fbm_ok (m := popc (yR h n) - popc B - 1) h8 hwr hM hB hp
  rw [show popc (yR h n) - popc B - 1 + 1 = popc (yR h n) - popc B by omega] at f3 f4
  have em : g 148 (B : Int) = mx (popc (yR h n)) (gF h n) (popc (yR h n) - popc B) B := hm B (Nat.zero_le _) hB
  have b0 : (0 : Int) ≤ B := by omega
  have b64 : (B : Int) < 64 := by omega
  have wb := fun i hi hf Q' => s_worthBy (g := g) (Q := Q') (i := i) h8 hwr hM hg hB hi hf (Nat.zero_le _) hm
  generalize hfb : fbm (popc (yR h n)) (gF h n) (popc (yR h n) - popc B - 1) B = fb at *
  induction d with
  | zero =>
    intro i hi
    have hi : i = fb := by omega
    subst hi
    rw [ju_183_2]
    simp only [r_iCONST, r_iST2, r_iLD2, r_aLD0, r_gI, r_IC3, r_iLD1, cl_29, r_IF1, cl_181, r_gR, r_iALD, r_iALDs, r_IC1, r_iRET, r_IINC2, r_GOTO, eq_self, Int.reduceLT, Int.reduceLE, Int.reduceEq, true_or, or_true, and_self, true_and, and_true, w8_0, w8_1, w8_2, w8_3, w8_4, nl_I, nl_P, nl_X, pu_I, pu_J, pu_V, kd_145, hg.2.1, s_has (show B < 2 ^ 31 by omega) (show i < 31 by omega), b01, f2, Bool.false_eq_true, if_false, not_true_eq_false]
    rw [if_neg (by omega)]
    simp only [wb i f1 f2, r_iCONST, r_iST2, r_iLD2, r_aLD0, r_gI, r_IC3, r_iLD1, cl_29, r_IF1, cl_181, r_gR, r_iALD, r_iALDs, r_IC1, r_iRET, r_IINC2, r_GOTO, eq_self, Int.reduceLT, Int.reduceLE, Int.reduceEq, true_or, or_true, and_self, true_and, and_true, w8_0, w8_1, w8_2, w8_3, w8_4, nl_I, nl_P, nl_X, pu_I, pu_J, pu_V, kd_145, rR_145_4]
    simp (disch := first | assumption | omega | exact w8_0 | exact w8_1 _ | exact w8_2 _ _ | exact w8_3 _ _ _ | exact w8_4 _ _ _ _ | exact nl_I _ | exact nl_P _ | exact nl_X | decide | exact w8_5 _ _ _ _ _) only [r_iCONST, r_iST2, r_iLD2, r_aLD0, r_gI, r_IC3, r_iLD1, cl_29, r_IF1, cl_181, r_gR, r_iALDc, r_iALDs, r_IC1, r_iRET, r_IINC2, r_GOTO, eq_self, Int.reduceLT, Int.reduceLE, Int.reduceEq, true_or, or_true, and_self, true_and, and_true, w8_0, w8_1, w8_2, w8_3, w8_4, nl_I, nl_P, nl_X, pu_I, pu_J, pu_V, w3_id, Int.add_zero, em, f3]
    simp
  | succ d ih =>
    intro i hi
    have hw : w3 ((i : Int) + 1) = ((i + 1 : Nat) : Int) := w3_id (by omega) (by omega)
    have ih := ih (i + 1) (by omega)
    rw [ju_183_2]
    simp only [r_iCONST, r_iST2, r_iLD2, r_aLD0, r_gI, r_IC3, r_iLD1, cl_29, r_IF1, cl_181, r_gR, r_iALD, r_iALDs, r_IC1, r_iRET, r_IINC2, r_GOTO, eq_self, Int.reduceLT, Int.reduceLE, Int.reduceEq, true_or, or_true, and_self, true_and, and_true, w8_0, w8_1, w8_2, w8_3, w8_4, nl_I, nl_P, nl_X, pu_I, pu_J, pu_V, kd_145, hg.2.1, s_has (show B < 2 ^ 31 by omega) (show i < 31 by omega), b01]
    rw [if_neg (by omega)]
    cases e : B.testBit i with
    | true =>
      simp only [if_true, Int.reduceEq, not_false_eq_true, ju_183_21, r_iCONST, r_iST2, r_iLD2, r_aLD0, r_gI, r_IC3, r_iLD1, cl_29, r_IF1, cl_181, r_gR, r_iALD, r_iALDs, r_IC1, r_iRET, r_IINC2, r_GOTO, eq_self, Int.reduceLT, Int.reduceLE, Int.reduceEq, true_or, or_true, and_self, true_and, and_true, w8_0, w8_1, w8_2, w8_3, w8_4, nl_I, nl_P, nl_X, pu_I, pu_J, pu_V, hw]
      exact ih
    | false =>
      have hlt := f4 i (by omega) e
      simp only [Bool.false_eq_true, if_false, not_true_eq_false]
      simp only [wb i (by omega) e, r_iCONST, r_iST2, r_iLD2, r_aLD0, r_gI, r_IC3, r_iLD1, cl_29, r_IF1, cl_181, r_gR, r_iALD, r_iALDs, r_IC1, r_iRET, r_IINC2, r_GOTO, eq_self, Int.reduceLT, Int.reduceLE, Int.reduceEq, true_or, or_true, and_self, true_and, and_true, w8_0, w8_1, w8_2, w8_3, w8_4, nl_I, nl_P, nl_X, pu_I, pu_J, pu_V, kd_145, rR_145_4]
      simp (disch := first | assumption | omega | exact w8_0 | exact w8_1 _ | exact w8_2 _ _ | exact w8_3 _ _ _ | exact w8_4 _ _ _ _ | exact nl_I _ | exact nl_P _ | exact nl_X | decide | exact w8_5 _ _ _ _ _) only [r_iCONST, r_iST2, r_iLD2, r_aLD0, r_gI, r_IC3, r_iLD1, cl_29, r_IF1, cl_181, r_gR, r_iALDc, r_iALDs, r_IC1, r_iRET, r_IINC2, r_GOTO, eq_self, Int.reduceLT, Int.reduceLE, Int.reduceEq, true_or, or_true, and_self, true_and, and_true, w8_0, w8_1, w8_2, w8_3, w8_4, nl_I, nl_P, nl_X, pu_I, pu_J, pu_V, w3_id, Int.add_zero, em]
      rw [if_pos (Int.ne_of_lt hlt), ju_183_21]
      simp only [r_iCONST, r_iST2, r_iLD2, r_aLD0, r_gI, r_IC3, r_iLD1, cl_29, r_IF1, cl_181, r_gR, r_iALD, r_iALDs, r_IC1, r_iRET, r_IINC2, r_GOTO, eq_self, Int.reduceLT, Int.reduceLE, Int.reduceEq, true_or, or_true, and_self, true_and, and_true, w8_0, w8_1, w8_2, w8_3, w8_4, nl_I, nl_P, nl_X, pu_I, pu_J, pu_V, hw]
      exact ih
theorem s_fb (h8 : n ≤ 8) (hwr : ∀ t : Nat, t < n → 0 ≤ h 86 t ∧ h 86 t ≤ 99) (hM : popc (yR h n) ≤ 6) (hg : chL h g n) (hm : mtT h g n 0) (hB : B < 2 ^ popc (yR h n)) (hp : popc B < popc (yR h n)) : wp 183 (am_ju 183 0) [aP 145, aI (B : Int), aX] [] (sT g) Q ↔ Q (aI (fbm (popc (yR h n)) (gF h n) (popc (yR h n) - popc B - 1) B : Int)) (sT g) := by
  rw [ju_183_0]
  simp only [r_iCONST, r_iST2, r_iLD2, r_aLD0, r_gI, r_IC3, r_iLD1, cl_29, r_IF1, cl_181, r_gR, r_iALD, r_iALDs, r_IC1, r_iRET, r_IINC2, r_GOTO, eq_self, Int.reduceLT, Int.reduceLE, Int.reduceEq, true_or, or_true, and_self, true_and, and_true, w8_0, w8_1, w8_2, w8_3, w8_4, nl_I, nl_P, nl_X, pu_I, pu_J, pu_V]
  exact lp_fb h8 hwr hM hg hm hB hp _ 0 (Nat.zero_add _)
theorem gB_ok (h8 : n ≤ 8) (hwr : ∀ t : Nat, t < n → 0 ≤ h 86 t ∧ h 86 t ≤ 99) (hM : popc (yR h n) ≤ 6) : ∀ j, j ≤ popc (yR h n) → gB (popc (yR h n)) (gF h n) j < 2 ^ popc (yR h n) ∧ popc (gB (popc (yR h n)) (gF h n) j) = j := by
  intro j
  have h64 : 2 ^ popc (yR h n) ≤ 2 ^ 6 := Nat.pow_le_pow_right (by decide) hM
  induction j with
  | zero => intro _; exact ⟨Nat.two_pow_pos _, popc_0⟩
  | succ j ih =>
    intro hj
    obtain ⟨i1, i2⟩ := ih (by omega)
    obtain ⟨f1, f2, -, -⟩ := fbm_ok (m := popc (yR h n) - 1 - j) h8 hwr hM i1 (by omega)
    rw [gB]
    refine ⟨Nat.or_lt_two_pow i1 (Nat.pow_lt_pow_right (by decide) f1), ?_⟩
    rw [(pcq6 _ (by omega) _ (by omega)).1 f2, i2]
theorem lp_thAt (h8 : n ≤ 8) (hwr : ∀ t : Nat, t < n → 0 ≤ h 86 t ∧ h 86 t ≤ 99) (hM : popc (yR h n) ≤ 6) (hg : chL h g n) (hm : mtT h g n 0) (hi : i < popc (yR h n)) : ∀ (d j : Nat), j + d = i → (wp 184 (am_ju 184 12) [aP 145, aI (i : Int), aI (gB (popc (yR h n)) (gF h n) j : Int), aI (j : Int)] [] (sT g) Q ↔ Q (aI (mvN (yR h n) (fbm (popc (yR h n)) (gF h n) (popc (yR h n) - 1 - i) (gB (popc (yR h n)) (gF h n) i)) : Int)) (sT g)) := by
  intro d
  have l1 := ln_146
  have k1 := kd_146
  have h64 : 2 ^ popc (yR h n) ≤ 2 ^ 6 := Nat.pow_le_pow_right (by decide) hM
  induction d with
  | zero =>
    intro j hj
    have hj : j = i := by omega
    subst hj
    obtain ⟨g1, g2⟩ := gB_ok h8 hwr hM j (by omega)
    have fb := fun Q' => s_fb (g := g) (Q := Q') h8 hwr hM hg hm g1 (by omega)
    rw [g2, show popc (yR h n) - j - 1 = popc (yR h n) - 1 - j by omega] at fb
    have f1 := (fbm_ok (m := popc (yR h n) - 1 - j) h8 hwr hM g1 (by omega)).1
    have gi := (hg.2.2 _ f1).1
    rw [ju_184_12]
    simp only [ju_184_25, r_iLD1, r_IF2, r_aLD0, r_gI, r_IC2, r_bPUSH, r_iRET, r_iCONST, r_iST2, r_iST3, r_iLD3, r_IC3, r_iLD2, cl_183, r_iSHL, r_iOR, r_IINC3, r_GOTO, r_gR, r_iALD, r_iALDs, eq_self, Int.reduceLT, Int.reduceLE, Int.reduceEq, true_or, or_true, and_self, true_and, and_true, w8_0, w8_1, w8_2, w8_3, w8_4, nl_I, nl_P, nl_X, pu_I, pu_J, pu_V, kd_145, rR_145_1, fb]
    rw [if_pos (by omega)]
    generalize fbm (popc (yR h n)) (gF h n) (popc (yR h n) - 1 - j) (gB (popc (yR h n)) (gF h n) j) = fbv at *
    simp (disch := first | assumption | omega | exact w8_0 | exact w8_1 _ | exact w8_2 _ _ | exact w8_3 _ _ _ | exact w8_4 _ _ _ _ | exact nl_I _ | exact nl_P _ | exact nl_X | decide | exact w8_5 _ _ _ _ _) only [r_iLD1, r_IF2, r_aLD0, r_gI, r_IC2, r_bPUSH, r_iRET, r_iCONST, r_iST2, r_iST3, r_iLD3, r_IC3, r_iLD2, cl_183, r_iSHL, r_iOR, r_IINC3, r_GOTO, r_gR, r_iALDc, r_iALDs, eq_self, Int.reduceLT, Int.reduceLE, Int.reduceEq, true_or, or_true, and_self, true_and, and_true, w8_0, w8_1, w8_2, w8_3, w8_4, nl_I, nl_P, nl_X, pu_I, pu_J, pu_V, w3_id, Int.add_zero, gi]
    first | exact and_iff_right ⟨by omega, by omega⟩ | exact Iff.rfl | skip
  | succ d ih =>
    intro j hj
    obtain ⟨g1, g2⟩ := gB_ok h8 hwr hM j (by omega)
    have fb := fun Q' => s_fb (g := g) (Q := Q') h8 hwr hM hg hm g1 (by omega)
    rw [g2, show popc (yR h n) - j - 1 = popc (yR h n) - 1 - j by omega] at fb
    have f1 := (fbm_ok (m := popc (yR h n) - 1 - j) h8 hwr hM g1 (by omega)).1
    have hw : w3 ((j : Int) + 1) = ((j + 1 : Nat) : Int) := w3_id (by omega) (by omega)
    have h2i : 2 ^ fbm (popc (yR h n)) (gF h n) (popc (yR h n) - 1 - j) (gB (popc (yR h n)) (gF h n) j) < 2 ^ 6 := Nat.pow_lt_pow_right (by decide) (by omega)
    have eo : bOr (gB (popc (yR h n)) (gF h n) j : Int) (bShl 1 (fbm (popc (yR h n)) (gF h n) (popc (yR h n) - 1 - j) (gB (popc (yR h n)) (gF h n) j) : Int)) = (gB (popc (yR h n)) (gF h n) (j + 1) : Int) := by
      have := bShl_n 1 (fbm (popc (yR h n)) (gF h n) (popc (yR h n) - 1 - j) (gB (popc (yR h n)) (gF h n) j)) (by omega) (by omega)
      rw [Nat.one_mul] at this
      rw [show bShl 1 (fbm (popc (yR h n)) (gF h n) (popc (yR h n) - 1 - j) (gB (popc (yR h n)) (gF h n) j) : Int) = ((2 ^ fbm (popc (yR h n)) (gF h n) (popc (yR h n) - 1 - j) (gB (popc (yR h n)) (gF h n) j) : Nat) : Int) from this, bOr_n _ _ (by omega) (by omega)]
      rfl
    have ih := ih (j + 1) (by omega)
    rw [ju_184_12]
    simp only [r_iLD1, r_IF2, r_aLD0, r_gI, r_IC2, r_bPUSH, r_iRET, r_iCONST, r_iST2, r_iST3, r_iLD3, r_IC3, r_iLD2, cl_183, r_iSHL, r_iOR, r_IINC3, r_GOTO, r_gR, r_iALD, r_iALDs, eq_self, Int.reduceLT, Int.reduceLE, Int.reduceEq, true_or, or_true, and_self, true_and, and_true, w8_0, w8_1, w8_2, w8_3, w8_4, nl_I, nl_P, nl_X, pu_I, pu_J, pu_V, kd_145, fb, eo, hw]
    rw [if_neg (by omega)]
    exact ih
abbrev okR (x : Int) : Prop := -1 ≤ x ∧ x < 8
def rnA (h : am_F) (n : Nat) (x : Int) : Int := if x = -1 then mx (popc (yR h n)) (gF h n) (popc (yR h n)) 0 else if x < popc (yR h n) then (mvN (yR h n) (fbm (popc (yR h n)) (gF h n) (popc (yR h n) - 1 - x.toNat) (gB (popc (yR h n)) (gF h n) x.toNat)) : Int) else -4
theorem s_Trun (h8 : n ≤ 8) (hn : h 81 7 = (n : Int)) (hwh : ∀ t : Nat, t < n → 0 ≤ h 94 t ∧ h 94 t ≤ 40) (hwr : ∀ t : Nat, t < n → 0 ≤ h 86 t ∧ h 86 t ≤ 99) (hq : ∀ g, cR2 h g → Q (aI (if okR x then (if popc (yR h n) ≤ 6 then rnA h n x else -3) else -1)) (sT g)) : wp 185 (am_ju 185 0) [aP 0, aI x] [] (sT h) Q := by
  have l1 := ln_148
  have k1 := kd_148
  have hq0 := hq h (fun _ _ => rfl)
  simp only [ju_185_0, ju_185_6, r_iLD1, r_iCONST, r_IC2, r_bPUSH, r_iRET, r_aLD0, r_gR, cl_178, cl_55, r_IC5, cl_182, r_IC1, r_iALD, r_iALDs, r_GOTO, cl_184, eq_self, Int.reduceLT, Int.reduceLE, Int.reduceEq, true_or, or_true, and_self, true_and, and_true, w8_0, w8_1, w8_2, w8_3, w8_4, nl_I, nl_P, nl_X, pu_I, pu_J, pu_V]
  by_cases e1 : x < -1
  · rw [if_neg (fun z => by omega)] at hq0
    rw [if_pos e1]
    exact hq0
  · rw [if_neg e1]
    by_cases e2 : x < 8
    · have ok : okR x := ⟨by omega, e2⟩
      simp only [if_pos ok] at hq hq0
      rw [if_pos e2, ju_185_8]
      simp only [r_iLD1, r_iCONST, r_IC2, r_bPUSH, r_iRET, r_aLD0, r_gR, cl_178, cl_55, r_IC5, cl_182, r_IC1, r_iALD, r_iALDs, r_GOTO, cl_184, eq_self, Int.reduceLT, Int.reduceLE, Int.reduceEq, true_or, or_true, and_self, true_and, and_true, w8_0, w8_1, w8_2, w8_3, w8_4, nl_I, nl_P, nl_X, pu_I, pu_J, pu_V, kd_0, ln_0, rR_0_0, rR_0_1, rR_0_3, rR_0_4, rR_0_5, rR_0_6, rR_0_7, rR_0_8, rR_0_9, rR_0_10, kd_80, ln_80, rR_80_0, rR_80_1, rR_80_2, rR_80_3, s_yR h8 hn, s_bitCount (yR_lt h8)]
      by_cases e3 : popc (yR h n) ≤ 6
      · simp only [if_pos e3] at hq
        rw [if_pos (by omega), ju_185_16]
        simp only [r_iLD1, r_iCONST, r_IC2, r_bPUSH, r_iRET, r_aLD0, r_gR, cl_178, cl_55, r_IC5, cl_182, r_IC1, r_iALD, r_iALDs, r_GOTO, cl_184, eq_self, Int.reduceLT, Int.reduceLE, Int.reduceEq, true_or, or_true, and_self, true_and, and_true, w8_0, w8_1, w8_2, w8_3, w8_4, nl_I, nl_P, nl_X, pu_I, pu_J, pu_V, kd_0, ln_0, rR_0_0, rR_0_1, rR_0_3, rR_0_4, rR_0_5, rR_0_6, rR_0_7, rR_0_8, rR_0_9, rR_0_10, kd_145, ln_145, rR_145_0, rR_145_1, rR_145_2, rR_145_4]
        refine s_findOrder h8 hn hwh hwr e3 (fun g hg hm => ?_)
        have := hq g hg.1
        unfold rnA at this
        by_cases e4 : x = -1
        · have em := hm 0 (Nat.zero_le _) (Nat.two_pow_pos _)
          rw [popc_0, Nat.sub_zero] at em
          rw [if_pos e4] at this
          simp only [r_iLD1, r_iCONST, r_IC2, r_bPUSH, r_iRET, r_aLD0, r_gR, cl_178, cl_55, r_IC5, cl_182, r_IC1, r_iALD, r_iALDs, r_GOTO, cl_184, eq_self, Int.reduceLT, Int.reduceLE, Int.reduceEq, true_or, or_true, and_self, true_and, and_true, w8_0, w8_1, w8_2, w8_3, w8_4, nl_I, nl_P, nl_X, pu_I, pu_J, pu_V, kd_0, ln_0, rR_0_0, rR_0_1, rR_0_3, rR_0_4, rR_0_5, rR_0_6, rR_0_7, rR_0_8, rR_0_9, rR_0_10, kd_145, ln_145, rR_145_0, rR_145_1, rR_145_2, rR_145_4, kd_148, ln_148, e4, not_true_eq_false, if_false, ju_185_32]
          rw [show (0 : Int) = ((0 : Nat) : Int) from rfl, em]
          exact this
        · rw [if_neg e4] at this
          obtain ⟨i, rfl⟩ := Int.eq_ofNat_of_zero_le (show 0 ≤ x by omega)
          simp only [r_iLD1, r_iCONST, r_IC2, r_bPUSH, r_iRET, r_aLD0, r_gR, cl_178, cl_55, r_IC5, cl_182, r_IC1, r_iALD, r_iALDs, r_GOTO, cl_184, eq_self, Int.reduceLT, Int.reduceLE, Int.reduceEq, true_or, or_true, and_self, true_and, and_true, w8_0, w8_1, w8_2, w8_3, w8_4, nl_I, nl_P, nl_X, pu_I, pu_J, pu_V, e4, not_false_eq_true, if_true]
          rw [ju_185_28]
          simp only [r_iLD1, r_iCONST, r_IC2, r_bPUSH, r_iRET, r_aLD0, r_gR, cl_178, cl_55, r_IC5, cl_182, r_IC1, r_iALD, r_iALDs, r_GOTO, cl_184, eq_self, Int.reduceLT, Int.reduceLE, Int.reduceEq, true_or, or_true, and_self, true_and, and_true, w8_0, w8_1, w8_2, w8_3, w8_4, nl_I, nl_P, nl_X, pu_I, pu_J, pu_V, kd_0, ln_0, rR_0_0, rR_0_1, rR_0_3, rR_0_4, rR_0_5, rR_0_6, rR_0_7, rR_0_8, rR_0_9, rR_0_10, kd_145, ln_145, rR_145_0, rR_145_1, rR_145_2, rR_145_4]
          rw [ju_184_0]
          simp only [ju_184_6, r_iLD1, r_IF2, r_aLD0, r_gI, r_IC2, r_bPUSH, r_iRET, r_iCONST, r_iST2, r_iST3, r_iLD3, r_IC3, r_iLD2, cl_183, r_iSHL, r_iOR, r_IINC3, r_GOTO, r_gR, r_iALD, r_iALDs, eq_self, Int.reduceLT, Int.reduceLE, Int.reduceEq, true_or, or_true, and_self, true_and, and_true, w8_0, w8_1, w8_2, w8_3, w8_4, nl_I, nl_P, nl_X, pu_I, pu_J, pu_V, kd_145, hg.2.1]
          rw [if_neg (by omega)]
          by_cases e5 : i < popc (yR h n)
          · rw [if_pos (by omega), Int.toNat_natCast] at this
            rw [if_pos (by omega), ju_184_8]
            simp only [r_iLD1, r_IF2, r_aLD0, r_gI, r_IC2, r_bPUSH, r_iRET, r_iCONST, r_iST2, r_iST3, r_iLD3, r_IC3, r_iLD2, cl_183, r_iSHL, r_iOR, r_IINC3, r_GOTO, r_gR, r_iALD, r_iALDs, eq_self, Int.reduceLT, Int.reduceLE, Int.reduceEq, true_or, or_true, and_self, true_and, and_true, w8_0, w8_1, w8_2, w8_3, w8_4, nl_I, nl_P, nl_X, pu_I, pu_J, pu_V]
            refine (lp_thAt h8 hwr e3 hg hm e5 i 0 (Nat.zero_add i)).mpr ?_
            simp only [ju_185_32, r_iLD1, r_iCONST, r_IC2, r_bPUSH, r_iRET, r_aLD0, r_gR, cl_178, cl_55, r_IC5, cl_182, r_IC1, r_iALD, r_iALDs, r_GOTO, cl_184, eq_self, Int.reduceLT, Int.reduceLE, Int.reduceEq, true_or, or_true, and_self, true_and, and_true, w8_0, w8_1, w8_2, w8_3, w8_4, nl_I, nl_P, nl_X, pu_I, pu_J, pu_V]
            exact this
          · rw [if_neg (by omega)] at this
            rw [if_neg (by omega)]
            simp only [ju_185_32, r_iLD1, r_iCONST, r_IC2, r_bPUSH, r_iRET, r_aLD0, r_gR, cl_178, cl_55, r_IC5, cl_182, r_IC1, r_iALD, r_iALDs, r_GOTO, cl_184, eq_self, Int.reduceLT, Int.reduceLE, Int.reduceEq, true_or, or_true, and_self, true_and, and_true, w8_0, w8_1, w8_2, w8_3, w8_4, nl_I, nl_P, nl_X, pu_I, pu_J, pu_V]
            exact this
      · rw [if_neg e3] at hq0
        rw [if_neg (by omega)]
        exact hq0
    · rw [if_neg (fun z => e2 z.2)] at hq0
      rw [if_neg e2]
      exact hq0
end RW2
