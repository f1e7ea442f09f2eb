/-! run: the reference, its parts -/
section RZ
variable {g h h' h1 h2 u : am_F} {Q : am_V → am_S → Prop} {so j bj x y z o c w r k t : Int} {n nb L s K nx b m a q B S T i gg l M Z v ch N d : Nat}
theorem lp_orders (hN6 : N ≤ 6) (hv : v < 50000) {v1 : Int} (hq : ∀ g, (∀ a, a ≠ 160 → g a = u a) → (∀ k : Nat, k < N → g 160 k = ((v / N ^ (N - 1 - k) % N : Nat) : Int)) → Q (aI (if popc (usN N v N) = N then 1 else 0)) (sT g)) : ∀ (d j : Nat) (g : am_F), j + d = N → (∀ a, a ≠ 160 → g a = u a) → (∀ k : Nat, N - j ≤ k → k < N → g 160 k = ((v / N ^ (N - 1 - k) % N : Nat) : Int)) → wp 186 (am_ju 186 8) [aP 149, aI v1, aI (N : Int), aI ((v / N ^ j : Nat) : Int), aI (usN N v j : Int), aI ((d : Int) - 1)] [] (sT g) Q := by
  intro d
  have l1 := ln_160
  have k1 := kd_160
  have h64 : 2 ^ N ≤ 2 ^ 6 := Nat.pow_le_pow_right (by decide) hN6
  induction d with
  | zero =>
    intro j g hj h1 h2
    have hj : j = N := by omega
    subst hj
    have hus : usN j v j < 2 ^ 31 := by
      by_cases e : j = 0
      · subst e; exact (by decide : (0 : Nat) < 2 ^ 31)
      · have := us_lt (v := v) (show 1 ≤ j by omega) j; omega
    have := hq g h1 (fun k hk => h2 k (by omega) hk)
    rw [ju_186_8]
    simp only [ju_186_32, r_iLD1, r_iST3, r_iCONST, r_iST4, r_iLD2, r_iSUB, r_iST5, r_iLD5, r_IF2, r_aLD0, r_gR, r_iLD3, r_iREM, r_iAST, r_iLD4, r_iALD, r_iALDs, r_iSHL, r_iOR, r_iDIV, r_IINC5, r_GOTO, cl_157, r_IC1, r_zRET, eq_self, Int.reduceLT, Int.reduceLE, Int.reduceEq, true_or, or_true, and_self, true_and, and_true, w8_0, w8_1, w8_2, w8_3, w8_4, nl_I, nl_P, nl_X, pu_I, pu_J, pu_V, s_ones hus]
    rw [if_pos (by omega)]
    by_cases e : popc (usN j v j) = j
    · rw [if_pos e] at this
      rw [if_neg (by omega), ju_186_39]
      simp only [r_iLD1, r_iST3, r_iCONST, r_iST4, r_iLD2, r_iSUB, r_iST5, r_iLD5, r_IF2, r_aLD0, r_gR, r_iLD3, r_iREM, r_iAST, r_iLD4, r_iALD, r_iALDs, r_iSHL, r_iOR, r_iDIV, r_IINC5, r_GOTO, cl_157, r_IC1, r_zRET, eq_self, Int.reduceLT, Int.reduceLE, Int.reduceEq, true_or, or_true, and_self, true_and, and_true, w8_0, w8_1, w8_2, w8_3, w8_4, nl_I, nl_P, nl_X, pu_I, pu_J, pu_V, r_zRET1]
      exact this
    · rw [if_neg e] at this
      rw [if_pos (by omega), ju_186_38]
      simp only [ju_186_39, r_iLD1, r_iST3, r_iCONST, r_iST4, r_iLD2, r_iSUB, r_iST5, r_iLD5, r_IF2, r_aLD0, r_gR, r_iLD3, r_iREM, r_iAST, r_iLD4, r_iALD, r_iALDs, r_iSHL, r_iOR, r_iDIV, r_IINC5, r_GOTO, cl_157, r_IC1, r_zRET, eq_self, Int.reduceLT, Int.reduceLE, Int.reduceEq, true_or, or_true, and_self, true_and, and_true, w8_0, w8_1, w8_2, w8_3, w8_4, nl_I, nl_P, nl_X, pu_I, pu_J, pu_V, r_zRET0]
      exact this
  | succ d ih =>
    intro j g hj h1 h2
    have e1 : ((d + 1 : Nat) : Int) - 1 = (d : Int) := by omega
    have d0 : (0 : Int) ≤ d := by omega
    have d6 : (d : Int) < 6 := by omega
    have hN0 : ¬ ((N : Int) = 0) := by omega
    have hwm : w3 ((d : Int) + -1) = (d : Int) - 1 := by rw [w3_id (by omega) (by omega)]; omega
    have hdv := Nat.div_le_self v (N ^ j)
    have em : iRm ((v / N ^ j : Nat) : Int) (N : Int) = ((v / N ^ j % N : Nat) : Int) := by
      rw [iRm_n (Int.natCast_nonneg _) (Int.lt_of_le_of_lt (Int.ofNat_le.mpr hdv) (by omega)) (by omega) (by omega), ← Int.natCast_emod]
    have ed : iDv ((v / N ^ j : Nat) : Int) (N : Int) = ((v / N ^ (j + 1) : Nat) : Int) := by
      rw [iDv_n (Int.natCast_nonneg _) (Int.lt_of_le_of_lt (Int.ofNat_le.mpr hdv) (by omega)) (by omega) (by omega), ← Int.natCast_ediv, Nat.div_div_eq_div_mul, ← Nat.pow_succ]
    have hdl := dg_lt (v := v) (m := j) (show 1 ≤ N by omega)
    have h2i : 2 ^ (v / N ^ j % N) < 2 ^ 6 := Nat.pow_lt_pow_right (by decide) (by omega)
    have hus := us_lt (v := v) (show 1 ≤ N by omega) j
    have eo : bOr (usN N v j : Int) (bShl 1 ((v / N ^ j % N : Nat) : Int)) = (usN N v (j + 1) : Int) := by
      have := bShl_n 1 (v / N ^ j % N) (by omega) (by omega)
      rw [Nat.one_mul] at this
      rw [show bShl 1 ((v / N ^ j % N : Nat) : Int) = ((2 ^ (v / N ^ j % N) : Nat) : Int) from this, bOr_n _ _ (by omega) (by omega)]
      rfl
    have ih := fun g => ih (j + 1) g (by omega)
    generalize hX : ((v / N ^ j % N : Nat) : Int) = X at em eo
    rw [e1, ju_186_8]
    simp (disch := first | assumption | omega | exact w8_0 | exact w8_1 _ | exact w8_2 _ _ | exact w8_3 _ _ _ | exact w8_4 _ _ _ _ | exact nl_I _ | exact nl_P _ | exact nl_X | decide | exact w8_5 _ _ _ _ _) only [r_iLD1, r_iST3, r_iCONST, r_iST4, r_iLD2, r_iSUB, r_iST5, r_iLD5, r_IF2, r_aLD0, r_gR, r_iLD3, r_iREM, r_iASTc, r_iLD4, r_iALDc, r_iALDs, r_iSHL, r_iOR, r_iDIV, r_IINC5, r_GOTO, cl_157, r_IC1, r_zRET, eq_self, Int.reduceLT, Int.reduceLE, Int.reduceEq, true_or, or_true, and_self, true_and, and_true, w8_0, w8_1, w8_2, w8_3, w8_4, nl_I, nl_P, nl_X, pu_I, pu_J, pu_V, w3_id, Int.add_zero, kd_149, rR_149_17, hN0, ne_eq, not_false_eq_true, em, up_s, eo, ed, hwm]
    rw [if_neg (by omega)]
    refine ih _ (fun a ha => by rw [up_ne ha, h1 a ha]) (fun k q1 q2 => ?_)
    by_cases z : k = d
    · subst z
      rw [up_s, ← hX, show N - 1 - k = j by omega]
    · rw [up_k (by omega), h2 k (by omega) q2]
theorem s_orders (hN6 : N ≤ 6) (hv : v < 50000) (hq : ∀ g, (∀ a, a ≠ 160 → g a = u a) → (∀ k : Nat, k < N → g 160 k = ((v / N ^ (N - 1 - k) % N : Nat) : Int)) → Q (aI (if popc (usN N v N) = N then 1 else 0)) (sT g)) : wp 186 (am_ju 186 0) [aP 149, aI (v : Int), aI (N : Int), aX, aX, aX] [] (sT u) Q := by
  have hw : w3 ((N : Int) - 1) = (N : Int) - 1 := w3_id (by omega) (by omega)
  rw [ju_186_0]
  simp only [r_iLD1, r_iST3, r_iCONST, r_iST4, r_iLD2, r_iSUB, r_iST5, r_iLD5, r_IF2, r_aLD0, r_gR, r_iLD3, r_iREM, r_iAST, r_iLD4, r_iALD, r_iALDs, r_iSHL, r_iOR, r_iDIV, r_IINC5, r_GOTO, cl_157, r_IC1, r_zRET, eq_self, Int.reduceLT, Int.reduceLE, Int.reduceEq, true_or, or_true, and_self, true_and, and_true, w8_0, w8_1, w8_2, w8_3, w8_4, nl_I, nl_P, nl_X, pu_I, pu_J, pu_V, hw]
  have := lp_orders (v1 := (v : Int)) hN6 hv hq N 0 u (Nat.zero_add N) (fun _ _ => rfl) (fun k q1 q2 => by omega)
  rw [Nat.pow_zero, Nat.div_one] at this
  exact this
/-- the frame of the reference's run -/
def rR2 (h g : am_F) : Prop := ∀ a, (a < 159 ∨ 162 ≤ a) → g a = h a
theorem lp_hadBy (hP : Rp h 0 150 n nb L s) (hwh : ∀ t : Nat, t < n → 0 ≤ h 94 t ∧ h 94 t ≤ 40) (hwr : ∀ t : Nat, t < n → 0 ≤ h 86 t ∧ h 86 t ≤ 99) (hM : popc (yR h n) ≤ 6) (hg : rR2 h g) (h59 : ∀ k : Nat, k < popc (yR h n) → g 159 k = (mvN (yR h n) k : Int)) (h60 : ∀ k : Nat, k < popc (yR h n) → g 160 k = ((v / popc (yR h n) ^ (popc (yR h n) - 1 - k) % popc (yR h n) : Nat) : Int)) : ∀ (m k B : Nat) (a : Int) (v5 v6 : am_V), k + m = popc (yR h n) → B < 2 ^ popc (yR h n) → popc (B ||| usN (popc (yR h n)) v m) = popc B + m → 0 ≤ a → a ≤ 99 * k → am_nl v5 = true → am_nl v6 = true → (wp 187 (am_ju 187 6) [aP 149, aI (popc (yR h n) : Int), aI (sB (faR h n) (popc (yR h n)) B), aI a, aI (k : Int), v5, v6] [] (sT g) Q ↔ Q (aI (acN (popc (yR h n)) (gG h n) v m B a)) (sT g)) := by
  intro m
  have l1 := ln_159
  have k1 := kd_159
  have l2 := ln_160
  have k2 := kd_160
  have l3 := ln_150
  have k3 := kd_150
  obtain ⟨r0, r1, r2, r3, r4, r5, r6, r7⟩ := id hP.1
  have h64 : 2 ^ popc (yR h n) ≤ 2 ^ 6 := Nat.pow_le_pow_right (by decide) hM
  have g150 : g 150 = h 150 := hg 150 (by decide)
  induction m with
  | zero =>
    intro k B a v5 v6 hk hB hp a0 a9 n5 n6
    have hk : k = popc (yR h n) := by omega
    rw [ju_187_6]
    simp (disch := first | assumption | omega | decide | exact nl_I _) only [ju_187_52, r_iCONST, r_iST2, r_iST3, r_iST4, r_iLD4, r_iLD1, r_IC3, r_aLD0, r_gR, r_iALD, r_iALDs, r_iST5, r_iLD5, cl_176, r_iST6, r_iLD2, r_iLD6, r_iMUL, r_iADD, r_iLD3, r_IF0, r_IC4, cl_25, r_GOTO, r_IINC4, r_iRET, eq_self, Int.reduceLT, Int.reduceLE, Int.reduceEq, true_or, or_true, and_self, true_and, and_true, w8_0, w8_1, w8_2, w8_3, w8_4, nl_I, nl_P, nl_X, pu_I, pu_J, pu_V]
    rw [if_pos (by omega)]
    rfl
  | succ m ih =>
    intro k B a v5 v6 hk hB hp a0 a9 n5 n6
    have hw : w3 ((k : Int) + 1) = ((k + 1 : Nat) : Int) := w3_id (by omega) (by omega)
    obtain ⟨u1, u2, u3⟩ := us_fr (by omega) hM hB hp
    have hdl := dg_lt (v := v) (m := m) (show 1 ≤ popc (yR h n) by omega)
    have e60 := h60 k (by omega)
    rw [show popc (yR h n) - 1 - k = m by omega] at e60
    rw [acN]
    have hsB := sB_add (faR h n) _ B u1 (popc (yR h n)) hdl
    have hse := sec_sB (faR h n) (popc (yR h n)) B (v / popc (yR h n) ^ m % popc (yR h n))
    have hgG := gG_r (h := h) r3 hwr B (v / popc (yR h n) ^ m % popc (yR h n))
    have ih := fun a => ih (k + 1) (B ||| 2 ^ (v / popc (yR h n) ^ m % popc (yR h n))) a
    have hBl := or_lt6 hM hB hdl
    generalize v / popc (yR h n) ^ m % popc (yR h n) = D at *
    have e59 := h59 D hdl
    have mk := ((mv_ok (yR h n) (yR_lt r3) D (by omega)).1 hdl)
    have mb := mk.1
    rw [yR_bit, Bool.and_eq_true, decide_eq_true_eq] at mb
    have ht := Rp_t hP (t := (mvN (yR h n) D : Int)) (by omega) (by omega)
    have hwt := hwh _ mb.1
    have hL : g 150 2 = (L : Int) := by rw [g150, r4]
    have ewh : g 150 (18 + 6 * (mvN (yR h n) D : Int) + 5) = h 94 (mvN (yR h n) D : Int) := by rw [g150, ht.2.2.2.2.2]
    have ewo : g 150 (18 + 6 * (mvN (yR h n) D : Int) + 3) = woR h n D := by rw [g150, ht.2.2.2.1]; rfl
    have erl : rlR g L (h 94 (mvN (yR h n) D : Int) - 10) = faR h n D := by
      have : rs g L = rs h L := by funext w; unfold rs; rw [g150]
      have e : rlR g L (h 94 (mvN (yR h n) D : Int) - 10) = rlR h L (h 94 (mvN (yR h n) D : Int) - 10) := by unfold rlR; rw [this]
      rw [e, q_roll hP]; rfl
    have rb := fun Q' => s_rollsBy (h := g) (Q := Q') hL r5 (t := (mvN (yR h n) D : Int)) ⟨by omega, by omega⟩ (by rw [ewh]; exact hwt)
    rw [ewh, erl] at rb
    have fl : faR h n D ≤ 20 := rlF_le
    have sr := sB_r (faR h n) B (fun k => rlF_le) (popc (yR h n))
    have D0 : (0 : Int) ≤ D := by omega
    have D6 : (D : Int) < 6 := by omega
    have k0 : (0 : Int) ≤ k := by omega
    have k6 : (k : Int) < 6 := by omega
    have wr := hwr _ mb.1
    have ew1 : w3 (sB (faR h n) (popc (yR h n)) B + (2 * (faR h n D : Int) + 1)) = sB (faR h n) (popc (yR h n)) (B ||| 2 ^ D) := by rw [w3_id (by omega) (by omega), hsB]
    have ig : gG h n B D = if had (faR h n) (popc (yR h n)) B D then woR h n D else 0 := by unfold gG gF; rw [if_pos hdl]
    unfold had at ig
    rw [hse] at ig
    have ew2 : w3 (a + woR h n D) = a + woR h n D := w3_id (by unfold woR; omega) (by unfold woR; omega)
    have ew3 : w3 (2 * (faR h n D : Int)) = 2 * (faR h n D : Int) := w3_id (by omega) (by omega)
    have ew4 : w3 (2 * (faR h n D : Int) + 1) = 2 * (faR h n D : Int) + 1 := w3_id (by omega) (by omega)
    have ew5 : w3 (3 * (faR h n D : Int)) = 3 * (faR h n D : Int) := w3_id (by omega) (by omega)
    have ew6 : w3 (3 * (faR h n D : Int) + 2) = 3 * (faR h n D : Int) + 2 := w3_id (by omega) (by omega)
    have m8 : (mvN (yR h n) D : Int) < 8 := by omega
    have ih := ih (a + gG h n B D) (aI (mvN (yR h n) D : Int)) (aI (faR h n D : Int)) (by omega) hBl (by rw [u2] at u3; rw [u2]; exact u3) (by omega) (by omega) rfl rfl
    rw [ju_187_6]
    simp (disch := first | assumption | omega | exact w8_0 | exact w8_1 _ | exact w8_2 _ _ | exact w8_3 _ _ _ | exact w8_4 _ _ _ _ | exact nl_I _ | exact nl_P _ | exact nl_X | decide | exact w8_5 _ _ _ _ _) only [r_iCONST, r_iST2, r_iST3, r_iST4, r_iLD4, r_iLD1, r_IC3, r_aLD0, r_gR, r_iALDc, r_iALDs, r_iST5, r_iLD5, cl_176, r_iST6, r_iLD2, r_iLD6, r_iMUL, r_iADD, r_iLD3, r_IF0, r_IC4, cl_25, r_GOTO, r_IINC4, r_iRET, eq_self, Int.reduceLT, Int.reduceLE, Int.reduceEq, true_or, or_true, and_self, true_and, and_true, w8_0, w8_1, w8_2, w8_3, w8_4, nl_I, nl_P, nl_X, pu_I, pu_J, pu_V, w3_id, Int.add_zero, kd_149, rR_149_16, rR_149_17, e60, e59, n5, n6, rb, ew1, ew3, ew4, ew5, ew6]
    rw [if_neg (by omega)]
    rw [hsB] at ih
    by_cases f : faR h n D = 0
    · have hg1 : gG h n B D = woR h n D := by rw [ig, if_pos (Or.inl f)]
      rw [hg1] at ih ⊢
      rw [if_pos (by omega), ju_187_39]
      simp (disch := first | assumption | omega | exact w8_0 | exact w8_1 _ | exact w8_2 _ _ | exact w8_3 _ _ _ | exact w8_4 _ _ _ _ | exact nl_I _ | exact nl_P _ | exact nl_X | decide | exact w8_5 _ _ _ _ _) only [ju_187_48, r_iCONST, r_iST2, r_iST3, r_iST4, r_iLD4, r_iLD1, r_IC3, r_aLD0, r_gR, r_iALDc, r_iALDs, r_iST5, r_iLD5, cl_176, r_iST6, r_iLD2, r_iLD6, r_iMUL, r_iADD, r_iLD3, r_IF0, r_IC4, cl_25, r_GOTO, r_IINC4, r_iRET, eq_self, Int.reduceLT, Int.reduceLE, Int.reduceEq, true_or, or_true, and_self, true_and, and_true, w8_0, w8_1, w8_2, w8_3, w8_4, nl_I, nl_P, nl_X, pu_I, pu_J, pu_V, w3_id, Int.add_zero, kd_149, rR_149_0, s_thingAt (b := (mvN (yR h n) D : Int)) ⟨by omega, by omega⟩, ewo, ew2, hw]
      exact ih
    · rw [if_neg (by omega)]
      by_cases f2 : sB (faR h n) (popc (yR h n)) (B ||| 2 ^ D) ≤ 3 * (faR h n D : Int) + 2
      · have hg1 : gG h n B D = woR h n D := by rw [ig, if_pos (Or.inr f2)]
        rw [hg1] at ih ⊢
        rw [if_neg (by omega), ju_187_39]
        simp (disch := first | assumption | omega | exact w8_0 | exact w8_1 _ | exact w8_2 _ _ | exact w8_3 _ _ _ | exact w8_4 _ _ _ _ | exact nl_I _ | exact nl_P _ | exact nl_X | decide | exact w8_5 _ _ _ _ _) only [ju_187_48, r_iCONST, r_iST2, r_iST3, r_iST4, r_iLD4, r_iLD1, r_IC3, r_aLD0, r_gR, r_iALDc, r_iALDs, r_iST5, r_iLD5, cl_176, r_iST6, r_iLD2, r_iLD6, r_iMUL, r_iADD, r_iLD3, r_IF0, r_IC4, cl_25, r_GOTO, r_IINC4, r_iRET, eq_self, Int.reduceLT, Int.reduceLE, Int.reduceEq, true_or, or_true, and_self, true_and, and_true, w8_0, w8_1, w8_2, w8_3, w8_4, nl_I, nl_P, nl_X, pu_I, pu_J, pu_V, w3_id, Int.add_zero, kd_149, rR_149_0, s_thingAt (b := (mvN (yR h n) D : Int)) ⟨by omega, by omega⟩, ewo, ew2, hw]
        exact ih
      · have hg1 : gG h n B D = 0 := by rw [ig, if_neg (fun q => q.elim f f2)]
        have w0 : w3 (a + 0) = a + 0 := w3_id (by omega) (by omega)
        rw [hg1] at ih ⊢
        rw [if_pos (by omega), ju_187_47]
        simp only [ju_187_48, r_iCONST, r_iST2, r_iST3, r_iST4, r_iLD4, r_iLD1, r_IC3, r_aLD0, r_gR, r_iALD, r_iALDs, r_iST5, r_iLD5, cl_176, r_iST6, r_iLD2, r_iLD6, r_iMUL, r_iADD, r_iLD3, r_IF0, r_IC4, cl_25, r_GOTO, r_IINC4, r_iRET, eq_self, Int.reduceLT, Int.reduceLE, Int.reduceEq, true_or, or_true, and_self, true_and, and_true, w8_0, w8_1, w8_2, w8_3, w8_4, nl_I, nl_P, nl_X, pu_I, pu_J, pu_V, w0, hw]
        exact ih
end RZ
