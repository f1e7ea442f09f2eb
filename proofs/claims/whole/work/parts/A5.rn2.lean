/-! run: the class -/
def yR (h : am_F) (n : Nat) : Nat := setF (fun t => decide (h 87 t = 1 ∧ 10 ≤ h 94 t)) n
def faR (h : am_F) (n k : Nat) : Nat := rlF h (h 94 (mvN (yR h n) k) - 10)
def woR (h : am_F) (n k : Nat) : Int := h 86 (mvN (yR h n) k)
/-- seconds of those in B and of k -/
def sec (f : Nat → Nat) (N B k : Nat) : Int := sumF (fun o => if o = k ∨ B.testBit o = true then 2 * (f o : Int) + 1 else 0) N
abbrev had (f : Nat → Nat) (N B k : Nat) : Prop := f k = 0 ∨ sec f N B k ≤ 3 * (f k : Int) + 2
def gF (h : am_F) (n B k : Nat) : Int := if had (faR h n) (popc (yR h n)) B k then woR h n k else 0
section RU
variable {g h h' h1 h2 u : am_F} {Q : am_V → am_S → Prop} {so j bj x y z o c w r k t : Int} {n nb L s K nx b m a q B S T i gg l M Z v ch N d : Nat}
theorem yR_lt (h8 : n ≤ 8) : yR h n < 256 := Nat.lt_of_lt_of_le (setF_lt _ n) (Nat.pow_le_pow_right (n := 2) (j := 8) (by decide) h8)
theorem yR_bit {t : Nat} : (yR h n).testBit t = (decide (t < n) && decide (h 87 t = 1 ∧ 10 ≤ h 94 t)) := by unfold yR; rw [setF_bit]
theorem yR_rol {t : Nat} : (yR h n).testBit t = true ↔ rolB h n t := by
  rw [yR_bit, Bool.and_eq_true, decide_eq_true_eq, decide_eq_true_eq]
  constructor
  · rintro ⟨a, b⟩; exact ⟨⟨by omega, by omega⟩, b⟩
  · rintro ⟨a, b⟩; exact ⟨by omega, b⟩
theorem lp_yR (h8 : n ≤ 8) (hn : h 81 7 = (n : Int)) : ∀ (d t : Nat), t + d = n → (wp 178 (am_ju 178 4) [aP 80, aI (setF (fun t => decide (h 87 t = 1 ∧ 10 ≤ h 94 t)) t : Int), aI (t : Int)] [] (sT h) Q ↔ Q (aI (yR h n : Int)) (sT h)) := by
  intro d
  induction d with
  | zero =>
    intro t ht
    have ht : t = n := by omega
    subst ht
    rw [ju_178_4]
    simp only [ju_178_21, r_iCONST, r_iST1, r_iST2, r_iLD2, r_aLD0, r_gR, r_gI, r_IC3, cl_171, r_IF0, r_iLD1, r_iSHL, r_iOR, r_IINC2, r_GOTO, r_iRET, eq_self, Int.reduceLT, Int.reduceLE, Int.reduceEq, true_or, or_true, and_self, true_and, and_true, w8_0, w8_1, w8_2, w8_3, w8_4, nl_I, nl_P, nl_X, pu_I, pu_J, pu_V, kd_80, ln_80, rR_80_0, rR_80_1, rR_80_2, rR_80_3, kd_81, ln_81, rR_81_0, rR_81_1, rR_81_2, rR_81_3, rR_81_4, rR_81_5, hn]
    rw [if_pos (by omega)]
    rfl
  | succ d ih =>
    intro t ht
    have hw : w3 ((t : Int) + 1) = ((t + 1 : Nat) : Int) := w3_id (by omega) (by omega)
    have hlt := setF_lt (fun t => decide (h 87 t = 1 ∧ 10 ≤ h 94 t)) t
    have h31 : 2 ^ t < 2 ^ 31 := Nat.pow_lt_pow_right (by decide) (by omega)
    have ih := ih (t + 1) (by omega)
    rw [setF] at ih
    have er : rolB h n (t : Int) ↔ (h 87 t = 1 ∧ 10 ≤ h 94 t) := ⟨fun q => q.2, fun q => ⟨⟨by omega, by omega⟩, q⟩⟩
    rw [ju_178_4]
    simp only [ju_178_19, r_iCONST, r_iST1, r_iST2, r_iLD2, r_aLD0, r_gR, r_gI, r_IC3, cl_171, r_IF0, r_iLD1, r_iSHL, r_iOR, r_IINC2, r_GOTO, r_iRET, eq_self, Int.reduceLT, Int.reduceLE, Int.reduceEq, true_or, or_true, and_self, true_and, and_true, w8_0, w8_1, w8_2, w8_3, w8_4, nl_I, nl_P, nl_X, pu_I, pu_J, pu_V, kd_80, ln_80, rR_80_0, rR_80_1, rR_80_2, rR_80_3, kd_81, ln_81, rR_81_0, rR_81_1, rR_81_2, rR_81_3, rR_81_4, rR_81_5, hn, s_isRoll h8 hn, b01, hw]
    rw [if_neg (by omega)]
    by_cases e : h 87 t = 1 ∧ 10 ≤ h 94 t
    · rw [if_pos (by simpa using e)] at ih
      have e1 : bShl 1 (t : Int) = ((2 ^ t : Nat) : Int) := by
        have := bShl_n 1 t (by omega) (by omega)
        rw [Nat.one_mul] at this
        exact this
      rw [if_neg (fun q => q (er.mpr e)), e1, bOr_n _ _ (by omega) h31]
      exact ih
    · rw [if_neg (by simpa using e), Nat.or_zero] at ih
      rw [if_pos (fun q => e (er.mp q))]
      exact ih
theorem s_yR (h8 : n ≤ 8) (hn : h 81 7 = (n : Int)) : wp 178 (am_ju 178 0) [aP 80, aX, aX] [] (sT h) Q ↔ Q (aI (yR h n : Int)) (sT h) := by
  rw [ju_178_0]
  simp only [r_iCONST, r_iST1, r_iST2, r_iLD2, r_aLD0, r_gR, r_gI, r_IC3, cl_171, r_IF0, r_iLD1, r_iSHL, r_iOR, r_IINC2, r_GOTO, r_iRET, eq_self, Int.reduceLT, Int.reduceLE, Int.reduceEq, true_or, or_true, and_self, true_and, and_true, w8_0, w8_1, w8_2, w8_3, w8_4, nl_I, nl_P, nl_X, pu_I, pu_J, pu_V]
  exact lp_yR h8 hn n 0 (Nat.zero_add n)
/-- all but the chase's own cells are as in h -/
def cR2 (h g : am_F) : Prop := ∀ a, a < 145 ∨ 149 ≤ a → g a = h a
theorem lp_runners (h8 : n ≤ 8) (hn : h 81 7 = (n : Int)) (hwh : ∀ t : Nat, t < n → 0 ≤ h 94 t ∧ h 94 t ≤ 40) (hM : popc (yR h n) ≤ 6) (hq : ∀ g, cR2 h g → g 145 3 = (popc (yR h n) : Int) → (∀ k : Nat, k < popc (yR h n) → g 146 k = (mvN (yR h n) k : Int) ∧ g 147 k = (faR h n k : Int)) → Q aV (sT g)) : ∀ (d t : Nat) (g : am_F), t + d = 8 → cR2 h g → g 145 3 = (cb (yR h n) t : Int) → (∀ k : Nat, k < cb (yR h n) t → g 146 k = (mvN (yR h n) k : Int) ∧ g 147 k = (faR h n k : Int)) → wp 179 (am_ju 179 9) [aP 145, aI (yR h n : Int), aI (t : Int)] [] (sT g) Q := by
  intro d
  have l1 := ln_146
  have k1 := kd_146
  have l2 := ln_147
  have k2 := kd_147
  have hZ := yR_lt (h := h) h8
  induction d with
  | zero =>
    intro t g ht h1 h3 h4
    have ht : t = 8 := by omega
    subst ht
    rw [ju_179_9]
    simp only [ju_179_43, r_aLD0, r_gR, cl_178, r_iST1, r_iCONST, r_pI, r_iST2, r_iLD2, r_bPUSH, r_IC3, r_gI, r_iLD1, cl_29, r_IF0, r_iAST, cl_173, r_DUPI, r_DUPP, r_iADD, r_IINC2, r_GOTO, r_vRET, eq_self, Int.reduceLT, Int.reduceLE, Int.reduceEq, true_or, or_true, and_self, true_and, and_true, w8_0, w8_1, w8_2, w8_3, w8_4, nl_I, nl_P, nl_X, pu_I, pu_J, pu_V]
    rw [if_pos (by decide)]
    exact hq g h1 h3 h4
  | succ d ih =>
    intro t g ht h1 h3 h4
    have hcb : cb (yR h n) t ≤ popc (yR h n) := cb_mono (yR h n) (show t ≤ 8 by omega)
    have hw : w3 ((t : Int) + 1) = ((t + 1 : Nat) : Int) := w3_id (by omega) (by omega)
    rw [ju_179_9]
    simp only [r_aLD0, r_gR, cl_178, r_iST1, r_iCONST, r_pI, r_iST2, r_iLD2, r_bPUSH, r_IC3, r_gI, r_iLD1, cl_29, r_IF0, r_iAST, cl_173, r_DUPI, r_DUPP, r_iADD, r_IINC2, r_GOTO, r_vRET, eq_self, Int.reduceLT, Int.reduceLE, Int.reduceEq, true_or, or_true, and_self, true_and, and_true, w8_0, w8_1, w8_2, w8_3, w8_4, nl_I, nl_P, nl_X, pu_I, pu_J, pu_V, kd_145, h3]
    rw [if_neg (by omega)]
    by_cases e6 : 6 ≤ cb (yR h n) t
    · have hm : cb (yR h n) t = popc (yR h n) := by omega
      rw [if_pos (by omega), ju_179_43]
      simp only [r_aLD0, r_gR, cl_178, r_iST1, r_iCONST, r_pI, r_iST2, r_iLD2, r_bPUSH, r_IC3, r_gI, r_iLD1, cl_29, r_IF0, r_iAST, cl_173, r_DUPI, r_DUPP, r_iADD, r_IINC2, r_GOTO, r_vRET, eq_self, Int.reduceLT, Int.reduceLE, Int.reduceEq, true_or, or_true, and_self, true_and, and_true, w8_0, w8_1, w8_2, w8_3, w8_4, nl_I, nl_P, nl_X, pu_I, pu_J, pu_V]
      rw [hm] at h3 h4
      exact hq g h1 h3 h4
    · rw [if_neg (by omega)]
      have hs := cb_s (yR h n) t
      simp only [s_has (show yR h n < 2 ^ 31 by omega) (show t < 31 by omega), b01, r_aLD0, r_gR, cl_178, r_iST1, r_iCONST, r_pI, r_iST2, r_iLD2, r_bPUSH, r_IC3, r_gI, r_iLD1, cl_29, r_IF0, r_iAST, cl_173, r_DUPI, r_DUPP, r_iADD, r_IINC2, r_GOTO, r_vRET, eq_self, Int.reduceLT, Int.reduceLE, Int.reduceEq, true_or, or_true, and_self, true_and, and_true, w8_0, w8_1, w8_2, w8_3, w8_4, nl_I, nl_P, nl_X, pu_I, pu_J, pu_V]
      by_cases e : (yR h n).testBit t = true
      · have mt := ((mv_ok (yR h n) hZ t (by omega)).2 e)
        rw [if_pos e] at hs
        have c0 : (0 : Int) ≤ (cb (yR h n) t : Int) := by omega
        have c6 : (cb (yR h n) t : Int) < 6 := by omega
        have hgw : ∀ a, a < 145 ∨ 149 ≤ a → up g 146 (cb (yR h n) t : Int) (t : Int) a = h a := fun a ha => by rw [up_ne (by omega), h1 a ha]
        have e5 : up g 146 (cb (yR h n) t : Int) (t : Int) 145 3 = (cb (yR h n) t : Int) := by rw [up_ne (by decide), h3]
        have e5' : ∀ v, up (up g 146 (cb (yR h n) t : Int) (t : Int)) 147 (cb (yR h n) t : Int) v 145 3 = (cb (yR h n) t : Int) := fun v => by rw [up_ne (by decide), e5]
        have hw2 : w3 ((cb (yR h n) t : Int) + 1) = ((cb (yR h n) (t + 1) : Nat) : Int) := by rw [w3_id (by omega) (by omega), hs]; rfl
        have ero : ∀ Q', wp 173 (am_ju 173 0) [aP 80, aI (t : Int)] [] (sT (up g 146 (cb (yR h n) t : Int) (t : Int))) Q' ↔ Q' (aI (rlF h (h 94 t - 10) : Int)) (sT (up g 146 (cb (yR h n) t : Int) (t : Int))) := fun Q' => by
          have hb := yR_rol.mp e
          have e1 : rlF (up g 146 (cb (yR h n) t : Int) (t : Int)) (h 94 t - 10) = rlF h (h 94 t - 10) := by
            have es : sortI (up g 146 (cb (yR h n) t : Int) (t : Int)) = sortI h := by funext v; unfold sortI; rw [hgw 88 (by omega), hgw 89 (by omega)]
            unfold rlF; rw [es]
          rw [s_rollOf h8 (by rw [hgw 81 (by omega)]; exact hn) (fun t ht => by rw [hgw 94 (by omega)]; exact hwh t ht), if_pos (by unfold rolB; rw [hgw 87 (by omega), hgw 94 (by omega)]; exact hb), hgw 94 (by omega), e1]
        rw [if_neg (by simpa using e)]
        simp (disch := first | assumption | omega | decide | exact w8_0 | exact w8_1 _ | exact w8_2 _ _ | exact w8_3 _ _ _ | exact nl_I _ | exact nl_P _ | exact nl_X) only [r_aLD0, r_gR, r_gI, r_iLD1, r_iLD2, r_iASTc, r_DUPP, r_iCONST, r_iADD, r_pI, r_IINC2, r_GOTO, cl_173, pu_I, kd_145, kd_80, rR_145_0, rR_145_1, rR_145_2, h3, e5, e5', ero, hw2, ju_179_41, hw]
        refine ih (t + 1) _ (by omega) (fun a ha => by rw [up_ne (by omega), up_ne (by omega), hgw a ha]) up_s (fun k hk => ?_)
        rw [up_ne (show (146 : Int) ≠ 145 by decide), up_ne (show (147 : Int) ≠ 145 by decide), up_ne (show (146 : Int) ≠ 147 by decide)]
        by_cases z : k = cb (yR h n) t
        · subst z
          rw [up_s, up_s, mt.1]
          refine ⟨rfl, ?_⟩
          unfold faR
          rw [mt.1]
        · rw [up_k (by omega), up_k (by omega), up_ne (show (147 : Int) ≠ 146 by decide)]
          exact h4 k (by omega)
      · rw [if_neg e, Nat.add_zero] at hs
        rw [if_pos e, ju_179_41]
        simp only [r_aLD0, r_gR, cl_178, r_iST1, r_iCONST, r_pI, r_iST2, r_iLD2, r_bPUSH, r_IC3, r_gI, r_iLD1, cl_29, r_IF0, r_iAST, cl_173, r_DUPI, r_DUPP, r_iADD, r_IINC2, r_GOTO, r_vRET, eq_self, Int.reduceLT, Int.reduceLE, Int.reduceEq, true_or, or_true, and_self, true_and, and_true, w8_0, w8_1, w8_2, w8_3, w8_4, nl_I, nl_P, nl_X, pu_I, pu_J, pu_V, hw]
        exact ih (t + 1) g (by omega) h1 (by rw [hs]; exact h3) (by rw [hs]; exact h4)
/-- the chase's lists stand -/
def chL (h g : am_F) (n : Nat) : Prop := cR2 h g ∧ g 145 3 = (popc (yR h n) : Int) ∧ ∀ k : Nat, k < popc (yR h n) → g 146 k = (mvN (yR h n) k : Int) ∧ g 147 k = (faR h n k : Int)
theorem s_runners (h8 : n ≤ 8) (hn : h 81 7 = (n : Int)) (hwh : ∀ t : Nat, t < n → 0 ≤ h 94 t ∧ h 94 t ≤ 40) (hM : popc (yR h n) ≤ 6) (hq : ∀ g, chL h g n → Q aV (sT g)) : wp 179 (am_ju 179 0) [aP 145, aX, aX] [] (sT h) Q := by
  rw [ju_179_0]
  simp only [r_aLD0, r_gR, cl_178, r_iST1, r_iCONST, r_pI, r_iST2, r_iLD2, r_bPUSH, r_IC3, r_gI, r_iLD1, cl_29, r_IF0, r_iAST, cl_173, r_DUPI, r_DUPP, r_iADD, r_IINC2, r_GOTO, r_vRET, eq_self, Int.reduceLT, Int.reduceLE, Int.reduceEq, true_or, or_true, and_self, true_and, and_true, w8_0, w8_1, w8_2, w8_3, w8_4, nl_I, nl_P, nl_X, pu_I, pu_J, pu_V, kd_145, ln_145, rR_145_0, rR_145_1, rR_145_2, rR_145_4, kd_80, ln_80, rR_80_0, rR_80_1, rR_80_2, rR_80_3, s_yR h8 hn]
  exact lp_runners h8 hn hwh hM (fun g a b c => hq g ⟨a, b, c⟩) 8 0 _ rfl (fun a ha => up_ne (by omega) _ _) up_s (fun k hk => absurd hk (by unfold cb; simp))
theorem sec_r (f : Nat → Nat) (hf : ∀ k, f k ≤ 20) : ∀ N, 0 ≤ sec f N B i ∧ sec f N B i ≤ 41 * N := by
  intro N
  induction N with
  | zero => exact ⟨Int.le_refl _, Int.le_refl _⟩
  | succ N ih =>
    unfold sec at ih ⊢
    rw [sumF]
    have := hf N
    split <;> omega
theorem lp_isHad (hM : popc (yR h n) ≤ 6) (hg : chL h g n) (hB : B < 64) (hk : i < popc (yR h n)) : ∀ (d o : Nat), o + d = popc (yR h n) → (wp 180 (am_ju 180 11) [aP 145, aI (B : Int), aI (i : Int), aI (sec (faR h n) o B i), aI (o : Int)] [] (sT g) Q ↔ Q (aI (if sec (faR h n) (popc (yR h n)) B i ≤ 3 * (faR h n i : Int) + 2 then 1 else 0)) (sT g)) := by
  intro d
  have l2 := ln_147
  have k2 := kd_147
  obtain ⟨g1, g2, g3⟩ := hg
  have hf : ∀ k, faR h n k ≤ 20 := fun k => rlF_le
  have gi := (g3 i hk).2
  have i0 : (0 : Int) ≤ i := by omega
  have i6 : (i : Int) < 6 := by omega
  have hfi := hf i
  induction d with
  | zero =>
    intro o ho
    have ho : o = popc (yR h n) := by omega
    subst ho
    have hr := sec_r (B := B) (i := i) (faR h n) hf (popc (yR h n))
    rw [ju_180_11]
    simp (disch := first | assumption | omega | exact w8_0 | exact w8_1 _ | exact w8_2 _ _ | exact w8_3 _ _ _ | exact w8_4 _ _ _ _ | exact nl_I _ | exact nl_P _ | exact nl_X | decide | exact w8_5 _ _ _ _ _) only [ju_180_35, ju_180_47, ju_180_48, r_aLD0, r_gR, r_iLD2, r_iALDc, r_iALDs, r_IF1, r_iCONST, r_zRET, r_iST3, r_iST4, r_iLD4, r_gI, r_IC3, r_IC0, r_iLD1, cl_29, r_IF0, r_iLD3, r_iMUL, r_iADD, r_IINC4, r_GOTO, r_IC4, eq_self, Int.reduceLT, Int.reduceLE, Int.reduceEq, true_or, or_true, and_self, true_and, and_true, w8_0, w8_1, w8_2, w8_3, w8_4, nl_I, nl_P, nl_X, pu_I, pu_J, pu_V, w3_id, Int.add_zero, kd_145, rR_145_2, g2, gi, r_zRET0, r_zRET1]
    rw [if_pos (by omega)]
    by_cases e : sec (faR h n) (popc (yR h n)) B i ≤ 3 * (faR h n i : Int) + 2
    · rw [if_neg (by omega), if_pos e]
    · rw [if_pos (by omega), if_neg e]
  | succ d ih =>
    intro o ho
    have o0 : (0 : Int) ≤ o := by omega
    have o6 : (o : Int) < 6 := by omega
    have hw : w3 ((o : Int) + 1) = ((o + 1 : Nat) : Int) := w3_id (by omega) (by omega)
    have hr := sec_r (B := B) (i := i) (faR h n) hf o
    have hfo := hf o
    have go := (g3 o (by omega)).2
    have ih := ih (o + 1) (by omega)
    rw [show sec (faR h n) (o + 1) B i = sec (faR h n) o B i + (if o = i ∨ B.testBit o = true then 2 * (faR h n o : Int) + 1 else 0) from rfl] at ih
    rw [ju_180_11]
    simp (disch := first | assumption | omega | exact w8_0 | exact w8_1 _ | exact w8_2 _ _ | exact w8_3 _ _ _ | exact w8_4 _ _ _ _ | exact nl_I _ | exact nl_P _ | exact nl_X | decide | exact w8_5 _ _ _ _ _) only [r_aLD0, r_gR, r_iLD2, r_iALDc, r_iALDs, r_IF1, r_iCONST, r_zRET, r_iST3, r_iST4, r_iLD4, r_gI, r_IC3, r_IC0, r_iLD1, cl_29, r_IF0, r_iLD3, r_iMUL, r_iADD, r_IINC4, r_GOTO, r_IC4, eq_self, Int.reduceLT, Int.reduceLE, Int.reduceEq, true_or, or_true, and_self, true_and, and_true, w8_0, w8_1, w8_2, w8_3, w8_4, nl_I, nl_P, nl_X, pu_I, pu_J, pu_V, w3_id, Int.add_zero, kd_145, g2, s_has (show B < 2 ^ 31 by omega) (show o < 31 by omega), b01]
    rw [if_neg (by omega)]
    by_cases e : o = i
    · rw [if_pos (Or.inl e)] at ih
      rw [if_pos (by omega)]
      simp (disch := first | assumption | omega | exact w8_0 | exact w8_1 _ | exact w8_2 _ _ | exact w8_3 _ _ _ | exact w8_4 _ _ _ _ | exact nl_I _ | exact nl_P _ | exact nl_X | decide | exact w8_5 _ _ _ _ _) only [ju_180_22, ju_180_33, r_aLD0, r_gR, r_iLD2, r_iALDc, r_iALDs, r_IF1, r_iCONST, r_zRET, r_iST3, r_iST4, r_iLD4, r_gI, r_IC3, r_IC0, r_iLD1, cl_29, r_IF0, r_iLD3, r_iMUL, r_iADD, r_IINC4, r_GOTO, r_IC4, eq_self, Int.reduceLT, Int.reduceLE, Int.reduceEq, true_or, or_true, and_self, true_and, and_true, w8_0, w8_1, w8_2, w8_3, w8_4, nl_I, nl_P, nl_X, pu_I, pu_J, pu_V, w3_id, Int.add_zero, kd_145, rR_145_2, go, hw]
      exact ih
    · rw [if_neg (by omega)]
      by_cases f : B.testBit o = true
      · rw [if_pos (Or.inr f)] at ih
        rw [if_neg (by simpa using f)]
        simp (disch := first | assumption | omega | exact w8_0 | exact w8_1 _ | exact w8_2 _ _ | exact w8_3 _ _ _ | exact w8_4 _ _ _ _ | exact nl_I _ | exact nl_P _ | exact nl_X | decide | exact w8_5 _ _ _ _ _) only [ju_180_22, ju_180_33, r_aLD0, r_gR, r_iLD2, r_iALDc, r_iALDs, r_IF1, r_iCONST, r_zRET, r_iST3, r_iST4, r_iLD4, r_gI, r_IC3, r_IC0, r_iLD1, cl_29, r_IF0, r_iLD3, r_iMUL, r_iADD, r_IINC4, r_GOTO, r_IC4, eq_self, Int.reduceLT, Int.reduceLE, Int.reduceEq, true_or, or_true, and_self, true_and, and_true, w8_0, w8_1, w8_2, w8_3, w8_4, nl_I, nl_P, nl_X, pu_I, pu_J, pu_V, w3_id, Int.add_zero, kd_145, rR_145_2, go, hw]
        exact ih
      · rw [if_neg (fun q => by rcases q with q | q; exact e q; exact f q), Int.add_zero] at ih
        rw [if_pos f]
        simp (disch := first | assumption | omega | exact w8_0 | exact w8_1 _ | exact w8_2 _ _ | exact w8_3 _ _ _ | exact w8_4 _ _ _ _ | exact nl_I _ | exact nl_P _ | exact nl_X | decide | exact w8_5 _ _ _ _ _) only [ju_180_33, r_aLD0, r_gR, r_iLD2, r_iALDc, r_iALDs, r_IF1, r_iCONST, r_zRET, r_iST3, r_iST4, r_iLD4, r_gI, r_IC3, r_IC0, r_iLD1, cl_29, r_IF0, r_iLD3, r_iMUL, r_iADD, r_IINC4, r_GOTO, r_IC4, eq_self, Int.reduceLT, Int.reduceLE, Int.reduceEq, true_or, or_true, and_self, true_and, and_true, w8_0, w8_1, w8_2, w8_3, w8_4, nl_I, nl_P, nl_X, pu_I, pu_J, pu_V, w3_id, Int.add_zero, hw]
        exact ih
theorem s_isHad (hM : popc (yR h n) ≤ 6) (hg : chL h g n) (hB : B < 64) (hk : i < popc (yR h n)) : wp 180 (am_ju 180 0) [aP 145, aI (B : Int), aI (i : Int), aX, aX] [] (sT g) Q ↔ Q (aI (if had (faR h n) (popc (yR h n)) B i then 1 else 0)) (sT g) := by
  have l2 := ln_147
  have k2 := kd_147
  have gi := (hg.2.2 i hk).2
  have i0 : (0 : Int) ≤ i := by omega
  have i6 : (i : Int) < 6 := by omega
  rw [ju_180_0]
  simp (disch := first | assumption | omega | exact w8_0 | exact w8_1 _ | exact w8_2 _ _ | exact w8_3 _ _ _ | exact w8_4 _ _ _ _ | exact nl_I _ | exact nl_P _ | exact nl_X | decide | exact w8_5 _ _ _ _ _) only [r_aLD0, r_gR, r_iLD2, r_iALDc, r_iALDs, r_IF1, r_iCONST, r_zRET, r_iST3, r_iST4, r_iLD4, r_gI, r_IC3, r_IC0, r_iLD1, cl_29, r_IF0, r_iLD3, r_iMUL, r_iADD, r_IINC4, r_GOTO, r_IC4, eq_self, Int.reduceLT, Int.reduceLE, Int.reduceEq, true_or, or_true, and_self, true_and, and_true, w8_0, w8_1, w8_2, w8_3, w8_4, nl_I, nl_P, nl_X, pu_I, pu_J, pu_V, w3_id, Int.add_zero, kd_145, rR_145_2, gi, r_zRET1]
  by_cases e : faR h n i = 0
  · rw [if_neg (by omega), if_pos (Or.inl e)]
  · rw [if_pos (by omega), ju_180_7]
    simp only [r_aLD0, r_gR, r_iLD2, r_iALD, r_iALDs, r_IF1, r_iCONST, r_zRET, r_iST3, r_iST4, r_iLD4, r_gI, r_IC3, r_IC0, r_iLD1, cl_29, r_IF0, r_iLD3, r_iMUL, r_iADD, r_IINC4, r_GOTO, r_IC4, eq_self, Int.reduceLT, Int.reduceLE, Int.reduceEq, true_or, or_true, and_self, true_and, and_true, w8_0, w8_1, w8_2, w8_3, w8_4, nl_I, nl_P, nl_X, pu_I, pu_J, pu_V]
    refine Iff.trans (lp_isHad hM hg hB hk (popc (yR h n)) 0 (Nat.zero_add _)) ?_
    by_cases f : sec (faR h n) (popc (yR h n)) B i ≤ 3 * (faR h n i : Int) + 2
    · rw [if_pos f, if_pos (Or.inr f)]
    · rw [if_neg f, if_neg (fun q => by rcases q with q | q; exact e q; exact f q)]
end RU
