/-- the class's world in order: n things, nb bags, a way of L steps, the step s -/
def CO (h : am_F) (n nb L s : Nat) : Prop := h 81 6 = (nb : Int) ∧ nb ≤ 3 ∧ h 81 7 = (n : Int) ∧ n ≤ 8 ∧ h 88 1 = (L : Int) ∧ L ≤ 20 ∧ h 90 4 = (s : Int) ∧ s ≤ L ∧ (∀ t : Nat, t < n → (0 ≤ h 83 t ∧ h 83 t ≤ 30) ∧ (0 ≤ h 84 t ∧ h 84 t ≤ 5) ∧ (0 ≤ h 85 t ∧ h 85 t ≤ 5)) ∧ ∀ b : Nat, b < nb → (0 ≤ h 82 b ∧ h 82 b ≤ 3) ∧ (0 ≤ h 91 b ∧ h 91 b ≤ 999) ∧ (0 ≤ h 92 b ∧ h 92 b ≤ 999) ∧ (0 ≤ h 93 b ∧ h 93 b < 16)
def cS (h : am_F) (b : Int) (n : Nat) : Nat := setF (fun t => decide (h 94 t = b)) n
def tR (h h' : am_F) : Prop := ∀ a : Int, a ≠ 138 → h' a = h a
def cR (h : am_F) (n L s : Nat) (bj dbl : Int) (b : Nat) : Int := if cS h b n = 0 then 99 else fgv h (if (b : Int) = dbl then 1 else h 82 b) (h 93 b).toNat (cS h b n) bj (L - s) s (h 91 b) (h 92 b)
section CK
variable {h h' : am_F} {Q : am_V → am_S → Prop} {bj dbl : Int} {n nb L s : Nat}
theorem cS_lt {b : Int} (h8 : n ≤ 8) : cS h b n < 256 := Nat.lt_of_lt_of_le (setF_lt _ n) (Nat.pow_le_pow_right (n := 2) (j := 8) (by decide) h8)
theorem cS_gd {b : Int} (hC : CO h n nb L s) : gd h (cS h b n) := by
  intro t ht
  unfold cS at ht
  rw [setF_bit, Bool.and_eq_true, decide_eq_true_eq] at ht
  exact hC.2.2.2.2.2.2.2.2.1 t ht.1
theorem CO_t (hC : CO h n nb L s) (ht : tR h h') : CO h' n nb L s := by
  unfold CO at hC ⊢
  rw [ht 81 (by decide), ht 88 (by decide), ht 90 (by decide), ht 83 (by decide), ht 84 (by decide), ht 85 (by decide), ht 82 (by decide), ht 91 (by decide), ht 92 (by decide), ht 93 (by decide)]
  exact hC
theorem cS_t {b : Int} (ht : tR h h') : cS h' b n = cS h b n := by unfold cS; rw [ht 94 (by decide)]
theorem fgv_t (ht : tR h h') (k : Int) (g S : Nat) (bj : Int) (m s : Nat) (w r : Int) : fgv h' k g S bj m s w r = fgv h k g S bj m s w r := by
  rw [fgv_fg0, fgv_fg0, ht 83 (by decide), ht 84 (by decide), ht 85 (by decide)]
  have : (fun s : Nat => sortI h' s) = fun s : Nat => sortI h s := by
    funext s; unfold sortI; rw [ht 88 (by decide), ht 89 (by decide)]
  rw [this]
theorem bS_t {k w r : Int} {g S : Nat} (ht : tR h h') : tR h (bS h' 138 k w r g S) := by
  intro a ha
  have : bS h' 138 k w r g S a = h' a := by
    funext x
    unfold bS bw
    rw [up_ne ha, up_ne ha, up_ne ha, up_ne ha, up_ne ha, up_ne ha, up_ne ha, up_ne ha]
  rw [this, ht a ha]
theorem lp_oFG (hC : CO h n nb L s) (hbj : 0 ≤ bj ∧ bj ≤ 7) (hq : ∀ h', tR h h' → Q (aI (minB (cR h n L s bj dbl) nb)) (sT h')) : ∀ (k b : Nat) (h' : am_F), b + k = nb → tR h h' → wp 135 (am_ju 135 4) [aP 137, aI bj, aI dbl, aI (minB (cR h n L s bj dbl) b), aI (b : Int)] [] (sT h') Q := by
  intro k
  induction k with
  | zero =>
    intro b h' hb ht
    have hb : b = nb := by omega
    subst hb
    have e : h' 81 6 = (b : Int) := by rw [ht 81 (by decide)]; exact hC.1
    rw [ju_135_4]
    simp only [ju_135_43, r_bPUSH, r_iST3, r_iCONST, r_iST4, r_iLD4, r_aLD0, r_gR, r_gI, r_IC3, cl_39, cl_42, r_iLD2, r_IC1, r_pI, r_iLD3, r_iLD1, cl_134, r_MMIN, r_IINC4, r_GOTO, r_iRET, eq_self, Int.reduceLT, Int.reduceLE, Int.reduceEq, true_or, or_true, and_self, true_and, and_true, w8_0, w8_1, w8_2, w8_3, w8_4, nl_I, nl_P, nl_X, pu_I, pu_J, pu_V, kd_137, ln_137, rR_137_0, rR_137_1, rR_137_2, rR_137_3, rR_137_4, rR_137_6, rR_137_7, rR_137_8, kd_80, ln_80, rR_80_0, rR_80_1, rR_80_2, rR_80_3, kd_81, ln_81, rR_81_0, rR_81_1, rR_81_2, rR_81_3, rR_81_4, rR_81_5, e]
    rw [if_pos (by omega)]
    exact hq h' ht
  | succ k ih =>
    intro b h' hb ht
    have hC' := CO_t hC ht
    obtain ⟨c1, c2, c3, c4, c5, c6, c7, c8, c9, c10⟩ := id hC'
    obtain ⟨d1, d2, d3, d4⟩ := c10 b (by omega)
    obtain ⟨g, eg⟩ := Int.eq_ofNat_of_zero_le d4.1
    have hg : g < 16 := by omega
    have hw : w3 ((b : Int) + 1) = ((b + 1 : Nat) : Int) := w3_id (by omega) (by omega)
    have hSl := cS_lt (h := h') (b := b) c4
    have hgd := cS_gd (b := b) hC'
    rw [ju_135_4]
    simp only [r_bPUSH, r_iST3, r_iCONST, r_iST4, r_iLD4, r_aLD0, r_gR, r_gI, r_IC3, cl_39, cl_42, r_iLD2, r_IC1, r_pI, r_iLD3, r_iLD1, cl_134, r_MMIN, r_IINC4, r_GOTO, r_iRET, eq_self, Int.reduceLT, Int.reduceLE, Int.reduceEq, true_or, or_true, and_self, true_and, and_true, w8_0, w8_1, w8_2, w8_3, w8_4, nl_I, nl_P, nl_X, pu_I, pu_J, pu_V, kd_137, ln_137, rR_137_0, rR_137_1, rR_137_2, rR_137_3, rR_137_4, rR_137_6, rR_137_7, rR_137_8, kd_80, ln_80, rR_80_0, rR_80_1, rR_80_2, rR_80_3, kd_81, ln_81, rR_81_0, rR_81_1, rR_81_2, rR_81_3, rR_81_4, rR_81_5, kd_138, ln_138, c1, s_thingsAt c4 c3]
    rw [if_neg (by omega), show setF (fun t => decide (h' 94 t = (b : Int))) n = cS h' b n from rfl]
    simp only [s_load kd_138 ⟨show (0 : Int) ≤ b by omega, show (b : Int) < h' 81 6 by omega, show (b : Int) < 3 by omega⟩ hSl hgd, r_bPUSH, r_iST3, r_iCONST, r_iST4, r_iLD4, r_aLD0, r_gR, r_gI, r_IC3, cl_39, cl_42, r_iLD2, r_IC1, r_pI, r_iLD3, r_iLD1, cl_134, r_MMIN, r_IINC4, r_GOTO, r_iRET, eq_self, Int.reduceLT, Int.reduceLE, Int.reduceEq, true_or, or_true, and_self, true_and, and_true, w8_0, w8_1, w8_2, w8_3, w8_4, nl_I, nl_P, nl_X, pu_I, pu_J, pu_V, kd_137, ln_137, rR_137_0, rR_137_1, rR_137_2, rR_137_3, rR_137_4, rR_137_6, rR_137_7, rR_137_8, kd_80, ln_80, rR_80_0, rR_80_1, rR_80_2, rR_80_3, kd_81, ln_81, rR_81_0, rR_81_1, rR_81_2, rR_81_3, rR_81_4, rR_81_5, kd_138, ln_138]
    rw [eg, show bw h' 138 (h' 82 b) (h' 91 b) (h' 92 b) ((g : Nat) : Int) (cS h' b n) (sumS (h' 83) (cS h' b n) 8) (sumS (h' 84) (cS h' b n) 8) (sumS (h' 85) (cS h' b n) 8) = bS h' 138 (h' 82 b) (h' 91 b) (h' 92 b) g (cS h' b n) from rfl]
    have key : ∀ kk : Int, 0 ≤ kk ∧ kk ≤ 3 → kk = (if (b : Int) = dbl then 1 else h 82 b) → wp 135 (am_ju 135 27) [aP 137, aI bj, aI dbl, aI (minB (cR h n L s bj dbl) b), aI (b : Int)] [] (sT (bS h' 138 kk (h' 91 b) (h' 92 b) g (cS h' b n))) Q := by
      intro kk hkk ekk
      have e4 : bS h' 138 kk (h' 91 b) (h' 92 b) g (cS h' b n) 90 4 = (s : Int) := by rw [bS_n kd_138 (by decide)]; exact c7
      rw [ju_135_27]
      simp only [r_bPUSH, r_iST3, r_iCONST, r_iST4, r_iLD4, r_aLD0, r_gR, r_gI, r_IC3, cl_39, cl_42, r_iLD2, r_IC1, r_pI, r_iLD3, r_iLD1, cl_134, r_MMIN, r_IINC4, r_GOTO, r_iRET, eq_self, Int.reduceLT, Int.reduceLE, Int.reduceEq, true_or, or_true, and_self, true_and, and_true, w8_0, w8_1, w8_2, w8_3, w8_4, nl_I, nl_P, nl_X, pu_I, pu_J, pu_V, kd_137, ln_137, rR_137_0, rR_137_1, rR_137_2, rR_137_3, rR_137_4, rR_137_6, rR_137_7, rR_137_8, kd_80, ln_80, rR_80_0, rR_80_1, rR_80_2, rR_80_3, kd_88, ln_88, rR_88_0, kd_90, ln_90, rR_90_0, rR_90_1, rR_90_2, rR_90_3, kd_138, ln_138, e4]
      refine s_firstGive kd_138 hkk d2 d3 hg hgd hbj c5 c6 c8 (fun w' r' => ?_)
      simp only [r_bPUSH, r_iST3, r_iCONST, r_iST4, r_iLD4, r_aLD0, r_gR, r_gI, r_IC3, cl_39, cl_42, r_iLD2, r_IC1, r_pI, r_iLD3, r_iLD1, cl_134, r_MMIN, r_IINC4, r_GOTO, r_iRET, eq_self, Int.reduceLT, Int.reduceLE, Int.reduceEq, true_or, or_true, and_self, true_and, and_true, w8_0, w8_1, w8_2, w8_3, w8_4, nl_I, nl_P, nl_X, pu_I, pu_J, pu_V, hw]
      have := ih (b + 1) (bS h' 138 kk w' r' g (cS h' b n)) (by omega) (bS_t ht)
      rw [minB] at this
      have ec : cR h n L s bj dbl b = if cS h' b n = 0 then 99 else fgv h' kk g (cS h' b n) bj (L - s) s (h' 91 b) (h' 92 b) := by
        unfold cR
        rw [cS_t ht, fgv_t ht, ← ekk, ht 91 (by decide), ht 92 (by decide), ← ht 93 (by decide), eg]
        rfl
      rw [ec] at this
      exact this
    by_cases hd : (b : Int) = dbl
    · rw [if_neg (by simpa using hd)]
      rw [show up (bS h' 138 (h' 82 b) (h' 91 b) (h' 92 b) g (cS h' b n)) 138 0 1 = bS h' 138 1 (h' 91 b) (h' 92 b) g (cS h' b n) from up_0]
      exact key 1 (by omega) (by rw [if_pos hd])
    · rw [if_pos hd]
      exact key (h' 82 b) d1 (by rw [if_neg hd, ht 82 (by decide)])
theorem s_oFG (hC : CO h n nb L s) (hbj : 0 ≤ bj ∧ bj ≤ 7) (hq : ∀ h', tR h h' → Q (aI (minB (cR h n L s bj dbl) nb)) (sT h')) : wp 135 (am_ju 135 0) [aP 137, aI bj, aI dbl, aX, aX] [] (sT h) Q := by
  rw [ju_135_0]
  simp only [r_bPUSH, r_iST3, r_iCONST, r_iST4, r_iLD4, r_aLD0, r_gR, r_gI, r_IC3, cl_39, cl_42, r_iLD2, r_IC1, r_pI, r_iLD3, r_iLD1, cl_134, r_MMIN, r_IINC4, r_GOTO, r_iRET, eq_self, Int.reduceLT, Int.reduceLE, Int.reduceEq, true_or, or_true, and_self, true_and, and_true, w8_0, w8_1, w8_2, w8_3, w8_4, nl_I, nl_P, nl_X, pu_I, pu_J, pu_V]
  exact lp_oFG hC hbj hq nb 0 h (Nat.zero_add nb) (fun _ _ => rfl)
end CK
