def chO (nb M v b : Nat) : Nat := setF (fun k => decide (dgt nb M v k = b)) M
def FV (h : am_F) (n nb L s v : Nat) : Int := minB (fun b => rcF h n L s (chO nb (popc (zL h n)) v b) b) nb
def bp (F : Nat → Int) : Nat → Nat × Int
  | 0 => (0, -1)
  | v + 1 => if (bp F v).2 < F v then (v, F v) else bp F v
section PM
variable {g h h' h1 h2 u : am_F} {Q : am_V → am_S → Prop} {so j bj x y z o c w r k : Int} {n nb L s K nx b m a q B S T i gg l M Z v ch : Nat}
theorem chO_lt : chO nb M v b < 2 ^ M := setF_lt _ M
theorem lp_rr1 {far : Int} (hM : M ≤ 6) (h5 : u 137 5 = (M : Int)) (hr : ∀ k : Nat, k < M → u 143 k = (dgt nb M v k : Int)) : ∀ (d k : Nat), k + d = M → (wp 152 (am_ju 152 14) [aP 137, aI far, aI (b : Int), aI (setF (fun k => decide (dgt nb M v k = b)) k : Int), aI (k : Int)] [] (sT u) Q ↔ wp 152 (am_ju 152 32) [aP 137, aI far, aI (b : Int), aI (chO nb M v b : Int), aI (M : Int)] [] (sT u) Q) := by
  intro d
  have l1 := ln_143
  have k1 := kd_143
  induction d with
  | zero =>
    intro k hk
    have hk : k = M := by omega
    subst hk
    rw [ju_152_14]
    simp only [r_bPUSH, r_iST1, r_iCONST, r_iST2, r_iLD2, r_aLD0, r_gR, r_gI, r_IC3, r_iST3, r_iST4, r_iLD4, r_iALD, r_iALDs, r_IC1, r_iLD3, r_iSHL, r_iOR, r_IINC4, r_GOTO, r_iLD1, r_iMUL, r_iADD, r_MMIN, r_IINC2, r_iRET, eq_self, Int.reduceLT, Int.reduceLE, Int.reduceEq, true_or, or_true, and_self, true_and, and_true, w8_0, w8_1, w8_2, w8_3, w8_4, nl_I, nl_P, nl_X, pu_I, pu_J, pu_V, kd_137, h5]
    rw [if_pos (by omega)]
    rfl
  | succ d ih =>
    intro k hk
    have hw : w3 ((k : Int) + 1) = ((k + 1 : Nat) : Int) := w3_id (by omega) (by omega)
    have k0 : (0 : Int) ≤ k := by omega
    have k6 : (k : Int) < 6 := by omega
    have hlt := setF_lt (fun k => decide (dgt nb M v k = b)) k
    have h31 : 2 ^ k < 2 ^ 31 := Nat.pow_lt_pow_right (by decide) (by omega)
    have e1 : bOr (setF (fun k => decide (dgt nb M v k = b)) k : Int) (bShl 1 (k : Int)) = ((setF (fun k => decide (dgt nb M v k = b)) k ||| 2 ^ k : Nat) : Int) := by
      rw [show (1 : Int) = ((1 : Nat) : Int) from rfl, bShl_n 1 k (by omega) (by omega), Nat.one_mul, bOr_n _ _ (by omega) h31]
    have ih := ih (k + 1) (by omega)
    rw [setF] at ih
    rw [ju_152_14]
    simp (disch := first | assumption | omega | exact w8_0 | exact w8_1 _ | exact w8_2 _ _ | exact w8_3 _ _ _ | exact w8_4 _ _ _ _ | exact nl_I _ | exact nl_P _ | exact nl_X | decide | exact w8_5 _ _ _ _ _) only [ju_152_30, r_bPUSH, r_iST1, r_iCONST, r_iST2, r_iLD2, r_aLD0, r_gR, r_gI, r_IC3, r_iST3, r_iST4, r_iLD4, r_iALDc, r_iALDs, r_IC1, r_iLD3, r_iSHL, r_iOR, r_IINC4, r_GOTO, r_iLD1, r_iMUL, r_iADD, r_MMIN, r_IINC2, r_iRET, eq_self, Int.reduceLT, Int.reduceLE, Int.reduceEq, true_or, or_true, and_self, true_and, and_true, w8_0, w8_1, w8_2, w8_3, w8_4, nl_I, nl_P, nl_X, pu_I, pu_J, pu_V, w3_id, Int.add_zero, kd_137, rR_137_7, h5, hr k (by omega), e1, hw]
    rw [if_neg (by omega)]
    by_cases e : dgt nb M v k = b
    · rw [if_pos (by simpa using e)] at ih
      rw [if_neg (by omega)]
      exact ih
    · rw [if_neg (by simpa using e), Nat.or_zero] at ih
      rw [if_pos (by omega)]
      exact ih
theorem lp_rr2 (hC : CO h n nb L s) (hM : popc (zL h n) ≤ 6) (hu : wR2 h u) (hm : mvd h u n) (ht : rcT h u n nb L s (2 ^ popc (zL h n)) 0) (hr : ∀ k : Nat, k < popc (zL h n) → u 143 k = (dgt nb (popc (zL h n)) v k : Int)) : ∀ (d b : Nat) (v3 v4 : am_V), b + d = nb → am_nl v3 = true → am_nl v4 = true → (wp 152 (am_ju 152 4) [aP 137, aI (minB (fun b => rcF h n L s (chO nb (popc (zL h n)) v b) b) b), aI (b : Int), v3, v4] [] (sT u) Q ↔ Q (aI (FV h n nb L s v)) (sT u)) := by
  intro d
  have l1 := ln_142
  have k1 := kd_142
  obtain ⟨c1, c2, -⟩ := id hC
  have e6 : u 81 6 = (nb : Int) := by rw [hu 81 (by decide)]; exact c1
  have h64 : 2 ^ popc (zL h n) ≤ 2 ^ 6 := Nat.pow_le_pow_right (by decide) hM
  induction d with
  | zero =>
    intro b v3 v4 hb q3 q4
    have hb : b = nb := by omega
    subst hb
    rw [ju_152_4]
    simp only [ju_152_45, r_bPUSH, r_iST1, r_iCONST, r_iST2, r_iLD2, r_aLD0, r_gR, r_gI, r_IC3, r_iST3, r_iST4, r_iLD4, r_iALD, r_iALDs, r_IC1, r_iLD3, r_iSHL, r_iOR, r_IINC4, r_GOTO, r_iLD1, r_iMUL, r_iADD, r_MMIN, r_IINC2, r_iRET, eq_self, Int.reduceLT, Int.reduceLE, Int.reduceEq, true_or, or_true, and_self, true_and, and_true, w8_0, w8_1, w8_2, w8_3, w8_4, nl_I, nl_P, nl_X, pu_I, pu_J, pu_V, kd_137, ln_137, rR_137_0, rR_137_1, rR_137_2, rR_137_3, rR_137_4, rR_137_6, rR_137_7, rR_137_8, kd_80, ln_80, rR_80_0, rR_80_1, rR_80_2, rR_80_3, kd_81, ln_81, rR_81_0, rR_81_1, rR_81_2, rR_81_3, rR_81_4, rR_81_5, e6]
    rw [if_pos (by omega)]
    rfl
  | succ d ih =>
    intro b v3 v4 hb q3 q4
    have hw : w3 ((b : Int) + 1) = ((b + 1 : Nat) : Int) := w3_id (by omega) (by omega)
    have hcl := chO_lt (nb := nb) (M := popc (zL h n)) (v := v) (b := b)
    have hwi : w3 (w3 ((b : Int) * 64) + (chO nb (popc (zL h n)) v b : Int)) = 64 * (b : Int) + (chO nb (popc (zL h n)) v b : Int) := by rw [w3_id (x := (b : Int) * 64) (by omega) (by omega), w3_id (by omega) (by omega)]; omega
    have er : u 142 (64 * (b : Int) + (chO nb (popc (zL h n)) v b : Int)) = rcF h n L s (chO nb (popc (zL h n)) v b) b := ht b _ (by omega) (Or.inl hcl)
    have ih := ih (b + 1) (aI (chO nb (popc (zL h n)) v b : Int)) (aI (popc (zL h n) : Int)) (by omega) rfl rfl
    rw [minB] at ih
    rw [ju_152_4]
    simp (disch := first | assumption | omega | decide | exact nl_I _) only [r_bPUSH, r_iST1, r_iCONST, r_iST2, r_iLD2, r_aLD0, r_gR, r_gI, r_IC3, r_iST3, r_iST4, r_iLD4, r_iALD, r_iALDs, r_IC1, r_iLD3, r_iSHL, r_iOR, r_IINC4, r_GOTO, r_iLD1, r_iMUL, r_iADD, r_MMIN, r_IINC2, r_iRET, eq_self, Int.reduceLT, Int.reduceLE, Int.reduceEq, true_or, or_true, and_self, true_and, and_true, w8_0, w8_1, w8_2, w8_3, w8_4, nl_I, nl_P, nl_X, pu_I, pu_J, pu_V, kd_137, ln_137, rR_137_0, rR_137_1, rR_137_2, rR_137_3, rR_137_4, rR_137_6, rR_137_7, rR_137_8, kd_80, ln_80, rR_80_0, rR_80_1, rR_80_2, rR_80_3, kd_81, ln_81, rR_81_0, rR_81_1, rR_81_2, rR_81_3, rR_81_4, rR_81_5, e6]
    rw [if_neg (by omega)]
    have := lp_rr1 (Q := Q) (b := b) (far := minB (fun b => rcF h n L s (chO nb (popc (zL h n)) v b) b) b) hM hm.1 hr (popc (zL h n)) 0 (Nat.zero_add _)
    refine Iff.trans this ?_
    rw [ju_152_32]
    simp only [r_bPUSH, r_iST1, r_iCONST, r_iST2, r_iLD2, r_aLD0, r_gR, r_gI, r_IC3, r_iST3, r_iST4, r_iLD4, r_iALD, r_iALDs, r_IC1, r_iLD3, r_iSHL, r_iOR, r_IINC4, r_GOTO, r_iLD1, r_iMUL, r_iADD, r_MMIN, r_IINC2, r_iRET, eq_self, Int.reduceLT, Int.reduceLE, Int.reduceEq, true_or, or_true, and_self, true_and, and_true, w8_0, w8_1, w8_2, w8_3, w8_4, nl_I, nl_P, nl_X, pu_I, pu_J, pu_V, kd_137, ln_137, rR_137_0, rR_137_1, rR_137_2, rR_137_3, rR_137_4, rR_137_6, rR_137_7, rR_137_8, kd_142, ln_142, hwi, er, hw]
    exact ⟨fun q => ih.mp q.2, fun q => ⟨⟨by omega, by omega⟩, ih.mpr q⟩⟩
theorem s_rr (hC : CO h n nb L s) (hM : popc (zL h n) ≤ 6) (hu : wR2 h u) (hm : mvd h u n) (ht : rcT h u n nb L s (2 ^ popc (zL h n)) 0) (hr : ∀ k : Nat, k < popc (zL h n) → u 143 k = (dgt nb (popc (zL h n)) v k : Int)) : wp 152 (am_ju 152 0) [aP 137, aX, aX, aX, aX] [] (sT u) Q ↔ Q (aI (FV h n nb L s v)) (sT u) := by
  rw [ju_152_0]
  simp only [r_bPUSH, r_iST1, r_iCONST, r_iST2, r_iLD2, r_aLD0, r_gR, r_gI, r_IC3, r_iST3, r_iST4, r_iLD4, r_iALD, r_iALDs, r_IC1, r_iLD3, r_iSHL, r_iOR, r_IINC4, r_GOTO, r_iLD1, r_iMUL, r_iADD, r_MMIN, r_IINC2, r_iRET, eq_self, Int.reduceLT, Int.reduceLE, Int.reduceEq, true_or, or_true, and_self, true_and, and_true, w8_0, w8_1, w8_2, w8_3, w8_4, nl_I, nl_P, nl_X, pu_I, pu_J, pu_V]
  exact lp_rr2 hC hM hu hm ht hr nb 0 aX aX (Nat.zero_add nb) rfl rfl
/-- the state of the search behind v rows -/
def fpI (h u : am_F) (n nb L s v : Nat) : Prop := wR2 h u ∧ mvd h u n ∧ rcT h u n nb L s (2 ^ popc (zL h n)) 0 ∧ (∀ k : Nat, k < popc (zL h n) → u 143 k = (dgt nb (popc (zL h n)) v k : Int)) ∧ u 137 9 = (bp (FV h n nb L s) v).2 ∧ (0 < v → ∀ k : Nat, k < popc (zL h n) → u 144 k = (dgt nb (popc (zL h n)) (bp (FV h n nb L s) v).1 k : Int))
theorem FV_ok (hC : CO h n nb L s) : okm L (FV h n nb L s v) := okm_min nb (fun b hb => okm_gW hC.2.2.2.2.2.2.2.1 hC.2.2.2.2.2.1)
theorem bp_0 (hC : CO h n nb L s) : 0 < v → okm L (bp (FV h n nb L s) v).2 := by
  induction v with
  | zero => intro q; omega
  | succ v ih =>
    intro _
    rw [bp]
    split
    · exact FV_ok hC
    · next e =>
      by_cases z : v = 0
      · subst z
        have := FV_ok (v := 0) hC
        unfold okm at this
        exact absurd (show (-1 : Int) < FV h n nb L s 0 by omega) e
      · exact ih (by omega)
set_option maxHeartbeats 1000000 in
theorem lp_fp (hC : CO h n nb L s) (hM : popc (zL h n) ≤ 6) (hnb : 1 ≤ nb) {R : Nat} (hR : R ≤ 729) {v4 : am_V} (hq : ∀ g, fpI h g n nb L s R → Q aV (sT g)) : ∀ (d v : Nat) (u : am_F) (v4 : am_V), v + d = R → am_nl v4 = true → fpI h u n nb L s v → wp 154 (am_ju 154 32) [aP 137, aI (nb : Int), aI (R : Int), aI (v : Int), v4] [] (sT u) Q := by
  intro d
  have l1 := ln_143
  have k1 := kd_143
  have l2 := ln_144
  have k2 := kd_144
  induction d with
  | zero =>
    intro v u v4 hv hn hI
    have hv : v = R := by omega
    subst hv
    rw [ju_154_32]
    simp only [ju_154_55, r_aLD0, cl_149, cl_151, r_gR, r_gI, r_iST1, r_iCONST, r_iST2, r_iST3, r_iLD3, r_IC3, r_iLD2, r_iLD1, r_iMUL, r_IINC3, r_GOTO, cl_79, r_pI, cl_152, r_iST4, r_iLD4, r_IC5, cl_71, cl_153, r_vRET, eq_self, Int.reduceLT, Int.reduceLE, Int.reduceEq, true_or, or_true, and_self, true_and, and_true, w8_0, w8_1, w8_2, w8_3, w8_4, nl_I, nl_P, nl_X, pu_I, pu_J, pu_V]
    rw [if_pos (by omega)]
    exact hq u hI
  | succ d ih =>
    intro v u v4 hv hn hI
    obtain ⟨i1, i2, i3, i4, i5, i6⟩ := hI
    have hw : w3 ((v : Int) + 1) = ((v + 1 : Nat) : Int) := w3_id (by omega) (by omega)
    have hbv : bp (FV h n nb L s) (v + 1) = if (bp (FV h n nb L s) v).2 < FV h n nb L s v then (v, FV h n nb L s v) else bp (FV h n nb L s) v := rfl
    -- the next row, from where the best is known
    have key : ∀ g : am_F, (∀ a, a ≠ 144 → a ≠ 137 → g a = u a) → (∀ k, k ≠ 9 → g 137 k = u 137 k) → g 137 9 = (bp (FV h n nb L s) (v + 1)).2 → (∀ k : Nat, k < popc (zL h n) → g 144 k = (dgt nb (popc (zL h n)) (bp (FV h n nb L s) (v + 1)).1 k : Int)) → wp 154 (am_ju 154 50) [aP 137, aI (nb : Int), aI (R : Int), aI (v : Int), aI (FV h n nb L s v)] [] (sT g) Q := by
      intro g h1 h2 h3 h4
      rw [ju_154_50]
      simp only [r_aLD0, cl_149, cl_151, r_gR, r_gI, r_iST1, r_iCONST, r_iST2, r_iST3, r_iLD3, r_IC3, r_iLD2, r_iLD1, r_iMUL, r_IINC3, r_GOTO, cl_79, r_pI, cl_152, r_iST4, r_iLD4, r_IC5, cl_71, cl_153, r_vRET, eq_self, Int.reduceLT, Int.reduceLE, Int.reduceEq, true_or, or_true, and_self, true_and, and_true, w8_0, w8_1, w8_2, w8_3, w8_4, nl_I, nl_P, nl_X, pu_I, pu_J, pu_V, kd_137]
      refine s_next hM hnb hC.2.1 (by rw [h2 5 (by decide)]; exact i2.1) (fun k hk => by rw [h1 143 (by decide) (by decide)]; exact i4 k hk) (fun g' hg' hr' => ?_)
      simp only [r_aLD0, cl_149, cl_151, r_gR, r_gI, r_iST1, r_iCONST, r_iST2, r_iST3, r_iLD3, r_IC3, r_iLD2, r_iLD1, r_iMUL, r_IINC3, r_GOTO, cl_79, r_pI, cl_152, r_iST4, r_iLD4, r_IC5, cl_71, cl_153, r_vRET, eq_self, Int.reduceLT, Int.reduceLE, Int.reduceEq, true_or, or_true, and_self, true_and, and_true, w8_0, w8_1, w8_2, w8_3, w8_4, nl_I, nl_P, nl_X, pu_I, pu_J, pu_V, hw]
      refine ih (v + 1) g' _ (by omega) rfl ⟨fun a ha => by rw [hg' a (by omega), h1 a (by omega) (by omega), i1 a ha], ⟨?_, fun k hk => ?_⟩, fun b' c' q1 q2 => ?_, hr', ?_, fun _ k hk => ?_⟩
      · rw [hg' 137 (by decide), h2 5 (by decide)]; exact i2.1
      · rw [hg' 141 (by decide), h1 141 (by decide) (by decide)]; exact i2.2 k hk
      · rw [hg' 142 (by decide), h1 142 (by decide) (by decide)]; exact i3 b' c' q1 q2
      · rw [hg' 137 (by decide)]; exact h3
      · rw [hg' 144 (by decide)]; exact h4 k hk
    rw [ju_154_32]
    simp (disch := first | assumption | omega | decide | exact nl_I _) only [r_aLD0, cl_149, cl_151, r_gR, r_gI, r_iST1, r_iCONST, r_iST2, r_iST3, r_iLD3, r_IC3, r_iLD2, r_iLD1, r_iMUL, r_IINC3, r_GOTO, cl_79, r_pI, cl_152, r_iST4, r_iLD4, r_IC5, cl_71, cl_153, r_vRET, eq_self, Int.reduceLT, Int.reduceLE, Int.reduceEq, true_or, or_true, and_self, true_and, and_true, w8_0, w8_1, w8_2, w8_3, w8_4, nl_I, nl_P, nl_X, pu_I, pu_J, pu_V, kd_137, s_rr hC hM i1 i2 i3 i4, i5]
    rw [if_neg (by omega)]
    by_cases e : (bp (FV h n nb L s) v).2 < FV h n nb L s v
    · rw [if_pos e] at hbv
      rw [if_neg (by omega)]
      simp only [r_aLD0, cl_149, cl_151, r_gR, r_gI, r_iST1, r_iCONST, r_iST2, r_iST3, r_iLD3, r_IC3, r_iLD2, r_iLD1, r_iMUL, r_IINC3, r_GOTO, cl_79, r_pI, cl_152, r_iST4, r_iLD4, r_IC5, cl_71, cl_153, r_vRET, eq_self, Int.reduceLT, Int.reduceLE, Int.reduceEq, true_or, or_true, and_self, true_and, and_true, w8_0, w8_1, w8_2, w8_3, w8_4, nl_I, nl_P, nl_X, pu_I, pu_J, pu_V, kd_137, ln_137, rR_137_0, rR_137_1, rR_137_2, rR_137_3, rR_137_4, rR_137_6, rR_137_7, rR_137_8, s_takeRow kd_143 kd_144 ln_143 ln_144 (show (0 : Int) ≤ 6 by decide)]
      refine key _ (fun a q1 q2 => by rw [cpy_out q1, up_ne q2]) (fun k q => by rw [cpy_out (by decide), up_k q]) (by rw [cpy_out (by decide), up_s, hbv]) (fun k hk => ?_)
      rw [cpy_hit (by omega) (by omega), up_ne (by decide), i4 k hk, hbv]
    · rw [if_neg e] at hbv
      have v0 : 0 < v := by
        by_cases z : v = 0
        · subst z
          have := FV_ok (v := 0) hC
          unfold okm at this
          exact absurd (show (-1 : Int) < FV h n nb L s 0 by omega) e
        · omega
      rw [if_pos (by omega)]
      exact key u (fun _ _ _ => rfl) (fun _ _ => rfl) (by rw [hbv]; exact i5) (fun k hk => by rw [hbv]; exact i6 v0 k hk)
theorem lp_rows {v4 : am_V} (h5 : u 137 5 = (M : Int)) (hM : M ≤ 6) (hnb3 : nb ≤ 3) : ∀ (d k : Nat), k + d = M → (wp 154 (am_ju 154 13) [aP 137, aI (nb : Int), aI ((nb ^ k : Nat) : Int), aI (k : Int), v4] [] (sT u) Q ↔ wp 154 (am_ju 154 23) [aP 137, aI (nb : Int), aI ((nb ^ M : Nat) : Int), aI (M : Int), v4] [] (sT u) Q) := by
  intro d
  induction d with
  | zero =>
    intro k hk
    have hk : k = M := by omega
    subst hk
    rw [ju_154_13]
    simp only [r_aLD0, cl_149, cl_151, r_gR, r_gI, r_iST1, r_iCONST, r_iST2, r_iST3, r_iLD3, r_IC3, r_iLD2, r_iLD1, r_iMUL, r_IINC3, r_GOTO, cl_79, r_pI, cl_152, r_iST4, r_iLD4, r_IC5, cl_71, cl_153, r_vRET, eq_self, Int.reduceLT, Int.reduceLE, Int.reduceEq, true_or, or_true, and_self, true_and, and_true, w8_0, w8_1, w8_2, w8_3, w8_4, nl_I, nl_P, nl_X, pu_I, pu_J, pu_V, kd_137, h5]
    rw [if_pos (by omega)]
  | succ d ih =>
    intro k hk
    have hw : w3 ((k : Int) + 1) = ((k + 1 : Nat) : Int) := w3_id (by omega) (by omega)
    have hp : nb ^ (k + 1) ≤ 3 ^ 6 := Nat.le_trans (Nat.pow_le_pow_left hnb3 _) (Nat.pow_le_pow_right (by decide) (by omega))
    have hm : w3 (((nb ^ k : Nat) : Int) * (nb : Int)) = ((nb ^ (k + 1) : Nat) : Int) := by
      rw [← Int.natCast_mul, show nb ^ k * nb = nb ^ (k + 1) from (Nat.pow_succ ..).symm, w3_id (by omega) (by omega)]
    rw [ju_154_13]
    simp only [r_aLD0, cl_149, cl_151, r_gR, r_gI, r_iST1, r_iCONST, r_iST2, r_iST3, r_iLD3, r_IC3, r_iLD2, r_iLD1, r_iMUL, r_IINC3, r_GOTO, cl_79, r_pI, cl_152, r_iST4, r_iLD4, r_IC5, cl_71, cl_153, r_vRET, eq_self, Int.reduceLT, Int.reduceLE, Int.reduceEq, true_or, or_true, and_self, true_and, and_true, w8_0, w8_1, w8_2, w8_3, w8_4, nl_I, nl_P, nl_X, pu_I, pu_J, pu_V, kd_137, h5, hm, hw]
    rw [if_neg (by omega)]
    exact ih (k + 1) (by omega)
theorem pow729 (hnb3 : nb ≤ 3) (hM : M ≤ 6) : nb ^ M ≤ 729 := Nat.le_trans (Nat.pow_le_pow_left hnb3 _) (Nat.pow_le_pow_right (n := 3) (j := 6) (by decide) hM)
theorem s_fp (hC : CO h n nb L s) (hM : popc (zL h n) ≤ 6) (hnb : 1 ≤ nb) (hq : ∀ g, fpI h g n nb L s (nb ^ popc (zL h n)) → Q aV (sT g)) : wp 154 (am_ju 154 0) [aP 137, aX, aX, aX, aX] [] (sT h) Q := by
  obtain ⟨c1, c2, c3, c4, -⟩ := id hC
  rw [ju_154_0]
  simp only [r_aLD0, cl_149, cl_151, r_gR, r_gI, r_iST1, r_iCONST, r_iST2, r_iST3, r_iLD3, r_IC3, r_iLD2, r_iLD1, r_iMUL, r_IINC3, r_GOTO, cl_79, r_pI, cl_152, r_iST4, r_iLD4, r_IC5, cl_71, cl_153, r_vRET, eq_self, Int.reduceLT, Int.reduceLE, Int.reduceEq, true_or, or_true, and_self, true_and, and_true, w8_0, w8_1, w8_2, w8_3, w8_4, nl_I, nl_P, nl_X, pu_I, pu_J, pu_V, kd_137]
  refine s_list c4 c3 hM (fun g g1 g2 g3 g4 => ?_)
  simp only [r_aLD0, cl_149, cl_151, r_gR, r_gI, r_iST1, r_iCONST, r_iST2, r_iST3, r_iLD3, r_IC3, r_iLD2, r_iLD1, r_iMUL, r_IINC3, r_GOTO, cl_79, r_pI, cl_152, r_iST4, r_iLD4, r_IC5, cl_71, cl_153, r_vRET, eq_self, Int.reduceLT, Int.reduceLE, Int.reduceEq, true_or, or_true, and_self, true_and, and_true, w8_0, w8_1, w8_2, w8_3, w8_4, nl_I, nl_P, nl_X, pu_I, pu_J, pu_V, kd_137]
  have hgw : wR2 h g := fun a ha => g1 a (by omega) (by omega)
  refine s_measure hC hM hgw ⟨g3, g4⟩ (fun g' hg' hr' => ?_)
  have e6 : g' 81 6 = (nb : Int) := by rw [hg' 81 (by decide) (by decide), g1 81 (by decide) (by decide)]; exact c1
  have e5 : g' 137 5 = (popc (zL h n) : Int) := by rw [hg' 137 (by decide) (by decide)]; exact g3
  simp only [r_aLD0, cl_149, cl_151, r_gR, r_gI, r_iST1, r_iCONST, r_iST2, r_iST3, r_iLD3, r_IC3, r_iLD2, r_iLD1, r_iMUL, r_IINC3, r_GOTO, cl_79, r_pI, cl_152, r_iST4, r_iLD4, r_IC5, cl_71, cl_153, r_vRET, eq_self, Int.reduceLT, Int.reduceLE, Int.reduceEq, true_or, or_true, and_self, true_and, and_true, w8_0, w8_1, w8_2, w8_3, w8_4, nl_I, nl_P, nl_X, pu_I, pu_J, pu_V, kd_137, ln_137, rR_137_0, rR_137_1, rR_137_2, rR_137_3, rR_137_4, rR_137_6, rR_137_7, rR_137_8, kd_80, ln_80, rR_80_0, rR_80_1, rR_80_2, rR_80_3, kd_81, ln_81, rR_81_0, rR_81_1, rR_81_2, rR_81_3, rR_81_4, rR_81_5, e6]
  refine (lp_rows (M := popc (zL h n)) e5 hM c2 (popc (zL h n)) 0 (Nat.zero_add _)).mpr ?_
  rw [ju_154_23]
  simp only [r_aLD0, cl_149, cl_151, r_gR, r_gI, r_iST1, r_iCONST, r_iST2, r_iST3, r_iLD3, r_IC3, r_iLD2, r_iLD1, r_iMUL, r_IINC3, r_GOTO, cl_79, r_pI, cl_152, r_iST4, r_iLD4, r_IC5, cl_71, cl_153, r_vRET, eq_self, Int.reduceLT, Int.reduceLE, Int.reduceEq, true_or, or_true, and_self, true_and, and_true, w8_0, w8_1, w8_2, w8_3, w8_4, nl_I, nl_P, nl_X, pu_I, pu_J, pu_V, kd_137, ln_137, rR_137_0, rR_137_1, rR_137_2, rR_137_3, rR_137_4, rR_137_6, rR_137_7, rR_137_8, s_fillI (l := 6) kd_143 ln_143 (by decide)]
  refine lp_fp hC hM hnb (pow729 c2 hM) (v4 := aX) hq (nb ^ popc (zL h n)) 0 _ aX (Nat.zero_add _) rfl ⟨fun a ha => ?_, ⟨?_, fun k hk => ?_⟩, fun b' c' q1 q2 => ?_, fun k hk => ?_, up_s, fun q => absurd q (by omega)⟩
  · rw [up_ne (by omega), fil_ne (by omega), hg' a (by omega) (by omega), g1 a (by omega) (by omega)]
  · rw [up_k (by decide), fil_ne (by decide)]; exact e5
  · rw [up_ne (by decide), fil_ne (by decide), hg' 141 (by decide) (by decide)]; exact g4 k hk
  · rw [up_ne (by decide), fil_ne (by decide)]; exact hr' b' c' q1 q2
  · rw [up_ne (by decide), fil_at (by omega) (by omega)]
    unfold dgt
    rw [Nat.zero_div, Nat.zero_mod]
    rfl
end PM
