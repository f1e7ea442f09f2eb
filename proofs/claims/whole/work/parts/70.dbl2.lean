section DC
variable {g h h' h1 h2 : am_F} {Q : am_V → am_S → Prop} {c d v x y i j m o k bj dbl : Int} {n nb L s K nx b S : Nat}
theorem s_hT (hbj : 0 ≤ bj ∧ bj ≤ 7) (hR : RO g 151 n nb L) (h3 : g 151 3 = (s : Int)) (hs : s ≤ L) (hq : ∀ h', scT g h' → Q (aI (mL L (minB (bR g 151 n bj (L - s) s) nb))) (sT h')) : wp 138 (am_ju 138 0) [aP 149, aI bj] [] (sT g) Q := lp_hold hbj (L - s) s g hR h3 (by omega) hq
theorem okm_bdp {p : Nat → Prop} [DecidablePred p] {f : Nat → Int} {x0 : Int} (h0 : okm L x0) (hf : ∀ b, okm L (f b)) : ∀ b, okm L (bdp p f x0 b).2 := by
  intro b
  induction b with
  | zero => exact h0
  | succ b ih =>
    rw [bdp]
    split
    · exact hf b
    · exact ih
theorem RO_kind (hb : b < nb) (hk : 0 ≤ k ∧ k ≤ 3) (hR : RO h c n nb L) : RO (up h c (6 + 4 * b) k) c n nb L := by
  obtain ⟨r0, r1, r2, r3, r4, r5, r6, r7⟩ := hR
  refine ⟨by rw [up_k (by omega)]; exact r0, r1, by rw [up_k (by omega)]; exact r2, r3, by rw [up_k (by omega)]; exact r4, r5, fun t ht => ?_, fun b' hb' => ?_⟩
  · rw [up_k (by omega), up_k (by omega), up_k (by omega)]; exact r6 t ht
  · have z := r7 b' hb'
    unfold bk at z ⊢
    by_cases e : b' = b
    · subst e; rw [up_s, up_k (by omega), up_k (by omega), up_k (by omega)]; exact ⟨hk, z.2⟩
    · rw [up_k (by omega), up_k (by omega), up_k (by omega), up_k (by omega)]; exact z
theorem RO_150 (e : g 150 = h 150) (hR : RO h 150 n nb L) : RO g 150 n nb L := by
  unfold RO tk bk at hR ⊢
  rw [e]; exact hR
theorem tr_150 (hsc : scT h g) : g 150 = h 150 := hsc.1 150 (by decide) (by decide)
theorem scT_r (h : am_F) : scT h h := ⟨fun _ _ _ => rfl, fun _ _ _ => rfl⟩
theorem scT_t (a : scT h h1) (b : scT h1 h2) : scT h h2 := ⟨fun c q1 q2 => by rw [b.1 c q1 q2, a.1 c q1 q2], fun k q1 q2 => by rw [b.2 k q1 q2, a.2 k q1 q2]⟩
theorem scT_cp : scT h (cpy h 150 0 151 0 238) := ⟨fun a q1 _ => cpy_out q1, fun k _ _ => by rw [cpy_out (by decide)]⟩
theorem scT_up : scT h (up h 151 k v) := ⟨fun a q1 _ => up_ne q1 _ _, fun k _ _ => by rw [up_ne (by decide)]⟩
theorem bR_dbl (hP : Rp h 0 150 n nb L s) (e : g 150 = h 150) (hb : b < nb) {b' : Nat} (hb' : b' < nb) : bR (up (cpy g 150 0 151 0 238) 151 (6 + 4 * b) 1) 151 n 7 (L - s) s b' = cR h n L s 7 b b' := by
  obtain ⟨r0, r1, r2, r3, r4, r5, r6, r7⟩ := id hP.1
  have p3 := hP.2.2.2.1
  have p6 := hP.2.2.2.2.2.2.1
  rw [Int.add_zero] at p3
  have rd : ∀ k : Int, 0 ≤ k → k < 238 → k ≠ 6 + 4 * b → up (cpy g 150 0 151 0 238) 151 (6 + 4 * b) 1 151 k = h 150 k := fun k q1 q2 q3 => by rw [up_k q3, cpy_d q1 q2, e]
  rw [cR_gW]
  obtain ⟨z1, z2, z3, z4⟩ := Rp_b hP (b := (b' : Int)) (by omega) (by omega)
  refine bR_g r3 p3 r5 p6 (fun t ht => ?_) (fun i hi => ?_) ?_ ?_ ?_
  · obtain ⟨y1, y2, y3, -⟩ := Rp_t hP (t := (t : Int)) (by omega) (by omega)
    rw [rd _ (by omega) (by omega) (by omega), rd _ (by omega) (by omega) (by omega), rd _ (by omega) (by omega) (by omega)]
    exact ⟨y1, y2, y3⟩
  · rw [rd _ (by omega) (by omega) (by omega), Rp_i hP (by omega) (by omega)]
  · by_cases q : b' = b
    · subst q; rw [up_s, if_pos rfl]
    · rw [rd _ (by omega) (by omega) (by omega), if_neg (by omega), z1]
  · rw [rd _ (by omega) (by omega) (by omega), rd _ (by omega) (by omega) (by omega), rd _ (by omega) (by omega) (by omega)]
    exact ⟨z2, z3, z4⟩
  · rw [cS_mS hP]
    exact setF_c (fun t ht => by rw [rd _ (by omega) (by omega) (by omega)])
theorem lp_Rdbl (hP : Rp h 0 150 n nb L s) (hq : ∀ h', scT h h' → Q (aI (bdp (fun b => h 82 b = 0) (fun b => minB (cR h n L s 7 b) nb) (minB (cR h n L s 7 (-4)) nb) nb).1) (sT h')) : ∀ (k b : Nat) (g : am_F) (v : am_V), b + k = nb → scT h g → wp 163 (am_ju 163 13) [aP 149, aI (mL L (bdp (fun b => h 82 b = 0) (fun b => minB (cR h n L s 7 b) nb) (minB (cR h n L s 7 (-4)) nb) b).2), aI (bdp (fun b => h 82 b = 0) (fun b => minB (cR h n L s 7 b) nb) (minB (cR h n L s 7 (-4)) nb) b).1, aI (b : Int), v] [] (sT g) Q := by
  intro k
  have l1 := ln_150
  have k1 := kd_150
  have l2 := ln_151
  have k2 := kd_151
  obtain ⟨r0, r1, r2, r3, r4, r5, r6, r7⟩ := id hP.1
  have p5 := hP.2.2.2.2.2.1
  have p6 := hP.2.2.2.2.2.2.1
  have okf : ∀ b : Nat, b < nb → okm L (minB (cR h n L s 7 (b : Int)) nb) := fun b hb => okm_min nb (fun b' hb' => by rw [cR_gW]; exact okm_gW p6 r5)
  have okf' : ∀ b : Nat, okm L (minB (cR h n L s 7 (b : Int)) nb) := fun b => okm_min nb (fun b' hb' => by rw [cR_gW]; exact okm_gW p6 r5)
  have ok0 : okm L (minB (cR h n L s 7 (-4)) nb) := okm_min nb (fun b' hb' => by rw [cR_gW]; exact okm_gW p6 r5)
  induction k with
  | zero =>
    intro b g v hb ht
    have hb : b = nb := by omega
    subst hb
    have e := tr_150 ht
    rw [ju_163_13]
    simp (disch := first | assumption | omega | exact w8_0 | exact w8_1 _ | exact w8_2 _ _ | exact w8_3 _ _ _ | exact w8_4 _ _ _ _ | exact nl_I _ | exact nl_P _ | exact nl_X | decide | exact w8_5 _ _ _ _ _) only [ju_163_60, r_aLD0, r_gR, cl_90, r_bPUSH, cl_138, r_iST1, r_iST2, r_iCONST, r_iST3, r_iLD3, r_iALDc, r_iALDs, r_IC3, cl_18, r_iADD, r_IF1, r_iASTc, r_iST4, r_iLD4, r_iLD1, r_IC5, r_GOTO, r_iLD2, r_IINC3, r_iRET, eq_self, Int.reduceLT, Int.reduceLE, Int.reduceEq, true_or, or_true, and_self, true_and, and_true, w8_0, w8_1, w8_2, w8_3, w8_4, nl_I, nl_P, nl_X, pu_I, pu_J, pu_V, w3_id, Int.add_zero, kd_149, rR_149_0, e, r0]
    rw [if_pos (by omega)]
    exact hq g ht
  | succ k ih =>
    intro b g v hb ht
    have e := tr_150 ht
    have b0 : (0 : Int) ≤ b := by omega
    have b3 : (b : Int) < 3 := by omega
    have hw : w3 ((b : Int) + 1) = ((b + 1 : Nat) : Int) := w3_id (by omega) (by omega)
    have hk := (Rp_b hP (b := (b : Int)) (by omega) (by omega)).1
    have hd : bdp (fun b => h 82 b = 0) (fun b => minB (cR h n L s 7 b) nb) (minB (cR h n L s 7 (-4)) nb) (b + 1) = if h 82 b = 0 ∧ (bdp (fun b => h 82 b = 0) (fun b => minB (cR h n L s 7 b) nb) (minB (cR h n L s 7 (-4)) nb) b).2 < minB (cR h n L s 7 b) nb then ((b : Int), minB (cR h n L s 7 b) nb) else bdp (fun b => h 82 b = 0) (fun b => minB (cR h n L s 7 b) nb) (minB (cR h n L s 7 (-4)) nb) b := rfl
    have okz := okm_bdp (p := fun b : Nat => h 82 b = 0) ok0 okf' b
    have ih := fun g v => ih (b + 1) g v (by omega)
    rw [hd] at ih
    generalize bdp (fun b => h 82 b = 0) (fun b => minB (cR h n L s 7 b) nb) (minB (cR h n L s 7 (-4)) nb) b = z at ih okz ⊢
    rw [ju_163_13]
    simp (disch := first | assumption | omega | exact w8_0 | exact w8_1 _ | exact w8_2 _ _ | exact w8_3 _ _ _ | exact w8_4 _ _ _ _ | exact nl_I _ | exact nl_P _ | exact nl_X | decide | exact w8_5 _ _ _ _ _) only [r_aLD0, r_gR, cl_90, r_bPUSH, cl_138, r_iST1, r_iST2, r_iCONST, r_iST3, r_iLD3, r_iALDc, r_iALDs, r_IC3, cl_18, r_iADD, r_IF1, r_iASTc, r_iST4, r_iLD4, r_iLD1, r_IC5, r_GOTO, r_iLD2, r_IINC3, r_iRET, eq_self, Int.reduceLT, Int.reduceLE, Int.reduceEq, true_or, or_true, and_self, true_and, and_true, w8_0, w8_1, w8_2, w8_3, w8_4, nl_I, nl_P, nl_X, pu_I, pu_J, pu_V, w3_id, Int.add_zero, kd_149, rR_149_0, e, r0, s_bagAt (b := (b : Int)) ⟨by omega, by omega⟩, hk]
    rw [if_neg (by omega)]
    by_cases p : h 82 b = 0
    · rw [if_neg (by simpa using p)]
      simp (disch := first | assumption | omega | exact w8_0 | exact w8_1 _ | exact w8_2 _ _ | exact w8_3 _ _ _ | exact w8_4 _ _ _ _ | exact nl_I _ | exact nl_P _ | exact nl_X | decide | exact w8_5 _ _ _ _ _) only [r_aLD0, r_gR, cl_90, r_bPUSH, cl_138, r_iST1, r_iST2, r_iCONST, r_iST3, r_iLD3, r_iALDc, r_iALDs, r_IC3, cl_18, r_iADD, r_IF1, r_iASTc, r_iST4, r_iLD4, r_iLD1, r_IC5, r_GOTO, r_iLD2, r_IINC3, r_iRET, eq_self, Int.reduceLT, Int.reduceLE, Int.reduceEq, true_or, or_true, and_self, true_and, and_true, w8_0, w8_1, w8_2, w8_3, w8_4, nl_I, nl_P, nl_X, pu_I, pu_J, pu_V, w3_id, Int.add_zero, kd_149, rR_149_0, rR_149_1, s_copies kd_150 ln_150 kd_151 ln_151 (by decide : (150 : Int) ≠ 151), s_bagAt (b := (b : Int)) ⟨by omega, by omega⟩]
      refine s_hT ⟨by decide, by decide⟩ (RO_kind (by omega) (by omega) (RO_cp (RO_150 e hP.1))) (s := s) (by rw [up_k (by omega), cpy_d (by omega) (by omega), e, p5]) p6 (fun g2 t2 => ?_)
      have t3 : scT h g2 := scT_t ht (scT_t (scT_t scT_cp scT_up) t2)
      have em : minB (bR (up (cpy g 150 0 151 0 238) 151 (6 + 4 * (b : Int)) 1) 151 n 7 (L - s) s) nb = minB (cR h n L s 7 (b : Int)) nb := minB_eq (fun b' hb' => bR_dbl hP e (by omega) hb')
      rw [em]
      have ml := mL_lt r5 okz (okf b (by omega))
      simp only [r_aLD0, r_gR, cl_90, r_bPUSH, cl_138, r_iST1, r_iST2, r_iCONST, r_iST3, r_iLD3, r_iALD, r_iALDs, r_IC3, cl_18, r_iADD, r_IF1, r_iAST, r_iST4, r_iLD4, r_iLD1, r_IC5, r_GOTO, r_iLD2, r_IINC3, r_iRET, eq_self, Int.reduceLT, Int.reduceLE, Int.reduceEq, true_or, or_true, and_self, true_and, and_true, w8_0, w8_1, w8_2, w8_3, w8_4, nl_I, nl_P, nl_X, pu_I, pu_J, pu_V]
      by_cases q : z.2 < minB (cR h n L s 7 (b : Int)) nb
      · have q2 : ¬ mL L (minB (cR h n L s 7 (b : Int)) nb) ≤ mL L z.2 := by have := ml.mpr q; omega
        simp only [q2, if_false, ju_163_50, ju_163_57, ju_163_58, r_aLD0, r_gR, cl_90, r_bPUSH, cl_138, r_iST1, r_iST2, r_iCONST, r_iST3, r_iLD3, r_iALD, r_iALDs, r_IC3, cl_18, r_iADD, r_IF1, r_iAST, r_iST4, r_iLD4, r_iLD1, r_IC5, r_GOTO, r_iLD2, r_IINC3, r_iRET, eq_self, Int.reduceLT, Int.reduceLE, Int.reduceEq, true_or, or_true, and_self, true_and, and_true, w8_0, w8_1, w8_2, w8_3, w8_4, nl_I, nl_P, nl_X, pu_I, pu_J, pu_V, hw]
        have := ih g2 (aI (mL L (minB (cR h n L s 7 (b : Int)) nb))) t3
        rw [if_pos ⟨p, q⟩] at this
        exact this
      · have q2 : mL L (minB (cR h n L s 7 (b : Int)) nb) ≤ mL L z.2 := by
          by_cases w : mL L z.2 < mL L (minB (cR h n L s 7 (b : Int)) nb)
          · exact absurd (ml.mp w) q
          · omega
        simp only [q2, if_true, ju_163_49, ju_163_50, ju_163_56, ju_163_57, ju_163_58, r_aLD0, r_gR, cl_90, r_bPUSH, cl_138, r_iST1, r_iST2, r_iCONST, r_iST3, r_iLD3, r_iALD, r_iALDs, r_IC3, cl_18, r_iADD, r_IF1, r_iAST, r_iST4, r_iLD4, r_iLD1, r_IC5, r_GOTO, r_iLD2, r_IINC3, r_iRET, eq_self, Int.reduceLT, Int.reduceLE, Int.reduceEq, true_or, or_true, and_self, true_and, and_true, w8_0, w8_1, w8_2, w8_3, w8_4, nl_I, nl_P, nl_X, pu_I, pu_J, pu_V, hw]
        have := ih g2 (aI (mL L (minB (cR h n L s 7 (b : Int)) nb))) t3
        rw [if_neg (fun y => q y.2)] at this
        exact this
    · rw [if_pos p, ju_163_58]
      simp only [r_aLD0, r_gR, cl_90, r_bPUSH, cl_138, r_iST1, r_iST2, r_iCONST, r_iST3, r_iLD3, r_iALD, r_iALDs, r_IC3, cl_18, r_iADD, r_IF1, r_iAST, r_iST4, r_iLD4, r_iLD1, r_IC5, r_GOTO, r_iLD2, r_IINC3, r_iRET, eq_self, Int.reduceLT, Int.reduceLE, Int.reduceEq, true_or, or_true, and_self, true_and, and_true, w8_0, w8_1, w8_2, w8_3, w8_4, nl_I, nl_P, nl_X, pu_I, pu_J, pu_V, hw]
      have := ih g v ht
      rw [if_neg (fun y => p y.1)] at this
      exact this
theorem s_Rdoubled (hP : Rp h 0 150 n nb L s) (hq : ∀ h', scT h h' → Q (aI (bdp (fun b => h 82 b = 0) (fun b => minB (cR h n L s 7 b) nb) (minB (cR h n L s 7 (-4)) nb) nb).1) (sT h')) : wp 163 (am_ju 163 0) [aP 149, aX, aX, aX, aX] [] (sT h) Q := by
  have p5 := hP.2.2.2.2.2.1
  have p6 := hP.2.2.2.2.2.2.1
  rw [ju_163_0]
  simp only [r_aLD0, r_gR, cl_90, r_bPUSH, cl_138, r_iST1, r_iST2, r_iCONST, r_iST3, r_iLD3, r_iALD, r_iALDs, r_IC3, cl_18, r_iADD, r_IF1, r_iAST, r_iST4, r_iLD4, r_iLD1, r_IC5, r_GOTO, r_iLD2, r_IINC3, r_iRET, eq_self, Int.reduceLT, Int.reduceLE, Int.reduceEq, true_or, or_true, and_self, true_and, and_true, w8_0, w8_1, w8_2, w8_3, w8_4, nl_I, nl_P, nl_X, pu_I, pu_J, pu_V, kd_149, ln_149, rR_149_0, rR_149_1, rR_149_2, rR_149_3, rR_149_5, rR_149_7, rR_149_8, rR_149_9, rR_149_10, rR_149_16, rR_149_17, rR_149_18, s_copies kd_150 ln_150 kd_151 ln_151 (by decide : (150 : Int) ≠ 151)]
  refine s_hT ⟨by decide, by decide⟩ (RO_cp hP.1) (s := s) (by rw [cpy_d (by omega) (by omega), p5]) p6 (fun g t => ?_)
  simp only [r_aLD0, r_gR, cl_90, r_bPUSH, cl_138, r_iST1, r_iST2, r_iCONST, r_iST3, r_iLD3, r_iALD, r_iALDs, r_IC3, cl_18, r_iADD, r_IF1, r_iAST, r_iST4, r_iLD4, r_iLD1, r_IC5, r_GOTO, r_iLD2, r_IINC3, r_iRET, eq_self, Int.reduceLT, Int.reduceLE, Int.reduceEq, true_or, or_true, and_self, true_and, and_true, w8_0, w8_1, w8_2, w8_3, w8_4, nl_I, nl_P, nl_X, pu_I, pu_J, pu_V]
  rw [show minB (bR (cpy h 150 0 151 0 238) 151 n 7 (L - s) s) nb = minB (cR h n L s 7 (-4)) nb from by
    rw [minB_eq (fun b hb => bR_cp hP.1 p6 hb), q_holds hP]]
  exact lp_Rdbl hP hq nb 0 g aX (Nat.zero_add nb) (scT_t scT_cp t)
theorem cR_c (hF : FR h h') (bj dbl : Int) : cR h' n L s bj dbl = cR h n L s bj dbl := by
  have f : ∀ a, 80 ≤ a → a ≤ 136 → h' a = h a := fun a q1 q2 => funext fun k => hF a k (by unfold scr; omega)
  funext b
  have e1 : (fun s : Nat => sortI h' s) = fun s : Nat => sortI h s := by funext s; unfold sortI; rw [f 88 (by omega) (by omega), f 89 (by omega) (by omega)]
  unfold cR cS
  rw [fgv_fg0, fgv_fg0, e1, f 82 (by omega) (by omega), f 83 (by omega) (by omega), f 84 (by omega) (by omega), f 85 (by omega) (by omega), f 91 (by omega) (by omega), f 92 (by omega) (by omega), f 93 (by omega) (by omega), f 94 (by omega) (by omega)]
theorem b_doubled (hI : INV h) : Both 162 163 [aP 0] [aP 149, aX, aX, aX, aX] h := by
  obtain ⟨⟨n, nb, L, s, K, nx, hW⟩, hr⟩ := id hI
  have hP := hW.1
  refine s_Tdoubled (Rp_CO hP) (fun h1 t1 => ⟨_, h1, rfl, rfl, FR_1 (FR_tR t1), ?_⟩)
  have hF := FR_tR t1
  have hW1 := WD_FR hF hW
  refine s_Rdoubled hW1.1 (fun h2 t2 => ⟨h2, ?_, rfl, ?_, INV_FR hI (FR_t hF (FR_scT t2))⟩)
  · have e82 : h1 82 = h 82 := t1 82 (by decide)
    rw [show (fun b : Nat => minB (cR h1 n L s 7 (b : Int)) nb) = fun b : Nat => minB (cR h n L s 7 (b : Int)) nb from funext fun b => by rw [cR_c hF], cR_c hF]
    congr 2
    simp only [e82]
  · rw [FR_1 (FR_scT t2), FR_1 hF]
end DC
