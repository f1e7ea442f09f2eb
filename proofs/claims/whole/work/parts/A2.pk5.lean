section PO
variable {g h h' h1 h2 u : am_F} {Q : am_V → am_S → Prop} {so j bj x y z o c w r k t : Int} {n nb L s K nx b m a q B S T i gg l M Z v ch : Nat}
theorem lp_power (hb : a ≤ 6) (hm : m ≤ 6) : ∀ (d k : Nat), k + d = m → (wp 158 (am_ju 158 4) [aP 149, aI (a : Int), aI (m : Int), aI ((a ^ k : Nat) : Int), aI (k : Int)] [] (sT h) Q ↔ Q (aI ((a ^ m : Nat) : Int)) (sT h)) := by
  intro d
  induction d with
  | zero =>
    intro k hk
    have hk : k = m := by omega
    subst hk
    rw [ju_158_4]
    simp only [ju_158_13, r_iCONST, r_iST3, r_iST4, r_iLD4, r_iLD2, r_IC3, r_iLD3, r_iLD1, r_iMUL, r_IINC4, r_GOTO, r_iRET, eq_self, Int.reduceLT, Int.reduceLE, Int.reduceEq, true_or, or_true, and_self, true_and, and_true, w8_0, w8_1, w8_2, w8_3, w8_4, nl_I, nl_P, nl_X, pu_I, pu_J, pu_V]
    rw [if_pos (by omega)]
  | succ d ih =>
    intro k hk
    have hw : w3 ((k : Int) + 1) = ((k + 1 : Nat) : Int) := w3_id (by omega) (by omega)
    have hp : a ^ (k + 1) ≤ 6 ^ 6 := Nat.le_trans (Nat.pow_le_pow_left hb _) (Nat.pow_le_pow_right (by decide) (by omega))
    have hm : w3 (((a ^ k : Nat) : Int) * (a : Int)) = ((a ^ (k + 1) : Nat) : Int) := by
      rw [← Int.natCast_mul, show a ^ k * a = a ^ (k + 1) from (Nat.pow_succ ..).symm, w3_id (by omega) (by omega)]
    rw [ju_158_4]
    simp only [r_iCONST, r_iST3, r_iST4, r_iLD4, r_iLD2, r_IC3, r_iLD3, r_iLD1, r_iMUL, r_IINC4, r_GOTO, r_iRET, eq_self, Int.reduceLT, Int.reduceLE, Int.reduceEq, true_or, or_true, and_self, true_and, and_true, w8_0, w8_1, w8_2, w8_3, w8_4, nl_I, nl_P, nl_X, pu_I, pu_J, pu_V, hm, hw]
    rw [if_neg (by omega)]
    exact ih (k + 1) (by omega)
theorem s_power (hb : a ≤ 6) (hm : m ≤ 6) : wp 158 (am_ju 158 0) [aP 149, aI (a : Int), aI (m : Int), aX, aX] [] (sT h) Q ↔ Q (aI ((a ^ m : Nat) : Int)) (sT h) := by
  rw [ju_158_0]
  simp only [r_iCONST, r_iST3, r_iST4, r_iLD4, r_iLD2, r_IC3, r_iLD3, r_iLD1, r_iMUL, r_IINC4, r_GOTO, r_iRET, eq_self, Int.reduceLT, Int.reduceLE, Int.reduceEq, true_or, or_true, and_self, true_and, and_true, w8_0, w8_1, w8_2, w8_3, w8_4, nl_I, nl_P, nl_X, pu_I, pu_J, pu_V]
  exact lp_power hb hm m 0 (Nat.zero_add m)
/-- the tried row with the moved things from T on packed by the code v -/
def pcK (u g : am_F) (n nb M Z v T : Nat) : Prop := (∀ a, a ≠ 151 → g a = u a) ∧ (∀ k : Int, k < 23 ∨ 66 ≤ k → g 151 k = u 151 k) ∧ (∀ (t : Nat) (m : Int), t < n → 0 ≤ m → m ≤ 4 → g 151 (18 + 6 * t + m) = u 151 (18 + 6 * t + m)) ∧ ∀ t : Nat, t < n → g 151 (18 + 6 * t + 5) = if T ≤ t ∧ Z.testBit t = true then (dgt nb M v (cb Z t) : Int) else u 151 (18 + 6 * t + 5)
theorem lp_packs (h8 : n ≤ 8) (hZ : Z < 256) (hZn : ∀ t, Z.testBit t = true → t < n) (hnb : 1 ≤ nb) (hnb3 : nb ≤ 3) (hu0 : u 150 0 = (nb : Int)) (hv : v ≤ 729) {v1 : Int} (hq : ∀ g, pcK u g n nb (popc Z) Z v 0 → Q aV (sT g)) : ∀ (d : Nat) (g : am_F), d ≤ n → pcK u g n nb (popc Z) Z v d → wp 159 (am_ju 159 14) [aP 149, aI v1, aI (Z : Int), aI ((v / nb ^ (popc Z - cb Z d) : Nat) : Int), aI ((d : Int) - 1)] [] (sT g) Q := by
  intro d
  have l1 := ln_150
  have k1 := kd_150
  have l2 := ln_151
  have k2 := kd_151
  induction d with
  | zero =>
    intro g hd hg
    rw [ju_159_14]
    simp only [ju_159_42, r_aLD0, r_gR, cl_90, r_iLD1, r_iST3, r_iCONST, r_iALD, r_iALDs, r_iSUB, r_iST4, r_iLD4, r_IF2, r_iLD2, cl_34, r_IF0, cl_25, r_iADD, r_iLD3, r_iREM, r_iAST, r_iDIV, r_IINC4, r_GOTO, r_vRET, eq_self, Int.reduceLT, Int.reduceLE, Int.reduceEq, true_or, or_true, and_self, true_and, and_true, w8_0, w8_1, w8_2, w8_3, w8_4, nl_I, nl_P, nl_X, pu_I, pu_J, pu_V]
    rw [if_pos (by omega)]
    exact hq g hg
  | succ d ih =>
    intro g hd hg
    obtain ⟨g1, g2, g3, g4⟩ := hg
    have e1 : ((d + 1 : Nat) : Int) - 1 = (d : Int) := by omega
    have d8 : (d : Int) < 8 := by omega
    have hw : w3 ((d : Int) + -1) = (d : Int) - 1 := by rw [w3_id (by omega) (by omega)]; omega
    have g0 : g 150 0 = (nb : Int) := by rw [g1 150 (by decide), hu0]
    have hs := cb_s Z d
    have hdv := Nat.div_le_self v (nb ^ (popc Z - cb Z (d + 1)))
    have hn0 : ¬ ((nb : Int) = 0) := by omega
    rw [e1, ju_159_14]
    simp only [r_aLD0, r_gR, cl_90, r_iLD1, r_iST3, r_iCONST, r_iALD, r_iALDs, r_iSUB, r_iST4, r_iLD4, r_IF2, r_iLD2, cl_34, r_IF0, cl_25, r_iADD, r_iLD3, r_iREM, r_iAST, r_iDIV, r_IINC4, r_GOTO, r_vRET, eq_self, Int.reduceLT, Int.reduceLE, Int.reduceEq, true_or, or_true, and_self, true_and, and_true, w8_0, w8_1, w8_2, w8_3, w8_4, nl_I, nl_P, nl_X, pu_I, pu_J, pu_V, s_has, s_rhas (show Z < 2 ^ 31 by omega) (show d < 31 by omega), b01]
    rw [if_neg (by omega)]
    by_cases e : Z.testBit d = true
    · obtain ⟨mt1, mt2⟩ := (mv_ok Z hZ d (by omega)).2 e
      rw [if_pos e] at hs
      have ex : popc Z - cb Z (d + 1) = popc Z - 1 - cb Z d := by omega
      have em : iRm ((v / nb ^ (popc Z - cb Z (d + 1)) : Nat) : Int) (nb : Int) = (dgt nb (popc Z) v (cb Z d) : Int) := by
        rw [iRm_n (Int.natCast_nonneg _) (Int.lt_of_le_of_lt (Int.ofNat_le.mpr hdv) (by omega)) (by omega) (by omega), ← Int.natCast_emod]
        unfold dgt
        rw [ex]
      have ed : iDv ((v / nb ^ (popc Z - cb Z (d + 1)) : Nat) : Int) (nb : Int) = ((v / nb ^ (popc Z - cb Z d) : Nat) : Int) := by
        rw [iDv_n (Int.natCast_nonneg _) (Int.lt_of_le_of_lt (Int.ofNat_le.mpr hdv) (by omega)) (by omega) (by omega), ← Int.natCast_ediv, Nat.div_div_eq_div_mul, ← Nat.pow_succ]
        congr 3
        omega
      have g0' : ∀ v, up g 151 (18 + 6 * (d : Int) + 5) v 150 0 = (nb : Int) := fun v => by rw [up_ne (by decide), g0]
      rw [if_neg (by simpa using e)]
      simp (disch := first | assumption | omega | exact w8_0 | exact w8_1 _ | exact w8_2 _ _ | exact w8_3 _ _ _ | exact w8_4 _ _ _ _ | exact nl_I _ | exact nl_P _ | exact nl_X | decide | exact w8_5 _ _ _ _ _) only [r_aLD0, r_gR, cl_90, r_iLD1, r_iST3, r_iCONST, r_iALDc, r_iALDs, r_iSUB, r_iST4, r_iLD4, r_IF2, r_iLD2, cl_34, r_IF0, cl_25, r_iADD, r_iLD3, r_iREM, r_iASTc, r_iDIV, r_IINC4, r_GOTO, r_vRET, eq_self, Int.reduceLT, Int.reduceLE, Int.reduceEq, true_or, or_true, and_self, true_and, and_true, w8_0, w8_1, w8_2, w8_3, w8_4, nl_I, nl_P, nl_X, pu_I, pu_J, pu_V, w3_id, Int.add_zero, kd_149, rR_149_0, rR_149_1, s_thingAt (b := (d : Int)) ⟨by omega, by omega⟩, g0, g0', hn0, ne_eq, not_false_eq_true, em, ed, ju_159_40, hw]
      refine ih _ (by omega) ⟨fun a ha => by rw [up_ne ha, g1 a ha], fun k hk => by rw [up_k (by omega), g2 k hk], fun t m ht m0 m1 => by rw [up_k (by omega), g3 t m ht m0 m1], fun t ht => ?_⟩
      by_cases z : t = d
      · subst z
        rw [up_s, if_pos ⟨Nat.le_refl _, e⟩]
      · rw [up_k (by omega), g4 t ht]
        by_cases y : d + 1 ≤ t ∧ Z.testBit t = true
        · rw [if_pos y, if_pos ⟨by omega, y.2⟩]
        · rw [if_neg y, if_neg (fun w => y ⟨by omega, w.2⟩)]
    · rw [if_neg e, Nat.add_zero] at hs
      rw [if_pos e, ju_159_40]
      simp only [r_aLD0, r_gR, cl_90, r_iLD1, r_iST3, r_iCONST, r_iALD, r_iALDs, r_iSUB, r_iST4, r_iLD4, r_IF2, r_iLD2, cl_34, r_IF0, cl_25, r_iADD, r_iLD3, r_iREM, r_iAST, r_iDIV, r_IINC4, r_GOTO, r_vRET, eq_self, Int.reduceLT, Int.reduceLE, Int.reduceEq, true_or, or_true, and_self, true_and, and_true, w8_0, w8_1, w8_2, w8_3, w8_4, nl_I, nl_P, nl_X, pu_I, pu_J, pu_V, hw]
      rw [hs]
      refine ih g (by omega) ⟨g1, g2, g3, fun t ht => ?_⟩
      rw [g4 t ht]
      by_cases y : d + 1 ≤ t ∧ Z.testBit t = true
      · rw [if_pos y, if_pos ⟨by omega, y.2⟩]
      · rw [if_neg y, if_neg (fun w => y ⟨by
          by_cases z : t = d
          · subst z; exact absurd w.2 e
          · omega, w.2⟩)]
theorem zL_R (hP : Rp h 0 150 n nb L s) : setF (fun t => decide (h 150 (18 + 6 * t + 5) < 10)) n = zL h n := setF_c (fun t ht => by rw [(Rp_t hP (t := (t : Int)) (by omega) (by omega)).2.2.2.2.2])
theorem zL_bit {t : Nat} (ht : (zL h n).testBit t = true) : t < n ∧ h 94 t < 10 := by
  unfold zL at ht
  rw [setF_bit, Bool.and_eq_true, decide_eq_true_eq, decide_eq_true_eq] at ht
  exact ht
theorem s_packs (hP : Rp h 0 150 n nb L s) (hg : scT h g) (hnb : 1 ≤ nb) (hv : v ≤ 729) (hq : ∀ g', pcK (cpy g 150 0 151 0 238) g' n nb (popc (zL h n)) (zL h n) v 0 → Q aV (sT g')) : wp 159 (am_ju 159 0) [aP 149, aI (v : Int), aI (zL h n : Int), aX, aX] [] (sT g) Q := by
  have l1 := ln_150
  have k1 := kd_150
  obtain ⟨r0, r1, r2, r3, r4, r5, r6, r7⟩ := id hP.1
  have e150 : cpy g 150 0 151 0 238 150 = h 150 := by rw [cpy_out (by decide), tr_150 hg]
  have hZ := zL_lt (h := h) r3
  have ecb : cb (zL h n) n = popc (zL h n) := by
    have : ∀ d, n + d ≤ 8 → cb (zL h n) (n + d) = cb (zL h n) n := by
      intro d
      induction d with
      | zero => intro _; rfl
      | succ d ih =>
        intro hd
        rw [show n + (d + 1) = (n + d) + 1 by omega, cb_s, ih (by omega), if_neg (fun z => by have := (zL_bit z).1; omega)]
        rfl
    rw [← cb_8, ← this (8 - n) (by omega)]
    congr 1
    omega
  have hw : w3 ((n : Int) - 1) = (n : Int) - 1 := w3_id (by omega) (by omega)
  rw [ju_159_0]
  simp only [r_aLD0, r_gR, cl_90, r_iLD1, r_iST3, r_iCONST, r_iALD, r_iALDs, r_iSUB, r_iST4, r_iLD4, r_IF2, r_iLD2, cl_34, r_IF0, cl_25, r_iADD, r_iLD3, r_iREM, r_iAST, r_iDIV, r_IINC4, r_GOTO, r_vRET, eq_self, Int.reduceLT, Int.reduceLE, Int.reduceEq, true_or, or_true, and_self, true_and, and_true, w8_0, w8_1, w8_2, w8_3, w8_4, nl_I, nl_P, nl_X, pu_I, pu_J, pu_V, kd_149, ln_149, rR_149_0, rR_149_1, rR_149_2, rR_149_3, rR_149_5, rR_149_7, rR_149_8, rR_149_9, rR_149_10, rR_149_16, rR_149_17, rR_149_18, kd_150, ln_150, s_copies kd_150 ln_150 kd_151 ln_151 (by decide : (150 : Int) ≠ 151), e150, r2, hw]
  have := lp_packs (u := cpy g 150 0 151 0 238) (v := v) (v1 := (v : Int)) r3 hZ (fun t ht => (zL_bit ht).1) hnb r1 (by rw [e150, r0]) hv hq n _ (Nat.le_refl _) ⟨fun _ _ => rfl, fun _ _ => rfl, fun _ _ _ _ _ => rfl, fun t ht => by rw [if_neg (by omega)]⟩
  rw [ecb, Nat.sub_self, Nat.pow_zero, Nat.div_one] at this
  exact this
theorem mS_pc (hP : Rp h 0 150 n nb L s) (e150 : g 150 = h 150) (hb : b < nb) (hp : pcK (cpy g 150 0 151 0 238) u n nb (popc (zL h n)) (zL h n) v 0) : mS u 151 b n = thC (zL h n) (chO nb (popc (zL h n)) v b) (popc (zL h n)) := by
  have r1 := hP.1.2.1
  have r3 := hP.1.2.2.2.1
  have hZ := zL_lt (h := h) r3
  apply Nat.eq_of_testBit_eq
  intro t
  rw [mS_bit]
  cases eT : (thC (zL h n) (chO nb (popc (zL h n)) v b) (popc (zL h n))).testBit t with
  | true =>
    obtain ⟨i, q1, q2, q3⟩ := (thC_bit _).mp eT
    have := popc_le (zL h n)
    obtain ⟨m1, m2, m3⟩ := (mv_ok (zL h n) hZ i (by omega)).1 q1
    rw [q3] at m1 m3
    have ht := (zL_bit m1).1
    unfold chO at q2
    rw [setF_bit, Bool.and_eq_true, decide_eq_true_eq] at q2
    have q4 := of_decide_eq_true q2.2
    rw [hp.2.2.2 t ht, if_pos ⟨by omega, m1⟩, m3, q4]
    simp [ht]
  | false =>
    by_cases ht : t < n
    · rw [hp.2.2.2 t ht]
      by_cases z : (zL h n).testBit t = true
      · rw [if_pos ⟨by omega, z⟩]
        obtain ⟨m1, m2⟩ := (mv_ok (zL h n) hZ t (by omega)).2 z
        have : ¬ dgt nb (popc (zL h n)) v (cb (zL h n) t) = b := fun q => by
          have := (thC_bit (Z := zL h n) (ch := chO nb (popc (zL h n)) v b) (t := t) (popc (zL h n))).mpr ⟨cb (zL h n) t, m2, by unfold chO; rw [setF_bit]; simp [m2, q], m1⟩
          rw [eT] at this; cases this
        simp [ht]
        omega
      · rw [if_neg (fun q => z q.2), cpy_d (by omega) (by omega), e150, (Rp_t hP (t := (t : Int)) (by omega) (by omega)).2.2.2.2.2]
        have : ¬ h 94 t < 10 := fun q => z (by unfold zL; rw [setF_bit]; simp [ht, q])
        simp [ht]
        omega
    · simp [ht]
theorem s_pkHold (hP : Rp h 0 150 n nb L s) (hg : scT h g) (hp : pcK (cpy g 150 0 151 0 238) u n nb (popc (zL h n)) (zL h n) v 0) (hq : ∀ g', scT h g' → Q (aI (mL L (FV h n nb L s v))) (sT g')) : wp 138 (am_ju 138 0) [aP 149, aI 7] [] (sT u) Q := by
  obtain ⟨r0, r1, r2, r3, r4, r5, r6, r7⟩ := id hP.1
  have e150 := tr_150 hg
  have p3 := hP.2.2.2.1
  have p5 := hP.2.2.2.2.2.1
  have p6 := hP.2.2.2.2.2.2.1
  rw [Int.add_zero] at p3
  obtain ⟨g1, g2, g3, g4⟩ := id hp
  have lo : ∀ k : Int, 0 ≤ k → k < 23 → u 151 k = h 150 k := fun k q1 q2 => by rw [g2 k (by omega), cpy_d q1 (by omega), e150]
  have hi : ∀ k : Int, 66 ≤ k → k < 238 → u 151 k = h 150 k := fun k q1 q2 => by rw [g2 k (by omega), cpy_d (by omega) q2, e150]
  have md : ∀ (t : Nat) (m : Int), t < n → 0 ≤ m → m ≤ 4 → u 151 (18 + 6 * t + m) = h 150 (18 + 6 * t + m) := fun t m ht m0 m1 => by rw [g3 t m ht m0 m1, cpy_d (by omega) (by omega), e150]
  have hR : RO u 151 n nb L := by
    refine ⟨by rw [lo _ (by omega) (by omega)]; exact r0, r1, by rw [lo _ (by omega) (by omega)]; exact r2, r3, by rw [lo _ (by omega) (by omega)]; exact r4, r5, fun t ht => ?_, fun b hb => ?_⟩
    · rw [md t 0 ht (by decide) (by decide), md t 1 ht (by decide) (by decide), md t 2 ht (by decide) (by decide)]; exact r6 t ht
    · unfold bk
      rw [lo _ (by omega) (by omega), lo _ (by omega) (by omega), lo _ (by omega) (by omega), lo _ (by omega) (by omega)]; exact r7 b hb
  have hsu : scT h u := scT_t hg (scT_t scT_cp ⟨fun a q1 _ => g1 a q1, fun k _ _ => by rw [g1 149 (by decide)]⟩)
  refine s_hT ⟨by decide, by decide⟩ hR (s := s) (by rw [lo _ (by omega) (by omega), p5]) p6 (fun g' hg' => ?_)
  have em : minB (bR u 151 n 7 (L - s) s) nb = FV h n nb L s v := minB_eq (fun b hb => by
    obtain ⟨z1, z2, z3, z4⟩ := Rp_b hP (b := (b : Int)) (by omega) (by omega)
    refine bR_g r3 p3 r5 p6 (fun t ht => ?_) (fun i hi2 => ?_) ?_ ?_ (mS_pc hP e150 hb hp)
    · obtain ⟨y1, y2, y3, -⟩ := Rp_t hP (t := (t : Int)) (by omega) (by omega)
      rw [md t 0 ht (by decide) (by decide), md t 1 ht (by decide) (by decide), md t 2 ht (by decide) (by decide)]
      exact ⟨y1, y2, y3⟩
    · rw [hi _ (by omega) (by omega), Rp_i hP (by omega) (by omega)]
    · rw [lo _ (by omega) (by omega), z1]
    · rw [lo _ (by omega) (by omega), lo _ (by omega) (by omega), lo _ (by omega) (by omega)]
      exact ⟨z2, z3, z4⟩)
  rw [em]
  exact hq g' (scT_t hsu hg')
end PO
