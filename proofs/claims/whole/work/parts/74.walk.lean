/-! the class's step -/
def cc (h : am_F) (n : Nat) (so j : Int) (b : Nat) : Int × Int × Nat × Nat × Nat := cy h (h 82 b) so j (h 91 b) (h 92 b) (h 93 b).toNat (cS h b n)
def flC (h : am_F) (n : Nat) (so j : Int) : Nat → Nat
  | 0 => 0
  | B + 1 => flC h n so j B ||| (cc h n so j B).2.2.2.2
def WI (h g : am_F) (n : Nat) (so j : Int) (B : Nat) : Prop := (∀ b : Nat, b < B → g 91 b = (cc h n so j b).1 ∧ g 92 b = (cc h n so j b).2.1 ∧ g 93 b = ((cc h n so j b).2.2.1 : Int)) ∧ (∀ k : Int, (B : Int) ≤ k → g 91 k = h 91 k ∧ g 92 k = h 92 k ∧ g 93 k = h 93 k) ∧ ∀ a, a ≠ 58 → a ≠ 91 → a ≠ 92 → a ≠ 93 → g a = h a
def wF (h : am_F) (f : Nat) (x : Int) (t : Nat) : am_F := fun a k => if a = 94 ∧ 0 ≤ k ∧ k < (t : Int) ∧ f.testBit k.toNat = true then x else h a k
section WK
variable {g h h' h1 h2 : am_F} {Q : am_V → am_S → Prop} {so j x : Int} {n nb L s K nx b t f : Nat}
theorem wF_ne {a : Int} (ha : a ≠ 94) : wF h f x t a = h a := by funext k; unfold wF; rw [if_neg (fun z => ha z.1)]
theorem wF_at {c : Nat} : wF h f x t 94 c = if c < t ∧ f.testBit c = true then x else h 94 c := by
  unfold wF
  rw [Int.toNat_natCast]
  by_cases z : c < t ∧ f.testBit c = true
  · rw [if_pos z, if_pos ⟨rfl, by omega, by omega, z.2⟩]
  · rw [if_neg z, if_neg (fun q => z ⟨by omega, q.2.2.2⟩)]
theorem wF_0 : wF h f x 0 = h := by funext a k; unfold wF; rw [if_neg (by omega)]
theorem wF_s1 (hb : f.testBit t = true) : up (wF h f x t) 94 t x = wF h f x (t + 1) := by
  funext a k
  by_cases ha : a = 94
  · subst ha
    by_cases q : k = (t : Int)
    · subst q; rw [up_s, wF_at, if_pos ⟨by omega, hb⟩]
    · rw [up_k q]
      unfold wF
      by_cases z : (94 : Int) = 94 ∧ 0 ≤ k ∧ k < (t : Int) ∧ f.testBit k.toNat = true
      · rw [if_pos z, if_pos ⟨rfl, z.2.1, by omega, z.2.2.2⟩]
      · rw [if_neg z, if_neg (fun y => z ⟨rfl, y.2.1, by omega, y.2.2.2⟩)]
  · rw [up_ne ha, wF_ne ha, wF_ne ha]
theorem wF_s0 (hb : ¬ f.testBit t = true) : wF h f x t = wF h f x (t + 1) := by
  funext a k
  unfold wF
  by_cases z : a = 94 ∧ 0 ≤ k ∧ k < (t : Int) ∧ f.testBit k.toNat = true
  · rw [if_pos z, if_pos ⟨z.1, z.2.1, by omega, z.2.2.2⟩]
  · rw [if_neg z, if_neg]
    rintro ⟨y1, y2, y3, y4⟩
    refine z ⟨y1, y2, ?_, y4⟩
    have : k ≠ (t : Int) := fun e => hb (by rw [e, Int.toNat_natCast] at y4; exact y4)
    omega
theorem lp_wF (h8 : n ≤ 8) (hn : h 81 7 = (n : Int)) (hs : h 90 4 = (s : Int)) (hs2 : s ≤ 20) (hf : f < 256) {v2 v3 : Int} : ∀ (k t : Nat), t + k = n → (wp 118 (am_ju 118 77) [aP 80, aP 58, aI v2, aI v3, aI (f : Int), aI (t : Int)] [] (sT (wF h f (10 + s) t)) Q ↔ Q (aI (f : Int)) (sT (up (wF h f (10 + s) n) 90 4 ((s + 1 : Nat) : Int)))) := by
  intro k
  have l1 := ln_94
  have k1 := kd_94
  induction k with
  | zero =>
    intro t ht
    have ht : t = n := by omega
    subst ht
    have e1 : wF h f (10 + s) t 81 7 = (t : Int) := by rw [wF_ne (by decide), hn]
    have e2 : wF h f (10 + s) t 90 4 = (s : Int) := by rw [wF_ne (by decide), hs]
    have e3 : w3 ((s : Int) + 1) = ((s + 1 : Nat) : Int) := w3_id (by omega) (by omega)
    rw [ju_118_77]
    simp only [ju_118_98, r_aLD0, r_gR, cl_111, r_gI, cl_100, r_iST2, r_iLD2, r_iCONST, r_IC1, cl_112, r_GOTO, cl_113, r_iST3, r_iST4, r_iST5, r_iLD5, r_IC3, r_aLD1, cl_39, cl_42, r_iLD4, r_iLD3, cl_117, r_iOR, r_iAST, r_IINC5, cl_29, r_IF0, r_bPUSH, r_iADD, r_DUPI, r_DUPP, r_pI, r_iRET, eq_self, Int.reduceLT, Int.reduceLE, Int.reduceEq, true_or, or_true, and_self, true_and, and_true, w8_0, w8_1, w8_2, w8_3, w8_4, nl_I, nl_P, nl_X, pu_I, pu_J, pu_V, kd_80, ln_80, rR_80_0, rR_80_1, rR_80_2, rR_80_3, kd_81, ln_81, rR_81_0, rR_81_1, rR_81_2, rR_81_3, rR_81_4, rR_81_5, kd_90, ln_90, rR_90_0, rR_90_1, rR_90_2, rR_90_3, e1, e2, e3]
    rw [if_pos (by omega)]
  | succ k ih =>
    intro t ht
    have t2 : (t : Int) < 8 := by omega
    have e1 : wF h f (10 + s) t 81 7 = (n : Int) := by rw [wF_ne (by decide), hn]
    have e2 : wF h f (10 + s) t 90 4 = (s : Int) := by rw [wF_ne (by decide), hs]
    have e3 : w3 (10 + (s : Int)) = 10 + (s : Int) := w3_id (by omega) (by omega)
    have hw : w3 ((t : Int) + 1) = ((t + 1 : Nat) : Int) := w3_id (by omega) (by omega)
    have ih := ih (t + 1) (by omega)
    rw [ju_118_77]
    simp (disch := first | assumption | omega | exact w8_0 | exact w8_1 _ | exact w8_2 _ _ | exact w8_3 _ _ _ | exact w8_4 _ _ _ _ | exact nl_I _ | exact nl_P _ | exact nl_X | decide | exact w8_5 _ _ _ _ _) only [ju_118_96, r_aLD0, r_gR, cl_111, r_gI, cl_100, r_iST2, r_iLD2, r_iCONST, r_IC1, cl_112, r_GOTO, cl_113, r_iST3, r_iST4, r_iST5, r_iLD5, r_IC3, r_aLD1, cl_39, cl_42, r_iLD4, r_iLD3, cl_117, r_iOR, r_iASTc, r_IINC5, cl_29, r_IF0, r_bPUSH, r_iADD, r_DUPI, r_DUPP, r_pI, r_iRET, eq_self, Int.reduceLT, Int.reduceLE, Int.reduceEq, true_or, or_true, and_self, true_and, and_true, w8_0, w8_1, w8_2, w8_3, w8_4, nl_I, nl_P, nl_X, pu_I, pu_J, pu_V, w3_id, Int.add_zero, kd_80, kd_81, kd_90, rR_80_0, rR_80_2, rR_90_3, e1, e2, s_has (show f < 2 ^ 31 by omega) (show t < 31 by omega), b01, hw]
    rw [if_neg (by omega)]
    by_cases hb : f.testBit t = true
    · rw [if_neg (by simpa using hb), wF_s1 hb]
      exact ih
    · rw [if_pos hb, wF_s0 hb]
      exact ih
theorem cc_lt (hC : CO h n nb L s) (hb : b < nb) : (0 ≤ (cc h n so j b).1 ∧ (cc h n so j b).1 ≤ 999) ∧ (0 ≤ (cc h n so j b).2.1 ∧ (cc h n so j b).2.1 ≤ 999) ∧ (cc h n so j b).2.2.1 < 16 ∧ (cc h n so j b).2.2.2.1 < 256 ∧ gd h (cc h n so j b).2.2.2.1 ∧ (cc h n so j b).2.2.2.2 < 256 := by
  obtain ⟨c1, c2, c3, c4, c5, c6, c7, c8, c9, c10⟩ := id hC
  obtain ⟨d1, d2, d3, d4⟩ := c10 b hb
  exact cy_r d2 d3 (by omega) (cS_lt c4) (cS_gd hC)
theorem flC_lt (hC : CO h n nb L s) : ∀ B, B ≤ nb → flC h n so j B < 256 := by
  intro B
  induction B with
  | zero => intro _; simp [flC]
  | succ B ih =>
    intro hB
    rw [flC]
    exact Nat.or_lt_two_pow (n := 8) (ih (by omega)) (cc_lt hC (by omega)).2.2.2.2.2
set_option maxHeartbeats 1000000 in
theorem lp_walk (hC : CO h n nb L s) (hj : 0 ≤ j ∧ j ≤ 7) (hq : ∀ g, WI h g n so j nb → wp 118 (am_ju 118 75) [aP 80, aP 58, aI so, aI j, aI (flC h n so j nb : Int), aI (nb : Int)] [] (sT g) Q) : ∀ (k b : Nat) (g : am_F), b + k = nb → WI h g n so j b → wp 118 (am_ju 118 31) [aP 80, aP 58, aI so, aI j, aI (flC h n so j b : Int), aI (b : Int)] [] (sT g) Q := by
  intro k
  have l1 := ln_91
  have k1 := kd_91
  have l2 := ln_92
  have k2 := kd_92
  have l3 := ln_93
  have k3 := kd_93
  obtain ⟨c1, c2, c3, c4, c5, c6, c7, c8, c9, c10⟩ := id hC
  induction k with
  | zero =>
    intro b g hb hG
    have hb : b = nb := by omega
    subst hb
    have e : g 81 6 = (b : Int) := by rw [hG.2.2 81 (by decide) (by decide) (by decide) (by decide)]; exact c1
    rw [ju_118_31]
    simp only [r_aLD0, r_gR, cl_111, r_gI, cl_100, r_iST2, r_iLD2, r_iCONST, r_IC1, cl_112, r_GOTO, cl_113, r_iST3, r_iST4, r_iST5, r_iLD5, r_IC3, r_aLD1, cl_39, cl_42, r_iLD4, r_iLD3, cl_117, r_iOR, r_iAST, r_IINC5, cl_29, r_IF0, r_bPUSH, r_iADD, r_DUPI, r_DUPP, r_pI, r_iRET, eq_self, Int.reduceLT, Int.reduceLE, Int.reduceEq, true_or, or_true, and_self, true_and, and_true, w8_0, w8_1, w8_2, w8_3, w8_4, nl_I, nl_P, nl_X, pu_I, pu_J, pu_V, kd_80, ln_80, rR_80_0, rR_80_1, rR_80_2, rR_80_3, kd_81, ln_81, rR_81_0, rR_81_1, rR_81_2, rR_81_3, rR_81_4, rR_81_5, e]
    rw [if_pos (by omega)]
    exact hq g hG
  | succ k ih =>
    intro b g hb hG
    have hbn : b < nb := by omega
    obtain ⟨G1, G2, G3⟩ := id hG
    have ge : ∀ a, a ≠ 58 → a ≠ 91 → a ≠ 92 → a ≠ 93 → g a = h a := G3
    obtain ⟨y1, y2, y3⟩ := G2 b (Int.le_refl _)
    have g81 := ge 81 (by decide) (by decide) (by decide) (by decide)
    have g82 := ge 82 (by decide) (by decide) (by decide) (by decide)
    have g83 := ge 83 (by decide) (by decide) (by decide) (by decide)
    have g84 := ge 84 (by decide) (by decide) (by decide) (by decide)
    have g85 := ge 85 (by decide) (by decide) (by decide) (by decide)
    have g94 := ge 94 (by decide) (by decide) (by decide) (by decide)
    obtain ⟨d1, d2, d3, d4⟩ := c10 b hbn
    obtain ⟨gg, eg⟩ := Int.eq_ofNat_of_zero_le d4.1
    have hg16 : gg < 16 := by omega
    have hS := cS_lt (h := h) (b := (b : Int)) c4
    have hgd : gd g (cS h b n) := by
      intro t ht
      rw [g83, g84, g85]
      exact cS_gd hC t ht
    have b0 : (0 : Int) ≤ b := by omega
    have b3 : (b : Int) < 3 := by omega
    have hw : w3 ((b : Int) + 1) = ((b + 1 : Nat) : Int) := w3_id (by omega) (by omega)
    have e6 : g 81 6 = (nb : Int) := by rw [g81]; exact c1
    have e7 : g 81 7 = (n : Int) := by rw [g81]; exact c3
    have ta : ∀ (Q' : am_V → am_S → Prop), wp 39 (am_ju 39 0) [aP 80, aI (b : Int), aX, aX] [] (sT g) Q' ↔ Q' (aI (cS h b n : Int)) (sT g) := fun Q' => by
      rw [s_thingsAt c4 e7, g94]; rfl
    have ld := fun Q' => s_load (h := g) (Q := Q') (c := 58) (b := (b : Int)) kd_58 ⟨b0, by omega, b3⟩ hS hgd
    rw [g82, y1, y2, y3, eg] at ld
    have cyE : cy g (h 82 b) so j (h 91 b) (h 92 b) gg (cS h b n) = cc h n so j b := by
      unfold cc
      rw [eg, Int.toNat_natCast, cy_core, cy_core, g83, g84, g85]
    have ca := fun Q' => s_carry (h := g) (Q := Q') (c := 58) (k := h 82 b) (w := h 91 b) (r := h 92 b) (g := gg) (S := cS h b n) (so := so) (j := j) kd_58 d1 d2 d3 hg16 hS hgd hj
    rw [cyE] at ca
    unfold bS at ca
    have hfl := flC_lt (so := so) (j := j) hC b (by omega)
    have hcl := cc_lt (so := so) (j := j) hC hbn
    have ih := fun g => ih (b + 1) g (by omega)
    rw [flC] at ih
    rw [ju_118_31]
    simp only [r_aLD0, r_gR, cl_111, r_gI, cl_100, r_iST2, r_iLD2, r_iCONST, r_IC1, cl_112, r_GOTO, cl_113, r_iST3, r_iST4, r_iST5, r_iLD5, r_IC3, r_aLD1, cl_39, cl_42, r_iLD4, r_iLD3, cl_117, r_iOR, r_iAST, r_IINC5, cl_29, r_IF0, r_bPUSH, r_iADD, r_DUPI, r_DUPP, r_pI, r_iRET, eq_self, Int.reduceLT, Int.reduceLE, Int.reduceEq, true_or, or_true, and_self, true_and, and_true, w8_0, w8_1, w8_2, w8_3, w8_4, nl_I, nl_P, nl_X, pu_I, pu_J, pu_V, kd_80, ln_80, rR_80_0, rR_80_1, rR_80_2, rR_80_3, kd_81, ln_81, rR_81_0, rR_81_1, rR_81_2, rR_81_3, rR_81_4, rR_81_5, kd_58, ln_58, e6, ta, ld, ca]
    rw [if_neg (by omega)]
    simp (disch := first | assumption | omega | exact w8_0 | exact w8_1 _ | exact w8_2 _ _ | exact w8_3 _ _ _ | exact w8_4 _ _ _ _ | exact nl_I _ | exact nl_P _ | exact nl_X | decide | exact w8_5 _ _ _ _ _) only [r_aLD0, r_gR, cl_111, r_gI, cl_100, r_iST2, r_iLD2, r_iCONST, r_IC1, cl_112, r_GOTO, cl_113, r_iST3, r_iST4, r_iST5, r_iLD5, r_IC3, r_aLD1, cl_39, cl_42, r_iLD4, r_iLD3, cl_117, r_iOR, r_iASTc, r_IINC5, cl_29, r_IF0, r_bPUSH, r_iADD, r_DUPI, r_DUPP, r_pI, r_iRET, eq_self, Int.reduceLT, Int.reduceLE, Int.reduceEq, true_or, or_true, and_self, true_and, and_true, w8_0, w8_1, w8_2, w8_3, w8_4, nl_I, nl_P, nl_X, pu_I, pu_J, pu_V, w3_id, Int.add_zero, kd_80, kd_81, kd_90, kd_58, rR_80_0, rR_80_2, rR_90_0, rR_90_1, rR_90_2, bOr_n _ _ (show flC h n so j b < 2 ^ 31 by omega) (show (cc h n so j b).2.2.2.2 < 2 ^ 31 by omega), bw_1, up_ne (show (58 : Int) ≠ 91 by decide), up_ne (show (58 : Int) ≠ 92 by decide), bw_2, bw_3, hw]
    refine ih _ ⟨fun b' hb' => ?_, fun kk hk => ?_, fun a q1 q2 q3 q4 => ?_⟩
    · by_cases e : b' = b
      · subst e
        rw [up_ne (show (91 : Int) ≠ 93 by decide), up_ne (show (91 : Int) ≠ 92 by decide), up_s, up_ne (show (92 : Int) ≠ 93 by decide), up_s, up_s]
        exact ⟨rfl, rfl, rfl⟩
      · have := G1 b' (by omega)
        rw [up_ne (show (91 : Int) ≠ 93 by decide), up_ne (show (91 : Int) ≠ 92 by decide), up_k (by omega), up_ne (show (92 : Int) ≠ 93 by decide), up_k (by omega), up_ne (show (92 : Int) ≠ 91 by decide), up_k (by omega), up_ne (show (93 : Int) ≠ 92 by decide), up_ne (show (93 : Int) ≠ 91 by decide), bw_n kd_58 (by decide), bw_n kd_58 (by decide), bw_n kd_58 (by decide)]
        exact this
    · have := G2 kk (by omega)
      rw [up_ne (show (91 : Int) ≠ 93 by decide), up_ne (show (91 : Int) ≠ 92 by decide), up_k (by omega), up_ne (show (92 : Int) ≠ 93 by decide), up_k (by omega), up_ne (show (92 : Int) ≠ 91 by decide), up_k (by omega), up_ne (show (93 : Int) ≠ 92 by decide), up_ne (show (93 : Int) ≠ 91 by decide), bw_n kd_58 (by decide), bw_n kd_58 (by decide), bw_n kd_58 (by decide)]
      exact this
    · rw [up_ne q4, up_ne q3, up_ne q2]
      rw [← ge a q1 q2 q3 q4]
      funext z
      unfold bw
      rw [up_ne q1, up_ne q1, up_ne q1, up_ne q1, up_ne q1, up_ne q1, up_ne q1, up_ne q1]
/-- from where the jolt is known -/
theorem s_walk26 (hC : CO h n nb L s) (hj : 0 ≤ j ∧ j ≤ 7) (hq : ∀ g, WI h g n so j nb → Q (aI (flC h n so j nb : Int)) (sT (up (wF g (flC h n so j nb) (10 + s) n) 90 4 ((s + 1 : Nat) : Int)))) : wp 118 (am_ju 118 26) [aP 80, aP 58, aI so, aX, aX, aX] [aI j] (sT h) Q := by
  obtain ⟨c1, c2, c3, c4, c5, c6, c7, c8, c9, c10⟩ := id hC
  rw [ju_118_26]
  simp only [r_aLD0, r_gR, cl_111, r_gI, cl_100, r_iST2, r_iLD2, r_iCONST, r_IC1, cl_112, r_GOTO, cl_113, r_iST3, r_iST4, r_iST5, r_iLD5, r_IC3, r_aLD1, cl_39, cl_42, r_iLD4, r_iLD3, cl_117, r_iOR, r_iAST, r_IINC5, cl_29, r_IF0, r_bPUSH, r_iADD, r_DUPI, r_DUPP, r_pI, r_iRET, eq_self, Int.reduceLT, Int.reduceLE, Int.reduceEq, true_or, or_true, and_self, true_and, and_true, w8_0, w8_1, w8_2, w8_3, w8_4, nl_I, nl_P, nl_X, pu_I, pu_J, pu_V]
  refine lp_walk hC hj (fun g hG => ?_) nb 0 h (Nat.zero_add nb) ⟨fun b hb => absurd hb (by omega), fun _ _ => ⟨rfl, rfl, rfl⟩, fun _ _ _ _ _ => rfl⟩
  rw [ju_118_75]
  simp only [r_aLD0, r_gR, cl_111, r_gI, cl_100, r_iST2, r_iLD2, r_iCONST, r_IC1, cl_112, r_GOTO, cl_113, r_iST3, r_iST4, r_iST5, r_iLD5, r_IC3, r_aLD1, cl_39, cl_42, r_iLD4, r_iLD3, cl_117, r_iOR, r_iAST, r_IINC5, cl_29, r_IF0, r_bPUSH, r_iADD, r_DUPI, r_DUPP, r_pI, r_iRET, eq_self, Int.reduceLT, Int.reduceLE, Int.reduceEq, true_or, or_true, and_self, true_and, and_true, w8_0, w8_1, w8_2, w8_3, w8_4, nl_I, nl_P, nl_X, pu_I, pu_J, pu_V]
  have e7 : g 81 7 = (n : Int) := by rw [hG.2.2 81 (by decide) (by decide) (by decide) (by decide)]; exact c3
  have e4 : g 90 4 = (s : Int) := by rw [hG.2.2 90 (by decide) (by decide) (by decide) (by decide)]; exact c7
  have := lp_wF (h := g) (Q := Q) (f := flC h n so j nb) (v2 := so) (v3 := j) c4 e7 e4 (by omega) (flC_lt hC nb (Nat.le_refl _)) n 0 (Nat.zero_add n)
  rw [wF_0] at this
  exact this.mpr (hq g hG)
end WK
