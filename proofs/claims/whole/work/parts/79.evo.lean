/-! how a bag goes on, step by step: wet, wear, gone, things -/
def evS (h : am_F) (k bj : Int) (s : Nat) (x : Int × Int × Nat × Nat) : Nat → Int × Int × Nat × Nat
  | 0 => x
  | i + 1 => ((cy h k (sortI h ((s + i : Nat) : Int)) (jl (sortI h ((s + i : Nat) : Int)) bj) (evS h k bj s x i).1 (evS h k bj s x i).2.1 (evS h k bj s x i).2.2.1 (evS h k bj s x i).2.2.2).1, (cy h k (sortI h ((s + i : Nat) : Int)) (jl (sortI h ((s + i : Nat) : Int)) bj) (evS h k bj s x i).1 (evS h k bj s x i).2.1 (evS h k bj s x i).2.2.1 (evS h k bj s x i).2.2.2).2.1, (cy h k (sortI h ((s + i : Nat) : Int)) (jl (sortI h ((s + i : Nat) : Int)) bj) (evS h k bj s x i).1 (evS h k bj s x i).2.1 (evS h k bj s x i).2.2.1 (evS h k bj s x i).2.2.2).2.2.1, (cy h k (sortI h ((s + i : Nat) : Int)) (jl (sortI h ((s + i : Nat) : Int)) bj) (evS h k bj s x i).1 (evS h k bj s x i).2.1 (evS h k bj s x i).2.2.1 (evS h k bj s x i).2.2.2).2.2.2.1)
def eS (h : am_F) (n : Nat) (bj : Int) (s b i : Nat) : Int × Int × Nat × Nat := evS h (h 82 b) bj s (h 91 b, h 92 b, (h 93 b).toNat, cS h b n) i
/-- what falls of bag b at step s + i -/
def eF (h : am_F) (n : Nat) (bj : Int) (s b i : Nat) : Nat := (cy h (h 82 b) (sortI h ((s + i : Nat) : Int)) (jl (sortI h ((s + i : Nat) : Int)) bj) (eS h n bj s b i).1 (eS h n bj s b i).2.1 (eS h n bj s b i).2.2.1 (eS h n bj s b i).2.2.2).2.2.2.2
def oR (h g : am_F) : Prop := ∀ a, a ≠ 138 → a ≠ 139 → g a = h a
section EV
variable {g h h' h1 h2 u : am_F} {Q : am_V → am_S → Prop} {so j bj k w r v : Int} {n nb L s K nx b i gg S : Nat}
theorem eS_s : eS h n bj s b (i + 1) = ((cy h (h 82 b) (sortI h ((s + i : Nat) : Int)) (jl (sortI h ((s + i : Nat) : Int)) bj) (eS h n bj s b i).1 (eS h n bj s b i).2.1 (eS h n bj s b i).2.2.1 (eS h n bj s b i).2.2.2).1, (cy h (h 82 b) (sortI h ((s + i : Nat) : Int)) (jl (sortI h ((s + i : Nat) : Int)) bj) (eS h n bj s b i).1 (eS h n bj s b i).2.1 (eS h n bj s b i).2.2.1 (eS h n bj s b i).2.2.2).2.1, (cy h (h 82 b) (sortI h ((s + i : Nat) : Int)) (jl (sortI h ((s + i : Nat) : Int)) bj) (eS h n bj s b i).1 (eS h n bj s b i).2.1 (eS h n bj s b i).2.2.1 (eS h n bj s b i).2.2.2).2.2.1, (cy h (h 82 b) (sortI h ((s + i : Nat) : Int)) (jl (sortI h ((s + i : Nat) : Int)) bj) (eS h n bj s b i).1 (eS h n bj s b i).2.1 (eS h n bj s b i).2.2.1 (eS h n bj s b i).2.2.2).2.2.2.1) := rfl
theorem eS_r (hC : CO h n nb L s) (hb : b < nb) : ∀ i, (0 ≤ (eS h n bj s b i).1 ∧ (eS h n bj s b i).1 ≤ 999) ∧ (0 ≤ (eS h n bj s b i).2.1 ∧ (eS h n bj s b i).2.1 ≤ 999) ∧ (eS h n bj s b i).2.2.1 < 16 ∧ (eS h n bj s b i).2.2.2 < 256 ∧ gd h (eS h n bj s b i).2.2.2 := by
  intro i
  obtain ⟨c1, c2, c3, c4, c5, c6, c7, c8, c9, c10⟩ := id hC
  obtain ⟨d1, d2, d3, d4⟩ := c10 b hb
  induction i with
  | zero => exact ⟨d2, d3, by show (h 93 b).toNat < 16; omega, cS_lt c4, cS_gd hC⟩
  | succ i ih =>
    obtain ⟨a1, a2, a3, a4, a5⟩ := ih
    obtain ⟨q1, q2, q3, q4, q5, -⟩ := cy_r (k := h 82 b) (so := sortI h ((s + i : Nat) : Int)) (j := jl (sortI h ((s + i : Nat) : Int)) bj) a1 a2 a3 a4 a5
    rw [eS_s]
    exact ⟨q1, q2, q3, q4, q5⟩
theorem eF_lt (hC : CO h n nb L s) (hb : b < nb) : eF h n bj s b i < 256 := by
  obtain ⟨a1, a2, a3, a4, a5⟩ := eS_r (bj := bj) hC hb i
  exact (cy_r (k := h 82 b) (so := sortI h ((s + i : Nat) : Int)) (j := jl (sortI h ((s + i : Nat) : Int)) bj) a1 a2 a3 a4 a5).2.2.2.2.2
theorem bS_139 : up (bS u 138 k w r gg S) 139 v j = bS (up u 139 v j) 138 k w r gg S := by
  unfold bS
  rw [up_ne (show (83 : Int) ≠ 139 by decide), up_ne (show (84 : Int) ≠ 139 by decide), up_ne (show (85 : Int) ≠ 139 by decide)]
  generalize sumS (u 83) S 8 = A
  generalize sumS (u 84) S 8 = B
  generalize sumS (u 85) S 8 = C
  funext a x
  unfold bw
  by_cases e : a = 138
  · subst e
    rw [up_ne (by decide)]
    simp only [up, true_and, false_and, if_false, show ((138 : Int) = 139) = False from by simp]
  · rw [up_ne e, up_ne e, up_ne e, up_ne e, up_ne e, up_ne e, up_ne e, up_ne e]
    by_cases f : a = 139 ∧ x = v
    · obtain ⟨rfl, rfl⟩ := f
      rw [up_s, up_s]
    · unfold up
      simp only [f, e, false_and, if_false]
theorem bS_o {a : Int} (ha : a ≠ 138) : bS u 138 k w r gg S a = u a := by
  funext x
  unfold bS bw
  rw [up_ne ha, up_ne ha, up_ne ha, up_ne ha, up_ne ha, up_ne ha, up_ne ha, up_ne ha]
theorem cy_c (e : ∀ a, 83 ≤ a → a ≤ 85 → u a = h a) : cy u k so j w r gg S = cy h k so j w r gg S := by
  rw [cy_core, cy_core, e 83 (by decide) (by decide), e 84 (by decide) (by decide), e 85 (by decide) (by decide)]
theorem sortI_o {x : Int} (e : oR h u) : sortI u x = sortI h x := by
  unfold sortI; rw [e 88 (by decide) (by decide), e 89 (by decide) (by decide)]
/-- the row of what falls, behind i steps of bag b -/
def fa (h : am_F) (n : Nat) (bj : Int) (s b : Nat) (F : Nat → Nat) (i k : Nat) : Nat := if s ≤ k ∧ k < s + i then F k ||| eF h n bj s b (k - s) else F k
set_option maxHeartbeats 1000000 in
theorem lp_af (hC : CO h n nb L s) (hb : b < nb) (hbj : 0 ≤ bj ∧ bj ≤ 7) {F : Nat → Nat} (hF : ∀ k, F k < 256) (hq : ∀ g, oR h g → (∀ k : Nat, k < 20 → g 139 k = (fa h n bj s b F (L - s) k : Int)) → Q aV (sT g)) : ∀ (j i : Nat) (u : am_F), i + j = L - s → oR h u → (∀ k : Nat, k < 20 → u 139 k = (fa h n bj s b F i k : Int)) → wp 193 (am_ju 193 19) [aP 137, aI (b : Int), aI bj, aP 88, aI ((s + i : Nat) : Int)] [] (sT (bS u 138 (h 82 b) (eS h n bj s b i).1 (eS h n bj s b i).2.1 (eS h n bj s b i).2.2.1 (eS h n bj s b i).2.2.2)) Q := by
  intro j
  have l1 := ln_139
  have k1 := kd_139
  obtain ⟨c1, c2, c3, c4, c5, c6, c7, c8, c9, c10⟩ := id hC
  induction j with
  | zero =>
    intro i u hi hu hr
    have hi : i = L - s := by omega
    subst hi
    have e1 : u 88 1 = (L : Int) := by rw [hu 88 (by decide) (by decide), c5]
    rw [ju_193_19]
    simp only [ju_193_45, r_aLD0, r_gR, r_aST3, r_iLD1, cl_39, cl_42, r_gI, r_iST4, r_iLD4, r_aLD3, r_IC3, r_DUP2, r_iALD, r_iALDs, cl_100, r_iLD2, cl_113, cl_117, r_iOR, r_iAST, r_IINC4, r_GOTO, r_vRET, eq_self, Int.reduceLT, Int.reduceLE, Int.reduceEq, true_or, or_true, and_self, true_and, and_true, w8_0, w8_1, w8_2, w8_3, w8_4, nl_I, nl_P, nl_X, pu_I, pu_J, pu_V, kd_88, bS_n kd_138 (show kd 88 ≠ 0 by decide), e1]
    rw [if_pos (by omega)]
    exact hq _ (fun a q1 q2 => by rw [bS_o q1, hu a q1 q2]) (fun k hk => by rw [bS_o (by decide)]; exact hr k hk)
  | succ j ih =>
    intro i u hi hu hr
    have e1 : u 88 1 = (L : Int) := by rw [hu 88 (by decide) (by decide), c5]
    obtain ⟨a1, a2, a3, a4, a5⟩ := eS_r (bj := bj) hC hb i
    have s0 : (0 : Int) ≤ ((s + i : Nat) : Int) := by omega
    have s20 : ((s + i : Nat) : Int) < 20 := by omega
    have hw : w3 (((s + i : Nat) : Int) + 1) = ((s + (i + 1) : Nat) : Int) := by rw [w3_id (by omega) (by omega)]; omega
    have hgd : gd u (eS h n bj s b i).2.2.2 := fun t ht => by rw [hu 83 (by decide) (by decide), hu 84 (by decide) (by decide), hu 85 (by decide) (by decide)]; exact a5 t ht
    have d1 := (c10 b hb).1
    have ca := fun Q' => s_carry (h := u) (Q := Q') (c := 138) (k := h 82 b) (w := (eS h n bj s b i).1) (r := (eS h n bj s b i).2.1) (g := (eS h n bj s b i).2.2.1) (S := (eS h n bj s b i).2.2.2) (so := sortI h ((s + i : Nat) : Int)) (j := jl (sortI h ((s + i : Nat) : Int)) bj) kd_138 d1 a1 a2 a3 a4 hgd (jl_r hbj)
    rw [cy_c (fun a q1 q2 => hu a (by omega) (by omega))] at ca
    have hfl : (cy h (h 82 b) (sortI h ((s + i : Nat) : Int)) (jl (sortI h ((s + i : Nat) : Int)) bj) (eS h n bj s b i).1 (eS h n bj s b i).2.1 (eS h n bj s b i).2.2.1 (eS h n bj s b i).2.2.2).2.2.2.2 = eF h n bj s b i := rfl
    have hel := eF_lt (bj := bj) (i := i) hC hb
    have hFl := hF (s + i)
    have r39 : u 139 ((s + i : Nat) : Int) = (F (s + i) : Int) := by
      rw [hr (s + i) (by omega)]
      unfold fa
      rw [if_neg (by omega)]
    have so1 : sortI (bS u 138 (h 82 b) (eS h n bj s b i).1 (eS h n bj s b i).2.1 (eS h n bj s b i).2.2.1 (eS h n bj s b i).2.2.2) ((s + i : Nat) : Int) = sortI h ((s + i : Nat) : Int) := by rw [sortI_bS kd_138, sortI_o hu]
    have ih := fun u => ih (i + 1) u (by omega)
    rw [eS_s] at ih
    generalize cy h (h 82 b) (sortI h ((s + i : Nat) : Int)) (jl (sortI h ((s + i : Nat) : Int)) bj) (eS h n bj s b i).1 (eS h n bj s b i).2.1 (eS h n bj s b i).2.2.1 (eS h n bj s b i).2.2.2 = z at ca ih hfl
    dsimp only at ih
    have w5 : am_w8 [aP 81, aP 138, aI (F (s + i) : Int), aI ((s + i : Nat) : Int), aP 139] = true := by simp [am_w8, am_cat, aI, aP]
    have w6' : am_w8 [aI (sortI h ((s + i : Nat) : Int)), aP 81, aP 138, aI (F (s + i) : Int), aI ((s + i : Nat) : Int), aP 139] = true := by simp [am_w8, am_cat, aI, aP]
    rw [ju_193_19]
    simp (disch := first | assumption | omega | exact w8_0 | exact w8_1 _ | exact w8_2 _ _ | exact w8_3 _ _ _ | exact w8_4 _ _ _ _ | exact nl_I _ | exact nl_P _ | exact nl_X | decide | exact w8_5 _ _ _ _ _) only [r_aLD0, r_gR, r_aST3, r_iLD1, cl_39, cl_42, r_gI, r_iST4, r_iLD4, r_aLD3, r_IC3, r_DUP2, r_iALDc, r_iALDs, cl_100, r_iLD2, cl_113, cl_117, r_iOR, r_iASTc, r_IINC4, r_GOTO, r_vRET, eq_self, Int.reduceLT, Int.reduceLE, Int.reduceEq, true_or, or_true, and_self, true_and, and_true, w8_0, w8_1, w8_2, w8_3, w8_4, nl_I, nl_P, nl_X, pu_I, pu_J, pu_V, w3_id, Int.add_zero, r_DUP2, kd_137, kd_138, kd_80, kd_88, rR_137_0, rR_137_1, rR_137_2, rR_80_0, bS_n kd_138 (show kd 88 ≠ 0 by decide), bS_n kd_138 (show kd 139 ≠ 0 by decide), e1, r39, s_sortAt, s_joltAt, so1, ca, hfl, bOr_n _ _ (show F (s + i) < 2 ^ 31 by omega) (show eF h n bj s b i < 2 ^ 31 by omega), hw, bS_139]
    rw [if_neg (by omega)]
    refine ih (up u 139 ((s + i : Nat) : Int) ((F (s + i) ||| eF h n bj s b i : Nat) : Int)) (fun a q1 q2 => by rw [up_ne q2, hu a q1 q2]) (fun k hk => ?_)
    by_cases e : k = s + i
    · subst e
      rw [up_s]
      unfold fa
      rw [if_pos (by omega), show s + i - s = i by omega]
    · rw [up_k (by omega), hr k hk]
      unfold fa
      by_cases z : s ≤ k ∧ k < s + i
      · rw [if_pos z, if_pos (by omega)]
      · rw [if_neg z, if_neg (by omega)]
theorem s_addFalls (hC : CO h n nb L s) (hb : b < nb) (hbj : 0 ≤ bj ∧ bj ≤ 7) {F : Nat → Nat} (hF : ∀ k, F k < 256) (hg : oR h g) (hr : ∀ k : Nat, k < 20 → g 139 k = (F k : Int)) (hq : ∀ g, oR h g → (∀ k : Nat, k < 20 → g 139 k = (fa h n bj s b F (L - s) k : Int)) → Q aV (sT g)) : wp 193 (am_ju 193 0) [aP 137, aI (b : Int), aI bj, aX, aX] [] (sT g) Q := by
  obtain ⟨c1, c2, c3, c4, c5, c6, c7, c8, c9, c10⟩ := id hC
  have hCg : CO g n nb L s := CO_c (fun a q1 q2 q3 => hg a (by omega) (by omega)) (by rw [hg 90 (by decide) (by decide)]) hC
  obtain ⟨e1, e2, e3, -, e5, -, e7, -⟩ := id hCg
  obtain ⟨d1, d2, d3, d4⟩ := c10 b hb
  obtain ⟨gg, eg⟩ := Int.eq_ofNat_of_zero_le d4.1
  have eS0 : cS g b n = cS h b n := by unfold cS; rw [hg 94 (by decide) (by decide)]
  have ta : ∀ (Q' : am_V → am_S → Prop), wp 39 (am_ju 39 0) [aP 80, aI (b : Int), aX, aX] [] (sT g) Q' ↔ Q' (aI (cS h b n : Int)) (sT g) := fun Q' => by rw [s_thingsAt c4 e3, ← eS0]; rfl
  have hS := cS_lt (h := h) (b := (b : Int)) c4
  have hgd : gd g (cS h b n) := by rw [← eS0]; exact cS_gd hCg
  have ld := fun Q' => s_load (h := g) (Q := Q') (c := 138) (b := (b : Int)) kd_138 ⟨by omega, by omega, by omega⟩ hS hgd
  rw [hg 82 (by decide) (by decide), hg 91 (by decide) (by decide), hg 92 (by decide) (by decide), hg 93 (by decide) (by decide), eg] at ld
  rw [ju_193_0]
  simp only [r_aLD0, r_gR, r_aST3, r_iLD1, cl_39, cl_42, r_gI, r_iST4, r_iLD4, r_aLD3, r_IC3, r_DUP2, r_iALD, r_iALDs, cl_100, r_iLD2, cl_113, cl_117, r_iOR, r_iAST, r_IINC4, r_GOTO, r_vRET, eq_self, Int.reduceLT, Int.reduceLE, Int.reduceEq, true_or, or_true, and_self, true_and, and_true, w8_0, w8_1, w8_2, w8_3, w8_4, nl_I, nl_P, nl_X, pu_I, pu_J, pu_V, kd_137, ln_137, rR_137_0, rR_137_1, rR_137_2, rR_137_3, rR_137_4, rR_137_6, rR_137_7, rR_137_8, kd_80, ln_80, rR_80_0, rR_80_1, rR_80_2, rR_80_3, kd_138, ln_138, kd_90, ln_90, rR_90_0, rR_90_1, rR_90_2, rR_90_3, ta, ld]
  rw [show bw g 138 (h 82 b) (h 91 b) (h 92 b) (gg : Int) (cS h b n : Int) (sumS (g 83) (cS h b n) 8) (sumS (g 84) (cS h b n) 8) (sumS (g 85) (cS h b n) 8) = bS g 138 (h 82 b) (h 91 b) (h 92 b) gg (cS h b n) from rfl]
  simp only [r_aLD0, r_gR, r_aST3, r_iLD1, cl_39, cl_42, r_gI, r_iST4, r_iLD4, r_aLD3, r_IC3, r_DUP2, r_iALD, r_iALDs, cl_100, r_iLD2, cl_113, cl_117, r_iOR, r_iAST, r_IINC4, r_GOTO, r_vRET, eq_self, Int.reduceLT, Int.reduceLE, Int.reduceEq, true_or, or_true, and_self, true_and, and_true, w8_0, w8_1, w8_2, w8_3, w8_4, nl_I, nl_P, nl_X, pu_I, pu_J, pu_V, kd_137, ln_137, rR_137_0, rR_137_1, rR_137_2, rR_137_3, rR_137_4, rR_137_6, rR_137_7, rR_137_8, kd_80, ln_80, rR_80_0, rR_80_1, rR_80_2, rR_80_3, kd_138, ln_138, kd_90, ln_90, rR_90_0, rR_90_1, rR_90_2, rR_90_3, bS_n kd_138 (show kd 90 ≠ 0 by decide), e7]
  have := lp_af hC hb hbj hF hq (L - s) 0 g (by omega) hg (fun k hk => by rw [hr k hk]; unfold fa; rw [if_neg (by omega)])
  unfold eS at this
  rw [evS, eg] at this
  exact this
end EV
