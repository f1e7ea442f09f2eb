/-! shop: the reference -/
section SR8
variable {g h h' h1 h2 u : am_F} {Q : am_V → am_S → Prop} {so j bj x y z o c w r t mm df T : Int} {n nb L s K nx b m a q B S i gg l M Z v ch N d p p0 k : Nat} {X : Nat → Int}
theorem flt_f {f : Int} (h0 : 0 ≤ f) : flt f q = f := by unfold flt; rw [if_pos h0]
theorem flt_n : flt (-1) q = (q : Int) := by unfold flt; rw [if_neg (by decide)]
theorem aRf_r (h : am_F) : aRf h h := fun _ _ _ => rfl
theorem aRf_t (a1 : aRf h h1) (a2 : aRf h1 h2) : aRf h h2 := fun a k z => by rw [a2 a k z, a1 a k z]
theorem f54 (hl : l ≤ 100) (hp : p ≤ l) (e1 : h 149 6 = (l : Int)) (e2 : h 149 11 = (p : Int)) (e6 : ∀ i : Nat, i < l → h 154 i = X i) (hf : 0 ≤ h 149 12) (hq : ∀ g', aRf h g' → g' 149 12 = h 149 12 → Q aV (sT g')) : wp 98 (am_ju 98 54) [aP 149] [] (sT h) Q := by
  rw [ju_98_54]
  simp only [r_aLD0, cl_92, r_gI, r_IF3, r_gR, r_iCONST, r_iALD, r_iALDs, r_IC3, cl_75, r_bPUSH, r_IC1, r_DUPI, r_DUPP, r_iADD, r_pI, r_GOTO, cl_93, cl_97, r_IF2, cl_77, r_vRET, eq_self, Int.reduceLT, Int.reduceLE, Int.reduceEq, true_or, or_true, and_self, true_and, and_true, w8_0, w8_1, w8_2, w8_3, w8_4, nl_I, nl_P, nl_X, pu_I, pu_J, pu_V, kd_149]
  refine s_look (X := X) hl _ p h rfl hp e1 e2 e6 (fun g q1 q2 => ?_)
  have q1' : aRf h g := fun a k z => q1 a k (by omega)
  have q12 : g 149 12 = h 149 12 := q1 _ _ (by decide)
  simp only [r_aLD0, cl_92, r_gI, r_IF3, r_gR, r_iCONST, r_iALD, r_iALDs, r_IC3, cl_75, r_bPUSH, r_IC1, r_DUPI, r_DUPP, r_iADD, r_pI, r_GOTO, cl_93, cl_97, r_IF2, cl_77, r_vRET, eq_self, Int.reduceLT, Int.reduceLE, Int.reduceEq, true_or, or_true, and_self, true_and, and_true, w8_0, w8_1, w8_2, w8_3, w8_4, nl_I, nl_P, nl_X, pu_I, pu_J, pu_V, kd_149]
  by_cases e : nxl X l (sk X l p) < 0
  · rw [if_pos e, ju_98_61]
    simp only [r_aLD0, cl_92, r_gI, r_IF3, r_gR, r_iCONST, r_iALD, r_iALDs, r_IC3, cl_75, r_bPUSH, r_IC1, r_DUPI, r_DUPP, r_iADD, r_pI, r_GOTO, cl_93, cl_97, r_IF2, cl_77, r_vRET, eq_self, Int.reduceLT, Int.reduceLE, Int.reduceEq, true_or, or_true, and_self, true_and, and_true, w8_0, w8_1, w8_2, w8_3, w8_4, nl_I, nl_P, nl_X, pu_I, pu_J, pu_V]
    exact hq g q1' q12
  · rw [if_neg e]
    simp only [s_faults]
    simp only [r_aLD0, cl_92, r_gI, r_IF3, r_gR, r_iCONST, r_iALD, r_iALDs, r_IC3, cl_75, r_bPUSH, r_IC1, r_DUPI, r_DUPP, r_iADD, r_pI, r_GOTO, cl_93, cl_97, r_IF2, cl_77, r_vRET, eq_self, Int.reduceLT, Int.reduceLE, Int.reduceEq, true_or, or_true, and_self, true_and, and_true, w8_0, w8_1, w8_2, w8_3, w8_4, nl_I, nl_P, nl_X, pu_I, pu_J, pu_V, ju_98_61]
    refine hq _ (fun a k z => by rw [← q1' a k z]; unfold up; rw [if_neg (by omega)]) ?_
    rw [up_s, q12, if_pos hf]
theorem f32 (hl : l ≤ 100) (hp : p ≤ l) (e1 : h 149 6 = (l : Int)) (e2 : h 149 11 = (p : Int)) (e6 : ∀ i : Nat, i < l → h 154 i = X i) (hf : 0 ≤ h 149 12) (hq : ∀ g', aRf h g' → g' 149 12 = h 149 12 → Q aV (sT g')) : wp 98 (am_ju 98 32) [aP 149] [] (sT h) Q := by
  rw [ju_98_32]
  simp only [r_aLD0, cl_92, r_gI, r_IF3, r_gR, r_iCONST, r_iALD, r_iALDs, r_IC3, cl_75, r_bPUSH, r_IC1, r_DUPI, r_DUPP, r_iADD, r_pI, r_GOTO, cl_93, cl_97, r_IF2, cl_77, r_vRET, eq_self, Int.reduceLT, Int.reduceLE, Int.reduceEq, true_or, or_true, and_self, true_and, and_true, w8_0, w8_1, w8_2, w8_3, w8_4, nl_I, nl_P, nl_X, pu_I, pu_J, pu_V, kd_149]
  rw [if_pos hf]
  exact f54 hl hp e1 e2 e6 hf hq
theorem f24 (hl : l ≤ 100) (hp : p ≤ l) (e1 : h 149 6 = (l : Int)) (e2 : h 149 11 = (p : Int)) (e6 : ∀ i : Nat, i < l → h 154 i = X i) (hf : 0 ≤ h 149 12) (hq : ∀ g', aRf h g' → g' 149 12 = h 149 12 → Q aV (sT g')) : wp 98 (am_ju 98 24) [aP 149] [] (sT h) Q := by
  have hs := sk_l (X := X) hl hp
  have fin : ∀ (g : am_F) (p' : Nat), aRf h g → p' ≤ l → g 149 11 = (p' : Int) → g 149 12 = h 149 12 → wp 98 (am_ju 98 32) [aP 149] [] (sT g) Q := fun g p' a1 a2 a3 a4 =>
    f32 (X := X) hl a2 (by rw [a1 _ _ (by decide)]; exact e1) a3 (fun i hi => by rw [a1 _ _ (by omega)]; exact e6 i hi) (by rw [a4]; exact hf) (fun g' b1 b2 => hq g' (aRf_t a1 b1) (by rw [b2, a4]))
  rw [ju_98_24]
  simp only [r_aLD0, cl_92, r_gI, r_IF3, r_gR, r_iCONST, r_iALD, r_iALDs, r_IC3, cl_75, r_bPUSH, r_IC1, r_DUPI, r_DUPP, r_iADD, r_pI, r_GOTO, cl_93, cl_97, r_IF2, cl_77, r_vRET, eq_self, Int.reduceLT, Int.reduceLE, Int.reduceEq, true_or, or_true, and_self, true_and, and_true, w8_0, w8_1, w8_2, w8_3, w8_4, nl_I, nl_P, nl_X, pu_I, pu_J, pu_V, kd_149]
  refine s_takes (X := X) hl (by decide) hp e1 e2 e6 (fun _ g a1 a2 a3 a4 => ?_) (fun _ g a1 a2 a4 => ?_)
  · simp only [r_aLD0, cl_92, r_gI, r_IF3, r_gR, r_iCONST, r_iALD, r_iALDs, r_IC3, cl_75, r_bPUSH, r_IC1, r_DUPI, r_DUPP, r_iADD, r_pI, r_GOTO, cl_93, cl_97, r_IF2, cl_77, r_vRET, eq_self, Int.reduceLT, Int.reduceLE, Int.reduceEq, true_or, or_true, and_self, true_and, and_true, w8_0, w8_1, w8_2, w8_3, w8_4, nl_I, nl_P, nl_X, pu_I, pu_J, pu_V, kd_149, a4]
    rw [if_pos hf]
    exact fin g _ a1 a3 a2 a4
  · rw [flt_f hf] at a4
    simp only [r_aLD0, cl_92, r_gI, r_IF3, r_gR, r_iCONST, r_iALD, r_iALDs, r_IC3, cl_75, r_bPUSH, r_IC1, r_DUPI, r_DUPP, r_iADD, r_pI, r_GOTO, cl_93, cl_97, r_IF2, cl_77, r_vRET, eq_self, Int.reduceLT, Int.reduceLE, Int.reduceEq, true_or, or_true, and_self, true_and, and_true, w8_0, w8_1, w8_2, w8_3, w8_4, nl_I, nl_P, nl_X, pu_I, pu_J, pu_V, kd_149, a4]
    rw [if_pos hf]
    exact fin g _ a1 hs a2 a4
theorem f2 (hl : l ≤ 100) (hp : p ≤ l) (e1 : h 149 6 = (l : Int)) (e2 : h 149 11 = (p : Int)) (e6 : ∀ i : Nat, i < l → h 154 i = X i) (hf : 0 ≤ h 149 12) (hq : ∀ g', aRf h g' → g' 149 12 = h 149 12 → Q aV (sT g')) : wp 98 (am_ju 98 2) [aP 149] [] (sT h) Q := by
  rw [ju_98_2]
  simp only [r_aLD0, cl_92, r_gI, r_IF3, r_gR, r_iCONST, r_iALD, r_iALDs, r_IC3, cl_75, r_bPUSH, r_IC1, r_DUPI, r_DUPP, r_iADD, r_pI, r_GOTO, cl_93, cl_97, r_IF2, cl_77, r_vRET, eq_self, Int.reduceLT, Int.reduceLE, Int.reduceEq, true_or, or_true, and_self, true_and, and_true, w8_0, w8_1, w8_2, w8_3, w8_4, nl_I, nl_P, nl_X, pu_I, pu_J, pu_V, kd_149]
  rw [if_pos hf]
  exact f24 hl hp e1 e2 e6 hf hq
/-- while the things are read -/
def rS2 (h g : am_F) : Prop := ∀ a k, ¬ (a = 149 ∧ (k = 11 ∨ k = 12)) → ¬ (a = 152 ∧ (k = 1 ∨ (18 ≤ k ∧ k < 66))) → g a k = h a k
theorem rS2_a (a1 : rS2 h h1) (a2 : aRf h1 h2) : rS2 h h2 := fun a k z1 z2 => by rw [a2 a k z1, a1 a k z1 z2]
def thR (X : Nat → Int) (l p0 : Nat) (c : Int) (g : am_F) (j : Nat) : Prop := g c (18 + 6 * j) = thV X l p0 0 j ∧ g c (18 + 6 * j + 1) = thV X l p0 1 j ∧ g c (18 + 6 * j + 2) = thV X l p0 2 j ∧ g c (18 + 6 * j + 3) = thV X l p0 3 j ∧ g c (18 + 6 * j + 4) = thV X l p0 4 j ∧ g c (18 + 6 * j + 5) = thV X l p0 5 j
theorem thR_c {jj : Nat} (hh : ∀ k : Int, 18 + 6 * (jj : Int) ≤ k → k < 18 + 6 * jj + 6 → h1 c k = h c k) (z : thR X l p0 c h jj) : thR X l p0 c h1 jj := by
  unfold thR at z ⊢
  rw [hh _ (by omega) (by omega), hh _ (by omega) (by omega), hh _ (by omega) (by omega), hh _ (by omega) (by omega), hh _ (by omega) (by omega), hh _ (by omega) (by omega)]
  exact z
/-- what follows a right thing -/
def thE (X : Nat → Int) (l nb p0 : Nat) (f k : Nat) : Bool × Nat × Nat := if nxl X l (thS X l p0 k) = -1 then (true, k + 1, thS X l p0 k) else if nxl X l (thS X l p0 k) = 44 ∧ k ≠ 7 then thF X l nb p0 f (k + 1) else (false, k + 1, thS X l p0 k)
theorem thF_1 {f : Nat} (hO : tOK X l nb (thp X l p0 k)) : thF X l nb p0 (f + 1) k = thE X l nb p0 f k := by rw [thF, if_pos hO]; rfl
theorem thF_0 {f : Nat} (hO : ¬ tOK X l nb (thp X l p0 k)) : thF X l nb p0 (f + 1) k = (false, k, tFl X l (thp X l p0 k)) := by rw [thF, if_neg hO]
theorem lp_Rthings (hl : l ≤ 100) (hX : ∀ i : Nat, i < l → 32 ≤ X i ∧ X i ≤ 126) (e1 : h 149 6 = (l : Int)) (e6 : ∀ i : Nat, i < l → h 154 i = X i) (h0 : h 152 0 = (nb : Int)) (hb : nb ≤ 3) {R : Bool × Nat × Nat} (hq1 : R.1 = true → ∀ g, rS2 h g → g 149 12 = -1 → g 152 1 = (R.2.1 : Int) → R.2.1 ≤ 8 → (∀ j : Nat, j < R.2.1 → thR X l p0 152 g j) → Q aV (sT g)) (hq2 : R.1 = false → ∀ g, rS2 h g → g 149 12 = (R.2.2 : Int) → Q aV (sT g)) : ∀ (f k p : Nat) (g : am_F), k + f = 7 → rS2 h g → g 149 11 = (p : Int) → p ≤ l → sk X l p = thS X l p0 k → g 149 12 = -1 → g 152 1 = ((k + 1 : Nat) : Int) → (∀ j : Nat, j < k + 1 → thR X l p0 152 g j) → thE X l nb p0 f k = R → wp 98 (am_ju 98 32) [aP 149] [] (sT g) Q := by
  have ll := ln_152
  have kk := kd_152
  have tA : ∀ {g : am_F}, rS2 h g → g 149 6 = (l : Int) ∧ (∀ i : Nat, i < l → g 154 i = X i) ∧ g 152 0 = (nb : Int) := fun {g} hg => ⟨by rw [hg _ _ (by decide) (by decide)]; exact e1, fun i hi => by rw [hg _ _ (by omega) (by omega)]; exact e6 i hi, by rw [hg _ _ (by decide) (by decide)]; exact h0⟩
  have e54 : ∀ (k p : Nat) (g : am_F), k ≤ 7 → rS2 h g → g 149 11 = (p : Int) → p ≤ l → sk X l p = thS X l p0 k → g 149 12 = -1 → g 152 1 = ((k + 1 : Nat) : Int) → (∀ j : Nat, j < k + 1 → thR X l p0 152 g j) → (nxl X l (thS X l p0 k) = -1 → (true, k + 1, thS X l p0 k) = R) → (nxl X l (thS X l p0 k) ≠ -1 → (false, k + 1, thS X l p0 k) = R) → wp 98 (am_ju 98 54) [aP 149] [] (sT g) Q := by
    intro k p g hk hg h11 hp hsk h12 h1 hC r1 r2
    rw [ju_98_54]
    simp only [r_aLD0, cl_92, r_gI, r_IF3, r_gR, r_iCONST, r_iALD, r_iALDs, r_IC3, cl_75, r_bPUSH, r_IC1, r_DUPI, r_DUPP, r_iADD, r_pI, r_GOTO, cl_93, cl_97, r_IF2, cl_77, r_vRET, eq_self, Int.reduceLT, Int.reduceLE, Int.reduceEq, true_or, or_true, and_self, true_and, and_true, w8_0, w8_1, w8_2, w8_3, w8_4, nl_I, nl_P, nl_X, pu_I, pu_J, pu_V, kd_149]
    refine s_look (X := X) hl _ p g rfl hp (tA hg).1 h11 (tA hg).2.1 (fun g2 q1 q2 => ?_)
    rw [hsk] at q2 ⊢
    have q1' : aRf g g2 := fun a k z => q1 a k (by omega)
    have q12 : g2 149 12 = -1 := by rw [q1 _ _ (by decide)]; exact h12
    have hr := nx_r (l := l) hX (thS X l p0 k)
    simp only [r_aLD0, cl_92, r_gI, r_IF3, r_gR, r_iCONST, r_iALD, r_iALDs, r_IC3, cl_75, r_bPUSH, r_IC1, r_DUPI, r_DUPP, r_iADD, r_pI, r_GOTO, cl_93, cl_97, r_IF2, cl_77, r_vRET, eq_self, Int.reduceLT, Int.reduceLE, Int.reduceEq, true_or, or_true, and_self, true_and, and_true, w8_0, w8_1, w8_2, w8_3, w8_4, nl_I, nl_P, nl_X, pu_I, pu_J, pu_V, kd_149]
    by_cases e : nxl X l (thS X l p0 k) = -1
    · rw [if_pos (by omega), ju_98_61]
      simp only [r_aLD0, cl_92, r_gI, r_IF3, r_gR, r_iCONST, r_iALD, r_iALDs, r_IC3, cl_75, r_bPUSH, r_IC1, r_DUPI, r_DUPP, r_iADD, r_pI, r_GOTO, cl_93, cl_97, r_IF2, cl_77, r_vRET, eq_self, Int.reduceLT, Int.reduceLE, Int.reduceEq, true_or, or_true, and_self, true_and, and_true, w8_0, w8_1, w8_2, w8_3, w8_4, nl_I, nl_P, nl_X, pu_I, pu_J, pu_V]
      have hR := r1 e
      refine hq1 (by rw [← hR]) g2 (rS2_a hg q1') q12 (by rw [← hR, q1 _ _ (by decide)]; exact h1) (by rw [← hR]; show k + 1 ≤ 8; omega) ?_
      rw [← hR]
      intro j hj
      exact thR_c (fun k _ _ => q1 _ _ (by omega)) (hC j hj)
    · rw [if_neg (by omega)]
      simp only [s_faults]
      simp only [r_aLD0, cl_92, r_gI, r_IF3, r_gR, r_iCONST, r_iALD, r_iALDs, r_IC3, cl_75, r_bPUSH, r_IC1, r_DUPI, r_DUPP, r_iADD, r_pI, r_GOTO, cl_93, cl_97, r_IF2, cl_77, r_vRET, eq_self, Int.reduceLT, Int.reduceLE, Int.reduceEq, true_or, or_true, and_self, true_and, and_true, w8_0, w8_1, w8_2, w8_3, w8_4, nl_I, nl_P, nl_X, pu_I, pu_J, pu_V, ju_98_61]
      have hR := r2 e
      refine hq2 (by rw [← hR]) _ (rS2_a hg (fun a k z => by rw [← q1' a k z]; unfold up; rw [if_neg (by omega)])) ?_
      rw [← hR, up_s, q12, if_neg (by decide), q2]
  intro f
  induction f with
  | zero =>
    intro k p g hk hg h11 hp hsk h12 h1 hC hR
    have hk : k = 7 := by omega
    have c1 : ((k + 1 : Nat) : Int) = 8 := by omega
    rw [ju_98_32]
    simp (disch := first | assumption | omega | exact w8_0 | exact w8_1 _ | exact w8_2 _ _ | exact w8_3 _ _ _ | exact w8_4 _ _ _ _ | exact nl_I _ | exact nl_P _ | exact nl_X | decide | exact w8_5 _ _ _ _ _) only [r_aLD0, cl_92, r_gI, r_IF3, r_gR, r_iCONST, r_iALDc, r_iALDs, r_IC3, cl_75, r_bPUSH, r_IC1, r_DUPI, r_DUPP, r_iADD, r_pI, r_GOTO, cl_93, cl_97, r_IF2, cl_77, r_vRET, eq_self, Int.reduceLT, Int.reduceLE, Int.reduceEq, true_or, or_true, and_self, true_and, and_true, w8_0, w8_1, w8_2, w8_3, w8_4, nl_I, nl_P, nl_X, pu_I, pu_J, pu_V, w3_id, Int.add_zero, kd_149, rR_149_2, h12, h1, c1]
    rw [if_neg (by decide), if_pos (by decide)]
    unfold thE at hR
    refine e54 k p g (by omega) hg h11 hp hsk h12 h1 hC (fun z => ?_) (fun z => ?_)
    · rw [if_pos z] at hR; exact hR
    · rw [if_neg z, if_neg (fun q => q.2 hk)] at hR; exact hR
  | succ f ih =>
    intro k p g hk hg h11 hp hsk h12 h1 hC hR
    rw [ju_98_32]
    simp (disch := first | assumption | omega | exact w8_0 | exact w8_1 _ | exact w8_2 _ _ | exact w8_3 _ _ _ | exact w8_4 _ _ _ _ | exact nl_I _ | exact nl_P _ | exact nl_X | decide | exact w8_5 _ _ _ _ _) only [r_aLD0, cl_92, r_gI, r_IF3, r_gR, r_iCONST, r_iALDc, r_iALDs, r_IC3, cl_75, r_bPUSH, r_IC1, r_DUPI, r_DUPP, r_iADD, r_pI, r_GOTO, cl_93, cl_97, r_IF2, cl_77, r_vRET, eq_self, Int.reduceLT, Int.reduceLE, Int.reduceEq, true_or, or_true, and_self, true_and, and_true, w8_0, w8_1, w8_2, w8_3, w8_4, nl_I, nl_P, nl_X, pu_I, pu_J, pu_V, w3_id, Int.add_zero, kd_149, rR_149_2, h12, h1]
    rw [if_neg (by decide), if_neg (by omega)]
    refine s_look (X := X) hl _ p g rfl hp (tA hg).1 h11 (tA hg).2.1 (fun g2 q1 q2 => ?_)
    rw [hsk] at q2 ⊢
    have q1' : aRf g g2 := fun a k z => q1 a k (by omega)
    have q12 : g2 149 12 = -1 := by rw [q1 _ _ (by decide)]; exact h12
    have hg2 := rS2_a hg q1'
    have hle : thS X l p0 k ≤ l := by rw [← hsk]; exact sk_l hl hp
    have d1 : g2 152 1 = ((k + 1 : Nat) : Int) := by rw [q1 _ _ (by decide)]; exact h1
    have dC : ∀ j : Nat, j < k + 1 → thR X l p0 152 g2 j := fun j hj => thR_c (fun k _ _ => q1 _ _ (by omega)) (hC j hj)
    simp only [r_aLD0, cl_92, r_gI, r_IF3, r_gR, r_iCONST, r_iALD, r_iALDs, r_IC3, cl_75, r_bPUSH, r_IC1, r_DUPI, r_DUPP, r_iADD, r_pI, r_GOTO, cl_93, cl_97, r_IF2, cl_77, r_vRET, eq_self, Int.reduceLT, Int.reduceLE, Int.reduceEq, true_or, or_true, and_self, true_and, and_true, w8_0, w8_1, w8_2, w8_3, w8_4, nl_I, nl_P, nl_X, pu_I, pu_J, pu_V, kd_149]
    unfold thE at hR
    by_cases e : nxl X l (thS X l p0 k) = 44
    · have hlt : thS X l p0 k < l := nx_lt (X := X) (by rw [e]; decide)
      have hw : w3 ((thS X l p0 k : Int) + 1) = ((thS X l p0 k + 1 : Nat) : Int) := w3_id (by omega) (by omega)
      rw [if_neg (by rw [e]; decide), if_pos ⟨e, by omega⟩] at hR
      rw [if_neg (by simpa using e)]
      simp only [r_aLD0, cl_92, r_gI, r_IF3, r_gR, r_iCONST, r_iALD, r_iALDs, r_IC3, cl_75, r_bPUSH, r_IC1, r_DUPI, r_DUPP, r_iADD, r_pI, r_GOTO, cl_93, cl_97, r_IF2, cl_77, r_vRET, eq_self, Int.reduceLT, Int.reduceLE, Int.reduceEq, true_or, or_true, and_self, true_and, and_true, w8_0, w8_1, w8_2, w8_3, w8_4, nl_I, nl_P, nl_X, pu_I, pu_J, pu_V, kd_149, q2, hw]
      have g31 : rS2 h (up g2 149 11 ((thS X l p0 k + 1 : Nat) : Int)) := rS2_a hg2 (fun a k z => by unfold up; rw [if_neg (by omega)])
      have g32 : up g2 149 11 ((thS X l p0 k + 1 : Nat) : Int) 149 11 = (thp X l p0 (k + 1) : Int) := up_s
      have g33 : up g2 149 11 ((thS X l p0 k + 1 : Nat) : Int) 149 12 = -1 := by rw [up_k (by decide)]; exact q12
      have g34 : up g2 149 11 ((thS X l p0 k + 1 : Nat) : Int) 152 1 = ((k + 1 : Nat) : Int) := by rw [up_ne (by decide)]; exact d1
      have g35 : ∀ j : Nat, j < k + 1 → thR X l p0 152 (up g2 149 11 ((thS X l p0 k + 1 : Nat) : Int)) j := fun j hj => thR_c (fun k _ _ => by rw [up_ne (by decide)]) (dC j hj)
      generalize up g2 149 11 ((thS X l p0 k + 1 : Nat) : Int) = g3 at g31 g32 g33 g34 g35 ⊢
      refine s_RreadsThing (X := X) (nb := nb) (n := k + 1) (T := 18 + 6 * ((k + 1 : Nat) : Int)) hl hX (p := thp X l p0 (k + 1)) hlt (tA g31).1 g32 g33 (tA g31).2.1 (tA g31).2.2 hb g34 (by omega) rfl (fun hO hp5 g4 a1 a2 a3 a4 b0 b1 b2 b3 b4 b5 => ?_) (fun hO g4 p' a1 a2 a3 a4 a5 => ?_)
      · rw [thF_1 hO] at hR
        have g41 : rS2 h g4 := fun a k' z1 z2 => by rw [a1 a k' z1 (by omega), g31 a k' z1 z2]
        simp only [r_aLD0, cl_92, r_gI, r_IF3, r_gR, r_iCONST, r_iALD, r_iALDs, r_IC3, cl_75, r_bPUSH, r_IC1, r_DUPI, r_DUPP, r_iADD, r_pI, r_GOTO, cl_93, cl_97, r_IF2, cl_77, r_vRET, eq_self, Int.reduceLT, Int.reduceLE, Int.reduceEq, true_or, or_true, and_self, true_and, and_true, w8_0, w8_1, w8_2, w8_3, w8_4, nl_I, nl_P, nl_X, pu_I, pu_J, pu_V]
        refine ih (k + 1) (tp5 X l (thp X l p0 (k + 1))) g4 (by omega) g41 a2 hp5 rfl a3 a4 (fun j hj => ?_) hR
        by_cases zj : j = k + 1
        · subst zj
          exact ⟨b0, b1, b2, b3, b4, b5⟩
        · exact thR_c (fun k' z1 z2 => a1 _ _ (by omega) (by omega)) (g35 j (by omega))
      · rw [thF_0 hO] at hR
        have g41 : rS2 h g4 := fun a k' z1 z2 => by rw [a1 a k' z1 (by omega), g31 a k' z1 z2]
        simp only [r_aLD0, cl_92, r_gI, r_IF3, r_gR, r_iCONST, r_iALD, r_iALDs, r_IC3, cl_75, r_bPUSH, r_IC1, r_DUPI, r_DUPP, r_iADD, r_pI, r_GOTO, cl_93, cl_97, r_IF2, cl_77, r_vRET, eq_self, Int.reduceLT, Int.reduceLE, Int.reduceEq, true_or, or_true, and_self, true_and, and_true, w8_0, w8_1, w8_2, w8_3, w8_4, nl_I, nl_P, nl_X, pu_I, pu_J, pu_V]
        refine f32 (X := X) hl a3 (tA g41).1 a2 (tA g41).2.1 (by rw [a4]; omega) (fun g5 y1 y2 => hq2 (by rw [← hR]) g5 (rS2_a g41 y1) (by rw [y2, a4, ← hR]))
    · rw [if_pos e]
      refine e54 k (thS X l p0 k) g2 (by omega) hg2 q2 hle (by rw [← hsk]; exact sk_sk _ _ _) q12 d1 dC (fun z => ?_) (fun z => ?_)
      · rw [if_pos z] at hR; exact hR
      · rw [if_neg z, if_neg (fun q => e q.1)] at hR; exact hR
/-- while the bags are read -/
def rS1 (h g : am_F) : Prop := ∀ a k, ¬ (a = 149 ∧ (k = 11 ∨ k = 12)) → ¬ (a = 152 ∧ (k = 0 ∨ (5 ≤ k ∧ k < 18))) → g a k = h a k
theorem rS1_a (a1 : rS1 h h1) (a2 : aRf h1 h2) : rS1 h h2 := fun a k z1 z2 => by rw [a2 a k z1, a1 a k z1 z2]
def bC (X : Nat → Int) (l : Nat) (c : Int) (g : am_F) (j : Nat) : Prop := (g c (6 + 4 * j) = kiW (nxl X l (bq X l j)) ∧ 0 ≤ kiW (nxl X l (bq X l j))) ∧ g c (6 + 4 * j + 1) = 0 ∧ g c (6 + 4 * j + 2) = 0 ∧ g c (6 + 4 * j + 3) = 0
theorem bC_c {jj : Nat} (hh : ∀ k : Int, 6 + 4 * (jj : Int) ≤ k → k < 6 + 4 * jj + 4 → h1 c k = h c k) (z : bC X l c h jj) : bC X l c h1 jj := by
  unfold bC at z ⊢
  rw [hh _ (by omega) (by omega), hh _ (by omega) (by omega), hh _ (by omega) (by omega), hh _ (by omega) (by omega)]
  exact z
theorem rDB_o {k' : Int} : rS1 h h1 → nb < 3 → rS1 h (rDB h1 nb k') := fun hg h3 a k z1 z2 => by
  rw [← hg a k z1 z2]
  unfold rDB up
  rw [if_neg (by omega), if_neg (by omega), if_neg (by omega), if_neg (by omega), if_neg (by omega), if_neg (by omega)]
theorem rDB_b : bC X l 152 (rDB h nb (kiW (nxl X l (bq X l nb)))) nb ↔ 0 ≤ kiW (nxl X l (bq X l nb)) := by
  unfold bC rDB
  constructor
  · exact fun z => z.1.2
  · intro z
    refine ⟨⟨?_, z⟩, ?_, ?_, ?_⟩ <;> simp (disch := first | decide | omega) only [up_k, up_s, Int.add_zero]
theorem rDB_j {k' : Int} {jj : Nat} (hj : jj < nb) (z : bC X l 152 h jj) : bC X l 152 (rDB h nb k') jj := by
  refine bC_c (fun k z1 z2 => ?_) z
  unfold rDB
  rw [up_k (by omega), up_k (by omega), up_k (by omega), up_k (by omega), up_k (by omega), up_k (by omega)]
theorem rDB_9 {k' i' : Int} : rDB h nb k' 149 i' = h 149 i' := by
  unfold rDB
  rw [up_ne (by decide), up_ne (by decide), up_ne (by decide), up_ne (by decide), up_ne (by decide), up_ne (by decide)]
theorem rDB_05 {k' : Int} : rDB h nb k' 152 0 = (nb : Int) + 1 ∧ rDB h nb k' 152 5 = 0 := by
  unfold rDB
  exact ⟨by rw [up_k (by decide)]; exact up_s, up_s⟩
/-- what follows a right bag -/
def bgE (X : Nat → Int) (l : Nat) (f k : Nat) : Bool × Nat × Nat := if nxl X l (bsp X l k) = 59 then (true, k + 1, bsp X l k + 1) else if nxl X l (bsp X l k) = 44 ∧ k ≠ 2 then bgF X l f (k + 1) else (false, k + 1, bsp X l k)
theorem bgF_1 {f : Nat} (hO : 0 ≤ kiW (nxl X l (bq X l k))) : bgF X l (f + 1) k = bgE X l f k := by rw [bgF, if_pos hO]; rfl
theorem bgF_0 {f : Nat} (hO : ¬ 0 ≤ kiW (nxl X l (bq X l k))) : bgF X l (f + 1) k = (false, k, bq X l k) := by rw [bgF, if_neg hO]
theorem lp_Rbags (hl : l ≤ 100) (e1 : h 149 6 = (l : Int)) (e6 : ∀ i : Nat, i < l → h 154 i = X i) {R : Bool × Nat × Nat} (hq1 : R.1 = true → ∀ g, rS1 h g → g 149 11 = (R.2.2 : Int) → R.2.2 ≤ l → g 149 12 = -1 → g 152 0 = (R.2.1 : Int) → R.2.1 ≤ 3 → g 152 5 = 0 → (∀ j : Nat, j < R.2.1 → bC X l 152 g j) → wp 97 (am_ju 97 0) [aP 149, aX, aX, aX, aX, aX] [] (sT g) (fun r s' => wp 98 (am_ju 98 32) [aP 149] (am_pu r []) s' Q)) (hq2 : R.1 = false → ∀ g, rS1 h g → g 149 12 = (R.2.2 : Int) → Q aV (sT g)) : ∀ (f k p : Nat) (g : am_F), k + f = 2 → rS1 h g → g 149 11 = (p : Int) → p ≤ l → sk X l p = bsp X l k → g 149 12 = -1 → g 152 0 = ((k + 1 : Nat) : Int) → g 152 5 = 0 → (∀ j : Nat, j < k + 1 → bC X l 152 g j) → bgE X l f k = R → wp 98 (am_ju 98 2) [aP 149] [] (sT g) Q := by
  have ll := ln_152
  have kk := kd_152
  have tA : ∀ {g : am_F}, rS1 h g → g 149 6 = (l : Int) ∧ (∀ i : Nat, i < l → g 154 i = X i) := fun {g} hg => ⟨by rw [hg _ _ (by decide) (by decide)]; exact e1, fun i hi => by rw [hg _ _ (by omega) (by omega)]; exact e6 i hi⟩
  have t24 : ∀ (k p : Nat) (g : am_F), k ≤ 2 → rS1 h g → g 149 11 = (p : Int) → p ≤ l → sk X l p = bsp X l k → g 149 12 = -1 → g 152 0 = ((k + 1 : Nat) : Int) → g 152 5 = 0 → (∀ j : Nat, j < k + 1 → bC X l 152 g j) → (nxl X l (bsp X l k) = 59 → (true, k + 1, bsp X l k + 1) = R) → (nxl X l (bsp X l k) ≠ 59 → (false, k + 1, bsp X l k) = R) → wp 98 (am_ju 98 24) [aP 149] [] (sT g) Q := by
    intro k p g hk hg h11 hp hsk h12 h0 h5 hC r1 r2
    rw [ju_98_24]
    simp only [r_aLD0, cl_92, r_gI, r_IF3, r_gR, r_iCONST, r_iALD, r_iALDs, r_IC3, cl_75, r_bPUSH, r_IC1, r_DUPI, r_DUPP, r_iADD, r_pI, r_GOTO, cl_93, cl_97, r_IF2, cl_77, r_vRET, eq_self, Int.reduceLT, Int.reduceLE, Int.reduceEq, true_or, or_true, and_self, true_and, and_true, w8_0, w8_1, w8_2, w8_3, w8_4, nl_I, nl_P, nl_X, pu_I, pu_J, pu_V, kd_149]
    refine s_takes (X := X) hl (by decide) hp (tA hg).1 h11 (tA hg).2 (fun e g2 a1 a2 a3 a4 => ?_) (fun e g2 a1 a2 a4 => ?_)
    · rw [hsk] at e a2 a3
      have hR := r1 e
      rw [h12] at a4
      simp only [r_aLD0, cl_92, r_gI, r_IF3, r_gR, r_iCONST, r_iALD, r_iALDs, r_IC3, cl_75, r_bPUSH, r_IC1, r_DUPI, r_DUPP, r_iADD, r_pI, r_GOTO, cl_93, cl_97, r_IF2, cl_77, r_vRET, eq_self, Int.reduceLT, Int.reduceLE, Int.reduceEq, true_or, or_true, and_self, true_and, and_true, w8_0, w8_1, w8_2, w8_3, w8_4, nl_I, nl_P, nl_X, pu_I, pu_J, pu_V, kd_149, a4, Int.reduceLE, Int.reduceNeg, if_false]
      refine hq1 (by rw [← hR]) g2 (rS1_a hg a1) (by rw [← hR]; exact a2) (by rw [← hR]; exact a3) a4 (by rw [← hR, a1 _ _ (by decide)]; exact h0) (by rw [← hR]; show k + 1 ≤ 3; omega) (by rw [a1 _ _ (by decide)]; exact h5) ?_
      rw [← hR]
      intro j hj
      exact bC_c (fun k _ _ => a1 _ _ (by omega)) (hC j hj)
    · rw [hsk] at e a2 a4
      have hR := r2 e
      rw [h12, flt_n] at a4
      have hle : bsp X l k ≤ l := by rw [← hsk]; exact sk_l hl hp
      have g21 := rS1_a hg a1
      simp only [r_aLD0, cl_92, r_gI, r_IF3, r_gR, r_iCONST, r_iALD, r_iALDs, r_IC3, cl_75, r_bPUSH, r_IC1, r_DUPI, r_DUPP, r_iADD, r_pI, r_GOTO, cl_93, cl_97, r_IF2, cl_77, r_vRET, eq_self, Int.reduceLT, Int.reduceLE, Int.reduceEq, true_or, or_true, and_self, true_and, and_true, w8_0, w8_1, w8_2, w8_3, w8_4, nl_I, nl_P, nl_X, pu_I, pu_J, pu_V, kd_149, a4]
      rw [if_pos (by omega)]
      exact f32 (X := X) hl hle (tA g21).1 a2 (tA g21).2 (by rw [a4]; omega) (fun g5 y1 y2 => hq2 (by rw [← hR]) g5 (rS1_a g21 y1) (by rw [y2, a4, ← hR]))
  intro f
  induction f with
  | zero =>
    intro k p g hk hg h11 hp hsk h12 h0 h5 hC hR
    have hk : k = 2 := by omega
    have c1 : ((k + 1 : Nat) : Int) = 3 := by omega
    rw [ju_98_2]
    simp (disch := first | assumption | omega | exact w8_0 | exact w8_1 _ | exact w8_2 _ _ | exact w8_3 _ _ _ | exact w8_4 _ _ _ _ | exact nl_I _ | exact nl_P _ | exact nl_X | decide | exact w8_5 _ _ _ _ _) only [r_aLD0, cl_92, r_gI, r_IF3, r_gR, r_iCONST, r_iALDc, r_iALDs, r_IC3, cl_75, r_bPUSH, r_IC1, r_DUPI, r_DUPP, r_iADD, r_pI, r_GOTO, cl_93, cl_97, r_IF2, cl_77, r_vRET, eq_self, Int.reduceLT, Int.reduceLE, Int.reduceEq, true_or, or_true, and_self, true_and, and_true, w8_0, w8_1, w8_2, w8_3, w8_4, nl_I, nl_P, nl_X, pu_I, pu_J, pu_V, w3_id, Int.add_zero, kd_149, rR_149_2, h12, h0, c1]
    rw [if_neg (by decide), if_pos (by decide)]
    unfold bgE at hR
    refine t24 k p g (by omega) hg h11 hp hsk h12 h0 h5 hC (fun z => ?_) (fun z => ?_)
    · rw [if_pos z] at hR; exact hR
    · rw [if_neg z, if_neg (fun q => q.2 hk)] at hR; exact hR
  | succ f ih =>
    intro k p g hk hg h11 hp hsk h12 h0 h5 hC hR
    rw [ju_98_2]
    simp (disch := first | assumption | omega | exact w8_0 | exact w8_1 _ | exact w8_2 _ _ | exact w8_3 _ _ _ | exact w8_4 _ _ _ _ | exact nl_I _ | exact nl_P _ | exact nl_X | decide | exact w8_5 _ _ _ _ _) only [r_aLD0, cl_92, r_gI, r_IF3, r_gR, r_iCONST, r_iALDc, r_iALDs, r_IC3, cl_75, r_bPUSH, r_IC1, r_DUPI, r_DUPP, r_iADD, r_pI, r_GOTO, cl_93, cl_97, r_IF2, cl_77, r_vRET, eq_self, Int.reduceLT, Int.reduceLE, Int.reduceEq, true_or, or_true, and_self, true_and, and_true, w8_0, w8_1, w8_2, w8_3, w8_4, nl_I, nl_P, nl_X, pu_I, pu_J, pu_V, w3_id, Int.add_zero, kd_149, rR_149_2, h12, h0]
    rw [if_neg (by decide), if_neg (by omega)]
    refine s_look (X := X) hl _ p g rfl hp (tA hg).1 h11 (tA hg).2 (fun g2 q1 q2 => ?_)
    rw [hsk] at q2 ⊢
    have q1' : aRf g g2 := fun a k z => q1 a k (by omega)
    have q12 : g2 149 12 = -1 := by rw [q1 _ _ (by decide)]; exact h12
    have hg2 := rS1_a hg q1'
    have hle : bsp X l k ≤ l := by rw [← hsk]; exact sk_l hl hp
    have d0 : g2 152 0 = ((k + 1 : Nat) : Int) := by rw [q1 _ _ (by decide)]; exact h0
    have d5 : g2 152 5 = 0 := by rw [q1 _ _ (by decide)]; exact h5
    have dC : ∀ j : Nat, j < k + 1 → bC X l 152 g2 j := fun j hj => bC_c (fun k _ _ => q1 _ _ (by omega)) (hC j hj)
    simp only [r_aLD0, cl_92, r_gI, r_IF3, r_gR, r_iCONST, r_iALD, r_iALDs, r_IC3, cl_75, r_bPUSH, r_IC1, r_DUPI, r_DUPP, r_iADD, r_pI, r_GOTO, cl_93, cl_97, r_IF2, cl_77, r_vRET, eq_self, Int.reduceLT, Int.reduceLE, Int.reduceEq, true_or, or_true, and_self, true_and, and_true, w8_0, w8_1, w8_2, w8_3, w8_4, nl_I, nl_P, nl_X, pu_I, pu_J, pu_V, kd_149]
    unfold bgE at hR
    by_cases e : nxl X l (bsp X l k) = 44
    · have hlt : bsp X l k < l := nx_lt (X := X) (by rw [e]; decide)
      have hw : w3 ((bsp X l k : Int) + 1) = ((bsp X l k + 1 : Nat) : Int) := w3_id (by omega) (by omega)
      rw [if_neg (by rw [e]; decide), if_pos ⟨e, by omega⟩] at hR
      rw [if_neg (by simpa using e)]
      simp only [r_aLD0, cl_92, r_gI, r_IF3, r_gR, r_iCONST, r_iALD, r_iALDs, r_IC3, cl_75, r_bPUSH, r_IC1, r_DUPI, r_DUPP, r_iADD, r_pI, r_GOTO, cl_93, cl_97, r_IF2, cl_77, r_vRET, eq_self, Int.reduceLT, Int.reduceLE, Int.reduceEq, true_or, or_true, and_self, true_and, and_true, w8_0, w8_1, w8_2, w8_3, w8_4, nl_I, nl_P, nl_X, pu_I, pu_J, pu_V, kd_149, q2, hw]
      have g31 : rS1 h (up g2 149 11 ((bsp X l k + 1 : Nat) : Int)) := rS1_a hg2 (fun a k z => by unfold up; rw [if_neg (by omega)])
      have g32 : up g2 149 11 ((bsp X l k + 1 : Nat) : Int) 149 11 = ((bsp X l k + 1 : Nat) : Int) := up_s
      have g33 : up g2 149 11 ((bsp X l k + 1 : Nat) : Int) 149 12 = -1 := by rw [up_k (by decide)]; exact q12
      have g34 : up g2 149 11 ((bsp X l k + 1 : Nat) : Int) 152 0 = ((k + 1 : Nat) : Int) := by rw [up_ne (by decide)]; exact d0
      have g35 : ∀ j : Nat, j < k + 1 → bC X l 152 (up g2 149 11 ((bsp X l k + 1 : Nat) : Int)) j := fun j hj => bC_c (fun k _ _ => by rw [up_ne (by decide)]) (dC j hj)
      generalize up g2 149 11 ((bsp X l k + 1 : Nat) : Int) = g3 at g31 g32 g33 g34 g35 ⊢
      have hbq : sk X l (bsp X l k + 1) = bq X l (k + 1) := rfl
      refine s_readsBag (X := X) (nb := k + 1) hl (p := bsp X l k + 1) hlt (tA g31).1 g32 (tA g31).2 g34 (by omega) (fun hO g4 a1 a2 a3 a4 => ?_) (fun hO g4 a1 a2 a4 => ?_)
      · rw [hbq] at hO a2 a3 ⊢
        rw [bgF_1 hO] at hR
        simp only [r_aLD0, cl_92, r_gI, r_IF3, r_gR, r_iCONST, r_iALD, r_iALDs, r_IC3, cl_75, r_bPUSH, r_IC1, r_DUPI, r_DUPP, r_iADD, r_pI, r_GOTO, cl_93, cl_97, r_IF2, cl_77, r_vRET, eq_self, Int.reduceLT, Int.reduceLE, Int.reduceEq, true_or, or_true, and_self, true_and, and_true, w8_0, w8_1, w8_2, w8_3, w8_4, nl_I, nl_P, nl_X, pu_I, pu_J, pu_V]
        refine ih (k + 1) (bq X l (k + 1) + 1) _ (by omega) (rDB_o (rS1_a g31 a1) (by omega)) (by rw [rDB_9]; exact a2) a3 rfl (by rw [rDB_9, a4]; exact g33) rDB_05.1 rDB_05.2 (fun j hj => ?_) hR
        by_cases zj : j = k + 1
        · subst zj
          exact rDB_b.2 hO
        · exact rDB_j (by omega) (bC_c (fun k _ _ => a1 _ _ (by omega)) (g35 j (by omega)))
      · rw [hbq] at hO a2 a4
        rw [bgF_0 hO] at hR
        rw [g33, flt_n] at a4
        have g41 := rS1_a g31 a1
        have hle2 : bq X l (k + 1) ≤ l := sk_l hl hlt
        simp only [r_aLD0, cl_92, r_gI, r_IF3, r_gR, r_iCONST, r_iALD, r_iALDs, r_IC3, cl_75, r_bPUSH, r_IC1, r_DUPI, r_DUPP, r_iADD, r_pI, r_GOTO, cl_93, cl_97, r_IF2, cl_77, r_vRET, eq_self, Int.reduceLT, Int.reduceLE, Int.reduceEq, true_or, or_true, and_self, true_and, and_true, w8_0, w8_1, w8_2, w8_3, w8_4, nl_I, nl_P, nl_X, pu_I, pu_J, pu_V]
        exact f2 (X := X) hl hle2 (tA g41).1 a2 (tA g41).2 (by rw [a4]; omega) (fun g5 y1 y2 => hq2 (by rw [← hR]) g5 (rS1_a g41 y1) (by rw [y2, a4, ← hR]))
    · rw [if_pos e]
      refine t24 k (bsp X l k) g2 (by omega) hg2 q2 hle (by rw [← hsk]; exact sk_sk _ _ _) q12 d0 d5 dC (fun z => ?_) (fun z => ?_)
      · rw [if_pos z] at hR; exact hR
      · rw [if_neg z, if_neg (fun q => e q.1)] at hR; exact hR
def rSh (h g : am_F) : Prop := ∀ a k, ¬ (a = 149 ∧ (k = 11 ∨ k = 12)) → ¬ (a = 152 ∧ (k = 0 ∨ k = 1 ∨ (5 ≤ k ∧ k < 66))) → g a k = h a k
theorem s_RreadsShop (hl : l ≤ 100) (hX : ∀ i : Nat, i < l → 32 ≤ X i ∧ X i ≤ 126) (e1 : h 149 6 = (l : Int)) (e2 : h 149 11 = ((0 : Nat) : Int)) (ef : h 149 12 = -1) (e6 : ∀ i : Nat, i < l → h 154 i = X i) (h0 : h 152 0 = ((0 : Nat) : Int)) (hh1 : h 152 1 = ((0 : Nat) : Int)) (hq1 : shO X l → ∀ g, rSh h g → g 149 12 = -1 → g 152 0 = ((shB X l).2.1 : Int) → (shB X l).2.1 ≤ 3 → g 152 1 = ((shG X l).2.1 : Int) → (shG X l).2.1 ≤ 8 → g 152 5 = 0 → (∀ j : Nat, j < (shB X l).2.1 → bC X l 152 g j) → (∀ j : Nat, j < (shG X l).2.1 → thR X l (shB X l).2.2 152 g j) → Q aV (sT g)) (hq2 : ¬ shO X l → ∀ g, rSh h g → g 149 12 = (shAt X l : Int) → Q aV (sT g)) : wp 98 (am_ju 98 0) [aP 149] [] (sT h) Q := by
  rw [ju_98_0]
  simp only [r_aLD0, cl_92, r_gI, r_IF3, r_gR, r_iCONST, r_iALD, r_iALDs, r_IC3, cl_75, r_bPUSH, r_IC1, r_DUPI, r_DUPP, r_iADD, r_pI, r_GOTO, cl_93, cl_97, r_IF2, cl_77, r_vRET, eq_self, Int.reduceLT, Int.reduceLE, Int.reduceEq, true_or, or_true, and_self, true_and, and_true, w8_0, w8_1, w8_2, w8_3, w8_4, nl_I, nl_P, nl_X, pu_I, pu_J, pu_V, kd_149]
  have bad : (shB X l).1 = false → ∀ g, rS1 h g → g 149 12 = ((shB X l).2.2 : Int) → Q aV (sT g) := fun hB g y1 y2 => hq2 (fun z => by have z1 := z.1; rw [hB] at z1; exact absurd z1 (by decide)) g (fun a k z1 z2 => y1 a k z1 (by omega)) (by rw [y2]; unfold shAt; rw [if_neg (by rw [hB]; decide)])
  refine s_readsBag (X := X) (nb := 0) hl (p := 0) (Nat.zero_le _) e1 e2 e6 h0 (by decide) (fun hO g4 a1 a2 a3 a4 => ?_) (fun hO g4 a1 a2 a4 => ?_)
  · have hB : shB X l = bgE X l 2 0 := bgF_1 hO
    simp only [r_aLD0, cl_92, r_gI, r_IF3, r_gR, r_iCONST, r_iALD, r_iALDs, r_IC3, cl_75, r_bPUSH, r_IC1, r_DUPI, r_DUPP, r_iADD, r_pI, r_GOTO, cl_93, cl_97, r_IF2, cl_77, r_vRET, eq_self, Int.reduceLT, Int.reduceLE, Int.reduceEq, true_or, or_true, and_self, true_and, and_true, w8_0, w8_1, w8_2, w8_3, w8_4, nl_I, nl_P, nl_X, pu_I, pu_J, pu_V]
    refine lp_Rbags (h := h) (X := X) hl e1 e6 (R := shB X l) (fun hB1 g b1 b2 b3 b4 b5 b6 b7 b8 => ?_) bad 2 0 (bq X l 0 + 1) _ rfl (rDB_o (fun a k z1 z2 => a1 a k z1) (by decide)) (by rw [rDB_9]; exact a2) a3 rfl (by rw [rDB_9, a4]; exact ef) rDB_05.1 rDB_05.2 (fun j hj => ?_) hB.symm
    · have c1 : g 152 1 = ((0 : Nat) : Int) := by rw [b1 _ _ (by decide) (by decide)]; exact hh1
      have c6 : ∀ i : Nat, i < l → g 154 i = X i := fun i hi => by rw [b1 _ _ (by omega) (by omega)]; exact e6 i hi
      have c0 : g 149 6 = (l : Int) := by rw [b1 _ _ (by decide) (by decide)]; exact e1
      have bad2 : (shG X l).1 = false → ∀ g2, rS2 g g2 → g2 149 12 = ((shG X l).2.2 : Int) → Q aV (sT g2) := fun hT g2 y1 y2 => hq2 (fun z => by have z1 := z.2; rw [hT] at z1; exact absurd z1 (by decide)) g2 (fun a k z1 z2 => by rw [y1 a k z1 (by omega), b1 a k z1 (by omega)]) (by rw [y2]; unfold shAt; rw [if_pos hB1])
      refine s_RreadsThing (X := X) (nb := (shB X l).2.1) (n := 0) (T := 18 + 6 * ((0 : Nat) : Int)) hl hX (p := (shB X l).2.2) b3 c0 b2 b4 c6 b5 b6 c1 (by decide) rfl (fun hO hp5 g4 a1 a2 a3 a4 d0 d1 d2 d3 d4 d5 => ?_) (fun hO g4 p' a1 a2 a3 a4 a5 => ?_)
      · have hT : shG X l = thE X l (shB X l).2.1 (shB X l).2.2 7 0 := thF_1 hO
        simp only [pu_V]
        refine lp_Rthings (h := g) (X := X) (nb := (shB X l).2.1) (p0 := (shB X l).2.2) hl hX c0 c6 b5 b6 (R := shG X l) (fun hT1 g5 y1 y2 y3 y4 y5 => ?_) bad2 7 0 _ g4 rfl (fun a k z1 z2 => a1 a k z1 (by omega)) a2 hp5 rfl a3 a4 (fun j hj => ?_) hT.symm
        · refine hq1 ⟨hB1, hT1⟩ g5 (fun a k z1 z2 => by rw [y1 a k z1 (by omega), b1 a k z1 (by omega)]) y2 (by rw [y1 _ _ (by decide) (by decide)]; exact b5) b6 y3 y4 (by rw [y1 _ _ (by decide) (by decide)]; exact b7) (fun j hj => bC_c (fun k z1 z2 => y1 _ _ (by omega) (by omega)) (b8 j hj)) y5
        · have hj : j = 0 := by omega
          subst hj
          exact ⟨d0, d1, d2, d3, d4, d5⟩
      · have hT : shG X l = (false, 0, tFl X l (shB X l).2.2) := thF_0 hO
        have g41 : rS2 g g4 := fun a k z1 z2 => a1 a k z1 (by omega)
        simp only [pu_V]
        exact f32 (X := X) hl a3 (by rw [g41 _ _ (by decide) (by decide)]; exact c0) a2 (fun i hi => by rw [g41 _ _ (by omega) (by omega)]; exact c6 i hi) (by rw [a4]; omega) (fun g5 y1 y2 => bad2 (by rw [hT]) g5 (rS2_a g41 y1) (by rw [y2, a4, hT]))
    · have hj : j = 0 := by omega
      subst hj
      exact rDB_b.2 hO
  · have hB : shB X l = (false, 0, bq X l 0) := bgF_0 hO
    rw [ef, flt_n] at a4
    simp only [r_aLD0, cl_92, r_gI, r_IF3, r_gR, r_iCONST, r_iALD, r_iALDs, r_IC3, cl_75, r_bPUSH, r_IC1, r_DUPI, r_DUPP, r_iADD, r_pI, r_GOTO, cl_93, cl_97, r_IF2, cl_77, r_vRET, eq_self, Int.reduceLT, Int.reduceLE, Int.reduceEq, true_or, or_true, and_self, true_and, and_true, w8_0, w8_1, w8_2, w8_3, w8_4, nl_I, nl_P, nl_X, pu_I, pu_J, pu_V]
    exact f2 (X := X) hl (sk_l hl (Nat.zero_le _)) (by rw [a1 _ _ (by decide)]; exact e1) a2 (fun i hi => by rw [a1 _ _ (by omega)]; exact e6 i hi) (by rw [a4]; omega) (fun g5 y1 y2 => bad (by rw [hB]) g5 (fun a k z1 z2 => by rw [y1 a k z1, a1 a k z1]) (by rw [y2, a4, hB]; rfl))
end SR8
