section WZ3
variable {g h h' h1 h2 u : am_F} {Q : am_V → am_S → Prop} {so j bj x y z o c w r k t : Int} {n nb L s K nx b m a q B S T i gg l M Z v ch N d p : Nat} {X : Nat → Int}
/-- the reference's frame while it reads -/
def rT (h g : am_F) : Prop := ∀ a k, ¬ (a = 149 ∧ (k = 11 ∨ k = 12)) → a ≠ 152 → g a k = h a k
theorem lp_Rwy (hl : l ≤ 100) (e1 : h 149 6 = (l : Int)) (e6 : ∀ i : Nat, i < l → h 154 i = X i) (hq : ∀ (g : am_F) (v3 : am_V) (p : Nat), am_nl v3 = true → rT h g → g 149 11 = (p : Int) → p ≤ l → sk X l p = pos X l (wn X l 20) → g 149 12 = -1 → (∀ j : Nat, j < wn X l 20 → g 152 j = sv X l j) → wp 78 (am_ju 78 33) [aP 149, aI (wn X l 20 : Int), aI 20, v3] [] (sT g) Q) : ∀ (d k p : Nat) (v3 : am_V) (g : am_F), k + d = 20 → rT h g → am_nl v3 = true → g 149 11 = (p : Int) → p ≤ l → sk X l p = pos X l (wn X l k) → g 149 12 = -1 → (∀ j : Nat, j < wn X l k → g 152 j = sv X l j) → wp 78 (am_ju 78 10) [aP 149, aI (wn X l k : Int), aI (k : Int), v3] [] (sT g) Q := by
  intro d
  have l1 := ln_152
  have k1 := kd_152
  induction d with
  | zero =>
    intro k p v3 g hk hg n3 h11 hp hsk h12 h52
    have hk : k = 20 := by omega
    subst hk
    rw [ju_78_10]
    simp only [r_aLD0, r_iCONST, r_pI, r_iST1, r_iST2, r_iLD2, r_bPUSH, r_IC3, cl_75, cl_76, r_iST3, r_iLD3, r_IF2, r_gR, r_iLD1, r_iAST, r_IINC1, r_DUPI, r_DUPP, r_gI, r_iADD, r_IINC2, r_GOTO, r_IF3, r_IF1, cl_77, r_iSUB, r_iRET, r_iALD, r_iALDs, eq_self, Int.reduceLT, Int.reduceLE, Int.reduceEq, true_or, or_true, and_self, true_and, and_true, w8_0, w8_1, w8_2, w8_3, w8_4, nl_I, nl_P, nl_X, pu_I, pu_J, pu_V]
    rw [if_pos (by omega)]
    exact hq g v3 p n3 hg h11 hp hsk h12 h52
  | succ d ih =>
    intro k p v3 g hk hg n3 h11 hp hsk h12 h52
    have hw : w3 ((k : Int) + 1) = ((k + 1 : Nat) : Int) := w3_id (by omega) (by omega)
    have hwk := wn_le X l k
    have hpl : pos X l (wn X l k) ≤ l := by rw [← hsk]; exact sk_l hl hp
    rw [ju_78_10]
    simp only [r_aLD0, r_iCONST, r_pI, r_iST1, r_iST2, r_iLD2, r_bPUSH, r_IC3, cl_75, cl_76, r_iST3, r_iLD3, r_IF2, r_gR, r_iLD1, r_iAST, r_IINC1, r_DUPI, r_DUPP, r_gI, r_iADD, r_IINC2, r_GOTO, r_IF3, r_IF1, cl_77, r_iSUB, r_iRET, r_iALD, r_iALDs, eq_self, Int.reduceLT, Int.reduceLE, Int.reduceEq, true_or, or_true, and_self, true_and, and_true, w8_0, w8_1, w8_2, w8_3, w8_4, nl_I, nl_P, nl_X, pu_I, pu_J, pu_V, kd_149]
    rw [if_neg (by omega)]
    refine s_look (X := X) hl _ p g rfl hp (by rw [hg _ _ (by decide) (by decide)]; exact e1) h11 (fun j hj => by rw [hg _ _ (by omega) (by decide)]; exact e6 j hj) (fun g' q1 q2 => ?_)
    rw [hsk] at q2 ⊢
    have hg' : rT h g' := fun a k z1 z2 => by rw [q1 a k (fun q => z1 ⟨q.1, Or.inl q.2⟩), hg a k z1 z2]
    have h12' : g' 149 12 = -1 := by rw [q1 _ _ (by decide)]; exact h12
    have h52' : ∀ j : Nat, j < wn X l k → g' 152 j = sv X l j := fun j hj => by rw [q1 _ _ (by omega)]; exact h52 j hj
    have es : soW (nxl X l (pos X l (wn X l k))) = sv X l (wn X l k) := rfl
    simp (disch := first | assumption | omega | decide | exact nl_I _) only [r_aLD0, r_iCONST, r_pI, r_iST1, r_iST2, r_iLD2, r_bPUSH, r_IC3, cl_75, cl_76, r_iST3, r_iLD3, r_IF2, r_gR, r_iLD1, r_iAST, r_IINC1, r_DUPI, r_DUPP, r_gI, r_iADD, r_IINC2, r_GOTO, r_IF3, r_IF1, cl_77, r_iSUB, r_iRET, r_iALD, r_iALDs, eq_self, Int.reduceLT, Int.reduceLE, Int.reduceEq, true_or, or_true, and_self, true_and, and_true, w8_0, w8_1, w8_2, w8_3, w8_4, nl_I, nl_P, nl_X, pu_I, pu_J, pu_V, s_sortOf, es]
    by_cases e : 0 ≤ sv X l (wn X l k)
    · have hk2 : wn X l k = k := by
        by_cases z : wn X l k = k
        · exact z
        · exact absurd e (wn_bad X l k (by omega))
      have hn1 : wn X l (k + 1) = k + 1 := by rw [wn, if_pos ⟨hk2, by rw [hk2] at e; exact e⟩]
      rw [hk2] at e q2 h52' hpl ⊢
      have hlt := sv_lt e
      have ih := fun v3 g => ih (k + 1) (pos X l k + 1) v3 g (by omega)
      rw [hn1] at ih
      have hw2 : w3 ((pos X l k : Int) + 1) = ((pos X l k + 1 : Nat) : Int) := w3_id (by omega) (by omega)
      have k0 : (0 : Int) ≤ k := by omega
      have k238 : (k : Int) < 20 := by omega
      have c2 : ∀ v, up g' 152 (k : Int) v 149 11 = (pos X l k : Int) := fun v => by rw [up_ne (by decide)]; exact q2
      rw [if_neg (by omega)]
      simp (disch := first | assumption | omega | exact w8_0 | exact w8_1 _ | exact w8_2 _ _ | exact w8_3 _ _ _ | exact w8_4 _ _ _ _ | exact nl_I _ | exact nl_P _ | exact nl_X | decide | exact w8_5 _ _ _ _ _) only [ju_78_31, r_aLD0, r_iCONST, r_pI, r_iST1, r_iST2, r_iLD2, r_bPUSH, r_IC3, cl_75, cl_76, r_iST3, r_iLD3, r_IF2, r_gR, r_iLD1, r_iASTc, r_IINC1, r_DUPI, r_DUPP, r_gI, r_iADD, r_IINC2, r_GOTO, r_IF3, r_IF1, cl_77, r_iSUB, r_iRET, r_iALDc, r_iALDs, eq_self, Int.reduceLT, Int.reduceLE, Int.reduceEq, true_or, or_true, and_self, true_and, and_true, w8_0, w8_1, w8_2, w8_3, w8_4, nl_I, nl_P, nl_X, pu_I, pu_J, pu_V, w3_id, Int.add_zero, kd_149, rR_149_2, hw, c2, hw2]
      refine ⟨⟨by omega, by omega⟩, ih (aI (sv X l k)) _ (fun a k' z1 z2 => ?_) rfl up_s (by omega) rfl ?_ (fun j hj => ?_)⟩
      · rw [← hg' a k' z1 z2]
        unfold up
        rw [if_neg (fun q => z1 ⟨q.1, Or.inl q.2⟩), if_neg (fun q => z2 q.1)]
      · rw [up_k (by decide), up_ne (by decide)]; exact h12'
      · rw [up_ne (by decide)]
        by_cases z : j = k
        · subst z; exact up_s
        · rw [up_k (by omega)]; exact h52' j (by omega)
    · have hn1 : wn X l (k + 1) = wn X l k := by
        rw [wn, if_neg]
        rintro ⟨z1, z2⟩
        rw [z1] at e
        exact e z2
      have ih := fun v3 g => ih (k + 1) (pos X l (wn X l k)) v3 g (by omega)
      rw [hn1] at ih
      rw [if_pos (by omega), ju_78_31]
      simp only [r_aLD0, r_iCONST, r_pI, r_iST1, r_iST2, r_iLD2, r_bPUSH, r_IC3, cl_75, cl_76, r_iST3, r_iLD3, r_IF2, r_gR, r_iLD1, r_iAST, r_IINC1, r_DUPI, r_DUPP, r_gI, r_iADD, r_IINC2, r_GOTO, r_IF3, r_IF1, cl_77, r_iSUB, r_iRET, r_iALD, r_iALDs, eq_self, Int.reduceLT, Int.reduceLE, Int.reduceEq, true_or, or_true, and_self, true_and, and_true, w8_0, w8_1, w8_2, w8_3, w8_4, nl_I, nl_P, nl_X, pu_I, pu_J, pu_V, hw]
      exact ih _ g' hg' rfl q2 hpl (pos_sk _) h12' h52'
/-- the row gets the way's first k sorts -/
def wFr (u g : am_F) (l : Nat) (X : Nat → Int) (W k : Nat) : Prop := (∀ a m, ¬ (a = 150 ∧ 66 ≤ m ∧ m < 86) → g a m = u a m) ∧ ∀ j : Nat, j < k → g 150 (66 + j) = if j < W then sv X l j else 0
theorem lp_Rw2 {W : Nat} (h52 : ∀ j : Nat, j < W → u 152 j = sv X l j) {v3 : am_V} (hq : ∀ g, wFr u g l X W 20 → wp 78 (am_ju 78 75) [aP 149, aI (W : Int), aI 20, v3] [] (sT g) Q) : ∀ (d k : Nat) (g : am_F), k + d = 20 → wFr u g l X W k → wp 78 (am_ju 78 55) [aP 149, aI (W : Int), aI (k : Int), v3] [] (sT g) Q := by
  intro d
  have l1 := ln_152
  have k1 := kd_152
  have l2 := ln_150
  have k2 := kd_150
  induction d with
  | zero =>
    intro k g hk hg
    have hk : k = 20 := by omega
    subst hk
    rw [ju_78_55]
    simp only [r_aLD0, r_iCONST, r_pI, r_iST1, r_iST2, r_iLD2, r_bPUSH, r_IC3, cl_75, cl_76, r_iST3, r_iLD3, r_IF2, r_gR, r_iLD1, r_iAST, r_IINC1, r_DUPI, r_DUPP, r_gI, r_iADD, r_IINC2, r_GOTO, r_IF3, r_IF1, cl_77, r_iSUB, r_iRET, r_iALD, r_iALDs, eq_self, Int.reduceLT, Int.reduceLE, Int.reduceEq, true_or, or_true, and_self, true_and, and_true, w8_0, w8_1, w8_2, w8_3, w8_4, nl_I, nl_P, nl_X, pu_I, pu_J, pu_V]
    rw [if_pos (by omega)]
    exact hq g hg
  | succ d ih =>
    intro k g hk hg
    have hw : w3 ((k : Int) + 1) = ((k + 1 : Nat) : Int) := w3_id (by omega) (by omega)
    have k0 : (0 : Int) ≤ k := by omega
    have k20 : (k : Int) < 20 := by omega
    have fin : ∀ v, v = (if k < W then sv X l k else 0) → wFr u (up g 150 (66 + (k : Int)) v) l X W (k + 1) := fun v hv => by
      refine ⟨fun a m z => ?_, fun j hj => ?_⟩
      · rw [← hg.1 a m z]
        unfold up
        rw [if_neg (fun q => z ⟨q.1, by omega, by omega⟩)]
      · by_cases z : j = k
        · subst z; rw [up_s, hv]
        · rw [up_k (by omega)]; exact hg.2 j (by omega)
    rw [ju_78_55]
    simp (disch := first | assumption | omega | exact w8_0 | exact w8_1 _ | exact w8_2 _ _ | exact w8_3 _ _ _ | exact w8_4 _ _ _ _ | exact nl_I _ | exact nl_P _ | exact nl_X | decide | exact w8_5 _ _ _ _ _) only [r_aLD0, r_iCONST, r_pI, r_iST1, r_iST2, r_iLD2, r_bPUSH, r_IC3, cl_75, cl_76, r_iST3, r_iLD3, r_IF2, r_gR, r_iLD1, r_iASTc, r_IINC1, r_DUPI, r_DUPP, r_gI, r_iADD, r_IINC2, r_GOTO, r_IF3, r_IF1, cl_77, r_iSUB, r_iRET, r_iALDc, r_iALDs, eq_self, Int.reduceLT, Int.reduceLE, Int.reduceEq, true_or, or_true, and_self, true_and, and_true, w8_0, w8_1, w8_2, w8_3, w8_4, nl_I, nl_P, nl_X, pu_I, pu_J, pu_V, w3_id, Int.add_zero, kd_149, rR_149_0, rR_149_2]
    rw [if_neg (by omega)]
    by_cases e : k < W
    · have e52 : g 152 k = sv X l k := by rw [hg.1 _ _ (by omega)]; exact h52 k e
      rw [if_neg (by omega)]
      simp (disch := first | assumption | omega | exact w8_0 | exact w8_1 _ | exact w8_2 _ _ | exact w8_3 _ _ _ | exact w8_4 _ _ _ _ | exact nl_I _ | exact nl_P _ | exact nl_X | decide | exact w8_5 _ _ _ _ _) only [ju_78_72, r_aLD0, r_iCONST, r_pI, r_iST1, r_iST2, r_iLD2, r_bPUSH, r_IC3, cl_75, cl_76, r_iST3, r_iLD3, r_IF2, r_gR, r_iLD1, r_iASTc, r_IINC1, r_DUPI, r_DUPP, r_gI, r_iADD, r_IINC2, r_GOTO, r_IF3, r_IF1, cl_77, r_iSUB, r_iRET, r_iALDc, r_iALDs, eq_self, Int.reduceLT, Int.reduceLE, Int.reduceEq, true_or, or_true, and_self, true_and, and_true, w8_0, w8_1, w8_2, w8_3, w8_4, nl_I, nl_P, nl_X, pu_I, pu_J, pu_V, w3_id, Int.add_zero, kd_149, rR_149_0, rR_149_2, e52, hw]
      exact ih (k + 1) _ (by omega) (fin _ (by rw [if_pos e]))
    · rw [if_pos (by omega), ju_78_71]
      simp (disch := first | assumption | omega | exact w8_0 | exact w8_1 _ | exact w8_2 _ _ | exact w8_3 _ _ _ | exact w8_4 _ _ _ _ | exact nl_I _ | exact nl_P _ | exact nl_X | decide | exact w8_5 _ _ _ _ _) only [ju_78_72, r_aLD0, r_iCONST, r_pI, r_iST1, r_iST2, r_iLD2, r_bPUSH, r_IC3, cl_75, cl_76, r_iST3, r_iLD3, r_IF2, r_gR, r_iLD1, r_iASTc, r_IINC1, r_DUPI, r_DUPP, r_gI, r_iADD, r_IINC2, r_GOTO, r_IF3, r_IF1, cl_77, r_iSUB, r_iRET, r_iALDc, r_iALDs, eq_self, Int.reduceLT, Int.reduceLE, Int.reduceEq, true_or, or_true, and_self, true_and, and_true, w8_0, w8_1, w8_2, w8_3, w8_4, nl_I, nl_P, nl_X, pu_I, pu_J, pu_V, w3_id, Int.add_zero, kd_149, rR_149_0, hw]
      exact ih (k + 1) _ (by omega) (fin _ (by rw [if_neg e]))
def rT2 (h g : am_F) : Prop := ∀ a k, ¬ (a = 149 ∧ (k = 6 ∨ k = 11 ∨ k = 12)) → a ≠ 152 → ¬ (a = 150 ∧ (k = 2 ∨ k = 3 ∨ k = 5 ∨ (66 ≤ k ∧ k < 86))) → g a k = h a k
theorem s_Rway (hl : l ≤ 100) (hX : ∀ i : Nat, i < l → 32 ≤ X i ∧ X i ≤ 126) (e1 : h 149 6 = (l : Int)) (e6 : ∀ i : Nat, i < l → h 154 i = X i) (hq0 : wyA X l < 0 → ∀ g, (∀ a k, ¬ (a = 149 ∧ (k = 6 ∨ k = 11 ∨ k = 12)) → a ≠ 152 → g a k = h a k) → g 149 6 = 0 → Q (aI (wyA X l)) (sT g)) (hq1 : 0 ≤ wyA X l → ∀ g, rT2 h g → g 149 6 = 0 → g 150 2 = (wn X l 20 : Int) → g 150 3 = 0 → g 150 5 = 0 → (∀ j : Nat, j < wn X l 20 → g 150 (66 + j) = sv X l j) → Q (aI (wyA X l)) (sT g)) : wp 78 (am_ju 78 0) [aP 149, aX, aX, aX] [] (sT h) Q := by
  have l2 := ln_150
  have k2 := kd_150
  rw [ju_78_0]
  simp only [r_aLD0, r_iCONST, r_pI, r_iST1, r_iST2, r_iLD2, r_bPUSH, r_IC3, cl_75, cl_76, r_iST3, r_iLD3, r_IF2, r_gR, r_iLD1, r_iAST, r_IINC1, r_DUPI, r_DUPP, r_gI, r_iADD, r_IINC2, r_GOTO, r_IF3, r_IF1, cl_77, r_iSUB, r_iRET, r_iALD, r_iALDs, eq_self, Int.reduceLT, Int.reduceLE, Int.reduceEq, true_or, or_true, and_self, true_and, and_true, w8_0, w8_1, w8_2, w8_3, w8_4, nl_I, nl_P, nl_X, pu_I, pu_J, pu_V, kd_149]
  refine lp_Rwy (h := h) (X := X) hl e1 e6 (fun g v3 p n3 hg h11 hp hsk h12 h52 => ?_) 20 0 0 aX _ rfl (fun a k z1 z2 => ?_) rfl (by rw [up_k (by decide)]; exact up_s) (Nat.zero_le _) rfl up_s (fun j hj => absurd hj (Nat.not_lt_zero _))
  · have hpl : pos X l (wn X l 20) ≤ l := by rw [← hsk]; exact sk_l hl hp
    rw [ju_78_33]
    simp only [r_aLD0, r_iCONST, r_pI, r_iST1, r_iST2, r_iLD2, r_bPUSH, r_IC3, cl_75, cl_76, r_iST3, r_iLD3, r_IF2, r_gR, r_iLD1, r_iAST, r_IINC1, r_DUPI, r_DUPP, r_gI, r_iADD, r_IINC2, r_GOTO, r_IF3, r_IF1, cl_77, r_iSUB, r_iRET, r_iALD, r_iALDs, eq_self, Int.reduceLT, Int.reduceLE, Int.reduceEq, true_or, or_true, and_self, true_and, and_true, w8_0, w8_1, w8_2, w8_3, w8_4, nl_I, nl_P, nl_X, pu_I, pu_J, pu_V, kd_149]
    refine s_look (X := X) hl _ p g rfl hp (by rw [hg _ _ (by decide) (by decide)]; exact e1) h11 (fun j hj => by rw [hg _ _ (by omega) (by decide)]; exact e6 j hj) (fun g' q1 q2 => ?_)
    rw [hsk] at q2 ⊢
    have hg' : rT h g' := fun a k z1 z2 => by rw [q1 a k (fun q => z1 ⟨q.1, Or.inl q.2⟩), hg a k z1 z2]
    have h12' : g' 149 12 = -1 := by rw [q1 _ _ (by decide)]; exact h12
    have h52' : ∀ j : Nat, j < wn X l 20 → g' 152 j = sv X l j := fun j hj => by rw [q1 _ _ (by omega)]; exact h52 j hj
    simp only [r_aLD0, r_iCONST, r_pI, r_iST1, r_iST2, r_iLD2, r_bPUSH, r_IC3, cl_75, cl_76, r_iST3, r_iLD3, r_IF2, r_gR, r_iLD1, r_iAST, r_IINC1, r_DUPI, r_DUPP, r_gI, r_iADD, r_IINC2, r_GOTO, r_IF3, r_IF1, cl_77, r_iSUB, r_iRET, r_iALD, r_iALDs, eq_self, Int.reduceLT, Int.reduceLE, Int.reduceEq, true_or, or_true, and_self, true_and, and_true, w8_0, w8_1, w8_2, w8_3, w8_4, nl_I, nl_P, nl_X, pu_I, pu_J, pu_V]
    by_cases e : 0 ≤ nxl X l (pos X l (wn X l 20)) ∨ wn X l 20 = 0
    · have hA : wyA X l = -20 - (pos X l (wn X l 20) : Int) := by unfold wyA; rw [if_pos e]
      have hw : w3 (-20 - (pos X l (wn X l 20) : Int)) = -20 - (pos X l (wn X l 20) : Int) := w3_id (by omega) (by omega)
      have key : wp 78 (am_ju 78 38) [aP 149, aI (wn X l 20 : Int), aI 20, v3] [] (sT g') Q := by
        rw [ju_78_38]
        simp only [r_aLD0, r_iCONST, r_pI, r_iST1, r_iST2, r_iLD2, r_bPUSH, r_IC3, cl_75, cl_76, r_iST3, r_iLD3, r_IF2, r_gR, r_iLD1, r_iAST, r_IINC1, r_DUPI, r_DUPP, r_gI, r_iADD, r_IINC2, r_GOTO, r_IF3, r_IF1, cl_77, r_iSUB, r_iRET, r_iALD, r_iALDs, eq_self, Int.reduceLT, Int.reduceLE, Int.reduceEq, true_or, or_true, and_self, true_and, and_true, w8_0, w8_1, w8_2, w8_3, w8_4, nl_I, nl_P, nl_X, pu_I, pu_J, pu_V, kd_149, q2]
        rw [ju_77_0]
        simp only [r_aLD0, r_gI, r_IF3, r_iLD1, r_GOTO, r_pI, r_vRET, eq_self, Int.reduceLT, Int.reduceLE, Int.reduceEq, true_or, or_true, and_self, true_and, and_true, w8_0, w8_1, w8_2, w8_3, w8_4, nl_I, nl_P, nl_X, pu_I, pu_J, pu_V, kd_149, h12', Int.reduceLE, if_false]
        rw [ju_77_8]
        simp only [r_aLD0, r_gI, r_IF3, r_iLD1, r_GOTO, r_pI, r_vRET, eq_self, Int.reduceLT, Int.reduceLE, Int.reduceEq, true_or, or_true, and_self, true_and, and_true, w8_0, w8_1, w8_2, w8_3, w8_4, nl_I, nl_P, nl_X, pu_I, pu_J, pu_V, kd_149]
        rw [ju_78_42]
        have c12 : up (up g' 149 12 (pos X l (wn X l 20) : Int)) 149 6 0 149 12 = (pos X l (wn X l 20) : Int) := by rw [up_k (by decide)]; exact up_s
        simp only [r_aLD0, r_iCONST, r_pI, r_iST1, r_iST2, r_iLD2, r_bPUSH, r_IC3, cl_75, cl_76, r_iST3, r_iLD3, r_IF2, r_gR, r_iLD1, r_iAST, r_IINC1, r_DUPI, r_DUPP, r_gI, r_iADD, r_IINC2, r_GOTO, r_IF3, r_IF1, cl_77, r_iSUB, r_iRET, r_iALD, r_iALDs, eq_self, Int.reduceLT, Int.reduceLE, Int.reduceEq, true_or, or_true, and_self, true_and, and_true, w8_0, w8_1, w8_2, w8_3, w8_4, nl_I, nl_P, nl_X, pu_I, pu_J, pu_V, kd_149, c12, hw]
        rw [if_neg (by omega), ← hA]
        refine hq0 (by omega) _ (fun a k z1 z2 => ?_) up_s
        rw [← hg' a k (fun q => z1 ⟨q.1, by omega⟩) z2]
        unfold up
        rw [if_neg (fun q => z1 ⟨q.1, by omega⟩), if_neg (fun q => z1 ⟨q.1, by omega⟩)]
      by_cases f : 0 ≤ nxl X l (pos X l (wn X l 20))
      · rw [if_pos f]
        exact key
      · have f0 : wn X l 20 = 0 := by
          rcases e with q | q
          · exact absurd q f
          · exact q
        rw [if_neg f, if_neg (by omega)]
        exact key
    · have hA : wyA X l = (wn X l 20 : Int) := by unfold wyA; rw [if_neg e]
      rw [if_neg (fun q => e (Or.inl q)), if_pos (fun q => e (Or.inr (by omega))), ju_78_42]
      have c12 : up g' 149 6 0 149 12 = -1 := by rw [up_k (by decide)]; exact h12'
      simp only [r_aLD0, r_iCONST, r_pI, r_iST1, r_iST2, r_iLD2, r_bPUSH, r_IC3, cl_75, cl_76, r_iST3, r_iLD3, r_IF2, r_gR, r_iLD1, r_iAST, r_IINC1, r_DUPI, r_DUPP, r_gI, r_iADD, r_IINC2, r_GOTO, r_IF3, r_IF1, cl_77, r_iSUB, r_iRET, r_iALD, r_iALDs, eq_self, Int.reduceLT, Int.reduceLE, Int.reduceEq, true_or, or_true, and_self, true_and, and_true, w8_0, w8_1, w8_2, w8_3, w8_4, nl_I, nl_P, nl_X, pu_I, pu_J, pu_V, kd_149, c12, Int.reduceLT, if_true]
      rw [ju_78_53]
      simp only [r_aLD0, r_iCONST, r_pI, r_iST1, r_iST2, r_iLD2, r_bPUSH, r_IC3, cl_75, cl_76, r_iST3, r_iLD3, r_IF2, r_gR, r_iLD1, r_iAST, r_IINC1, r_DUPI, r_DUPP, r_gI, r_iADD, r_IINC2, r_GOTO, r_IF3, r_IF1, cl_77, r_iSUB, r_iRET, r_iALD, r_iALDs, eq_self, Int.reduceLT, Int.reduceLE, Int.reduceEq, true_or, or_true, and_self, true_and, and_true, w8_0, w8_1, w8_2, w8_3, w8_4, nl_I, nl_P, nl_X, pu_I, pu_J, pu_V]
      refine lp_Rw2 (u := up g' 149 6 0) (X := X) (l := l) (W := wn X l 20) (fun j hj => by rw [up_ne (by decide)]; exact h52' j hj) (fun g3 hw3 => ?_) 20 0 _ rfl ⟨fun _ _ _ => rfl, fun j hj => absurd hj (Nat.not_lt_zero _)⟩
      have hN := wn_le X l 20
      rw [ju_78_75]
      simp (disch := first | assumption | omega | exact w8_0 | exact w8_1 _ | exact w8_2 _ _ | exact w8_3 _ _ _ | exact w8_4 _ _ _ _ | exact nl_I _ | exact nl_P _ | exact nl_X | decide | exact w8_5 _ _ _ _ _) only [r_aLD0, r_iCONST, r_pI, r_iST1, r_iST2, r_iLD2, r_bPUSH, r_IC3, cl_75, cl_76, r_iST3, r_iLD3, r_IF2, r_gR, r_iLD1, r_iASTc, r_IINC1, r_DUPI, r_DUPP, r_gI, r_iADD, r_IINC2, r_GOTO, r_IF3, r_IF1, cl_77, r_iSUB, r_iRET, r_iALDc, r_iALDs, eq_self, Int.reduceLT, Int.reduceLE, Int.reduceEq, true_or, or_true, and_self, true_and, and_true, w8_0, w8_1, w8_2, w8_3, w8_4, nl_I, nl_P, nl_X, pu_I, pu_J, pu_V, w3_id, Int.add_zero, kd_149, rR_149_0]
      have := hq1 (by omega) (up (up (up g3 150 2 (wn X l 20 : Int)) 150 3 0) 150 5 0) (fun a k z1 z2 z3 => ?_) ?_ ?_ ?_ ?_ (fun j hj => ?_)
      · rw [hA] at this
        exact this
      · have : up (up (up g3 150 2 (wn X l 20 : Int)) 150 3 0) 150 5 0 a k = g3 a k := by
          unfold up
          rw [if_neg (fun q => z3 ⟨q.1, by omega⟩), if_neg (fun q => z3 ⟨q.1, by omega⟩), if_neg (fun q => z3 ⟨q.1, by omega⟩)]
        rw [this, hw3.1 a k (fun q => z3 ⟨q.1, by omega⟩), ← hg' a k (fun q => z1 ⟨q.1, by omega⟩) z2]
        unfold up
        rw [if_neg (fun q => z1 ⟨q.1, by omega⟩)]
      · rw [up_ne (by decide), up_ne (by decide), up_ne (by decide), hw3.1 _ _ (by decide)]; exact up_s
      · rw [up_k (by decide), up_k (by decide)]; exact up_s
      · rw [up_k (by decide)]; exact up_s
      · exact up_s
      · rw [up_k (by omega), up_k (by omega), up_k (by omega), hw3.2 j (by omega), if_pos hj]
  · unfold up
    rw [if_neg (fun q => z1 ⟨q.1, by omega⟩), if_neg (fun q => z1 ⟨q.1, by omega⟩)]
end WZ3
