section WZ2
variable {g h h' h1 h2 u : am_F} {Q : am_V → am_S → Prop} {so j bj x y z o c w r k t : Int} {n nb L s K nx b m a q B S T i gg l M Z v ch N d p : Nat} {X : Nat → Int}
theorem wy_bad (hX : ∀ i : Nat, i < l → 32 ≤ X i ∧ X i ≤ 126) (h1 : wn X l i = i) (h2 : i ≤ 20) (h3 : ¬ 0 ≤ sv X l i) (h4 : 0 < i → pos X l i < l) : wyA X l = -20 - (pos X l i : Int) := by
  have := wn_st h1 h3 (20 - i)
  rw [show i + (20 - i) = 20 by omega] at this
  unfold wyA
  rw [this, if_pos]
  by_cases e : i = 0
  · exact Or.inr e
  · have h4 := h4 (by omega)
    have := hX _ h4
    unfold nxl
    rw [if_pos h4]
    exact Or.inl (by omega)
theorem wy_20 (hX : ∀ i : Nat, i < l → 32 ≤ X i ∧ X i ≤ 126) (h1 : wn X l 20 = 20) (h4 : pos X l 20 < l) : wyA X l = -20 - (pos X l 20 : Int) := by
  have := hX _ h4
  unfold wyA
  rw [h1, if_pos]
  unfold nxl
  rw [if_pos h4]
  exact Or.inl (by omega)
theorem wy_end (h1 : wn X l (i + 1) = i + 1) (h2 : i + 1 ≤ 20) (h4 : ¬ pos X l (i + 1) < l) : wyA X l = ((i + 1 : Nat) : Int) ∧ wn X l 20 = i + 1 := by
  have hn : nxl X l (pos X l (i + 1)) = -1 := by unfold nxl; rw [if_neg h4]
  have h3 : ¬ 0 ≤ sv X l (i + 1) := by unfold sv; rw [hn, so_n]; decide
  have := wn_st h1 h3 (20 - (i + 1))
  rw [show i + 1 + (20 - (i + 1)) = 20 by omega] at this
  refine ⟨?_, this⟩
  unfold wyA
  rw [this, if_neg]
  rw [hn]
  omega
def wT (h g : am_F) : Prop := ∀ a k, ¬ (a = 59 ∧ k = 2) → a ≠ 61 → a ≠ 62 → g a k = h a k
theorem lp_Tway (hl : l ≤ 100) (hX : ∀ i : Nat, i < l → 32 ≤ X i ∧ X i ≤ 126) (e1 : h 59 1 = (l : Int)) (e6 : ∀ i : Nat, i < l → h 60 i = X i) (hq : ∀ g, wT h g → (0 ≤ wyA X l → g 61 1 = wyA X l ∧ wyA X l = (wn X l 20 : Int) ∧ ∀ j : Nat, j < wn X l 20 → g 62 j = sv X l j) → Q (aI (wyA X l)) (sT g)) : ∀ (d i p : Nat) (v3 : am_V) (g : am_F), i + d = 20 → wT h g → am_nl v3 = true → (p = pos X l i ∨ (i = 0 ∧ p = 0)) → p ≤ l → g 59 2 = (p : Int) → wn X l i = i → (0 < i → pos X l i < l) → (∀ j : Nat, j < i → g 62 j = sv X l j) → wp 70 (am_ju 70 5) [aP 59, aP 61, aI (i : Int), v3] [] (sT g) Q := by
  intro d
  have l1 := ln_62
  have k1 := kd_62
  have flt : ∀ (g : am_F) (p : Nat) (L : List am_V), p ≤ 101 → g 59 2 = (p : Int) → Q (aI (-20 - (p : Int))) (sT g) → wp 70 (am_ju 70 41) (aP 59 :: L) [] (sT g) Q := by
    intro g p L hp h2 hh
    have hw : w3 (-20 - (p : Int)) = -20 - (p : Int) := w3_id (by omega) (by omega)
    simp only [ju_70_41, r_aLD0, r_iCONST, r_pI, r_iST2, r_iLD2, r_bPUSH, r_IC3, cl_67, cl_68, r_iST3, r_iLD3, r_IF3, r_GOTO, r_aLD1, r_gR, r_iAST, r_iADD, r_DUPI, r_DUPP, r_gI, r_IC1, r_iRET, r_IINC2, cl_69, eq_self, Int.reduceLT, Int.reduceLE, Int.reduceEq, true_or, or_true, and_self, true_and, and_true, w8_0, w8_1, w8_2, w8_3, w8_4, nl_I, nl_P, nl_X, pu_I, pu_J, pu_V, kd_59]
    simp only [ju_69_0, r_bPUSH, r_aLD0, r_gI, r_iSUB, r_iRET, eq_self, Int.reduceLT, Int.reduceLE, Int.reduceEq, true_or, or_true, and_self, true_and, and_true, w8_0, w8_1, w8_2, w8_3, w8_4, nl_I, nl_P, nl_X, pu_I, pu_J, pu_V, kd_59, h2, hw]
    exact hh
  induction d with
  | zero =>
    intro i p v3 g hi hg n3 hp hpl h2 hn hpo h62
    have hi : i = 20 := by omega
    subst hi
    have hp : p = pos X l 20 := by
      rcases hp with q | q
      · exact q
      · exact absurd q.1 (by decide)
    have hA := wy_20 hX hn (hpo (by decide))
    have := hq g hg (fun q => by omega)
    rw [hA, ← hp] at this
    rw [ju_70_5]
    simp only [r_aLD0, r_iCONST, r_pI, r_iST2, r_iLD2, r_bPUSH, r_IC3, cl_67, cl_68, r_iST3, r_iLD3, r_IF3, r_GOTO, r_aLD1, r_gR, r_iAST, r_iADD, r_DUPI, r_DUPP, r_gI, r_IC1, r_iRET, r_IINC2, cl_69, eq_self, Int.reduceLT, Int.reduceLE, Int.reduceEq, true_or, or_true, and_self, true_and, and_true, w8_0, w8_1, w8_2, w8_3, w8_4, nl_I, nl_P, nl_X, pu_I, pu_J, pu_V]
    rw [if_pos (by omega)]
    exact flt g p _ (by omega) h2 this
  | succ d ih =>
    intro i p v3 g hi hg n3 hp hpl h2 hn hpo h62
    have hsk : sk X l p = pos X l i := by
      rcases hp with q | q
      · rw [q]; exact pos_sk i
      · rw [q.1, q.2]; rfl
    have hw : w3 ((i : Int) + 1) = ((i + 1 : Nat) : Int) := w3_id (by omega) (by omega)
    have i0 : (0 : Int) ≤ i := by omega
    have i20 : (i : Int) < 20 := by omega
    have hpl2 : pos X l i ≤ l := by rw [← hsk]; exact sk_l hl hpl
    rw [ju_70_5]
    simp only [r_aLD0, r_iCONST, r_pI, r_iST2, r_iLD2, r_bPUSH, r_IC3, cl_67, cl_68, r_iST3, r_iLD3, r_IF3, r_GOTO, r_aLD1, r_gR, r_iAST, r_iADD, r_DUPI, r_DUPP, r_gI, r_IC1, r_iRET, r_IINC2, cl_69, eq_self, Int.reduceLT, Int.reduceLE, Int.reduceEq, true_or, or_true, and_self, true_and, and_true, w8_0, w8_1, w8_2, w8_3, w8_4, nl_I, nl_P, nl_X, pu_I, pu_J, pu_V, kd_59]
    rw [if_neg (by omega)]
    refine s_tnext (X := X) hl _ p g rfl hpl (by rw [hg _ _ (by decide) (by decide) (by decide)]; exact e1) h2 (fun j hj => by rw [hg _ _ (by omega) (by decide) (by decide)]; exact e6 j hj) (fun g' q1 q2 => ?_)
    rw [hsk] at q2 ⊢
    have hg' : wT h g' := fun a k z1 z2 z3 => by rw [q1 a k z1, hg a k z1 z2 z3]
    have es : soW (nxl X l (pos X l i)) = sv X l i := rfl
    simp (disch := first | assumption | omega | decide | exact nl_I _) only [r_aLD0, r_iCONST, r_pI, r_iST2, r_iLD2, r_bPUSH, r_IC3, cl_67, cl_68, r_iST3, r_iLD3, r_IF3, r_GOTO, r_aLD1, r_gR, r_iAST, r_iADD, r_DUPI, r_DUPP, r_gI, r_IC1, r_iRET, r_IINC2, cl_69, eq_self, Int.reduceLT, Int.reduceLE, Int.reduceEq, true_or, or_true, and_self, true_and, and_true, w8_0, w8_1, w8_2, w8_3, w8_4, nl_I, nl_P, nl_X, pu_I, pu_J, pu_V, kd_59, s_TsortOf, es]
    by_cases e : 0 ≤ sv X l i
    · have hlt := sv_lt e
      have hn1 : wn X l (i + 1) = i + 1 := by rw [wn, if_pos ⟨hn, e⟩]
      have hw2 : w3 ((pos X l i : Int) + 1) = ((pos X l i + 1 : Nat) : Int) := w3_id (by omega) (by omega)
      have c2 : ∀ v v', up (up g' 62 (i : Int) v) 61 1 v' 59 2 = (pos X l i : Int) := fun v v' => by rw [up_ne (by decide), up_ne (by decide)]; exact q2
      rw [if_pos e, ju_70_15]
      simp (disch := first | assumption | omega | exact w8_0 | exact w8_1 _ | exact w8_2 _ _ | exact w8_3 _ _ _ | exact w8_4 _ _ _ _ | exact nl_I _ | exact nl_P _ | exact nl_X | decide | exact w8_5 _ _ _ _ _) only [r_aLD0, r_iCONST, r_pI, r_iST2, r_iLD2, r_bPUSH, r_IC3, cl_67, cl_68, r_iST3, r_iLD3, r_IF3, r_GOTO, r_aLD1, r_gR, r_iASTc, r_iADD, r_DUPI, r_DUPP, r_gI, r_IC1, r_iRET, r_IINC2, cl_69, eq_self, Int.reduceLT, Int.reduceLE, Int.reduceEq, true_or, or_true, and_self, true_and, and_true, w8_0, w8_1, w8_2, w8_3, w8_4, nl_I, nl_P, nl_X, pu_I, pu_J, pu_V, w3_id, Int.add_zero, kd_59, kd_61, rR_61_0, hw, c2, hw2]
      have hg3 : ∀ v v' v'', wT h (up (up (up g' 62 (i : Int) v) 61 1 v') 59 2 v'') := fun v v' v'' a k z1 z2 z3 => by
        have : up (up (up g' 62 (i : Int) v) 61 1 v') 59 2 v'' a k = g' a k := by
          unfold up
          rw [if_neg z1, if_neg (fun q => z2 q.1), if_neg (fun q => z3 q.1)]
        rw [this, hg' a k z1 z2 z3]
      have hg4 := hg3 (sv X l i) ((i : Int) + 1) ((pos X l i : Int) + 1)
      have d62 : ∀ j : Nat, j < i + 1 → up (up (up g' 62 (i : Int) (sv X l i)) 61 1 ((i : Int) + 1)) 59 2 ((pos X l i : Int) + 1) 62 j = sv X l j := fun j hj => by
        rw [up_ne (by decide), up_ne (by decide)]
        by_cases z : j = i
        · subst z; exact up_s
        · rw [up_k (by omega), q1 _ _ (by omega)]; exact h62 j (by omega)
      have d61 : up (up (up g' 62 (i : Int) (sv X l i)) 61 1 ((i : Int) + 1)) 59 2 ((pos X l i : Int) + 1) 61 1 = (i : Int) + 1 := by rw [up_ne (by decide)]; exact up_s
      have d59 : up (up (up g' 62 (i : Int) (sv X l i)) 61 1 ((i : Int) + 1)) 59 2 ((pos X l i : Int) + 1) 59 2 = ((pos X l i + 1 : Nat) : Int) := up_s
      generalize up (up (up g' 62 (i : Int) (sv X l i)) 61 1 ((i : Int) + 1)) 59 2 ((pos X l i : Int) + 1) = g3 at hg4 d62 d61 d59 ⊢
      refine s_tnext (X := X) hl _ (pos X l i + 1) g3 rfl (by omega) (by rw [hg4 _ _ (by decide) (by decide) (by decide)]; exact e1) d59 (fun j hj => by rw [hg4 _ _ (by omega) (by decide) (by decide)]; exact e6 j hj) (fun g5 y1 y2 => ?_)
      have ep : sk X l (pos X l i + 1) = pos X l (i + 1) := rfl
      rw [ep] at y2 ⊢
      have hg5 : wT h g5 := fun a k z1 z2 z3 => by rw [y1 a k z1, hg4 a k z1 z2 z3]
      have pl : pos X l (i + 1) ≤ l := by rw [← ep]; exact sk_l hl (by omega)
      have f62 : ∀ j : Nat, j < i + 1 → g5 62 j = sv X l j := fun j hj => by rw [y1 _ _ (by omega)]; exact d62 j hj
      simp only [r_aLD0, r_iCONST, r_pI, r_iST2, r_iLD2, r_bPUSH, r_IC3, cl_67, cl_68, r_iST3, r_iLD3, r_IF3, r_GOTO, r_aLD1, r_gR, r_iAST, r_iADD, r_DUPI, r_DUPP, r_gI, r_IC1, r_iRET, r_IINC2, cl_69, eq_self, Int.reduceLT, Int.reduceLE, Int.reduceEq, true_or, or_true, and_self, true_and, and_true, w8_0, w8_1, w8_2, w8_3, w8_4, nl_I, nl_P, nl_X, pu_I, pu_J, pu_V, hw]
      by_cases f : pos X l (i + 1) < l
      · have hnx : nxl X l (pos X l (i + 1)) = X (pos X l (i + 1)) := by unfold nxl; rw [if_pos f]
        have := hX _ f
        rw [hnx, if_pos (by omega), ju_70_39]
        simp only [r_aLD0, r_iCONST, r_pI, r_iST2, r_iLD2, r_bPUSH, r_IC3, cl_67, cl_68, r_iST3, r_iLD3, r_IF3, r_GOTO, r_aLD1, r_gR, r_iAST, r_iADD, r_DUPI, r_DUPP, r_gI, r_IC1, r_iRET, r_IINC2, cl_69, eq_self, Int.reduceLT, Int.reduceLE, Int.reduceEq, true_or, or_true, and_self, true_and, and_true, w8_0, w8_1, w8_2, w8_3, w8_4, nl_I, nl_P, nl_X, pu_I, pu_J, pu_V, hw]
        exact ih (i + 1) (pos X l (i + 1)) _ g5 (by omega) hg5 rfl (Or.inl rfl) pl y2 hn1 (fun _ => f) f62
      · have hnx : nxl X l (pos X l (i + 1)) = -1 := by unfold nxl; rw [if_neg f]
        obtain ⟨hA, hN⟩ := wy_end hn1 (by omega) f
        rw [hnx, if_neg (by decide)]
        have := hq g5 hg5 (fun _ => ⟨by rw [y1 _ _ (by decide), d61, hA]; omega, by rw [hA, hN], by rw [hN]; exact f62⟩)
        rw [hA] at this
        exact this
    · have hA := wy_bad hX hn (by omega) e hpo
      have := hq g' hg' (fun q => by omega)
      rw [hA] at this
      rw [if_neg e]
      exact flt g' (pos X l i) _ (by omega) q2 this
theorem s_TreadWay (hl : l ≤ 100) (hX : ∀ i : Nat, i < l → 32 ≤ X i ∧ X i ≤ 126) (e1 : h 59 1 = (l : Int)) (e6 : ∀ i : Nat, i < l → h 60 i = X i) (hq : ∀ g, wT h g → (0 ≤ wyA X l → g 61 1 = wyA X l ∧ wyA X l = (wn X l 20 : Int) ∧ ∀ j : Nat, j < wn X l 20 → g 62 j = sv X l j) → Q (aI (wyA X l)) (sT g)) : wp 70 (am_ju 70 0) [aP 59, aP 61, aX, aX] [] (sT h) Q := by
  rw [ju_70_0]
  simp only [r_aLD0, r_iCONST, r_pI, r_iST2, r_iLD2, r_bPUSH, r_IC3, cl_67, cl_68, r_iST3, r_iLD3, r_IF3, r_GOTO, r_aLD1, r_gR, r_iAST, r_iADD, r_DUPI, r_DUPP, r_gI, r_IC1, r_iRET, r_IINC2, cl_69, eq_self, Int.reduceLT, Int.reduceLE, Int.reduceEq, true_or, or_true, and_self, true_and, and_true, w8_0, w8_1, w8_2, w8_3, w8_4, nl_I, nl_P, nl_X, pu_I, pu_J, pu_V, kd_59]
  refine lp_Tway (h := h) hl hX e1 e6 hq 20 0 0 aX _ rfl (fun a k z1 z2 z3 => ?_) rfl (Or.inr ⟨rfl, rfl⟩) (Nat.zero_le _) up_s rfl (fun q => absurd q (by decide)) (fun j hj => absurd hj (Nat.not_lt_zero _))
  unfold up
  rw [if_neg z1]
end WZ2
