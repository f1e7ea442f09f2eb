/-- a mark: its letter, then a digit -/
abbrev mkH (X : Nat → Int) (l : Nat) (c : Int) (p : Nat) : Prop := nxl X l (sk X l p) = c
def mkQ (X : Nat → Int) (l p : Nat) : Nat := sk X l (sk X l p + 1)
def mkD (X : Nat → Int) (l p : Nat) : Int := nxl X l (mkQ X l p) - 48
abbrev mkO (X : Nat → Int) (l : Nat) (c m : Int) (p : Nat) : Prop := mkH X l c p → 0 ≤ mkD X l p ∧ mkD X l p < m
def mkV (X : Nat → Int) (l : Nat) (c df : Int) (p : Nat) : Int := if mkH X l c p then mkD X l p else df
def mkP (X : Nat → Int) (l : Nat) (c : Int) (p : Nat) : Nat := if mkH X l c p then mkQ X l p + 1 else sk X l p
section SQ2
variable {g h h' h1 h2 u : am_F} {Q : am_V → am_S → Prop} {so j bj x y z o c w r k t mm df : Int} {n nb L s K nx b m a q B S T i gg l M Z v ch N d p : Nat} {X : Nat → Int}
theorem nx_lt (h0 : 0 ≤ nxl X l p) : p < l := by
  by_cases e : p < l
  · exact e
  · unfold nxl at h0; rw [if_neg e] at h0; exact absurd h0 (by decide)
theorem nx_r (hX : ∀ i : Nat, i < l → 32 ≤ X i ∧ X i ≤ 126) (p : Nat) : -1 ≤ nxl X l p ∧ nxl X l p ≤ 126 := by
  unfold nxl
  split
  · next e => have := hX _ e; omega
  · omega
theorem mkP_l (hl : l ≤ 100) (hc : 0 ≤ c) (hp : p ≤ l) (hO : mkO X l c mm p) : mkP X l c p ≤ l := by
  unfold mkP
  split
  · next e => have := hO e; unfold mkD at this; exact nx_lt (X := X) (by omega)
  · exact sk_l hl hp
theorem s_Tmarked (hl : l ≤ 100) (hX : ∀ i : Nat, i < l → 32 ≤ X i ∧ X i ≤ 126) (hc : 0 ≤ c) (hp : p ≤ l) (e1 : h 59 1 = (l : Int)) (e2 : h 59 2 = (p : Int)) (e6 : ∀ i : Nat, i < l → h 60 i = X i) (hq1 : ∀ g', aTt h g' → g' 59 2 = (mkP X l c p : Int) → mkO X l c mm p → Q (aI (mkV X l c df p)) (sT g')) (hq2 : ∀ g', aTt h g' → g' 59 2 = (mkQ X l p : Int) → ¬ mkO X l c mm p → Q (aI (-1)) (sT g')) : wp 83 (am_ju 83 0) [aP 59, aI c, aI mm, aI df, aX] [] (sT h) Q := by
  have hsl : sk X l p ≤ l := sk_l hl hp
  rw [ju_83_0]
  simp only [r_aLD0, cl_67, r_iLD1, r_IC0, r_iLD3, r_iRET, r_DUPI, r_DUPP, r_gI, r_iCONST, r_iADD, r_pI, r_bPUSH, r_iSUB, r_iST4, r_iLD4, r_iLD2, cl_12, r_IF1, eq_self, Int.reduceLT, Int.reduceLE, Int.reduceEq, true_or, or_true, and_self, true_and, and_true, w8_0, w8_1, w8_2, w8_3, w8_4, nl_I, nl_P, nl_X, pu_I, pu_J, pu_V, kd_59]
  refine s_tnext (X := X) hl _ p h rfl hp e1 e2 e6 (fun g q1 q2 => ?_)
  simp only [r_aLD0, cl_67, r_iLD1, r_IC0, r_iLD3, r_iRET, r_DUPI, r_DUPP, r_gI, r_iCONST, r_iADD, r_pI, r_bPUSH, r_iSUB, r_iST4, r_iLD4, r_iLD2, cl_12, r_IF1, eq_self, Int.reduceLT, Int.reduceLE, Int.reduceEq, true_or, or_true, and_self, true_and, and_true, w8_0, w8_1, w8_2, w8_3, w8_4, nl_I, nl_P, nl_X, pu_I, pu_J, pu_V]
  by_cases e : mkH X l c p
  · have hlt : sk X l p < l := nx_lt (by rw [show nxl X l (sk X l p) = c from e]; exact hc)
    have hw : w3 ((sk X l p : Int) + 1) = ((sk X l p + 1 : Nat) : Int) := w3_id (by omega) (by omega)
    rw [if_pos e, ju_83_6]
    simp only [r_aLD0, cl_67, r_iLD1, r_IC0, r_iLD3, r_iRET, r_DUPI, r_DUPP, r_gI, r_iCONST, r_iADD, r_pI, r_bPUSH, r_iSUB, r_iST4, r_iLD4, r_iLD2, cl_12, r_IF1, eq_self, Int.reduceLT, Int.reduceLE, Int.reduceEq, true_or, or_true, and_self, true_and, and_true, w8_0, w8_1, w8_2, w8_3, w8_4, nl_I, nl_P, nl_X, pu_I, pu_J, pu_V, kd_59, q2, hw]
    have c1 : aTt h (up g 59 2 ((sk X l p + 1 : Nat) : Int)) := fun a k z => by rw [← q1 a k z]; unfold up; rw [if_neg z]
    have c2 : up g 59 2 ((sk X l p + 1 : Nat) : Int) 59 2 = ((sk X l p + 1 : Nat) : Int) := up_s
    generalize up g 59 2 ((sk X l p + 1 : Nat) : Int) = g2 at c1 c2 ⊢
    refine s_tnext (X := X) hl _ (sk X l p + 1) g2 rfl (by omega) (by rw [c1 _ _ (by decide)]; exact e1) c2 (fun i hi => by rw [c1 _ _ (by omega)]; exact e6 i hi) (fun g3 y1 y2 => ?_)
    have hr := nx_r (l := l) hX (mkQ X l p)
    have hm : sk X l (sk X l p + 1) = mkQ X l p := rfl
    rw [hm] at y2 ⊢
    have hw2 : w3 (nxl X l (mkQ X l p) - 48) = mkD X l p := by rw [w3_id (by omega) (by omega)]; rfl
    have hg3 : aTt h g3 := fun a k z => by rw [y1 a k z, c1 a k z]
    simp only [r_aLD0, cl_67, r_iLD1, r_IC0, r_iLD3, r_iRET, r_DUPI, r_DUPP, r_gI, r_iCONST, r_iADD, r_pI, r_bPUSH, r_iSUB, r_iST4, r_iLD4, r_iLD2, cl_12, r_IF1, eq_self, Int.reduceLT, Int.reduceLE, Int.reduceEq, true_or, or_true, and_self, true_and, and_true, w8_0, w8_1, w8_2, w8_3, w8_4, nl_I, nl_P, nl_X, pu_I, pu_J, pu_V, hw2, s_isBelow]
    by_cases f : 0 ≤ mkD X l p ∧ mkD X l p < mm
    · have hQl : mkQ X l p < l := nx_lt (X := X) (by unfold mkD at f; omega)
      have hw3 : w3 ((mkQ X l p : Int) + 1) = ((mkQ X l p + 1 : Nat) : Int) := w3_id (by omega) (by omega)
      rw [if_pos (by simp [f]), ju_83_23]
      simp only [r_aLD0, cl_67, r_iLD1, r_IC0, r_iLD3, r_iRET, r_DUPI, r_DUPP, r_gI, r_iCONST, r_iADD, r_pI, r_bPUSH, r_iSUB, r_iST4, r_iLD4, r_iLD2, cl_12, r_IF1, eq_self, Int.reduceLT, Int.reduceLE, Int.reduceEq, true_or, or_true, and_self, true_and, and_true, w8_0, w8_1, w8_2, w8_3, w8_4, nl_I, nl_P, nl_X, pu_I, pu_J, pu_V, kd_59, y2, hw3]
      have := hq1 (up g3 59 2 ((mkQ X l p + 1 : Nat) : Int)) (fun a k z => by rw [← hg3 a k z]; unfold up; rw [if_neg z]) (by unfold mkP; rw [if_pos e]; exact up_s) (fun _ => f)
      unfold mkV at this
      rw [if_pos e] at this
      exact this
    · rw [if_neg (by simp only [f, if_false]; decide)]
      exact hq2 g3 hg3 y2 (fun z => f (z e))
  · rw [if_neg e]
    have := hq1 g q1 (by unfold mkP; rw [if_neg e]; exact q2) (fun z => absurd z e)
    unfold mkV at this
    rw [if_neg e] at this
    exact this
theorem s_Rnumber (hl : l ≤ 100) (hp : p ≤ l) (e1 : h 149 6 = (l : Int)) (e2 : h 149 11 = (p : Int)) (e6 : ∀ i : Nat, i < l → h 154 i = X i) (hq : ∀ g', aRf h g' → g' 149 11 = (dgE X l (sk X l p) : Int) → g' 149 12 = (if 1 ≤ nvE X l (sk X l p) 0 ∧ nvE X l (sk X l p) 0 ≤ 30 then h 149 12 else flt (h 149 12) (sk X l p)) → Q (aI (nvE X l (sk X l p) 0)) (sT g')) : wp 94 (am_ju 94 0) [aP 149, aX, aX] [] (sT h) Q := by
  have hsl : sk X l p ≤ l := sk_l hl hp
  rw [ju_94_0]
  simp only [r_aLD0, cl_75, r_POP, r_gI, r_iST1, r_iCONST, r_iST2, r_IC3, r_gR, r_iALD, r_iALDs, r_bPUSH, cl_17, r_IF0, r_iLD2, r_IC5, r_GOTO, r_iMUL, r_iADD, r_iSUB, r_DUPI, r_DUPP, r_pI, r_IF1, r_iLD1, cl_77, r_iRET, eq_self, Int.reduceLT, Int.reduceLE, Int.reduceEq, true_or, or_true, and_self, true_and, and_true, w8_0, w8_1, w8_2, w8_3, w8_4, nl_I, nl_P, nl_X, pu_I, pu_J, pu_V, kd_149]
  refine s_look (X := X) hl _ p h rfl hp e1 e2 e6 (fun g q1 q2 => ?_)
  simp only [r_aLD0, cl_75, r_POP, r_gI, r_iST1, r_iCONST, r_iST2, r_IC3, r_gR, r_iALD, r_iALDs, r_bPUSH, cl_17, r_IF0, r_iLD2, r_IC5, r_GOTO, r_iMUL, r_iADD, r_iSUB, r_DUPI, r_DUPP, r_pI, r_IF1, r_iLD1, cl_77, r_iRET, eq_self, Int.reduceLT, Int.reduceLE, Int.reduceEq, true_or, or_true, and_self, true_and, and_true, w8_0, w8_1, w8_2, w8_3, w8_4, nl_I, nl_P, nl_X, pu_I, pu_J, pu_V, kd_149, q2]
  exact lp_Rn (h := h) hl hsl hq e1 e6 _ (sk X l p) 0 g rfl hsl (fun a k z => q1 a k (by omega)) (q1 _ _ (by decide)) q2 (by decide) (by decide) rfl rfl
theorem s_Rpart0 (hf : 0 ≤ h 149 12) : wp 96 (am_ju 96 0) [aP 149, aI c, aI mm] [] (sT h) Q ↔ Q (aI 0) (sT h) := by
  rw [ju_96_0]
  simp only [r_aLD0, r_gI, r_IF3, cl_75, r_iLD1, r_IC0, r_iCONST, r_iRET, r_DUPI, r_DUPP, r_iADD, r_pI, r_iLD2, cl_95, eq_self, Int.reduceLT, Int.reduceLE, Int.reduceEq, true_or, or_true, and_self, true_and, and_true, w8_0, w8_1, w8_2, w8_3, w8_4, nl_I, nl_P, nl_X, pu_I, pu_J, pu_V, kd_149]
  rw [if_pos hf, ju_96_7]
  simp only [r_aLD0, r_gI, r_IF3, cl_75, r_iLD1, r_IC0, r_iCONST, r_iRET, r_DUPI, r_DUPP, r_iADD, r_pI, r_iLD2, cl_95, eq_self, Int.reduceLT, Int.reduceLE, Int.reduceEq, true_or, or_true, and_self, true_and, and_true, w8_0, w8_1, w8_2, w8_3, w8_4, nl_I, nl_P, nl_X, pu_I, pu_J, pu_V]
theorem s_Rpart (hl : l ≤ 100) (hX : ∀ i : Nat, i < l → 32 ≤ X i ∧ X i ≤ 126) (hc : 0 ≤ c) (hp : p ≤ l) (hf : ¬ 0 ≤ h 149 12) (e1 : h 149 6 = (l : Int)) (e2 : h 149 11 = (p : Int)) (e6 : ∀ i : Nat, i < l → h 154 i = X i) (hq1 : ∀ g', aRf h g' → g' 149 11 = (mkP X l c p : Int) → g' 149 12 = h 149 12 → mkO X l c (mm + 1) p → Q (aI (mkV X l c 0 p)) (sT g')) (hq2 : ∀ g', aRf h g' → g' 149 11 = (mkQ X l p : Int) → g' 149 12 = (mkQ X l p : Int) → ¬ mkO X l c (mm + 1) p → Q (aI 0) (sT g')) : wp 96 (am_ju 96 0) [aP 149, aI c, aI mm] [] (sT h) Q := by
  have hsl : sk X l p ≤ l := sk_l hl hp
  rw [ju_96_0]
  simp only [r_aLD0, r_gI, r_IF3, cl_75, r_iLD1, r_IC0, r_iCONST, r_iRET, r_DUPI, r_DUPP, r_iADD, r_pI, r_iLD2, cl_95, eq_self, Int.reduceLT, Int.reduceLE, Int.reduceEq, true_or, or_true, and_self, true_and, and_true, w8_0, w8_1, w8_2, w8_3, w8_4, nl_I, nl_P, nl_X, pu_I, pu_J, pu_V, kd_149]
  rw [if_neg hf]
  refine s_look (X := X) hl _ p h rfl hp e1 e2 e6 (fun g q1 q2 => ?_)
  have q1' : aRf h g := fun a k z => q1 a k (by omega)
  have q12 : g 149 12 = h 149 12 := q1 _ _ (by decide)
  simp only [r_aLD0, r_gI, r_IF3, cl_75, r_iLD1, r_IC0, r_iCONST, r_iRET, r_DUPI, r_DUPP, r_iADD, r_pI, r_iLD2, cl_95, eq_self, Int.reduceLT, Int.reduceLE, Int.reduceEq, true_or, or_true, and_self, true_and, and_true, w8_0, w8_1, w8_2, w8_3, w8_4, nl_I, nl_P, nl_X, pu_I, pu_J, pu_V]
  by_cases e : mkH X l c p
  · have hlt : sk X l p < l := nx_lt (by rw [show nxl X l (sk X l p) = c from e]; exact hc)
    have hw : w3 ((sk X l p : Int) + 1) = ((sk X l p + 1 : Nat) : Int) := w3_id (by omega) (by omega)
    rw [if_pos e, ju_96_9]
    simp only [r_aLD0, r_gI, r_IF3, cl_75, r_iLD1, r_IC0, r_iCONST, r_iRET, r_DUPI, r_DUPP, r_iADD, r_pI, r_iLD2, cl_95, eq_self, Int.reduceLT, Int.reduceLE, Int.reduceEq, true_or, or_true, and_self, true_and, and_true, w8_0, w8_1, w8_2, w8_3, w8_4, nl_I, nl_P, nl_X, pu_I, pu_J, pu_V, kd_149, q2, hw]
    have c1 : aRf h (up g 149 11 ((sk X l p + 1 : Nat) : Int)) := fun a k z => by rw [← q1' a k z]; unfold up; rw [if_neg (by omega)]
    have c2 : up g 149 11 ((sk X l p + 1 : Nat) : Int) 149 11 = ((sk X l p + 1 : Nat) : Int) := up_s
    have c3 : up g 149 11 ((sk X l p + 1 : Nat) : Int) 149 12 = h 149 12 := by rw [up_k (by decide)]; exact q12
    generalize up g 149 11 ((sk X l p + 1 : Nat) : Int) = g2 at c1 c2 c3 ⊢
    rw [ju_95_0]
    simp only [r_aLD0, cl_75, r_bPUSH, r_iSUB, r_iST2, r_iLD2, r_iCONST, r_iLD1, cl_17, r_IF1, r_gI, cl_77, r_iRET, r_DUPI, r_DUPP, r_iADD, r_pI, eq_self, Int.reduceLT, Int.reduceLE, Int.reduceEq, true_or, or_true, and_self, true_and, and_true, w8_0, w8_1, w8_2, w8_3, w8_4, nl_I, nl_P, nl_X, pu_I, pu_J, pu_V, kd_149]
    refine s_look (X := X) hl _ (sk X l p + 1) g2 rfl (by omega) (by rw [c1 _ _ (by decide)]; exact e1) c2 (fun i hi => by rw [c1 _ _ (by omega)]; exact e6 i hi) (fun g3 y1 y2 => ?_)
    have hr := nx_r (l := l) hX (mkQ X l p)
    have hm : sk X l (sk X l p + 1) = mkQ X l p := rfl
    rw [hm] at y2 ⊢
    have hw2 : w3 (nxl X l (mkQ X l p) - 48) = mkD X l p := by rw [w3_id (by omega) (by omega)]; rfl
    have hg3 : aRf h g3 := fun a k z => by rw [y1 a k (by omega), c1 a k z]
    have h312 : g3 149 12 = h 149 12 := by rw [y1 _ _ (by decide)]; exact c3
    simp only [r_aLD0, cl_75, r_bPUSH, r_iSUB, r_iST2, r_iLD2, r_iCONST, r_iLD1, cl_17, r_IF1, r_gI, cl_77, r_iRET, r_DUPI, r_DUPP, r_iADD, r_pI, eq_self, Int.reduceLT, Int.reduceLE, Int.reduceEq, true_or, or_true, and_self, true_and, and_true, w8_0, w8_1, w8_2, w8_3, w8_4, nl_I, nl_P, nl_X, pu_I, pu_J, pu_V, hw2, s_in]
    by_cases f : 0 ≤ mkD X l p ∧ mkD X l p ≤ mm
    · have hQl : mkQ X l p < l := nx_lt (X := X) (by unfold mkD at f; omega)
      have hw3 : w3 ((mkQ X l p : Int) + 1) = ((mkQ X l p + 1 : Nat) : Int) := w3_id (by omega) (by omega)
      rw [if_pos (by simp [f]), ju_95_16]
      simp only [r_aLD0, cl_75, r_bPUSH, r_iSUB, r_iST2, r_iLD2, r_iCONST, r_iLD1, cl_17, r_IF1, r_gI, cl_77, r_iRET, r_DUPI, r_DUPP, r_iADD, r_pI, eq_self, Int.reduceLT, Int.reduceLE, Int.reduceEq, true_or, or_true, and_self, true_and, and_true, w8_0, w8_1, w8_2, w8_3, w8_4, nl_I, nl_P, nl_X, pu_I, pu_J, pu_V, r_aLD0, r_gI, r_IF3, cl_75, r_iLD1, r_IC0, r_iCONST, r_iRET, r_DUPI, r_DUPP, r_iADD, r_pI, r_iLD2, cl_95, eq_self, Int.reduceLT, Int.reduceLE, Int.reduceEq, true_or, or_true, and_self, true_and, and_true, w8_0, w8_1, w8_2, w8_3, w8_4, nl_I, nl_P, nl_X, pu_I, pu_J, pu_V, kd_149, y2, hw3]
      have := hq1 (up g3 149 11 ((mkQ X l p + 1 : Nat) : Int)) (fun a k z => by rw [← hg3 a k z]; unfold up; rw [if_neg (by omega)]) (by unfold mkP; rw [if_pos e]; exact up_s) (by rw [up_k (by decide)]; exact h312) (fun _ => ⟨f.1, by omega⟩)
      unfold mkV at this
      rw [if_pos e] at this
      exact this
    · rw [if_neg (by simp only [f, if_false]; decide)]
      simp only [r_aLD0, cl_75, r_bPUSH, r_iSUB, r_iST2, r_iLD2, r_iCONST, r_iLD1, cl_17, r_IF1, r_gI, cl_77, r_iRET, r_DUPI, r_DUPP, r_iADD, r_pI, eq_self, Int.reduceLT, Int.reduceLE, Int.reduceEq, true_or, or_true, and_self, true_and, and_true, w8_0, w8_1, w8_2, w8_3, w8_4, nl_I, nl_P, nl_X, pu_I, pu_J, pu_V, r_aLD0, r_gI, r_IF3, cl_75, r_iLD1, r_IC0, r_iCONST, r_iRET, r_DUPI, r_DUPP, r_iADD, r_pI, r_iLD2, cl_95, eq_self, Int.reduceLT, Int.reduceLE, Int.reduceEq, true_or, or_true, and_self, true_and, and_true, w8_0, w8_1, w8_2, w8_3, w8_4, nl_I, nl_P, nl_X, pu_I, pu_J, pu_V, kd_149, y2, s_faults]
      rw [h312, if_neg hf]
      refine hq2 _ (fun a k z => by rw [← hg3 a k z]; unfold up; rw [if_neg (by omega)]) (by rw [up_k (by decide)]; exact y2) up_s (fun z => f ⟨(z e).1, by have := (z e).2; omega⟩)
  · rw [if_neg e, ju_96_7]
    simp only [r_aLD0, r_gI, r_IF3, cl_75, r_iLD1, r_IC0, r_iCONST, r_iRET, r_DUPI, r_DUPP, r_iADD, r_pI, r_iLD2, cl_95, eq_self, Int.reduceLT, Int.reduceLE, Int.reduceEq, true_or, or_true, and_self, true_and, and_true, w8_0, w8_1, w8_2, w8_3, w8_4, nl_I, nl_P, nl_X, pu_I, pu_J, pu_V]
    have := hq1 g q1' (by unfold mkP; rw [if_neg e]; exact q2) q12 (fun z => absurd z e)
    unfold mkV at this
    rw [if_neg e] at this
    exact this
end SQ2
