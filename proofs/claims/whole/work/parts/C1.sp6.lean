section SR4
variable {g h h' h1 h2 u : am_F} {Q : am_V → am_S → Prop} {so j bj x y z o c w r t mm df : Int} {n nb L s K nx b m a q B S T i gg l M Z v ch N d p k : Nat} {X : Nat → Int}
theorem s_takes (hl : l ≤ 100) (hc : 0 ≤ c) (hp : p ≤ l) (e1 : h 149 6 = (l : Int)) (e2 : h 149 11 = (p : Int)) (e6 : ∀ i : Nat, i < l → h 154 i = X i) (hq1 : nxl X l (sk X l p) = c → ∀ g', aRf h g' → g' 149 11 = ((sk X l p + 1 : Nat) : Int) → sk X l p + 1 ≤ l → g' 149 12 = h 149 12 → Q aV (sT g')) (hq2 : ¬ nxl X l (sk X l p) = c → ∀ g', aRf h g' → g' 149 11 = (sk X l p : Int) → g' 149 12 = flt (h 149 12) (sk X l p) → Q aV (sT g')) : wp 93 (am_ju 93 0) [aP 149, aI c] [] (sT h) Q := by
  rw [ju_93_0]
  simp only [r_aLD0, cl_75, r_iLD1, r_IC1, r_DUPI, r_DUPP, r_gI, r_iCONST, r_iADD, r_pI, r_GOTO, cl_77, r_vRET, eq_self, Int.reduceLT, Int.reduceLE, Int.reduceEq, true_or, or_true, and_self, true_and, and_true, w8_0, w8_1, w8_2, w8_3, w8_4, nl_I, nl_P, nl_X, pu_I, pu_J, pu_V, kd_149]
  refine s_look (X := X) hl _ p h rfl hp e1 e2 e6 (fun g q1 q2 => ?_)
  have q1' : aRf h g := fun a k z => q1 a k (by omega)
  have q12 : g 149 12 = h 149 12 := q1 _ _ (by decide)
  simp only [r_aLD0, cl_75, r_iLD1, r_IC1, r_DUPI, r_DUPP, r_gI, r_iCONST, r_iADD, r_pI, r_GOTO, cl_77, r_vRET, eq_self, Int.reduceLT, Int.reduceLE, Int.reduceEq, true_or, or_true, and_self, true_and, and_true, w8_0, w8_1, w8_2, w8_3, w8_4, nl_I, nl_P, nl_X, pu_I, pu_J, pu_V]
  by_cases e : nxl X l (sk X l p) = c
  · have hlt : sk X l p < l := nx_lt (X := X) (by rw [e]; exact hc)
    have hw : w3 ((sk X l p : Int) + 1) = ((sk X l p + 1 : Nat) : Int) := w3_id (by omega) (by omega)
    rw [if_neg (by simpa using e)]
    simp only [r_aLD0, cl_75, r_iLD1, r_IC1, r_DUPI, r_DUPP, r_gI, r_iCONST, r_iADD, r_pI, r_GOTO, cl_77, r_vRET, eq_self, Int.reduceLT, Int.reduceLE, Int.reduceEq, true_or, or_true, and_self, true_and, and_true, w8_0, w8_1, w8_2, w8_3, w8_4, nl_I, nl_P, nl_X, pu_I, pu_J, pu_V, kd_149, q2, hw, ju_93_15]
    exact hq1 e _ (fun a k z => by rw [← q1' a k z]; unfold up; rw [if_neg (by omega)]) up_s hlt (by rw [up_k (by decide)]; exact q12)
  · rw [if_pos e, ju_93_11]
    simp only [r_aLD0, cl_75, r_iLD1, r_IC1, r_DUPI, r_DUPP, r_gI, r_iCONST, r_iADD, r_pI, r_GOTO, cl_77, r_vRET, eq_self, Int.reduceLT, Int.reduceLE, Int.reduceEq, true_or, or_true, and_self, true_and, and_true, w8_0, w8_1, w8_2, w8_3, w8_4, nl_I, nl_P, nl_X, pu_I, pu_J, pu_V, kd_149, q2, s_faults, ju_93_15]
    exact hq2 e _ (fun a k z => by rw [← q1' a k z]; unfold up; rw [if_neg (by omega)]) (by rw [up_k (by decide)]; exact q2) (by rw [up_s, q12]; rfl)
theorem s_readsBag (hl : l ≤ 100) (hp : p ≤ l) (e1 : h 149 6 = (l : Int)) (e2 : h 149 11 = (p : Int)) (e6 : ∀ i : Nat, i < l → h 154 i = X i) (h0 : h 152 0 = (nb : Int)) (h3 : nb < 3) (hq1 : 0 ≤ kiW (nxl X l (sk X l p)) → ∀ g', aRf h g' → g' 149 11 = ((sk X l p + 1 : Nat) : Int) → sk X l p + 1 ≤ l → g' 149 12 = h 149 12 → Q aV (sT (rDB g' nb (kiW (nxl X l (sk X l p)))))) (hq2 : ¬ 0 ≤ kiW (nxl X l (sk X l p)) → ∀ g', aRf h g' → g' 149 11 = (sk X l p : Int) → g' 149 12 = flt (h 149 12) (sk X l p) → Q aV (sT g')) : wp 92 (am_ju 92 0) [aP 149, aX] [] (sT h) Q := by
  rw [ju_92_0]
  simp only [r_aLD0, cl_75, cl_91, r_iST1, r_iLD1, r_IF3, r_gI, cl_77, r_vRET, r_DUPI, r_DUPP, r_iCONST, r_iADD, r_pI, r_gR, cl_19, eq_self, Int.reduceLT, Int.reduceLE, Int.reduceEq, true_or, or_true, and_self, true_and, and_true, w8_0, w8_1, w8_2, w8_3, w8_4, nl_I, nl_P, nl_X, pu_I, pu_J, pu_V, kd_149]
  refine s_look (X := X) hl _ p h rfl hp e1 e2 e6 (fun g q1 q2 => ?_)
  have q1' : aRf h g := fun a k z => q1 a k (by omega)
  have q12 : g 149 12 = h 149 12 := q1 _ _ (by decide)
  simp only [r_aLD0, cl_75, cl_91, r_iST1, r_iLD1, r_IF3, r_gI, cl_77, r_vRET, r_DUPI, r_DUPP, r_iCONST, r_iADD, r_pI, r_gR, cl_19, eq_self, Int.reduceLT, Int.reduceLE, Int.reduceEq, true_or, or_true, and_self, true_and, and_true, w8_0, w8_1, w8_2, w8_3, w8_4, nl_I, nl_P, nl_X, pu_I, pu_J, pu_V, s_RkindOf]
  by_cases e : 0 ≤ kiW (nxl X l (sk X l p))
  · have hlt : sk X l p < l := by
      by_cases z : sk X l p < l
      · exact z
      · unfold nxl at e; rw [if_neg z] at e; exact absurd e (by decide)
    have hw : w3 ((sk X l p : Int) + 1) = ((sk X l p + 1 : Nat) : Int) := w3_id (by omega) (by omega)
    have c0 : up g 149 11 ((sk X l p + 1 : Nat) : Int) 152 0 = (nb : Int) := by rw [up_ne (by decide), q1 _ _ (by decide)]; exact h0
    rw [if_pos e, ju_92_11]
    simp only [r_aLD0, cl_75, cl_91, r_iST1, r_iLD1, r_IF3, r_gI, cl_77, r_vRET, r_DUPI, r_DUPP, r_iCONST, r_iADD, r_pI, r_gR, cl_19, eq_self, Int.reduceLT, Int.reduceLE, Int.reduceEq, true_or, or_true, and_self, true_and, and_true, w8_0, w8_1, w8_2, w8_3, w8_4, nl_I, nl_P, nl_X, pu_I, pu_J, pu_V, kd_149, rR_149_2, q2, hw, s_RdBag c0 h3]
    exact hq1 e _ (fun a k z => by rw [← q1' a k z]; unfold up; rw [if_neg (by omega)]) up_s hlt (by rw [up_k (by decide)]; exact q12)
  · rw [if_neg e]
    simp only [r_aLD0, cl_75, cl_91, r_iST1, r_iLD1, r_IF3, r_gI, cl_77, r_vRET, r_DUPI, r_DUPP, r_iCONST, r_iADD, r_pI, r_gR, cl_19, eq_self, Int.reduceLT, Int.reduceLE, Int.reduceEq, true_or, or_true, and_self, true_and, and_true, w8_0, w8_1, w8_2, w8_3, w8_4, nl_I, nl_P, nl_X, pu_I, pu_J, pu_V, kd_149, q2, s_faults]
    exact hq2 e _ (fun a k z => by rw [← q1' a k z]; unfold up; rw [if_neg (by omega)]) (by rw [up_k (by decide)]; exact q2) (by rw [up_s, q12]; rfl)
end SR4
