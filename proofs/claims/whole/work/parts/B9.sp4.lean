section SR2
variable {g h h' h1 h2 u : am_F} {Q : am_V → am_S → Prop} {so j bj x y z o c w r t mm df : Int} {n nb L s K nx b m a q B S T i gg l M Z v ch N d p k : Nat} {X : Nat → Int}
def bT (h g : am_F) : Prop := ∀ a k, ¬ (a = 59 ∧ k = 2) → ¬ (a = 63 ∧ k = 6) → a ≠ 64 → g a k = h a k
theorem lp_Tbags (hl : l ≤ 100) (e1 : h 59 1 = (l : Int)) (e6 : ∀ i : Nat, i < l → h 60 i = X i) {R : Bool × Nat × Nat} (hq : ∀ g, bT h g → g 59 2 = (R.2.2 : Int) → R.2.2 ≤ l → g 63 6 = (R.2.1 : Int) → R.2.1 ≤ 3 → (∀ j : Nat, j < R.2.1 → g 64 j = kiW (nxl X l (bq X l j)) ∧ 0 ≤ g 64 j) → Q (aI (if R.1 = true then 1 else 0)) (sT g)) : ∀ (f k p : Nat) (v3 v4 : am_V) (g : am_F), k + f = 3 → 0 < f → bT h g → am_nl v3 = true → am_nl v4 = true → g 59 2 = (p : Int) → p ≤ l → sk X l p = bq X l k → g 63 6 = (k : Int) → (∀ j : Nat, j < k → g 64 j = kiW (nxl X l (bq X l j)) ∧ 0 ≤ g 64 j) → bgF X l f k = R → wp 81 (am_ju 81 2) [aP 59, aP 63, aI (k : Int), v3, v4] [] (sT g) Q := by
  intro f
  induction f with
  | zero => intro k p v3 v4 g hk hf; exact absurd hf (by decide)
  | succ f ih =>
    intro k p v3 v4 g hk hf hg n3 n4 h2 hp hsk h63 h64 hR
    have hbl : bq X l k ≤ l := by rw [← hsk]; exact sk_l hl hp
    have hw : w3 ((k : Int) + 1) = ((k + 1 : Nat) : Int) := w3_id (by omega) (by omega)
    rw [bgF] at hR
    rw [ju_81_2]
    simp only [r_iCONST, r_iST2, r_iLD2, r_IC3, r_aLD0, cl_67, cl_80, r_iST3, r_iLD3, r_IF3, r_zRET, r_aLD1, cl_14, r_DUPI, r_DUPP, r_gI, r_iADD, r_pI, r_iST4, r_iLD4, r_bPUSH, r_IC1, r_IINC2, r_GOTO, eq_self, Int.reduceLT, Int.reduceLE, Int.reduceEq, true_or, or_true, and_self, true_and, and_true, w8_0, w8_1, w8_2, w8_3, w8_4, nl_I, nl_P, nl_X, pu_I, pu_J, pu_V, kd_59]
    rw [if_neg (by omega)]
    refine s_tnext (X := X) hl _ p g rfl hp (by rw [hg _ _ (by decide) (by decide) (by decide)]; exact e1) h2 (fun i hi => by rw [hg _ _ (by omega) (by omega) (by decide)]; exact e6 i hi) (fun g2 q1 q2 => ?_)
    rw [hsk] at q2 ⊢
    have hg2 : bT h g2 := fun a k z1 z2 z3 => by rw [q1 a k z1, hg a k z1 z2 z3]
    have h63' : g2 63 6 = (k : Int) := by rw [q1 _ _ (by decide)]; exact h63
    have h64' : ∀ j : Nat, j < k → g2 64 j = kiW (nxl X l (bq X l j)) ∧ 0 ≤ g2 64 j := fun j hj => by rw [q1 _ _ (by omega)]; exact h64 j hj
    simp (disch := first | assumption | omega | decide | exact nl_I _) only [r_iCONST, r_iST2, r_iLD2, r_IC3, r_aLD0, cl_67, cl_80, r_iST3, r_iLD3, r_IF3, r_zRET, r_aLD1, cl_14, r_DUPI, r_DUPP, r_gI, r_iADD, r_pI, r_iST4, r_iLD4, r_bPUSH, r_IC1, r_IINC2, r_GOTO, eq_self, Int.reduceLT, Int.reduceLE, Int.reduceEq, true_or, or_true, and_self, true_and, and_true, w8_0, w8_1, w8_2, w8_3, w8_4, nl_I, nl_P, nl_X, pu_I, pu_J, pu_V, s_TkindOf]
    by_cases e : 0 ≤ kiW (nxl X l (bq X l k))
    · have hlt : bq X l k < l := by
        by_cases z : bq X l k < l
        · exact z
        · unfold nxl at e; rw [if_neg z] at e; exact absurd e (by decide)
      rw [if_pos e] at hR
      rw [if_pos e, ju_81_13]
      simp only [r_iCONST, r_iST2, r_iLD2, r_IC3, r_aLD0, cl_67, cl_80, r_iST3, r_iLD3, r_IF3, r_zRET, r_aLD1, cl_14, r_DUPI, r_DUPP, r_gI, r_iADD, r_pI, r_iST4, r_iLD4, r_bPUSH, r_IC1, r_IINC2, r_GOTO, eq_self, Int.reduceLT, Int.reduceLE, Int.reduceEq, true_or, or_true, and_self, true_and, and_true, w8_0, w8_1, w8_2, w8_3, w8_4, nl_I, nl_P, nl_X, pu_I, pu_J, pu_V, kd_63, s_rgBag h63' (show k < 3 by omega)]
      have c59 : up (up g2 64 (k : Int) (kiW (nxl X l (bq X l k)))) 63 6 ((k : Int) + 1) 59 2 = (bq X l k : Int) := by rw [up_ne (by decide), up_ne (by decide)]; exact q2
      have hw2 : w3 ((bq X l k : Int) + 1) = ((bq X l k + 1 : Nat) : Int) := w3_id (by omega) (by omega)
      simp only [r_iCONST, r_iST2, r_iLD2, r_IC3, r_aLD0, cl_67, cl_80, r_iST3, r_iLD3, r_IF3, r_zRET, r_aLD1, cl_14, r_DUPI, r_DUPP, r_gI, r_iADD, r_pI, r_iST4, r_iLD4, r_bPUSH, r_IC1, r_IINC2, r_GOTO, eq_self, Int.reduceLT, Int.reduceLE, Int.reduceEq, true_or, or_true, and_self, true_and, and_true, w8_0, w8_1, w8_2, w8_3, w8_4, nl_I, nl_P, nl_X, pu_I, pu_J, pu_V, kd_59, c59, hw2]
      have c1 : bT h (up (up (up g2 64 (k : Int) (kiW (nxl X l (bq X l k)))) 63 6 ((k : Int) + 1)) 59 2 ((bq X l k + 1 : Nat) : Int)) := fun a k' z1 z2 z3 => by
        rw [← hg2 a k' z1 z2 z3]
        unfold up
        rw [if_neg z1, if_neg z2, if_neg (fun q => z3 q.1)]
      have c2 : up (up (up g2 64 (k : Int) (kiW (nxl X l (bq X l k)))) 63 6 ((k : Int) + 1)) 59 2 ((bq X l k + 1 : Nat) : Int) 59 2 = ((bq X l k + 1 : Nat) : Int) := up_s
      have c3 : up (up (up g2 64 (k : Int) (kiW (nxl X l (bq X l k)))) 63 6 ((k : Int) + 1)) 59 2 ((bq X l k + 1 : Nat) : Int) 63 6 = ((k + 1 : Nat) : Int) := by rw [up_ne (by decide)]; exact up_s
      have c4 : ∀ j : Nat, j < k + 1 → up (up (up g2 64 (k : Int) (kiW (nxl X l (bq X l k)))) 63 6 ((k : Int) + 1)) 59 2 ((bq X l k + 1 : Nat) : Int) 64 j = kiW (nxl X l (bq X l j)) ∧ 0 ≤ up (up (up g2 64 (k : Int) (kiW (nxl X l (bq X l k)))) 63 6 ((k : Int) + 1)) 59 2 ((bq X l k + 1 : Nat) : Int) 64 j := fun j hj => by
        rw [up_ne (by decide), up_ne (by decide)]
        by_cases z : j = k
        · subst z; rw [up_s]; exact ⟨rfl, e⟩
        · rw [up_k (by omega)]; exact h64' j (by omega)
      generalize up (up (up g2 64 (k : Int) (kiW (nxl X l (bq X l k)))) 63 6 ((k : Int) + 1)) 59 2 ((bq X l k + 1 : Nat) : Int) = g3 at c1 c2 c3 c4 ⊢
      refine s_tnext (X := X) hl _ (bq X l k + 1) g3 rfl (by omega) (by rw [c1 _ _ (by decide) (by decide) (by decide)]; exact e1) c2 (fun i hi => by rw [c1 _ _ (by omega) (by omega) (by decide)]; exact e6 i hi) (fun g4 y1 y2 => ?_)
      have hb : sk X l (bq X l k + 1) = bsp X l k := rfl
      rw [hb] at y2 ⊢
      have hbs : bsp X l k ≤ l := by rw [← hb]; exact sk_l hl (by omega)
      have hg4 : bT h g4 := fun a k z1 z2 z3 => by rw [y1 a k z1, c1 a k z1 z2 z3]
      have d63 : g4 63 6 = ((k + 1 : Nat) : Int) := by rw [y1 _ _ (by decide)]; exact c3
      have d64 : ∀ j : Nat, j < k + 1 → g4 64 j = kiW (nxl X l (bq X l j)) ∧ 0 ≤ g4 64 j := fun j hj => by rw [y1 _ _ (by omega)]; exact c4 j hj
      have hw3 : w3 ((bsp X l k : Int) + 1) = ((bsp X l k + 1 : Nat) : Int) := w3_id (by omega) (by omega)
      have stp : ∀ v, bT h (up g4 59 2 v) := fun v a k z1 z2 z3 => by rw [← hg4 a k z1 z2 z3]; unfold up; rw [if_neg z1]
      simp (disch := first | assumption | omega | decide | exact nl_I _) only [r_iCONST, r_iST2, r_iLD2, r_IC3, r_aLD0, cl_67, cl_80, r_iST3, r_iLD3, r_IF3, r_zRET, r_aLD1, cl_14, r_DUPI, r_DUPP, r_gI, r_iADD, r_pI, r_iST4, r_iLD4, r_bPUSH, r_IC1, r_IINC2, r_GOTO, eq_self, Int.reduceLT, Int.reduceLE, Int.reduceEq, true_or, or_true, and_self, true_and, and_true, w8_0, w8_1, w8_2, w8_3, w8_4, nl_I, nl_P, nl_X, pu_I, pu_J, pu_V]
      by_cases f1 : nxl X l (bsp X l k) = 59
      · have hlb : bsp X l k < l := nx_lt (X := X) (by rw [f1]; decide)
        rw [if_pos f1] at hR
        rw [if_neg (by simpa using f1)]
        simp only [r_iCONST, r_iST2, r_iLD2, r_IC3, r_aLD0, cl_67, cl_80, r_iST3, r_iLD3, r_IF3, r_zRET, r_aLD1, cl_14, r_DUPI, r_DUPP, r_gI, r_iADD, r_pI, r_iST4, r_iLD4, r_bPUSH, r_IC1, r_IINC2, r_GOTO, eq_self, Int.reduceLT, Int.reduceLE, Int.reduceEq, true_or, or_true, and_self, true_and, and_true, w8_0, w8_1, w8_2, w8_3, w8_4, nl_I, nl_P, nl_X, pu_I, pu_J, pu_V, kd_59, y2, hw3, r_zRET1]
        have := hq _ (stp _) (by rw [← hR]; exact up_s) (by rw [← hR]; exact hlb) (by rw [← hR, up_ne (by decide)]; exact d63) (by rw [← hR]; show k + 1 ≤ 3; omega) (by rw [← hR]; intro j hj; rw [up_ne (by decide)]; exact d64 j hj)
        rw [← hR] at this
        exact this
      · rw [if_neg f1] at hR
        rw [if_pos f1, ju_81_36]
        simp only [r_iCONST, r_iST2, r_iLD2, r_IC3, r_aLD0, cl_67, cl_80, r_iST3, r_iLD3, r_IF3, r_zRET, r_aLD1, cl_14, r_DUPI, r_DUPP, r_gI, r_iADD, r_pI, r_iST4, r_iLD4, r_bPUSH, r_IC1, r_IINC2, r_GOTO, eq_self, Int.reduceLT, Int.reduceLE, Int.reduceEq, true_or, or_true, and_self, true_and, and_true, w8_0, w8_1, w8_2, w8_3, w8_4, nl_I, nl_P, nl_X, pu_I, pu_J, pu_V]
        by_cases f2 : nxl X l (bsp X l k) = 44
        · have hlb : bsp X l k < l := nx_lt (X := X) (by rw [f2]; decide)
          by_cases f3 : k = 2
          · rw [if_neg (fun q => q.2 f3)] at hR
            rw [if_neg (by simpa using f2), if_neg (by omega), ju_81_42]
            simp only [r_iCONST, r_iST2, r_iLD2, r_IC3, r_aLD0, cl_67, cl_80, r_iST3, r_iLD3, r_IF3, r_zRET, r_aLD1, cl_14, r_DUPI, r_DUPP, r_gI, r_iADD, r_pI, r_iST4, r_iLD4, r_bPUSH, r_IC1, r_IINC2, r_GOTO, eq_self, Int.reduceLT, Int.reduceLE, Int.reduceEq, true_or, or_true, and_self, true_and, and_true, w8_0, w8_1, w8_2, w8_3, w8_4, nl_I, nl_P, nl_X, pu_I, pu_J, pu_V, r_zRET0]
            have := hq g4 hg4 (by rw [← hR]; exact y2) (by rw [← hR]; exact hbs) (by rw [← hR]; exact d63) (by rw [← hR]; show k + 1 ≤ 3; omega) (by rw [← hR]; exact d64)
            rw [← hR] at this
            exact this
          · rw [if_pos ⟨f2, f3⟩] at hR
            rw [if_neg (by simpa using f2), if_pos (by omega), ju_81_44]
            simp only [r_iCONST, r_iST2, r_iLD2, r_IC3, r_aLD0, cl_67, cl_80, r_iST3, r_iLD3, r_IF3, r_zRET, r_aLD1, cl_14, r_DUPI, r_DUPP, r_gI, r_iADD, r_pI, r_iST4, r_iLD4, r_bPUSH, r_IC1, r_IINC2, r_GOTO, eq_self, Int.reduceLT, Int.reduceLE, Int.reduceEq, true_or, or_true, and_self, true_and, and_true, w8_0, w8_1, w8_2, w8_3, w8_4, nl_I, nl_P, nl_X, pu_I, pu_J, pu_V, kd_59, y2, hw3, hw]
            exact ih (k + 1) (bsp X l k + 1) _ _ _ (by omega) (by omega) (stp _) rfl rfl up_s hlb rfl (by rw [up_ne (by decide)]; exact d63) (fun j hj => by rw [up_ne (by decide)]; exact d64 j hj) hR
        · rw [if_neg (fun q => f2 q.1)] at hR
          rw [if_pos f2, ju_81_42]
          simp only [r_iCONST, r_iST2, r_iLD2, r_IC3, r_aLD0, cl_67, cl_80, r_iST3, r_iLD3, r_IF3, r_zRET, r_aLD1, cl_14, r_DUPI, r_DUPP, r_gI, r_iADD, r_pI, r_iST4, r_iLD4, r_bPUSH, r_IC1, r_IINC2, r_GOTO, eq_self, Int.reduceLT, Int.reduceLE, Int.reduceEq, true_or, or_true, and_self, true_and, and_true, w8_0, w8_1, w8_2, w8_3, w8_4, nl_I, nl_P, nl_X, pu_I, pu_J, pu_V, r_zRET0]
          have := hq g4 hg4 (by rw [← hR]; exact y2) (by rw [← hR]; exact hbs) (by rw [← hR]; exact d63) (by rw [← hR]; show k + 1 ≤ 3; omega) (by rw [← hR]; exact d64)
          rw [← hR] at this
          exact this
    · rw [if_neg e] at hR
      rw [if_neg e]
      have := hq g2 hg2 (by rw [← hR]; exact q2) (by rw [← hR]; exact hbl) (by rw [← hR]; exact h63') (by rw [← hR]; show k ≤ 3; omega) (by rw [← hR]; exact h64')
      rw [← hR] at this
      exact this
end SR2
