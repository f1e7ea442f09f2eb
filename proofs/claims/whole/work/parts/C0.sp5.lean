/-! shop: a thing -/
def tp1 (X : Nat → Int) (l p : Nat) : Nat := dgE X l (sk X l p)
def tp2 (X : Nat → Int) (l p : Nat) : Nat := mkP X l 119 (tp1 X l p)
def tp3 (X : Nat → Int) (l p : Nat) : Nat := mkP X l 101 (tp2 X l p)
def tro (X : Nat → Int) (l p : Nat) : Nat := if nxl X l (sk X l (tp3 X l p)) = 114 then 1 else 0
def tp4 (X : Nat → Int) (l p : Nat) : Nat := sk X l (tp3 X l p) + tro X l p
def tp5 (X : Nat → Int) (l p : Nat) : Nat := mkP X l 64 (tp4 X l p)
abbrev tO0 (X : Nat → Int) (l p : Nat) : Prop := 1 ≤ nvE X l (sk X l p) 0 ∧ nvE X l (sk X l p) 0 ≤ 30
abbrev tO1 (X : Nat → Int) (l p : Nat) : Prop := mkO X l 119 6 (tp1 X l p)
abbrev tO2 (X : Nat → Int) (l p : Nat) : Prop := mkO X l 101 6 (tp2 X l p)
abbrev tO3 (X : Nat → Int) (l nb p : Nat) : Prop := mkO X l 64 (nb : Int) (tp4 X l p)
abbrev tOK (X : Nat → Int) (l nb p : Nat) : Prop := tO0 X l p ∧ tO1 X l p ∧ tO2 X l p ∧ tO3 X l nb p
/-- the place of the fault -/
def tFl (X : Nat → Int) (l p : Nat) : Nat := if ¬ tO0 X l p then sk X l p else if ¬ tO1 X l p then mkQ X l (tp1 X l p) else if ¬ tO2 X l p then mkQ X l (tp2 X l p) else mkQ X l (tp4 X l p)
section SR3
variable {g h h' h1 h2 u : am_F} {Q : am_V → am_S → Prop} {so j bj x y z o c w r t mm df : Int} {n nb L s K nx b m a q B S T i gg l M Z v ch N d p k : Nat} {X : Nat → Int}
theorem aTt_t (a1 : aTt h h1) (a2 : aTt h1 h2) : aTt h h2 := fun a k z => by rw [a2 a k z, a1 a k z]
theorem s_TreadThing (hl : l ≤ 100) (hX : ∀ i : Nat, i < l → 32 ≤ X i ∧ X i ≤ 126) (hp : p ≤ l) (e1 : h 59 1 = (l : Int)) (e2 : h 59 2 = (p : Int)) (e6 : ∀ i : Nat, i < l → h 60 i = X i) (h6 : h 63 6 = (nb : Int)) (h7 : h 63 7 = (n : Int)) (hn : n < 8) (hq1 : tOK X l nb p → tp5 X l p ≤ l → ∀ g', aTt h g' → g' 59 2 = (tp5 X l p : Int) → Q (aI (mkV X l 64 3 (tp4 X l p))) (sT (rgT g' n (nvE X l (sk X l p) 0) (mkV X l 119 0 (tp1 X l p)) (mkV X l 101 0 (tp2 X l p)) (nvE X l (sk X l p) 0) (tro X l p)))) (hq2 : ¬ tOK X l nb p → ∀ g', aTt h g' → g' 59 2 = (tFl X l p : Int) → Q (aI (-1)) (sT g')) : wp 84 (am_ju 84 0) [aP 59, aP 63, aX, aX, aX, aX, aX] [] (sT h) Q := by
  have hs := sk_l (X := X) hl hp
  have l1 : tp1 X l p ≤ l := (dgE_l hs).2
  rw [ju_84_0]
  simp only [r_aLD0, cl_82, r_iST2, r_iLD2, r_IF3, r_iCONST, r_iRET, r_bPUSH, cl_83, r_iST3, r_iLD3, r_iST4, r_iLD4, cl_67, r_IC1, r_GOTO, r_iST5, r_DUPI, r_DUPP, r_gI, r_iLD5, r_iADD, r_pI, r_aLD1, r_iST6, r_iLD6, cl_22, eq_self, Int.reduceLT, Int.reduceLE, Int.reduceEq, true_or, or_true, and_self, true_and, and_true, w8_0, w8_1, w8_2, w8_3, w8_4, nl_I, nl_P, nl_X, pu_I, pu_J, pu_V, kd_59]
  refine s_Tweight (X := X) hl hp e1 e2 e6 (fun g a1 a2 a3 a4 => ?_) (fun g a1 a2 a3 => ?_)
  · have o0 : tO0 X l p := ⟨a3, a4⟩
    simp only [r_aLD0, cl_82, r_iST2, r_iLD2, r_IF3, r_iCONST, r_iRET, r_bPUSH, cl_83, r_iST3, r_iLD3, r_iST4, r_iLD4, cl_67, r_IC1, r_GOTO, r_iST5, r_DUPI, r_DUPP, r_gI, r_iLD5, r_iADD, r_pI, r_aLD1, r_iST6, r_iLD6, cl_22, eq_self, Int.reduceLT, Int.reduceLE, Int.reduceEq, true_or, or_true, and_self, true_and, and_true, w8_0, w8_1, w8_2, w8_3, w8_4, nl_I, nl_P, nl_X, pu_I, pu_J, pu_V]
    rw [if_pos (by omega), ju_84_7]
    simp only [r_aLD0, cl_82, r_iST2, r_iLD2, r_IF3, r_iCONST, r_iRET, r_bPUSH, cl_83, r_iST3, r_iLD3, r_iST4, r_iLD4, cl_67, r_IC1, r_GOTO, r_iST5, r_DUPI, r_DUPP, r_gI, r_iLD5, r_iADD, r_pI, r_aLD1, r_iST6, r_iLD6, cl_22, eq_self, Int.reduceLT, Int.reduceLE, Int.reduceEq, true_or, or_true, and_self, true_and, and_true, w8_0, w8_1, w8_2, w8_3, w8_4, nl_I, nl_P, nl_X, pu_I, pu_J, pu_V, kd_59]
    refine s_Tmarked (X := X) (p := tp1 X l p) hl hX (by decide) l1 (by rw [a1 _ _ (by decide)]; exact e1) a2 (fun i hi => by rw [a1 _ _ (by omega)]; exact e6 i hi) (fun g2 b1 b2 b3 => ?_) (fun g2 b1 b2 b3 => ?_)
    · have o1 : tO1 X l p := b3
      have l2 : tp2 X l p ≤ l := mkP_l hl (by decide) l1 b3
      have b1' := aTt_t a1 b1
      have v1 : 0 ≤ mkV X l 119 0 (tp1 X l p) := by
        unfold mkV
        split
        · next e => exact (b3 e).1
        · decide
      simp only [r_aLD0, cl_82, r_iST2, r_iLD2, r_IF3, r_iCONST, r_iRET, r_bPUSH, cl_83, r_iST3, r_iLD3, r_iST4, r_iLD4, cl_67, r_IC1, r_GOTO, r_iST5, r_DUPI, r_DUPP, r_gI, r_iLD5, r_iADD, r_pI, r_aLD1, r_iST6, r_iLD6, cl_22, eq_self, Int.reduceLT, Int.reduceLE, Int.reduceEq, true_or, or_true, and_self, true_and, and_true, w8_0, w8_1, w8_2, w8_3, w8_4, nl_I, nl_P, nl_X, pu_I, pu_J, pu_V]
      rw [if_pos v1, ju_84_17]
      simp only [r_aLD0, cl_82, r_iST2, r_iLD2, r_IF3, r_iCONST, r_iRET, r_bPUSH, cl_83, r_iST3, r_iLD3, r_iST4, r_iLD4, cl_67, r_IC1, r_GOTO, r_iST5, r_DUPI, r_DUPP, r_gI, r_iLD5, r_iADD, r_pI, r_aLD1, r_iST6, r_iLD6, cl_22, eq_self, Int.reduceLT, Int.reduceLE, Int.reduceEq, true_or, or_true, and_self, true_and, and_true, w8_0, w8_1, w8_2, w8_3, w8_4, nl_I, nl_P, nl_X, pu_I, pu_J, pu_V, kd_59]
      refine s_Tmarked (X := X) (p := tp2 X l p) hl hX (by decide) l2 (by rw [b1' _ _ (by decide)]; exact e1) b2 (fun i hi => by rw [b1' _ _ (by omega)]; exact e6 i hi) (fun g3 c1 c2 c3 => ?_) (fun g3 c1 c2 c3 => ?_)
      · have o2 : tO2 X l p := c3
        have l3 : tp3 X l p ≤ l := mkP_l hl (by decide) l2 c3
        have c1' := aTt_t b1' c1
        have v2 : 0 ≤ mkV X l 101 0 (tp2 X l p) := by
          unfold mkV
          split
          · next e => exact (c3 e).1
          · decide
        simp only [r_aLD0, cl_82, r_iST2, r_iLD2, r_IF3, r_iCONST, r_iRET, r_bPUSH, cl_83, r_iST3, r_iLD3, r_iST4, r_iLD4, cl_67, r_IC1, r_GOTO, r_iST5, r_DUPI, r_DUPP, r_gI, r_iLD5, r_iADD, r_pI, r_aLD1, r_iST6, r_iLD6, cl_22, eq_self, Int.reduceLT, Int.reduceLE, Int.reduceEq, true_or, or_true, and_self, true_and, and_true, w8_0, w8_1, w8_2, w8_3, w8_4, nl_I, nl_P, nl_X, pu_I, pu_J, pu_V]
        rw [if_pos v2, ju_84_27]
        simp only [r_aLD0, cl_82, r_iST2, r_iLD2, r_IF3, r_iCONST, r_iRET, r_bPUSH, cl_83, r_iST3, r_iLD3, r_iST4, r_iLD4, cl_67, r_IC1, r_GOTO, r_iST5, r_DUPI, r_DUPP, r_gI, r_iLD5, r_iADD, r_pI, r_aLD1, r_iST6, r_iLD6, cl_22, eq_self, Int.reduceLT, Int.reduceLE, Int.reduceEq, true_or, or_true, and_self, true_and, and_true, w8_0, w8_1, w8_2, w8_3, w8_4, nl_I, nl_P, nl_X, pu_I, pu_J, pu_V, kd_59]
        refine s_tnext (X := X) hl _ (tp3 X l p) g3 rfl l3 (by rw [c1' _ _ (by decide)]; exact e1) c2 (fun i hi => by rw [c1' _ _ (by omega)]; exact e6 i hi) (fun g4 d1 d2 => ?_)
        have d1' := aTt_t c1' d1
        have lq := sk_l (X := X) hl l3
        have l4 : tp4 X l p ≤ l := by
          unfold tp4 tro
          split
          · next e => exact nx_lt (X := X) (by rw [e]; decide)
          · exact lq
        have key : wp 84 (am_ju 84 34) [aP 59, aP 63, aI (nvE X l (sk X l p) 0), aI (mkV X l 119 0 (tp1 X l p)), aI (mkV X l 101 0 (tp2 X l p)), aX, aX] [aI (tro X l p : Int)] (sT g4) Q := by
          have hw : w3 ((sk X l (tp3 X l p) : Int) + (tro X l p : Int)) = (tp4 X l p : Int) := by rw [w3_id (by omega) (by unfold tro; split <;> omega)]; rfl
          have f1 : aTt h (up g4 59 2 (tp4 X l p : Int)) := fun a k z => by rw [← d1' a k z]; unfold up; rw [if_neg z]
          have f2 : up g4 59 2 (tp4 X l p : Int) 59 2 = (tp4 X l p : Int) := up_s
          rw [ju_84_34]
          simp only [r_aLD0, cl_82, r_iST2, r_iLD2, r_IF3, r_iCONST, r_iRET, r_bPUSH, cl_83, r_iST3, r_iLD3, r_iST4, r_iLD4, cl_67, r_IC1, r_GOTO, r_iST5, r_DUPI, r_DUPP, r_gI, r_iLD5, r_iADD, r_pI, r_aLD1, r_iST6, r_iLD6, cl_22, eq_self, Int.reduceLT, Int.reduceLE, Int.reduceEq, true_or, or_true, and_self, true_and, and_true, w8_0, w8_1, w8_2, w8_3, w8_4, nl_I, nl_P, nl_X, pu_I, pu_J, pu_V, kd_59, kd_63, d2, hw]
          generalize up g4 59 2 (tp4 X l p : Int) = g5 at f1 f2 ⊢
          have f6 : g5 63 6 = (nb : Int) := by rw [f1 _ _ (by decide)]; exact h6
          simp only [f6]
          refine s_Tmarked (X := X) (p := tp4 X l p) hl hX (by decide) l4 (by rw [f1 _ _ (by decide)]; exact e1) f2 (fun i hi => by rw [f1 _ _ (by omega)]; exact e6 i hi) (fun g6 y1 y2 y3 => ?_) (fun g6 y1 y2 y3 => ?_)
          · have y1' := aTt_t f1 y1
            have v3 : 0 ≤ mkV X l 64 3 (tp4 X l p) := by
              unfold mkV
              split
              · next e => exact (y3 e).1
              · decide
            have g7 : g6 63 7 = (n : Int) := by rw [y1' _ _ (by decide)]; exact h7
            simp only [r_aLD0, cl_82, r_iST2, r_iLD2, r_IF3, r_iCONST, r_iRET, r_bPUSH, cl_83, r_iST3, r_iLD3, r_iST4, r_iLD4, cl_67, r_IC1, r_GOTO, r_iST5, r_DUPI, r_DUPP, r_gI, r_iLD5, r_iADD, r_pI, r_aLD1, r_iST6, r_iLD6, cl_22, eq_self, Int.reduceLT, Int.reduceLE, Int.reduceEq, true_or, or_true, and_self, true_and, and_true, w8_0, w8_1, w8_2, w8_3, w8_4, nl_I, nl_P, nl_X, pu_I, pu_J, pu_V]
            rw [if_pos v3, ju_84_52]
            simp only [r_aLD0, cl_82, r_iST2, r_iLD2, r_IF3, r_iCONST, r_iRET, r_bPUSH, cl_83, r_iST3, r_iLD3, r_iST4, r_iLD4, cl_67, r_IC1, r_GOTO, r_iST5, r_DUPI, r_DUPP, r_gI, r_iLD5, r_iADD, r_pI, r_aLD1, r_iST6, r_iLD6, cl_22, eq_self, Int.reduceLT, Int.reduceLE, Int.reduceEq, true_or, or_true, and_self, true_and, and_true, w8_0, w8_1, w8_2, w8_3, w8_4, nl_I, nl_P, nl_X, pu_I, pu_J, pu_V, kd_63, s_rgThing g7 hn]
            exact hq1 ⟨o0, o1, o2, y3⟩ (mkP_l hl (by decide) l4 y3) g6 y1' y2
          · simp only [r_aLD0, cl_82, r_iST2, r_iLD2, r_IF3, r_iCONST, r_iRET, r_bPUSH, cl_83, r_iST3, r_iLD3, r_iST4, r_iLD4, cl_67, r_IC1, r_GOTO, r_iST5, r_DUPI, r_DUPP, r_gI, r_iLD5, r_iADD, r_pI, r_aLD1, r_iST6, r_iLD6, cl_22, eq_self, Int.reduceLT, Int.reduceLE, Int.reduceEq, true_or, or_true, and_self, true_and, and_true, w8_0, w8_1, w8_2, w8_3, w8_4, nl_I, nl_P, nl_X, pu_I, pu_J, pu_V]
            rw [if_neg (by decide)]
            exact hq2 (fun z => y3 z.2.2.2) g6 (aTt_t f1 y1) (by unfold tFl; rw [if_neg (fun z => z o0), if_neg (fun z => z o1), if_neg (fun z => z o2)]; exact y2)
        simp only [r_aLD0, cl_82, r_iST2, r_iLD2, r_IF3, r_iCONST, r_iRET, r_bPUSH, cl_83, r_iST3, r_iLD3, r_iST4, r_iLD4, cl_67, r_IC1, r_GOTO, r_iST5, r_DUPI, r_DUPP, r_gI, r_iLD5, r_iADD, r_pI, r_aLD1, r_iST6, r_iLD6, cl_22, eq_self, Int.reduceLT, Int.reduceLE, Int.reduceEq, true_or, or_true, and_self, true_and, and_true, w8_0, w8_1, w8_2, w8_3, w8_4, nl_I, nl_P, nl_X, pu_I, pu_J, pu_V]
        by_cases e : nxl X l (sk X l (tp3 X l p)) = 114
        · have : tro X l p = 1 := by unfold tro; rw [if_pos e]
          rw [this] at key
          rw [if_neg (by simpa using e)]
          exact key
        · have : tro X l p = 0 := by unfold tro; rw [if_neg e]
          rw [this] at key
          rw [if_pos e, ju_84_33]
          simp only [r_aLD0, cl_82, r_iST2, r_iLD2, r_IF3, r_iCONST, r_iRET, r_bPUSH, cl_83, r_iST3, r_iLD3, r_iST4, r_iLD4, cl_67, r_IC1, r_GOTO, r_iST5, r_DUPI, r_DUPP, r_gI, r_iLD5, r_iADD, r_pI, r_aLD1, r_iST6, r_iLD6, cl_22, eq_self, Int.reduceLT, Int.reduceLE, Int.reduceEq, true_or, or_true, and_self, true_and, and_true, w8_0, w8_1, w8_2, w8_3, w8_4, nl_I, nl_P, nl_X, pu_I, pu_J, pu_V]
          exact key
      · simp only [r_aLD0, cl_82, r_iST2, r_iLD2, r_IF3, r_iCONST, r_iRET, r_bPUSH, cl_83, r_iST3, r_iLD3, r_iST4, r_iLD4, cl_67, r_IC1, r_GOTO, r_iST5, r_DUPI, r_DUPP, r_gI, r_iLD5, r_iADD, r_pI, r_aLD1, r_iST6, r_iLD6, cl_22, eq_self, Int.reduceLT, Int.reduceLE, Int.reduceEq, true_or, or_true, and_self, true_and, and_true, w8_0, w8_1, w8_2, w8_3, w8_4, nl_I, nl_P, nl_X, pu_I, pu_J, pu_V]
        rw [if_neg (by decide)]
        exact hq2 (fun z => c3 z.2.2.1) g3 (aTt_t b1' c1) (by unfold tFl; rw [if_neg (fun z => z o0), if_neg (fun z => z o1), if_pos c3]; exact c2)
    · simp only [r_aLD0, cl_82, r_iST2, r_iLD2, r_IF3, r_iCONST, r_iRET, r_bPUSH, cl_83, r_iST3, r_iLD3, r_iST4, r_iLD4, cl_67, r_IC1, r_GOTO, r_iST5, r_DUPI, r_DUPP, r_gI, r_iLD5, r_iADD, r_pI, r_aLD1, r_iST6, r_iLD6, cl_22, eq_self, Int.reduceLT, Int.reduceLE, Int.reduceEq, true_or, or_true, and_self, true_and, and_true, w8_0, w8_1, w8_2, w8_3, w8_4, nl_I, nl_P, nl_X, pu_I, pu_J, pu_V]
      rw [if_neg (by decide)]
      exact hq2 (fun z => b3 z.2.1) g2 (aTt_t a1 b1) (by unfold tFl; rw [if_neg (fun z => z o0), if_pos b3]; exact b2)
  · simp only [r_aLD0, cl_82, r_iST2, r_iLD2, r_IF3, r_iCONST, r_iRET, r_bPUSH, cl_83, r_iST3, r_iLD3, r_iST4, r_iLD4, cl_67, r_IC1, r_GOTO, r_iST5, r_DUPI, r_DUPP, r_gI, r_iLD5, r_iADD, r_pI, r_aLD1, r_iST6, r_iLD6, cl_22, eq_self, Int.reduceLT, Int.reduceLE, Int.reduceEq, true_or, or_true, and_self, true_and, and_true, w8_0, w8_1, w8_2, w8_3, w8_4, nl_I, nl_P, nl_X, pu_I, pu_J, pu_V]
    rw [if_neg (by decide)]
    exact hq2 (fun z => a3 z.1) g a1 (by unfold tFl; rw [if_pos a3]; exact a2)
end SR3
