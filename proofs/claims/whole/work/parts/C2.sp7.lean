/-! shop: all things -/
/-- the place of the k-th thing -/
def thp (X : Nat → Int) (l p0 : Nat) : Nat → Nat
  | 0 => p0
  | k + 1 => sk X l (tp5 X l (thp X l p0 k)) + 1
def thS (X : Nat → Int) (l p0 k : Nat) : Nat := sk X l (tp5 X l (thp X l p0 k))
/-- the things from the k-th on: whether they are right, how many, and the place behind them or of the fault -/
def thF (X : Nat → Int) (l nb p0 : Nat) : Nat → Nat → Bool × Nat × Nat
  | 0, k => (false, k, 0)
  | f + 1, k => if tOK X l nb (thp X l p0 k) then (if nxl X l (thS X l p0 k) = -1 then (true, k + 1, thS X l p0 k) else if nxl X l (thS X l p0 k) = 44 ∧ k ≠ 7 then thF X l nb p0 f (k + 1) else (false, k + 1, thS X l p0 k)) else (false, k, tFl X l (thp X l p0 k))
/-- the k-th thing's numbers -/
def thV (X : Nat → Int) (l p0 : Nat) (c k : Nat) : Int :=
  if c = 0 then nvE X l (sk X l (thp X l p0 k)) 0 else if c = 1 then mkV X l 119 0 (tp1 X l (thp X l p0 k)) else if c = 2 then mkV X l 101 0 (tp2 X l (thp X l p0 k)) else if c = 3 then nvE X l (sk X l (thp X l p0 k)) 0 else if c = 4 then tro X l (thp X l p0 k) else mkV X l 64 3 (tp4 X l (thp X l p0 k))
section SR5
variable {g h h' h1 h2 u : am_F} {Q : am_V → am_S → Prop} {so j bj x y z o c w r t mm df : Int} {n nb L s K nx b m a q B S T i gg l M Z v ch N d p p0 k : Nat} {X : Nat → Int}
theorem mkQ_l (hl : l ≤ 100) (hc : 0 ≤ c) (hO : ¬ mkO X l c mm p) : mkQ X l p ≤ l := by
  have hH : mkH X l c p := by
    by_cases e : mkH X l c p
    · exact e
    · exact absurd (fun z => absurd z e) hO
  have : sk X l p < l := nx_lt (X := X) (by rw [show nxl X l (sk X l p) = c from hH]; exact hc)
  exact sk_l hl (by omega)
theorem tp4_l (hl : l ≤ 100) (h3 : tp3 X l p ≤ l) : tp4 X l p ≤ l := by
  unfold tp4 tro
  split
  · next e => exact nx_lt (X := X) (by rw [e]; decide)
  · exact sk_l hl h3
theorem tFl_l (hl : l ≤ 100) (hp : p ≤ l) (hO : ¬ tOK X l nb p) : tFl X l p ≤ l := by
  have l1 : tp1 X l p ≤ l := (dgE_l (sk_l hl hp)).2
  unfold tFl
  by_cases o0 : tO0 X l p
  · rw [if_neg (fun z => z o0)]
    by_cases o1 : tO1 X l p
    · have l2 : tp2 X l p ≤ l := mkP_l hl (by decide) l1 o1
      rw [if_neg (fun z => z o1)]
      by_cases o2 : tO2 X l p
      · rw [if_neg (fun z => z o2)]
        have o3 : ¬ tO3 X l nb p := fun z => hO ⟨o0, o1, o2, z⟩
        exact mkQ_l hl (by decide) o3
      · rw [if_pos o2]; exact mkQ_l hl (by decide) o2
    · rw [if_pos o1]; exact mkQ_l hl (by decide) o1
  · rw [if_pos o0]; exact sk_l hl hp
def cTh (h g : am_F) : Prop := ∀ a k, ¬ (a = 59 ∧ k = 2) → ¬ (a = 63 ∧ k = 7) → ¬ (65 ≤ a ∧ a ≤ 70) → g a k = h a k
def thQ (X : Nat → Int) (l p0 : Nat) (g : am_F) (j : Nat) : Prop := g 65 j = thV X l p0 0 j ∧ g 66 j = thV X l p0 1 j ∧ g 67 j = thV X l p0 2 j ∧ g 68 j = thV X l p0 3 j ∧ g 69 j = thV X l p0 4 j ∧ g 70 j = thV X l p0 5 j
theorem lp_Tthings (hl : l ≤ 100) (hX : ∀ i : Nat, i < l → 32 ≤ X i ∧ X i ≤ 126) (e1 : h 59 1 = (l : Int)) (e6 : ∀ i : Nat, i < l → h 60 i = X i) (h6 : h 63 6 = (nb : Int)) {R : Bool × Nat × Nat} (hq : ∀ g, cTh h g → g 59 2 = (R.2.2 : Int) → R.2.2 ≤ l → g 63 7 = (R.2.1 : Int) → R.2.1 ≤ 8 → (∀ j : Nat, j < R.2.1 → thQ X l p0 g j ∧ tOK X l nb (thp X l p0 j)) → Q (aI (if R.1 = true then 1 else 0)) (sT g)) : ∀ (f k : Nat) (v4 : am_V) (g : am_F), k + f = 8 → 0 < f → cTh h g → am_nl v4 = true → g 59 2 = (thp X l p0 k : Int) → thp X l p0 k ≤ l → g 63 7 = (k : Int) → (∀ j : Nat, j < k → thQ X l p0 g j ∧ tOK X l nb (thp X l p0 j)) → thF X l nb p0 f k = R → wp 85 (am_ju 85 2) [aP 59, aP 63, aP 70, aI (k : Int), v4] [] (sT g) Q := by
  intro f
  have l1 := ln_70
  have k1 := kd_70
  induction f with
  | zero => intro k v4 g hk hf; exact absurd hf (by decide)
  | succ f ih =>
    intro k v4 g hk hf hg n4 h2 hp h7 hC hR
    have k0 : (0 : Int) ≤ k := by omega
    have k8 : (k : Int) < 8 := by omega
    have hw : w3 ((k : Int) + 1) = ((k + 1 : Nat) : Int) := w3_id (by omega) (by omega)
    rw [thF] at hR
    rw [ju_85_2]
    simp only [r_iCONST, r_iST3, r_iLD3, r_aLD2, r_aLEN, r_aLENs, r_IC3, r_aLD0, r_aLD1, cl_84, r_iAST, r_iALD, r_iALDs, r_IF3, r_zRET, cl_67, r_iST4, r_iLD4, r_IC1, r_bPUSH, r_iSUB, r_DUPI, r_DUPP, r_gI, r_iADD, r_pI, r_IINC3, r_GOTO, eq_self, Int.reduceLT, Int.reduceLE, Int.reduceEq, true_or, or_true, and_self, true_and, and_true, w8_0, w8_1, w8_2, w8_3, w8_4, nl_I, nl_P, nl_X, pu_I, pu_J, pu_V, kd_59, kd_63, kd_70, ln_70]
    rw [if_neg (by omega)]
    refine s_TreadThing (X := X) (nb := nb) hl hX hp (by rw [hg _ _ (by decide) (by decide) (by decide)]; exact e1) h2 (fun i hi => by rw [hg _ _ (by omega) (by omega) (by decide)]; exact e6 i hi) (by rw [hg _ _ (by decide) (by decide) (by decide)]; exact h6) h7 (by omega) (fun hO hp5 g' a1 a2 => ?_) (fun hO g' a1 a2 => ?_)
    · rw [if_pos hO] at hR
      have v0 : 0 ≤ mkV X l 64 3 (tp4 X l (thp X l p0 k)) := by
        unfold mkV
        split
        · next e => exact (hO.2.2.2 e).1
        · decide
      simp (disch := first | assumption | omega | exact w8_0 | exact w8_1 _ | exact w8_2 _ _ | exact w8_3 _ _ _ | exact w8_4 _ _ _ _ | exact nl_I _ | exact nl_P _ | exact nl_X | decide | exact w8_5 _ _ _ _ _) only [r_iCONST, r_iST3, r_iLD3, r_aLD2, r_aLEN, r_aLENs, r_IC3, r_aLD0, r_aLD1, cl_84, r_iASTc, r_iALDc, r_iALDs, r_IF3, r_zRET, cl_67, r_iST4, r_iLD4, r_IC1, r_bPUSH, r_iSUB, r_DUPI, r_DUPP, r_gI, r_iADD, r_pI, r_IINC3, r_GOTO, eq_self, Int.reduceLT, Int.reduceLE, Int.reduceEq, true_or, or_true, and_self, true_and, and_true, w8_0, w8_1, w8_2, w8_3, w8_4, nl_I, nl_P, nl_X, pu_I, pu_J, pu_V, w3_id, Int.add_zero, kd_59, up_s]
      rw [if_pos v0, ju_85_18]
      have c1 : cTh h (up (rgT g' k (nvE X l (sk X l (thp X l p0 k)) 0) (mkV X l 119 0 (tp1 X l (thp X l p0 k))) (mkV X l 101 0 (tp2 X l (thp X l p0 k))) (nvE X l (sk X l (thp X l p0 k)) 0) (tro X l (thp X l p0 k))) 70 k (mkV X l 64 3 (tp4 X l (thp X l p0 k)))) := fun a k' z1 z2 z3 => by
        rw [← hg a k' z1 z2 z3, ← a1 a k' z1]
        unfold rgT up
        rw [if_neg (by omega), if_neg (by omega), if_neg (by omega), if_neg (by omega), if_neg (by omega), if_neg (by omega), if_neg (by omega)]
      have c2 : up (rgT g' k (nvE X l (sk X l (thp X l p0 k)) 0) (mkV X l 119 0 (tp1 X l (thp X l p0 k))) (mkV X l 101 0 (tp2 X l (thp X l p0 k))) (nvE X l (sk X l (thp X l p0 k)) 0) (tro X l (thp X l p0 k))) 70 k (mkV X l 64 3 (tp4 X l (thp X l p0 k))) 59 2 = (tp5 X l (thp X l p0 k) : Int) := by
        unfold rgT
        rw [up_ne (by decide), up_ne (by decide), up_ne (by decide), up_ne (by decide), up_ne (by decide), up_ne (by decide), up_ne (by decide)]
        exact a2
      have c3 : up (rgT g' k (nvE X l (sk X l (thp X l p0 k)) 0) (mkV X l 119 0 (tp1 X l (thp X l p0 k))) (mkV X l 101 0 (tp2 X l (thp X l p0 k))) (nvE X l (sk X l (thp X l p0 k)) 0) (tro X l (thp X l p0 k))) 70 k (mkV X l 64 3 (tp4 X l (thp X l p0 k))) 63 7 = ((k + 1 : Nat) : Int) := by
        unfold rgT
        rw [up_ne (by decide)]
        exact up_s
      have c4 : ∀ j : Nat, j < k + 1 → thQ X l p0 (up (rgT g' k (nvE X l (sk X l (thp X l p0 k)) 0) (mkV X l 119 0 (tp1 X l (thp X l p0 k))) (mkV X l 101 0 (tp2 X l (thp X l p0 k))) (nvE X l (sk X l (thp X l p0 k)) 0) (tro X l (thp X l p0 k))) 70 k (mkV X l 64 3 (tp4 X l (thp X l p0 k)))) j ∧ tOK X l nb (thp X l p0 j) := fun j hj => by
        by_cases z : j = k
        · subst z
          refine ⟨?_, hO⟩
          unfold thQ rgT
          refine ⟨?_, ?_, ?_, ?_, ?_, ?_⟩ <;> simp (disch := first | decide | omega) only [up_s, up_ne] <;> rfl
        · obtain ⟨⟨d1, d2, d3, d4, d5, d6⟩, d7⟩ := hC j (by omega)
          refine ⟨?_, d7⟩
          unfold thQ rgT
          refine ⟨?_, ?_, ?_, ?_, ?_, ?_⟩ <;> simp (disch := first | decide | omega) only [up_k, up_ne] <;> rw [a1 _ _ (by omega)] <;> assumption
      generalize up (rgT g' k (nvE X l (sk X l (thp X l p0 k)) 0) (mkV X l 119 0 (tp1 X l (thp X l p0 k))) (mkV X l 101 0 (tp2 X l (thp X l p0 k))) (nvE X l (sk X l (thp X l p0 k)) 0) (tro X l (thp X l p0 k))) 70 k (mkV X l 64 3 (tp4 X l (thp X l p0 k))) = g3 at c1 c2 c3 c4 ⊢
      simp only [r_iCONST, r_iST3, r_iLD3, r_aLD2, r_aLEN, r_aLENs, r_IC3, r_aLD0, r_aLD1, cl_84, r_iAST, r_iALD, r_iALDs, r_IF3, r_zRET, cl_67, r_iST4, r_iLD4, r_IC1, r_bPUSH, r_iSUB, r_DUPI, r_DUPP, r_gI, r_iADD, r_pI, r_IINC3, r_GOTO, eq_self, Int.reduceLT, Int.reduceLE, Int.reduceEq, true_or, or_true, and_self, true_and, and_true, w8_0, w8_1, w8_2, w8_3, w8_4, nl_I, nl_P, nl_X, pu_I, pu_J, pu_V, kd_59]
      refine s_tnext (X := X) hl _ (tp5 X l (thp X l p0 k)) g3 rfl hp5 (by rw [c1 _ _ (by decide) (by decide) (by decide)]; exact e1) c2 (fun i hi => by rw [c1 _ _ (by omega) (by omega) (by decide)]; exact e6 i hi) (fun g4 y1 y2 => ?_)
      have hb : sk X l (tp5 X l (thp X l p0 k)) = thS X l p0 k := rfl
      rw [hb] at y2 ⊢
      have hbs : thS X l p0 k ≤ l := by rw [← hb]; exact sk_l hl hp5
      have hg4 : cTh h g4 := fun a k z1 z2 z3 => by rw [y1 a k z1, c1 a k z1 z2 z3]
      have d7 : g4 63 7 = ((k + 1 : Nat) : Int) := by rw [y1 _ _ (by decide)]; exact c3
      have dC : ∀ j : Nat, j < k + 1 → thQ X l p0 g4 j ∧ tOK X l nb (thp X l p0 j) := fun j hj => by
        obtain ⟨z1, z2⟩ := c4 j hj
        refine ⟨?_, z2⟩
        unfold thQ at z1 ⊢
        rw [y1 _ _ (by omega), y1 _ _ (by omega), y1 _ _ (by omega), y1 _ _ (by omega), y1 _ _ (by omega), y1 _ _ (by omega)]
        exact z1
      simp (disch := first | assumption | omega | decide | exact nl_I _) only [r_iCONST, r_iST3, r_iLD3, r_aLD2, r_aLEN, r_aLENs, r_IC3, r_aLD0, r_aLD1, cl_84, r_iAST, r_iALD, r_iALDs, r_IF3, r_zRET, cl_67, r_iST4, r_iLD4, r_IC1, r_bPUSH, r_iSUB, r_DUPI, r_DUPP, r_gI, r_iADD, r_pI, r_IINC3, r_GOTO, eq_self, Int.reduceLT, Int.reduceLE, Int.reduceEq, true_or, or_true, and_self, true_and, and_true, w8_0, w8_1, w8_2, w8_3, w8_4, nl_I, nl_P, nl_X, pu_I, pu_J, pu_V]
      by_cases f1 : nxl X l (thS X l p0 k) = -1
      · rw [if_pos f1] at hR
        rw [if_neg (by simpa using f1)]
        try simp only [r_iCONST, r_iST3, r_iLD3, r_aLD2, r_aLEN, r_aLENs, r_IC3, r_aLD0, r_aLD1, cl_84, r_iAST, r_iALD, r_iALDs, r_IF3, r_zRET, cl_67, r_iST4, r_iLD4, r_IC1, r_bPUSH, r_iSUB, r_DUPI, r_DUPP, r_gI, r_iADD, r_pI, r_IINC3, r_GOTO, eq_self, Int.reduceLT, Int.reduceLE, Int.reduceEq, true_or, or_true, and_self, true_and, and_true, w8_0, w8_1, w8_2, w8_3, w8_4, nl_I, nl_P, nl_X, pu_I, pu_J, pu_V, r_zRET1]
        have := hq _ hg4 (by rw [← hR]; exact y2) (by rw [← hR]; exact hbs) (by rw [← hR]; exact d7) (by rw [← hR]; show k + 1 ≤ 8; omega) (by rw [← hR]; exact dC)
        rw [← hR] at this
        exact this
      · rw [if_neg f1] at hR
        rw [if_pos f1, ju_85_26]
        have hw8 : w3 ((8 : Int) - 1) = 7 := by decide
        have bad : (false, k + 1, thS X l p0 k) = R → wp 85 (am_ju 85 35) [aP 59, aP 63, aP 70, aI (k : Int), aI (nxl X l (thS X l p0 k))] [] (sT g4) Q := fun hR => by
          rw [ju_85_35]
          simp only [r_iCONST, r_iST3, r_iLD3, r_aLD2, r_aLEN, r_aLENs, r_IC3, r_aLD0, r_aLD1, cl_84, r_iAST, r_iALD, r_iALDs, r_IF3, r_zRET, cl_67, r_iST4, r_iLD4, r_IC1, r_bPUSH, r_iSUB, r_DUPI, r_DUPP, r_gI, r_iADD, r_pI, r_IINC3, r_GOTO, eq_self, Int.reduceLT, Int.reduceLE, Int.reduceEq, true_or, or_true, and_self, true_and, and_true, w8_0, w8_1, w8_2, w8_3, w8_4, nl_I, nl_P, nl_X, pu_I, pu_J, pu_V, r_zRET0]
          have := hq g4 hg4 (by rw [← hR]; exact y2) (by rw [← hR]; exact hbs) (by rw [← hR]; exact d7) (by rw [← hR]; show k + 1 ≤ 8; omega) (by rw [← hR]; exact dC)
          rw [← hR] at this
          exact this
        simp only [r_iCONST, r_iST3, r_iLD3, r_aLD2, r_aLEN, r_aLENs, r_IC3, r_aLD0, r_aLD1, cl_84, r_iAST, r_iALD, r_iALDs, r_IF3, r_zRET, cl_67, r_iST4, r_iLD4, r_IC1, r_bPUSH, r_iSUB, r_DUPI, r_DUPP, r_gI, r_iADD, r_pI, r_IINC3, r_GOTO, eq_self, Int.reduceLT, Int.reduceLE, Int.reduceEq, true_or, or_true, and_self, true_and, and_true, w8_0, w8_1, w8_2, w8_3, w8_4, nl_I, nl_P, nl_X, pu_I, pu_J, pu_V, kd_70, ln_70, hw8]
        by_cases f2 : nxl X l (thS X l p0 k) = 44
        · have hlb : thS X l p0 k < l := nx_lt (X := X) (by rw [f2]; decide)
          have hw3 : w3 ((thS X l p0 k : Int) + 1) = ((thS X l p0 k + 1 : Nat) : Int) := w3_id (by omega) (by omega)
          rw [if_neg (by simpa using f2)]
          by_cases f3 : k = 7
          · rw [if_neg (fun q => q.2 f3)] at hR
            rw [if_neg (by omega)]
            exact bad hR
          · rw [if_pos ⟨f2, f3⟩] at hR
            rw [if_pos (by omega), ju_85_37]
            simp only [r_iCONST, r_iST3, r_iLD3, r_aLD2, r_aLEN, r_aLENs, r_IC3, r_aLD0, r_aLD1, cl_84, r_iAST, r_iALD, r_iALDs, r_IF3, r_zRET, cl_67, r_iST4, r_iLD4, r_IC1, r_bPUSH, r_iSUB, r_DUPI, r_DUPP, r_gI, r_iADD, r_pI, r_IINC3, r_GOTO, eq_self, Int.reduceLT, Int.reduceLE, Int.reduceEq, true_or, or_true, and_self, true_and, and_true, w8_0, w8_1, w8_2, w8_3, w8_4, nl_I, nl_P, nl_X, pu_I, pu_J, pu_V, kd_59, y2, hw3, hw]
            refine ih (k + 1) _ _ (by omega) (by omega) (fun a k' z1 z2 z3 => ?_) rfl up_s hlb (by rw [up_ne (by decide)]; exact d7) (fun j hj => ?_) hR
            · rw [← hg4 a k' z1 z2 z3]
              unfold up
              rw [if_neg z1]
            · obtain ⟨z1, z2⟩ := dC j hj
              refine ⟨?_, z2⟩
              unfold thQ at z1 ⊢
              rw [up_ne (by decide), up_ne (by decide), up_ne (by decide), up_ne (by decide), up_ne (by decide), up_ne (by decide)]
              exact z1
        · rw [if_neg (fun q => f2 q.1)] at hR
          rw [if_pos f2]
          exact bad hR
    · rw [if_neg hO] at hR
      simp (disch := first | assumption | omega | exact w8_0 | exact w8_1 _ | exact w8_2 _ _ | exact w8_3 _ _ _ | exact w8_4 _ _ _ _ | exact nl_I _ | exact nl_P _ | exact nl_X | decide | exact w8_5 _ _ _ _ _) only [r_iCONST, r_iST3, r_iLD3, r_aLD2, r_aLEN, r_aLENs, r_IC3, r_aLD0, r_aLD1, cl_84, r_iASTc, r_iALDc, r_iALDs, r_IF3, r_zRET, cl_67, r_iST4, r_iLD4, r_IC1, r_bPUSH, r_iSUB, r_DUPI, r_DUPP, r_gI, r_iADD, r_pI, r_IINC3, r_GOTO, eq_self, Int.reduceLT, Int.reduceLE, Int.reduceEq, true_or, or_true, and_self, true_and, and_true, w8_0, w8_1, w8_2, w8_3, w8_4, nl_I, nl_P, nl_X, pu_I, pu_J, pu_V, w3_id, Int.add_zero, kd_59, up_s]
      rw [if_neg (by decide)]
      have c1 : cTh h (up g' 70 (k : Int) (-1)) := fun a k' z1 z2 z3 => by
        rw [← hg a k' z1 z2 z3, ← a1 a k' z1]
        unfold up
        rw [if_neg (by omega)]
      have := hq _ c1 (by rw [← hR, up_ne (by decide)]; exact a2) (by rw [← hR]; exact tFl_l hl hp hO) (by rw [← hR, up_ne (by decide), a1 _ _ (by decide)]; exact h7) (by rw [← hR]; show k ≤ 8; omega) (by
        rw [← hR]
        intro j hj
        obtain ⟨z1, z2⟩ := hC j hj
        have hj : j < k := hj
        refine ⟨?_, z2⟩
        unfold thQ at z1 ⊢
        rw [up_ne (by decide), up_ne (by decide), up_ne (by decide), up_ne (by decide), up_ne (by decide), up_k (by omega), a1 _ _ (by omega), a1 _ _ (by omega), a1 _ _ (by omega), a1 _ _ (by omega), a1 _ _ (by omega), a1 _ _ (by omega)]
        exact z1)
      rw [← hR] at this
      try simp only [r_zRET0]
      exact this
end SR5
