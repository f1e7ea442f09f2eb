/-! shop: the words -/
def kiW (c : Int) : Int := if c = 80 then 0 else if c = 68 then 1 else if c = 84 then 2 else if c = 67 then 3 else -1
def dgF (X : Nat → Int) (l : Nat) : Nat → Nat → Nat
  | 0, p => p
  | k + 1, p => if p < l ∧ 48 ≤ X p ∧ X p ≤ 57 then dgF X l k (p + 1) else p
/-- behind the digits -/
def dgE (X : Nat → Int) (l p : Nat) : Nat := dgF X l (l - p) p
def nvF (X : Nat → Int) (l : Nat) : Nat → Nat → Int → Int
  | 0, _, v => v
  | k + 1, p, v => if p < l ∧ 48 ≤ X p ∧ X p ≤ 57 then nvF X l k (p + 1) (if v ≤ 99 then 10 * v + X p - 48 else v) else v
/-- the number that the digits say, no further than beyond 99 -/
def nvE (X : Nat → Int) (l p : Nat) (v : Int) : Int := nvF X l (l - p) p v
section SP
variable {g h h' h1 h2 u : am_F} {Q : am_V → am_S → Prop} {so j bj x y z o c w r k t : Int} {n nb L s K nx b m a q B S T i gg l M Z v ch N d p : Nat} {X : Nat → Int}
theorem dgE_u (X : Nat → Int) (l p : Nat) : dgE X l p = if p < l ∧ 48 ≤ X p ∧ X p ≤ 57 then dgE X l (p + 1) else p := by
  unfold dgE
  by_cases e : p < l
  · rw [show l - p = (l - (p + 1)) + 1 by omega, dgF]
  · rw [show l - p = 0 by omega, dgF, if_neg (fun q => e q.1)]
theorem nvE_u (X : Nat → Int) (l p : Nat) (v : Int) : nvE X l p v = if p < l ∧ 48 ≤ X p ∧ X p ≤ 57 then nvE X l (p + 1) (if v ≤ 99 then 10 * v + X p - 48 else v) else v := by
  unfold nvE
  by_cases e : p < l
  · rw [show l - p = (l - (p + 1)) + 1 by omega, nvF]
  · rw [show l - p = 0 by omega, nvF, if_neg (fun q => e q.1)]
theorem dgE_l (hp : p ≤ l) : p ≤ dgE X l p ∧ dgE X l p ≤ l := by
  have : ∀ k p, l - p = k → p ≤ l → p ≤ dgE X l p ∧ dgE X l p ≤ l := by
    intro k
    induction k with
    | zero => intro p h1 h2; rw [dgE_u, if_neg (fun q => by omega)]; omega
    | succ k ih =>
      intro p h1 h2
      rw [dgE_u]
      split
      · have := ih (p + 1) (by omega) (by omega); omega
      · omega
  exact this _ p rfl hp
theorem s_RkindOf : wp 91 (am_ju 91 0) [aI x] [] (sT h) Q ↔ Q (aI (kiW x)) (sT h) := by
  unfold kiW
  simp only [ju_91_0, ju_91_5, ju_91_10, ju_91_15, ju_91_20, ju_91_21, r_iLD0, r_bPUSH, r_IC1, r_iCONST, r_GOTO, r_iRET, eq_self, Int.reduceLT, Int.reduceLE, Int.reduceEq, true_or, or_true, and_self, true_and, and_true, w8_0, w8_1, w8_2, w8_3, w8_4, nl_I, nl_P, nl_X, pu_I, pu_J, pu_V]
  by_cases e1 : x = 80
  · simp [e1]
  · by_cases e2 : x = 68
    · simp [e2]
    · by_cases e3 : x = 84
      · simp [e3]
      · by_cases e4 : x = 67
        · simp [e4]
        · simp [e1, e2, e3, e4]
theorem s_TkindOf : wp 80 (am_ju 80 0) [aI x] [] (sT h) Q ↔ Q (aI (kiW x)) (sT h) := by
  unfold kiW
  rw [ju_80_0]
  simp only [r_iLD0, r_LSW, r_iCONST, r_iRET, eq_self, Int.reduceLT, Int.reduceLE, Int.reduceEq, true_or, or_true, and_self, true_and, and_true, w8_0, w8_1, w8_2, w8_3, w8_4, nl_I, nl_P, nl_X, pu_I, pu_J, pu_V, am_lk]
  by_cases e1 : x = 80
  · simp [e1, ju_80_2, r_iLD0, r_LSW, r_iCONST, r_iRET, eq_self, Int.reduceLT, Int.reduceLE, Int.reduceEq, true_or, or_true, and_self, true_and, and_true, w8_0, w8_1, w8_2, w8_3, w8_4, nl_I, nl_P, nl_X, pu_I, pu_J, pu_V]
  · by_cases e2 : x = 68
    · simp [e2, ju_80_4, r_iLD0, r_LSW, r_iCONST, r_iRET, eq_self, Int.reduceLT, Int.reduceLE, Int.reduceEq, true_or, or_true, and_self, true_and, and_true, w8_0, w8_1, w8_2, w8_3, w8_4, nl_I, nl_P, nl_X, pu_I, pu_J, pu_V]
    · by_cases e3 : x = 84
      · simp [e3, ju_80_6, r_iLD0, r_LSW, r_iCONST, r_iRET, eq_self, Int.reduceLT, Int.reduceLE, Int.reduceEq, true_or, or_true, and_self, true_and, and_true, w8_0, w8_1, w8_2, w8_3, w8_4, nl_I, nl_P, nl_X, pu_I, pu_J, pu_V]
      · by_cases e4 : x = 67
        · simp [e4, ju_80_8, r_iLD0, r_LSW, r_iCONST, r_iRET, eq_self, Int.reduceLT, Int.reduceLE, Int.reduceEq, true_or, or_true, and_self, true_and, and_true, w8_0, w8_1, w8_2, w8_3, w8_4, nl_I, nl_P, nl_X, pu_I, pu_J, pu_V]
        · have f1 : ¬ 80 = x := fun q => e1 q.symm
          have f2 : ¬ 68 = x := fun q => e2 q.symm
          have f3 : ¬ 84 = x := fun q => e3 q.symm
          have f4 : ¬ 67 = x := fun q => e4 q.symm
          simp [e1, e2, e3, e4, f1, f2, f3, f4, ju_80_10, r_iLD0, r_LSW, r_iCONST, r_iRET, eq_self, Int.reduceLT, Int.reduceLE, Int.reduceEq, true_or, or_true, and_self, true_and, and_true, w8_0, w8_1, w8_2, w8_3, w8_4, nl_I, nl_P, nl_X, pu_I, pu_J, pu_V]
theorem s_faults : wp 77 (am_ju 77 0) [aP 149, aI x] [] (sT h) Q ↔ Q aV (sT (up h 149 12 (if 0 ≤ h 149 12 then h 149 12 else x))) := by
  rw [ju_77_0]
  simp only [r_aLD0, r_gI, r_IF3, r_iLD1, r_GOTO, r_pI, r_vRET, eq_self, Int.reduceLT, Int.reduceLE, Int.reduceEq, true_or, or_true, and_self, true_and, and_true, w8_0, w8_1, w8_2, w8_3, w8_4, nl_I, nl_P, nl_X, pu_I, pu_J, pu_V, kd_149]
  by_cases e : 0 ≤ h 149 12
  · rw [if_pos e, if_pos e, ju_77_6]
    simp only [ju_77_8, r_aLD0, r_gI, r_IF3, r_iLD1, r_GOTO, r_pI, r_vRET, eq_self, Int.reduceLT, Int.reduceLE, Int.reduceEq, true_or, or_true, and_self, true_and, and_true, w8_0, w8_1, w8_2, w8_3, w8_4, nl_I, nl_P, nl_X, pu_I, pu_J, pu_V, kd_149]
  · rw [if_neg e, if_neg e, ju_77_8]
    simp only [r_aLD0, r_gI, r_IF3, r_iLD1, r_GOTO, r_pI, r_vRET, eq_self, Int.reduceLT, Int.reduceLE, Int.reduceEq, true_or, or_true, and_self, true_and, and_true, w8_0, w8_1, w8_2, w8_3, w8_4, nl_I, nl_P, nl_X, pu_I, pu_J, pu_V, kd_149]
theorem lp_Tw (hl : l ≤ 100) {q : Nat} (hql : q ≤ l) (hq1 : ∀ g', aTt h g' → g' 59 2 = (dgE X l q : Int) → 1 ≤ nvE X l q 0 → nvE X l q 0 ≤ 30 → Q (aI (nvE X l q 0)) (sT g')) (hq2 : ∀ g', aTt h g' → g' 59 2 = (q : Int) → ¬ (1 ≤ nvE X l q 0 ∧ nvE X l q 0 ≤ 30) → Q (aI (-1)) (sT g')) (e1 : h 59 1 = (l : Int)) (e6 : ∀ i : Nat, i < l → h 60 i = X i) : ∀ (f p : Nat) (v : Int) (g : am_F), l - p = f → p ≤ l → aTt h g → g 59 2 = (p : Int) → 0 ≤ v → v ≤ 2000 → dgE X l p = dgE X l q → nvE X l p v = nvE X l q 0 → wp 82 (am_ju 82 8) [aP 59, aI (q : Int), aI (if v ≤ 99 then v else 99)] [] (sT g) Q := by
  intro f
  have l1 := ln_60
  have k1 := kd_60
  have fin : ∀ (g : am_F) (v : Int) (p : Nat), aTt h g → g 59 2 = (p : Int) → dgE X l q = p → nvE X l q 0 = v → wp 82 (am_ju 82 52) [aP 59, aI (q : Int), aI (if v ≤ 99 then v else 99)] [] (sT g) Q := by
    intro g v p hg h2 ed ev
    rw [ju_82_52]
    simp only [r_aLD0, cl_67, r_POP, r_gI, r_iST1, r_iCONST, r_iST2, r_IC3, r_bPUSH, r_gR, r_iALD, r_iALDs, r_IC2, r_IC4, r_iLD2, r_iMUL, r_iADD, r_iSUB, r_MMIN, r_DUPI, r_DUPP, r_pI, r_GOTO, r_iRET, r_iLD1, eq_self, Int.reduceLT, Int.reduceLE, Int.reduceEq, true_or, or_true, and_self, true_and, and_true, w8_0, w8_1, w8_2, w8_3, w8_4, nl_I, nl_P, nl_X, pu_I, pu_J, pu_V, kd_59]
    by_cases e : 1 ≤ v ∧ v ≤ 30
    · have hv : (if v ≤ 99 then v else 99) = v := by rw [if_pos (by omega)]
      rw [hv, if_neg (by omega), if_neg (by omega), ← ev]
      exact hq1 g hg (by rw [h2, ed]) (by omega) (by omega)
    · have key : wp 82 (am_ju 82 60) [aP 59, aI (q : Int), aI (if v ≤ 99 then v else 99)] [] (sT g) Q := by
        rw [ju_82_60]
        simp only [r_aLD0, cl_67, r_POP, r_gI, r_iST1, r_iCONST, r_iST2, r_IC3, r_bPUSH, r_gR, r_iALD, r_iALDs, r_IC2, r_IC4, r_iLD2, r_iMUL, r_iADD, r_iSUB, r_MMIN, r_DUPI, r_DUPP, r_pI, r_GOTO, r_iRET, r_iLD1, eq_self, Int.reduceLT, Int.reduceLE, Int.reduceEq, true_or, or_true, and_self, true_and, and_true, w8_0, w8_1, w8_2, w8_3, w8_4, nl_I, nl_P, nl_X, pu_I, pu_J, pu_V, kd_59]
        refine hq2 _ (fun a k z => ?_) up_s (by rw [ev]; exact e)
        rw [← hg a k z]
        unfold up
        rw [if_neg z]
      by_cases e2 : (if v ≤ 99 then v else 99) < 1
      · rw [if_pos e2]; exact key
      · rw [if_neg e2, if_pos (by split at e2 <;> split <;> omega)]
        exact key
  induction f with
  | zero =>
    intro p v g hf hp hg h2 v0 v1 ed ev
    have hp : p = l := by omega
    subst hp
    have g1 : g 59 1 = (p : Int) := by rw [hg _ _ (by decide)]; exact e1
    rw [dgE_u, if_neg (fun q => by omega)] at ed
    rw [nvE_u, if_neg (fun q => by omega)] at ev
    rw [ju_82_8]
    simp only [r_aLD0, cl_67, r_POP, r_gI, r_iST1, r_iCONST, r_iST2, r_IC3, r_bPUSH, r_gR, r_iALD, r_iALDs, r_IC2, r_IC4, r_iLD2, r_iMUL, r_iADD, r_iSUB, r_MMIN, r_DUPI, r_DUPP, r_pI, r_GOTO, r_iRET, r_iLD1, eq_self, Int.reduceLT, Int.reduceLE, Int.reduceEq, true_or, or_true, and_self, true_and, and_true, w8_0, w8_1, w8_2, w8_3, w8_4, nl_I, nl_P, nl_X, pu_I, pu_J, pu_V, kd_59, g1, h2]
    rw [if_pos (Int.le_refl _)]
    exact fin g v p hg h2 ed.symm ev.symm
  | succ f ih =>
    intro p v g hf hp hg h2 v0 v1 ed ev
    have g1 : g 59 1 = (l : Int) := by rw [hg _ _ (by decide)]; exact e1
    have g6 : g 60 p = X p := by rw [hg _ _ (by omega)]; exact e6 p (by omega)
    have p0 : (0 : Int) ≤ p := by omega
    have p1 : (p : Int) < 100 := by omega
    have hw : w3 ((p : Int) + 1) = ((p + 1 : Nat) : Int) := w3_id (by omega) (by omega)
    rw [ju_82_8]
    simp (disch := first | assumption | omega | exact w8_0 | exact w8_1 _ | exact w8_2 _ _ | exact w8_3 _ _ _ | exact w8_4 _ _ _ _ | exact nl_I _ | exact nl_P _ | exact nl_X | decide | exact w8_5 _ _ _ _ _) only [r_aLD0, cl_67, r_POP, r_gI, r_iST1, r_iCONST, r_iST2, r_IC3, r_bPUSH, r_gR, r_iALDc, r_iALDs, r_IC2, r_IC4, r_iLD2, r_iMUL, r_iADD, r_iSUB, r_MMIN, r_DUPI, r_DUPP, r_pI, r_GOTO, r_iRET, r_iLD1, eq_self, Int.reduceLT, Int.reduceLE, Int.reduceEq, true_or, or_true, and_self, true_and, and_true, w8_0, w8_1, w8_2, w8_3, w8_4, nl_I, nl_P, nl_X, pu_I, pu_J, pu_V, w3_id, Int.add_zero, kd_59, rR_59_0, g1, h2, g6]
    rw [if_neg (by omega), if_neg (by omega)]
    by_cases e : 48 ≤ X p ∧ X p ≤ 57
    · rw [dgE_u, if_pos ⟨by omega, e.1, e.2⟩] at ed
      rw [nvE_u, if_pos ⟨by omega, e.1, e.2⟩] at ev
      rw [if_neg (by omega), if_neg (by omega)]
      have ih := ih (p + 1) (if v ≤ 99 then 10 * v + X p - 48 else v) (up g 59 2 ((p : Int) + 1)) (by omega) (by omega) (fun a k z => by rw [← hg a k z]; unfold up; rw [if_neg z]) up_s (by split <;> omega) (by split <;> omega) ed ev
      have he : (if (if v ≤ 99 then v else 99) * 10 + X p - 48 < 99 then (if v ≤ 99 then v else 99) * 10 + X p - 48 else 99) = if (if v ≤ 99 then 10 * v + X p - 48 else v) ≤ 99 then (if v ≤ 99 then 10 * v + X p - 48 else v) else 99 := by
        by_cases z : v ≤ 99
        · simp only [z, if_true]
          split <;> split <;> omega
        · simp only [z, if_false]
          split <;> omega
      rw [he]
      exact ih
    · have ed : dgE X l q = p := by rw [← ed, dgE_u, if_neg (fun q => e q.2)]
      have ev : nvE X l q 0 = v := by rw [← ev, nvE_u, if_neg (fun q => e q.2)]
      by_cases e2 : X p < 48
      · rw [if_pos e2]
        exact fin g v p hg h2 ed ev
      · rw [if_neg e2, if_pos (by omega)]
        exact fin g v p hg h2 ed ev
/-- only the reference's place and fault have changed -/
def aRf (h g : am_F) : Prop := ∀ a k, ¬ (a = 149 ∧ (k = 11 ∨ k = 12)) → g a k = h a k
/-- the first fault stays -/
def flt (f : Int) (q : Nat) : Int := if 0 ≤ f then f else (q : Int)
theorem s_Tweight (hl : l ≤ 100) (hp : p ≤ l) (e1 : h 59 1 = (l : Int)) (e2 : h 59 2 = (p : Int)) (e6 : ∀ i : Nat, i < l → h 60 i = X i) (hq1 : ∀ g', aTt h g' → g' 59 2 = (dgE X l (sk X l p) : Int) → 1 ≤ nvE X l (sk X l p) 0 → nvE X l (sk X l p) 0 ≤ 30 → Q (aI (nvE X l (sk X l p) 0)) (sT g')) (hq2 : ∀ g', aTt h g' → g' 59 2 = (sk X l p : Int) → ¬ (1 ≤ nvE X l (sk X l p) 0 ∧ nvE X l (sk X l p) 0 ≤ 30) → Q (aI (-1)) (sT g')) : wp 82 (am_ju 82 0) [aP 59, aX, aX] [] (sT h) Q := by
  have hsl : sk X l p ≤ l := sk_l hl hp
  rw [ju_82_0]
  simp only [r_aLD0, cl_67, r_POP, r_gI, r_iST1, r_iCONST, r_iST2, r_IC3, r_bPUSH, r_gR, r_iALD, r_iALDs, r_IC2, r_IC4, r_iLD2, r_iMUL, r_iADD, r_iSUB, r_MMIN, r_DUPI, r_DUPP, r_pI, r_GOTO, r_iRET, r_iLD1, eq_self, Int.reduceLT, Int.reduceLE, Int.reduceEq, true_or, or_true, and_self, true_and, and_true, w8_0, w8_1, w8_2, w8_3, w8_4, nl_I, nl_P, nl_X, pu_I, pu_J, pu_V, kd_59]
  refine s_tnext (X := X) hl _ p h rfl hp e1 e2 e6 (fun g q1 q2 => ?_)
  simp only [r_aLD0, cl_67, r_POP, r_gI, r_iST1, r_iCONST, r_iST2, r_IC3, r_bPUSH, r_gR, r_iALD, r_iALDs, r_IC2, r_IC4, r_iLD2, r_iMUL, r_iADD, r_iSUB, r_MMIN, r_DUPI, r_DUPP, r_pI, r_GOTO, r_iRET, r_iLD1, eq_self, Int.reduceLT, Int.reduceLE, Int.reduceEq, true_or, or_true, and_self, true_and, and_true, w8_0, w8_1, w8_2, w8_3, w8_4, nl_I, nl_P, nl_X, pu_I, pu_J, pu_V, kd_59, q2]
  exact lp_Tw (h := h) hl hsl hq1 hq2 e1 e6 _ (sk X l p) 0 g rfl hsl q1 q2 (by decide) (by decide) rfl rfl
theorem lp_Rn (hl : l ≤ 100) {q : Nat} (hql : q ≤ l) (hq : ∀ g', aRf h g' → g' 149 11 = (dgE X l q : Int) → g' 149 12 = (if 1 ≤ nvE X l q 0 ∧ nvE X l q 0 ≤ 30 then h 149 12 else flt (h 149 12) q) → Q (aI (nvE X l q 0)) (sT g')) (e1 : h 149 6 = (l : Int)) (e6 : ∀ i : Nat, i < l → h 154 i = X i) : ∀ (f p : Nat) (v : Int) (g : am_F), l - p = f → p ≤ l → aRf h g → g 149 12 = h 149 12 → g 149 11 = (p : Int) → 0 ≤ v → v ≤ 2000 → dgE X l p = dgE X l q → nvE X l p v = nvE X l q 0 → wp 94 (am_ju 94 8) [aP 149, aI (q : Int), aI v] [] (sT g) Q := by
  intro f
  have l1 := ln_154
  have k1 := kd_154
  have fin : ∀ (g : am_F) (v : Int) (p : Nat), aRf h g → g 149 12 = h 149 12 → g 149 11 = (p : Int) → dgE X l q = p → nvE X l q 0 = v → wp 94 (am_ju 94 46) [aP 149, aI (q : Int), aI v] [] (sT g) Q := by
    intro g v p hg h12 h2 ed ev
    rw [ju_94_46]
    simp only [r_aLD0, cl_75, r_POP, r_gI, r_iST1, r_iCONST, r_iST2, r_IC3, r_gR, r_iALD, r_iALDs, r_bPUSH, cl_17, r_IF0, r_iLD2, r_IC5, r_GOTO, r_iMUL, r_iADD, r_iSUB, r_DUPI, r_DUPP, r_pI, r_IF1, r_iLD1, cl_77, r_iRET, eq_self, Int.reduceLT, Int.reduceLE, Int.reduceEq, true_or, or_true, and_self, true_and, and_true, w8_0, w8_1, w8_2, w8_3, w8_4, nl_I, nl_P, nl_X, pu_I, pu_J, pu_V, s_in]
    rw [ev] at hq
    by_cases e : 1 ≤ v ∧ v ≤ 30
    · rw [if_pos (by simp [e]), ju_94_54]
      simp only [r_aLD0, cl_75, r_POP, r_gI, r_iST1, r_iCONST, r_iST2, r_IC3, r_gR, r_iALD, r_iALDs, r_bPUSH, cl_17, r_IF0, r_iLD2, r_IC5, r_GOTO, r_iMUL, r_iADD, r_iSUB, r_DUPI, r_DUPP, r_pI, r_IF1, r_iLD1, cl_77, r_iRET, eq_self, Int.reduceLT, Int.reduceLE, Int.reduceEq, true_or, or_true, and_self, true_and, and_true, w8_0, w8_1, w8_2, w8_3, w8_4, nl_I, nl_P, nl_X, pu_I, pu_J, pu_V]
      exact hq g hg (by rw [h2, ed]) (by rw [if_pos e, h12])
    · rw [if_neg (by simp [e])]
      simp only [r_aLD0, cl_75, r_POP, r_gI, r_iST1, r_iCONST, r_iST2, r_IC3, r_gR, r_iALD, r_iALDs, r_bPUSH, cl_17, r_IF0, r_iLD2, r_IC5, r_GOTO, r_iMUL, r_iADD, r_iSUB, r_DUPI, r_DUPP, r_pI, r_IF1, r_iLD1, cl_77, r_iRET, eq_self, Int.reduceLT, Int.reduceLE, Int.reduceEq, true_or, or_true, and_self, true_and, and_true, w8_0, w8_1, w8_2, w8_3, w8_4, nl_I, nl_P, nl_X, pu_I, pu_J, pu_V, kd_149, s_faults, ju_94_54]
      refine hq _ (fun a k z => ?_) (by rw [up_k (by decide), h2, ed]) (by rw [if_neg e, up_s, h12]; rfl)
      rw [← hg a k z]
      unfold up
      rw [if_neg (by omega)]
  induction f with
  | zero =>
    intro p v g hf hp hg h12 h2 v0 v1 ed ev
    have hp : p = l := by omega
    subst hp
    have g1 : g 149 6 = (p : Int) := by rw [hg _ _ (by decide)]; exact e1
    rw [dgE_u, if_neg (fun q => by omega)] at ed
    rw [nvE_u, if_neg (fun q => by omega)] at ev
    rw [ju_94_8]
    simp only [r_aLD0, cl_75, r_POP, r_gI, r_iST1, r_iCONST, r_iST2, r_IC3, r_gR, r_iALD, r_iALDs, r_bPUSH, cl_17, r_IF0, r_iLD2, r_IC5, r_GOTO, r_iMUL, r_iADD, r_iSUB, r_DUPI, r_DUPP, r_pI, r_IF1, r_iLD1, cl_77, r_iRET, eq_self, Int.reduceLT, Int.reduceLE, Int.reduceEq, true_or, or_true, and_self, true_and, and_true, w8_0, w8_1, w8_2, w8_3, w8_4, nl_I, nl_P, nl_X, pu_I, pu_J, pu_V, kd_149, g1, h2]
    rw [if_pos (Int.le_refl _)]
    exact fin g v p hg h12 h2 ed.symm ev.symm
  | succ f ih =>
    intro p v g hf hp hg h12 h2 v0 v1 ed ev
    have g1 : g 149 6 = (l : Int) := by rw [hg _ _ (by decide)]; exact e1
    have g6 : g 154 p = X p := by rw [hg _ _ (by omega)]; exact e6 p (by omega)
    have p0 : (0 : Int) ≤ p := by omega
    have p1 : (p : Int) < 100 := by omega
    have hw : w3 ((p : Int) + 1) = ((p + 1 : Nat) : Int) := w3_id (by omega) (by omega)
    rw [ju_94_8]
    simp (disch := first | assumption | omega | exact w8_0 | exact w8_1 _ | exact w8_2 _ _ | exact w8_3 _ _ _ | exact w8_4 _ _ _ _ | exact nl_I _ | exact nl_P _ | exact nl_X | decide | exact w8_5 _ _ _ _ _) only [r_aLD0, cl_75, r_POP, r_gI, r_iST1, r_iCONST, r_iST2, r_IC3, r_gR, r_iALDc, r_iALDs, r_bPUSH, cl_17, r_IF0, r_iLD2, r_IC5, r_GOTO, r_iMUL, r_iADD, r_iSUB, r_DUPI, r_DUPP, r_pI, r_IF1, r_iLD1, cl_77, r_iRET, eq_self, Int.reduceLT, Int.reduceLE, Int.reduceEq, true_or, or_true, and_self, true_and, and_true, w8_0, w8_1, w8_2, w8_3, w8_4, nl_I, nl_P, nl_X, pu_I, pu_J, pu_V, w3_id, Int.add_zero, kd_149, rR_149_5, g1, h2, g6, s_in]
    rw [if_neg (by omega)]
    by_cases e : 48 ≤ X p ∧ X p ≤ 57
    · rw [dgE_u, if_pos ⟨by omega, e.1, e.2⟩] at ed
      rw [nvE_u, if_pos ⟨by omega, e.1, e.2⟩] at ev
      have ih := fun g => ih (p + 1) (if v ≤ 99 then 10 * v + X p - 48 else v) g (by omega) (by omega)
      have c1 : aRf h (up g 149 11 ((p : Int) + 1)) := fun a k z => by rw [← hg a k z]; unfold up; rw [if_neg (by omega)]
      have c2 : up g 149 11 ((p : Int) + 1) 149 12 = h 149 12 := by rw [up_k (by decide)]; exact h12
      have ih := ih (up g 149 11 ((p : Int) + 1)) c1 c2 up_s (by split <;> omega) (by split <;> omega) ed ev
      rw [if_neg (by simp [e])]
      by_cases z : v ≤ 99
      · rw [if_pos z] at ih
        rw [if_pos z, ju_94_27]
        simp (disch := first | assumption | omega | exact w8_0 | exact w8_1 _ | exact w8_2 _ _ | exact w8_3 _ _ _ | exact w8_4 _ _ _ _ | exact nl_I _ | exact nl_P _ | exact nl_X | decide | exact w8_5 _ _ _ _ _) only [ju_94_38, r_aLD0, cl_75, r_POP, r_gI, r_iST1, r_iCONST, r_iST2, r_IC3, r_gR, r_iALDc, r_iALDs, r_bPUSH, cl_17, r_IF0, r_iLD2, r_IC5, r_GOTO, r_iMUL, r_iADD, r_iSUB, r_DUPI, r_DUPP, r_pI, r_IF1, r_iLD1, cl_77, r_iRET, eq_self, Int.reduceLT, Int.reduceLE, Int.reduceEq, true_or, or_true, and_self, true_and, and_true, w8_0, w8_1, w8_2, w8_3, w8_4, nl_I, nl_P, nl_X, pu_I, pu_J, pu_V, w3_id, Int.add_zero, kd_149, rR_149_5, h2, g6]
        exact ih
      · rw [if_neg z] at ih
        rw [if_neg z, ju_94_38]
        simp (disch := first | assumption | omega | exact w8_0 | exact w8_1 _ | exact w8_2 _ _ | exact w8_3 _ _ _ | exact w8_4 _ _ _ _ | exact nl_I _ | exact nl_P _ | exact nl_X | decide | exact w8_5 _ _ _ _ _) only [r_aLD0, cl_75, r_POP, r_gI, r_iST1, r_iCONST, r_iST2, r_IC3, r_gR, r_iALDc, r_iALDs, r_bPUSH, cl_17, r_IF0, r_iLD2, r_IC5, r_GOTO, r_iMUL, r_iADD, r_iSUB, r_DUPI, r_DUPP, r_pI, r_IF1, r_iLD1, cl_77, r_iRET, eq_self, Int.reduceLT, Int.reduceLE, Int.reduceEq, true_or, or_true, and_self, true_and, and_true, w8_0, w8_1, w8_2, w8_3, w8_4, nl_I, nl_P, nl_X, pu_I, pu_J, pu_V, w3_id, Int.add_zero, kd_149, rR_149_5, h2]
        exact ih
    · have ed : dgE X l q = p := by rw [← ed, dgE_u, if_neg (fun q => e q.2)]
      have ev : nvE X l q 0 = v := by rw [← ev, nvE_u, if_neg (fun q => e q.2)]
      rw [if_pos (by simp [e])]
      exact fin g v p hg h12 h2 ed ev
end SP
