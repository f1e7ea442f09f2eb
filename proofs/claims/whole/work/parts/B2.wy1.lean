/-! way: the words -/
def skF (X : Nat → Int) (l : Nat) : Nat → Nat → Nat
  | 0, p => p
  | k + 1, p => if p < l ∧ X p = 32 then skF X l k (p + 1) else p
/-- the next place that is no blank -/
def sk (X : Nat → Int) (l p : Nat) : Nat := skF X l (l - p) p
def nxl (X : Nat → Int) (l p : Nat) : Int := if p < l then X p else -1
def soW (c : Int) : Int := if c = 46 then 0 else if c = 117 then 1 else if c = 100 then 2 else if c = 98 then 3 else if c = 115 then 4 else -1
def pos (X : Nat → Int) (l : Nat) : Nat → Nat
  | 0 => sk X l 0
  | k + 1 => sk X l (pos X l k + 1)
def sv (X : Nat → Int) (l k : Nat) : Int := soW (nxl X l (pos X l k))
def wn (X : Nat → Int) (l : Nat) : Nat → Nat
  | 0 => 0
  | k + 1 => if wn X l k = k ∧ 0 ≤ sv X l k then k + 1 else wn X l k
def wyA (X : Nat → Int) (l : Nat) : Int := if 0 ≤ nxl X l (pos X l (wn X l 20)) ∨ wn X l 20 = 0 then -20 - (pos X l (wn X l 20) : Int) else (wn X l 20 : Int)
section WY
variable {X : Nat → Int} {l p q k : Nat}
theorem sk_u (X : Nat → Int) (l p : Nat) : sk X l p = if p < l ∧ X p = 32 then sk X l (p + 1) else p := by
  unfold sk
  by_cases e : p < l
  · rw [show l - p = (l - (p + 1)) + 1 by omega, skF]
  · rw [show l - p = 0 by omega, skF, if_neg (fun q => e q.1)]
theorem sk_le (hl : l ≤ 100) : ∀ k p, l - p = k → p ≤ 101 → p ≤ sk X l p ∧ sk X l p ≤ 101 := by
  intro k
  induction k with
  | zero => intro p hp h1; rw [sk_u, if_neg (fun q => by omega)]; omega
  | succ k ih =>
    intro p hp h1
    rw [sk_u]
    split
    · have := ih (p + 1) (by omega) (by omega); omega
    · omega
theorem sk_i : ∀ k p, l - p = k → ¬ (sk X l p < l ∧ X (sk X l p) = 32) := by
  intro k
  induction k with
  | zero => intro p hp; rw [sk_u, if_neg (fun q => by omega)]; omega
  | succ k ih =>
    intro p hp
    by_cases e : p < l ∧ X p = 32
    · rw [sk_u, if_pos e]; exact ih (p + 1) (by omega)
    · rw [sk_u, if_neg e]; exact e
theorem sk_sk (X : Nat → Int) (l p : Nat) : sk X l (sk X l p) = sk X l p := by
  rw [sk_u X l (sk X l p), if_neg (sk_i _ p rfl)]
theorem pos_sk : ∀ k, sk X l (pos X l k) = pos X l k := by
  intro k
  cases k with
  | zero => exact sk_sk _ _ _
  | succ k => exact sk_sk _ _ _
theorem sk_l (hl : l ≤ 100) (hp : p ≤ l) : sk X l p ≤ l := by
  have : ∀ k p, l - p = k → p ≤ l → sk X l p ≤ l := by
    intro k
    induction k with
    | zero => intro p h1 h2; rw [sk_u, if_neg (fun q => by omega)]; exact h2
    | succ k ih =>
      intro p h1 h2
      rw [sk_u]
      split
      · exact ih (p + 1) (by omega) (by omega)
      · exact h2
  exact this _ p rfl hp
theorem so_n : soW (-1) = -1 := by decide
theorem sv_lt (hg : 0 ≤ sv X l k) : pos X l k < l := by
  by_cases e : pos X l k < l
  · exact e
  · unfold sv nxl at hg
    rw [if_neg e, so_n] at hg
    exact absurd hg (by decide)
theorem so_r (c : Int) : -1 ≤ soW c ∧ soW c ≤ 4 := by
  unfold soW
  repeat' split
  all_goals omega
theorem wn_le (X : Nat → Int) (l : Nat) : ∀ k, wn X l k ≤ k := by
  intro k
  induction k with
  | zero => exact Nat.le_refl _
  | succ k ih => rw [wn]; split <;> omega
theorem wn_bad (X : Nat → Int) (l : Nat) : ∀ k, wn X l k < k → ¬ 0 ≤ sv X l (wn X l k) := by
  intro k
  induction k with
  | zero => intro h; omega
  | succ k ih =>
    intro h
    have hk := wn_le X l k
    rw [wn] at h ⊢
    by_cases e : wn X l k = k ∧ 0 ≤ sv X l k
    · rw [if_pos e] at h; omega
    · rw [if_neg e]
      by_cases z : wn X l k = k
      · rw [z]; exact fun q => e ⟨z, q⟩
      · exact ih (by omega)
theorem wn_good (X : Nat → Int) (l : Nat) : ∀ k j, j < wn X l k → 0 ≤ sv X l j := by
  intro k
  induction k with
  | zero => intro j h; exact absurd h (Nat.not_lt_zero _)
  | succ k ih =>
    intro j h
    rw [wn] at h
    by_cases e : wn X l k = k ∧ 0 ≤ sv X l k
    · rw [if_pos e] at h
      by_cases z : j = k
      · subst z; exact e.2
      · exact ih j (by omega)
    · rw [if_neg e] at h; exact ih j h
theorem wn_st {j : Nat} (h1 : wn X l j = j) (h2 : ¬ 0 ≤ sv X l j) : ∀ d, wn X l (j + d) = j := by
  intro d
  induction d with
  | zero => exact h1
  | succ d ih =>
    rw [← Nat.add_assoc, wn, ih, if_neg]
    rintro ⟨q1, q2⟩
    have : d = 0 := by omega
    subst this
    exact h2 q2
theorem pos_le (hl : l ≤ 100) : ∀ k, (∀ j, j < k → 0 ≤ sv X l j) → pos X l k ≤ l := by
  intro k
  cases k with
  | zero => intro _; exact sk_l hl (Nat.zero_le _)
  | succ k => intro hq; exact sk_l hl (sv_lt (hq k (by omega)))
end WY
section WZ
variable {g h h' h1 h2 u : am_F} {Q : am_V → am_S → Prop} {so j bj x y z o c w r k t : Int} {n nb L s K nx b m a q B S T i gg l M Z v ch N d p : Nat} {X : Nat → Int}
/-- only the class's place on the tape has changed -/
def aTt (h g : am_F) : Prop := ∀ a k, ¬ (a = 59 ∧ k = 2) → g a k = h a k
def aRr (h g : am_F) : Prop := ∀ a k, ¬ (a = 149 ∧ k = 11) → g a k = h a k
theorem s_tnext (hl : l ≤ 100) : ∀ (f p : Nat) (g : am_F), l - p = f → p ≤ l → g 59 1 = (l : Int) → g 59 2 = (p : Int) → (∀ i : Nat, i < l → g 60 i = X i) → (∀ g', aTt g g' → g' 59 2 = (sk X l p : Int) → Q (aI (nxl X l (sk X l p))) (sT g')) → wp 67 (am_ju 67 0) [aP 59] [] (sT g) Q := by
  intro f
  have l1 := ln_60
  have k1 := kd_60
  induction f with
  | zero =>
    intro p g hf hp h1 h2 h3 hq
    have hp : p = l := by omega
    subst hp
    have := hq g (fun _ _ _ => rfl) (by rw [sk_u, if_neg (fun q => by omega)]; exact h2)
    rw [sk_u, if_neg (fun q => by omega)] at this
    unfold nxl at this
    rw [if_neg (by omega)] at this
    simp only [ju_67_0, ju_67_23, ju_67_38, ju_67_39, r_aLD0, r_gI, r_IC3, r_bPUSH, r_gR, r_iALD, r_iALDs, r_IC1, r_DUPI, r_DUPP, r_iCONST, r_iADD, r_pI, r_GOTO, r_iRET, eq_self, Int.reduceLT, Int.reduceLE, Int.reduceEq, true_or, or_true, and_self, true_and, and_true, w8_0, w8_1, w8_2, w8_3, w8_4, nl_I, nl_P, nl_X, pu_I, pu_J, pu_V, kd_59, h1, h2]
    rw [if_pos (Int.le_refl _), if_pos (Int.le_refl _)]
    exact this
  | succ f ih =>
    intro p g hf hp h1 h2 h3 hq
    have p0 : (0 : Int) ≤ p := by omega
    have p1 : (p : Int) < 100 := by omega
    have hw : w3 ((p : Int) + 1) = ((p + 1 : Nat) : Int) := w3_id (by omega) (by omega)
    have e3 := h3 p (by omega)
    rw [ju_67_0]
    simp (disch := first | assumption | omega | exact w8_0 | exact w8_1 _ | exact w8_2 _ _ | exact w8_3 _ _ _ | exact w8_4 _ _ _ _ | exact nl_I _ | exact nl_P _ | exact nl_X | decide | exact w8_5 _ _ _ _ _) only [r_aLD0, r_gI, r_IC3, r_bPUSH, r_gR, r_iALDc, r_iALDs, r_IC1, r_DUPI, r_DUPP, r_iCONST, r_iADD, r_pI, r_GOTO, r_iRET, eq_self, Int.reduceLT, Int.reduceLE, Int.reduceEq, true_or, or_true, and_self, true_and, and_true, w8_0, w8_1, w8_2, w8_3, w8_4, nl_I, nl_P, nl_X, pu_I, pu_J, pu_V, w3_id, Int.add_zero, kd_59, rR_59_0, h1, h2, e3, hw]
    rw [if_neg (by omega), if_neg (by omega)]
    by_cases e : X p = 32
    · rw [sk_u, if_pos ⟨by omega, e⟩] at hq
      rw [if_neg (by simpa using e)]
      have c1 : up g 59 2 ((p : Int) + 1) 59 1 = (l : Int) := by rw [up_k (by decide)]; exact h1
      refine ih (p + 1) _ (by omega) (by omega) c1 up_s (fun i hi => by rw [up_ne (by decide)]; exact h3 i hi) (fun g' q1 q2 => hq g' (fun a k z => ?_) q2)
      rw [q1 a k z]
      unfold up
      rw [if_neg z]
    · have := hq g (fun _ _ _ => rfl) (by rw [sk_u, if_neg (fun q => e q.2)]; exact h2)
      rw [sk_u, if_neg (fun q => e q.2)] at this
      unfold nxl at this
      rw [if_pos (by omega)] at this
      rw [if_pos e, ju_67_23]
      simp (disch := first | assumption | omega | exact w8_0 | exact w8_1 _ | exact w8_2 _ _ | exact w8_3 _ _ _ | exact w8_4 _ _ _ _ | exact nl_I _ | exact nl_P _ | exact nl_X | decide | exact w8_5 _ _ _ _ _) only [ju_67_39, r_aLD0, r_gI, r_IC3, r_bPUSH, r_gR, r_iALDc, r_iALDs, r_IC1, r_DUPI, r_DUPP, r_iCONST, r_iADD, r_pI, r_GOTO, r_iRET, eq_self, Int.reduceLT, Int.reduceLE, Int.reduceEq, true_or, or_true, and_self, true_and, and_true, w8_0, w8_1, w8_2, w8_3, w8_4, nl_I, nl_P, nl_X, pu_I, pu_J, pu_V, w3_id, Int.add_zero, kd_59, rR_59_0, h1, h2, e3]
      rw [if_neg (by omega), if_neg (by omega)]
      exact this
theorem s_look (hl : l ≤ 100) : ∀ (f p : Nat) (g : am_F), l - p = f → p ≤ l → g 149 6 = (l : Int) → g 149 11 = (p : Int) → (∀ i : Nat, i < l → g 154 i = X i) → (∀ g', aRr g g' → g' 149 11 = (sk X l p : Int) → Q (aI (nxl X l (sk X l p))) (sT g')) → wp 75 (am_ju 75 0) [aP 149] [] (sT g) Q := by
  intro f
  have l1 := ln_154
  have k1 := kd_154
  induction f with
  | zero =>
    intro p g hf hp h1 h2 h3 hq
    have hp : p = l := by omega
    subst hp
    have := hq g (fun _ _ _ => rfl) (by rw [sk_u, if_neg (fun q => by omega)]; exact h2)
    rw [sk_u, if_neg (fun q => by omega)] at this
    unfold nxl at this
    rw [if_neg (by omega)] at this
    simp only [ju_75_0, ju_75_19, ju_75_30, ju_75_31, r_aLD0, r_gI, r_IC3, r_gR, r_iALD, r_iALDs, r_bPUSH, r_IC1, r_DUPI, r_DUPP, r_iCONST, r_iADD, r_pI, r_GOTO, r_iRET, eq_self, Int.reduceLT, Int.reduceLE, Int.reduceEq, true_or, or_true, and_self, true_and, and_true, w8_0, w8_1, w8_2, w8_3, w8_4, nl_I, nl_P, nl_X, pu_I, pu_J, pu_V, kd_149, h1, h2]
    rw [if_pos (Int.le_refl _), if_pos (Int.le_refl _)]
    exact this
  | succ f ih =>
    intro p g hf hp h1 h2 h3 hq
    have p0 : (0 : Int) ≤ p := by omega
    have p1 : (p : Int) < 100 := by omega
    have hw : w3 ((p : Int) + 1) = ((p + 1 : Nat) : Int) := w3_id (by omega) (by omega)
    have e3 := h3 p (by omega)
    rw [ju_75_0]
    simp (disch := first | assumption | omega | exact w8_0 | exact w8_1 _ | exact w8_2 _ _ | exact w8_3 _ _ _ | exact w8_4 _ _ _ _ | exact nl_I _ | exact nl_P _ | exact nl_X | decide | exact w8_5 _ _ _ _ _) only [r_aLD0, r_gI, r_IC3, r_gR, r_iALDc, r_iALDs, r_bPUSH, r_IC1, r_DUPI, r_DUPP, r_iCONST, r_iADD, r_pI, r_GOTO, r_iRET, eq_self, Int.reduceLT, Int.reduceLE, Int.reduceEq, true_or, or_true, and_self, true_and, and_true, w8_0, w8_1, w8_2, w8_3, w8_4, nl_I, nl_P, nl_X, pu_I, pu_J, pu_V, w3_id, Int.add_zero, kd_149, rR_149_5, h1, h2, e3, hw]
    rw [if_neg (by omega)]
    by_cases e : X p = 32
    · rw [sk_u, if_pos ⟨by omega, e⟩] at hq
      rw [if_neg (by simpa using e)]
      have c1 : up g 149 11 ((p : Int) + 1) 149 6 = (l : Int) := by rw [up_k (by decide)]; exact h1
      refine ih (p + 1) _ (by omega) (by omega) c1 up_s (fun i hi => by rw [up_ne (by decide)]; exact h3 i hi) (fun g' q1 q2 => hq g' (fun a k z => ?_) q2)
      rw [q1 a k z]
      unfold up
      rw [if_neg z]
    · have := hq g (fun _ _ _ => rfl) (by rw [sk_u, if_neg (fun q => e q.2)]; exact h2)
      rw [sk_u, if_neg (fun q => e q.2)] at this
      unfold nxl at this
      rw [if_pos (by omega)] at this
      rw [if_pos e, ju_75_19]
      simp (disch := first | assumption | omega | exact w8_0 | exact w8_1 _ | exact w8_2 _ _ | exact w8_3 _ _ _ | exact w8_4 _ _ _ _ | exact nl_I _ | exact nl_P _ | exact nl_X | decide | exact w8_5 _ _ _ _ _) only [ju_75_31, r_aLD0, r_gI, r_IC3, r_gR, r_iALDc, r_iALDs, r_bPUSH, r_IC1, r_DUPI, r_DUPP, r_iCONST, r_iADD, r_pI, r_GOTO, r_iRET, eq_self, Int.reduceLT, Int.reduceLE, Int.reduceEq, true_or, or_true, and_self, true_and, and_true, w8_0, w8_1, w8_2, w8_3, w8_4, nl_I, nl_P, nl_X, pu_I, pu_J, pu_V, w3_id, Int.add_zero, kd_149, rR_149_5, h1, h2, e3]
      rw [if_neg (by omega)]
      exact this
theorem s_sortOf : wp 76 (am_ju 76 0) [aI x] [] (sT h) Q ↔ Q (aI (soW x)) (sT h) := by
  unfold soW
  simp only [ju_76_0, ju_76_5, ju_76_10, ju_76_15, ju_76_20, ju_76_25, ju_76_26, r_iLD0, r_bPUSH, r_IC1, r_iCONST, r_GOTO, r_iRET, eq_self, Int.reduceLT, Int.reduceLE, Int.reduceEq, true_or, or_true, and_self, true_and, and_true, w8_0, w8_1, w8_2, w8_3, w8_4, nl_I, nl_P, nl_X, pu_I, pu_J, pu_V]
  by_cases e1 : x = 46
  · simp [e1]
  · by_cases e2 : x = 117
    · simp [e2]
    · by_cases e3 : x = 100
      · simp [e3]
      · by_cases e4 : x = 98
        · simp [e4]
        · by_cases e5 : x = 115
          · simp [e5]
          · simp [e1, e2, e3, e4, e5]
theorem s_TsortOf : wp 68 (am_ju 68 0) [aI x] [] (sT h) Q ↔ Q (aI (soW x)) (sT h) := by
  unfold soW
  rw [ju_68_0]
  simp only [r_iLD0, r_LSW, r_iCONST, r_iRET, eq_self, Int.reduceLT, Int.reduceLE, Int.reduceEq, true_or, or_true, and_self, true_and, and_true, w8_0, w8_1, w8_2, w8_3, w8_4, nl_I, nl_P, nl_X, pu_I, pu_J, pu_V, am_lk]
  by_cases e1 : x = 46
  · simp [e1, ju_68_2, r_iLD0, r_LSW, r_iCONST, r_iRET, eq_self, Int.reduceLT, Int.reduceLE, Int.reduceEq, true_or, or_true, and_self, true_and, and_true, w8_0, w8_1, w8_2, w8_3, w8_4, nl_I, nl_P, nl_X, pu_I, pu_J, pu_V]
  · by_cases e2 : x = 117
    · simp [e2, ju_68_4, r_iLD0, r_LSW, r_iCONST, r_iRET, eq_self, Int.reduceLT, Int.reduceLE, Int.reduceEq, true_or, or_true, and_self, true_and, and_true, w8_0, w8_1, w8_2, w8_3, w8_4, nl_I, nl_P, nl_X, pu_I, pu_J, pu_V]
    · by_cases e3 : x = 100
      · simp [e3, ju_68_6, r_iLD0, r_LSW, r_iCONST, r_iRET, eq_self, Int.reduceLT, Int.reduceLE, Int.reduceEq, true_or, or_true, and_self, true_and, and_true, w8_0, w8_1, w8_2, w8_3, w8_4, nl_I, nl_P, nl_X, pu_I, pu_J, pu_V]
      · by_cases e4 : x = 98
        · simp [e4, ju_68_8, r_iLD0, r_LSW, r_iCONST, r_iRET, eq_self, Int.reduceLT, Int.reduceLE, Int.reduceEq, true_or, or_true, and_self, true_and, and_true, w8_0, w8_1, w8_2, w8_3, w8_4, nl_I, nl_P, nl_X, pu_I, pu_J, pu_V]
        · by_cases e5 : x = 115
          · simp [e5, ju_68_10, r_iLD0, r_LSW, r_iCONST, r_iRET, eq_self, Int.reduceLT, Int.reduceLE, Int.reduceEq, true_or, or_true, and_self, true_and, and_true, w8_0, w8_1, w8_2, w8_3, w8_4, nl_I, nl_P, nl_X, pu_I, pu_J, pu_V]
          · have f1 : ¬ 46 = x := fun q => e1 q.symm
            have f2 : ¬ 117 = x := fun q => e2 q.symm
            have f3 : ¬ 100 = x := fun q => e3 q.symm
            have f4 : ¬ 98 = x := fun q => e4 q.symm
            have f5 : ¬ 115 = x := fun q => e5 q.symm
            simp [e1, e2, e3, e4, e5, f1, f2, f3, f4, f5, ju_68_12, r_iLD0, r_LSW, r_iCONST, r_iRET, eq_self, Int.reduceLT, Int.reduceLE, Int.reduceEq, true_or, or_true, and_self, true_and, and_true, w8_0, w8_1, w8_2, w8_3, w8_4, nl_I, nl_P, nl_X, pu_I, pu_J, pu_V]
end WZ
