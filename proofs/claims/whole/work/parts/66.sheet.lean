def fio (h : am_F) (c o l v : Int) : am_F := fun a k => if a = c ∧ o ≤ k ∧ k < o + l then v else h a k
section SS
variable {h h' h1 h2 : am_F} {Q : am_V → am_S → Prop} {c d v x y i j m o p : Int} {l t q r : Nat}
theorem fio_s : up (fio h c o t v) c (o + t) v = fio h c o ((t + 1 : Nat) : Int) v := by
  funext a k
  unfold up fio
  by_cases h1 : a = c ∧ k = o + (t : Int)
  · rw [if_pos h1, if_pos ⟨h1.1, by omega, by omega⟩]
  · rw [if_neg h1]
    by_cases h2 : a = c ∧ o ≤ k ∧ k < o + (t : Int)
    · rw [if_pos h2, if_pos ⟨h2.1, h2.2.1, by omega⟩]
    · rw [if_neg h2, if_neg (fun z => h2 ⟨z.1, z.2.1, by
        have : ¬ k = o + (t : Int) := fun q => h1 ⟨z.1, q⟩
        have := z.2.2
        omega⟩)]
theorem fio_0 : fio h c o ((0 : Nat) : Int) v = h := by funext a k; unfold fio; rw [if_neg (by omega)]
theorem fio_ne {a : Int} (ha : a ≠ c) : fio h c o d v a = h a := by funext k; unfold fio; rw [if_neg (fun z => ha z.1)]
theorem fio_k {k : Int} : fio h c o d v c k = if o ≤ k ∧ k < o + d then v else h c k := by
  unfold fio
  by_cases e : o ≤ k ∧ k < o + d
  · rw [if_pos e, if_pos ⟨rfl, e⟩]
  · rw [if_neg e, if_neg (fun z => e z.2)]
theorem cpo_s (hcd : c ≠ d) : up (cpy h c o d p (t : Int)) d (p + t) (cpy h c o d p (t : Int) c (o + t)) = cpy h c o d p ((t + 1 : Nat) : Int) := by
  have e : cpy h c o d p (t : Int) c (o + t) = h c (o + t) := by unfold cpy; rw [if_neg (fun z => hcd z.1)]
  rw [e]
  funext a k
  unfold up cpy
  by_cases h1 : a = d ∧ k = p + (t : Int)
  · obtain ⟨rfl, rfl⟩ := h1
    rw [if_pos ⟨rfl, rfl⟩, if_pos ⟨rfl, by omega, by omega⟩]
    congr 1; omega
  · rw [if_neg h1]
    by_cases h2 : a = d ∧ p ≤ k ∧ k < p + (t : Int)
    · rw [if_pos h2, if_pos ⟨h2.1, h2.2.1, by omega⟩]
    · rw [if_neg h2, if_neg (fun z => h2 ⟨z.1, z.2.1, by
        have : ¬ k = p + (t : Int) := fun q => h1 ⟨z.1, q⟩
        have := z.2.2
        omega⟩)]
theorem cpo_0 : cpy h c o d p ((0 : Nat) : Int) = h := by funext a k; unfold cpy; rw [if_neg (by omega)]
theorem cpo_ne {a : Int} (ha : a ≠ d) : cpy h c o d p m a = h a := by funext k; unfold cpy; rw [if_neg (fun z => ha z.1)]
theorem cpo_k {k : Int} : cpy h c o d p m d k = if p ≤ k ∧ k < p + m then h c (o + (k - p)) else h d k := by
  unfold cpy
  by_cases e : p ≤ k ∧ k < p + m
  · rw [if_pos e, if_pos ⟨rfl, e⟩]
  · rw [if_neg e, if_neg (fun z => e z.2)]
theorem INV_s (hI : INV h) (hf : ∀ a k, (a < 72 ∨ 79 < a) → (a < 155 ∨ 157 < a) → ¬ scr a k → h2 a k = h a k) (hS : SH h2) : INV h2 := by
  obtain ⟨i1, i2, i3, -⟩ := hI
  refine ⟨WX_mv (fun a k q => hf _ _ ?_ ?_ ?_) (fun k _ _ => hf _ _ ?_ ?_ ?_) i1, KP_c (fun a k q => hf _ _ ?_ ?_ ?_) (fun k _ _ => hf _ _ ?_ ?_ ?_) (hf _ _ ?_ ?_ ?_) (hf _ _ ?_ ?_ ?_) i2, TP_c (hf _ _ ?_ ?_ ?_) (hf _ _ ?_ ?_ ?_) (fun i _ => hf _ _ ?_ ?_ ?_) (fun i _ => hf _ _ ?_ ?_ ?_) i3, hS⟩
  all_goals (try unfold scr)
  all_goals (try unfold lv at q)
  all_goals omega
def shT (h : am_F) (x y m : Int) : am_F := fil (up (up (up h (72 + 2 * x) 1 0) (72 + 2 * x) 2 y) (72 + 2 * x) 3 m) (73 + 2 * x) 24 0
theorem s_lay (hq : q < 4) (hm : 0 ≤ m ∧ m ≤ 24) : wp 222 (am_ju 222 0) [aP (72 + 2 * (q : Int)), aI y, aI m] [] (sT h) Q ↔ Q aV (sT (shT h q y m)) := by
  obtain ⟨k1, r1, r2, k2, l2⟩ := sh_q q hq
  have e : (if (24 : Int) < m then (24 : Int) else m) = m := if_neg (by omega)
  have z : (0 : Int) ≤ 73 + 2 * q := by omega
  simp (disch := first | assumption | omega | exact w8_0 | exact w8_1 _ | exact w8_2 _ _ | exact w8_3 _ _ _ | exact w8_4 _ _ _ _ | exact nl_I _ | exact nl_P _ | exact nl_X | decide | exact w8_5 _ _ _ _ _) only [ju_222_0, r_aLD0, r_iCONST, r_pZ, r_iLD1, r_pI, r_iLD2, r_bPUSH, r_MMIN, r_gR, r_lCONST, cl_221, r_vRET, eq_self, Int.reduceLT, Int.reduceLE, Int.reduceEq, true_or, or_true, and_self, true_and, and_true, w8_0, w8_1, w8_2, w8_3, w8_4, nl_I, nl_P, nl_X, pu_I, pu_J, pu_V, w3_id, Int.add_zero, r_pZ, e, r2, s_fillJ (l := 24) k2 l2 (by decide)]
  rfl
theorem s_Tsheet : wp 223 (am_ju 223 0) [aP 0, aI x, aI y, aI m] [] (sT h) Q ↔ (if ((0 ≤ x ∧ x < 4) ∧ 0 ≤ y ∧ y < 4) ∧ m ≤ 24 then (if 0 ≤ m then Q (aI m) (sT (shT h x y m)) else Q (aI (-14)) (sT h)) else Q (aI (-1)) (sT h)) := by
  simp only [ju_223_0, ju_223_7, r_iLD1, r_iLD2, cl_204, r_IF0, r_iLD3, r_bPUSH, r_IC5, r_iCONST, r_iRET, r_IF3, r_aLD0, r_gR, r_aALD, cl_222, eq_self, Int.reduceLT, Int.reduceLE, Int.reduceEq, true_or, or_true, and_self, true_and, and_true, w8_0, w8_1, w8_2, w8_3, w8_4, nl_I, nl_P, nl_X, pu_I, pu_J, pu_V, s_isSL]
  by_cases e : (0 ≤ x ∧ x < 4) ∧ 0 ≤ y ∧ y < 4
  · rw [if_neg (by simp [e])]
    by_cases f : m ≤ 24
    · rw [if_pos f, if_pos ⟨e, f⟩]
      by_cases g : 0 ≤ m
      · obtain ⟨q, rfl⟩ := Int.eq_ofNat_of_zero_le e.1.1
        have hq : q < 4 := by omega
        obtain ⟨k1, r1, r2, k2, l2⟩ := sh_q q hq
        have kk : kd 71 = 22 ∨ kd 71 = 23 := Or.inr kd_71
        have q0 : (0 : Int) ≤ (q : Int) := by omega
        have q4 : (q : Int) < 4 := by omega
        have r0 : (0 : Int) ≤ rR 71 q := by rw [r1]; omega
        rw [if_pos g]
        simp (disch := first | assumption | omega | exact w8_0 | exact w8_1 _ | exact w8_2 _ _ | exact w8_3 _ _ _ | exact w8_4 _ _ _ _ | exact nl_I _ | exact nl_P _ | exact nl_X | decide | exact w8_5 _ _ _ _ _) only [ju_223_9, ju_223_13, r_iLD1, r_iLD2, cl_204, r_IF0, r_iLD3, r_bPUSH, r_IC5, r_iCONST, r_iRET, r_IF3, r_aLD0, r_gR, r_aALD, cl_222, eq_self, Int.reduceLT, Int.reduceLE, Int.reduceEq, true_or, or_true, and_self, true_and, and_true, w8_0, w8_1, w8_2, w8_3, w8_4, nl_I, nl_P, nl_X, pu_I, pu_J, pu_V, w3_id, Int.add_zero, kd_0, rR_0_10, g, if_true, kk, r0, r1, ln_71, q0, q4, and_self, true_and, s_lay hq ⟨g, f⟩]
      · rw [if_neg g]
        simp only [ju_223_9, r_iLD1, r_iLD2, cl_204, r_IF0, r_iLD3, r_bPUSH, r_IC5, r_iCONST, r_iRET, r_IF3, r_aLD0, r_gR, r_aALD, cl_222, eq_self, Int.reduceLT, Int.reduceLE, Int.reduceEq, true_or, or_true, and_self, true_and, and_true, w8_0, w8_1, w8_2, w8_3, w8_4, nl_I, nl_P, nl_X, pu_I, pu_J, pu_V, g, if_false]
    · rw [if_neg f, if_neg (fun z => f z.2)]
  · rw [if_pos (by simp [e]), if_neg (fun z => e z.1)]
def shR (h : am_F) (x y m : Int) : am_F := fio (up (up h 155 x y) 156 x m) 157 (24 * x) 24 0
theorem lp_Rsheet (hx : 0 ≤ x ∧ x < 4) : ∀ (k t : Nat), t + k = 24 → (wp 224 (am_ju 224 27) [aP 149, aI x, aI y, aI m, aI (t : Int)] [] (sT (fio h 157 (24 * x) t 0)) Q ↔ Q (aI m) (sT (fio h 157 (24 * x) 24 0))) := by
  intro k
  have l1 := ln_157
  have k1 := kd_157
  obtain ⟨x0, x4⟩ := hx
  induction k with
  | zero =>
    intro t ht
    have ht : t = 24 := by omega
    subst ht
    rw [ju_224_27]
    simp only [ju_224_41, r_iLD1, cl_210, r_IF0, r_iLD2, cl_211, r_iLD3, r_bPUSH, r_IC5, r_iCONST, r_iRET, r_IF3, r_aLD0, r_gR, r_iAST, r_iST4, r_iLD4, r_IC3, r_iMUL, r_iADD, r_lCONST, r_lAST, r_IINC4, r_GOTO, eq_self, Int.reduceLT, Int.reduceLE, Int.reduceEq, true_or, or_true, and_self, true_and, and_true, w8_0, w8_1, w8_2, w8_3, w8_4, nl_I, nl_P, nl_X, pu_I, pu_J, pu_V]
    rw [if_pos (by decide)]
    exact Iff.rfl
  | succ k ih =>
    intro t ht
    have hw : w3 ((t : Int) + 1) = ((t + 1 : Nat) : Int) := w3_id (by omega) (by omega)
    rw [ju_224_27]
    simp (disch := first | assumption | omega | exact w8_0 | exact w8_1 _ | exact w8_2 _ _ | exact w8_3 _ _ _ | exact w8_4 _ _ _ _ | exact nl_I _ | exact nl_P _ | exact nl_X | decide | exact w8_5 _ _ _ _ _) only [r_iLD1, cl_210, r_IF0, r_iLD2, cl_211, r_iLD3, r_bPUSH, r_IC5, r_iCONST, r_iRET, r_IF3, r_aLD0, r_gR, r_iASTc, r_iST4, r_iLD4, r_IC3, r_iMUL, r_iADD, r_lCONST, r_lASTc, r_IINC4, r_GOTO, eq_self, Int.reduceLT, Int.reduceLE, Int.reduceEq, true_or, or_true, and_self, true_and, and_true, w8_0, w8_1, w8_2, w8_3, w8_4, nl_I, nl_P, nl_X, pu_I, pu_J, pu_V, w3_id, Int.add_zero, kd_149, rR_149_9, hw]
    rw [if_neg (by omega), fio_s]
    exact ih (t + 1) (by omega)
theorem s_Rsheet : wp 224 (am_ju 224 0) [aP 149, aI x, aI y, aI m, aX] [] (sT h) Q ↔ (if ((0 ≤ x ∧ x < 4) ∧ 0 ≤ y ∧ y < 4) ∧ m ≤ 24 then (if 0 ≤ m then Q (aI m) (sT (shR h x y m)) else Q (aI (-14)) (sT h)) else Q (aI (-1)) (sT h)) := by
  simp only [ju_224_0, ju_224_9, r_iLD1, cl_210, r_IF0, r_iLD2, cl_211, r_iLD3, r_bPUSH, r_IC5, r_iCONST, r_iRET, r_IF3, r_aLD0, r_gR, r_iAST, r_iST4, r_iLD4, r_IC3, r_iMUL, r_iADD, r_lCONST, r_lAST, r_IINC4, r_GOTO, eq_self, Int.reduceLT, Int.reduceLE, Int.reduceEq, true_or, or_true, and_self, true_and, and_true, w8_0, w8_1, w8_2, w8_3, w8_4, nl_I, nl_P, nl_X, pu_I, pu_J, pu_V, s_isSheet, s_isLane]
  by_cases e : 0 ≤ x ∧ x < 4
  · by_cases e2 : 0 ≤ y ∧ y < 4
    · rw [if_neg (by simp [e]), if_neg (by simp [e2])]
      by_cases f : m ≤ 24
      · rw [if_pos f, if_pos ⟨⟨e, e2⟩, f⟩]
        by_cases g : 0 ≤ m
        · have l1 := ln_155
          have k1 := kd_155
          have l2 := ln_156
          have k2 := kd_156
          obtain ⟨x0, x4⟩ := id e
          rw [if_pos g]
          simp (disch := first | assumption | omega | exact w8_0 | exact w8_1 _ | exact w8_2 _ _ | exact w8_3 _ _ _ | exact w8_4 _ _ _ _ | exact nl_I _ | exact nl_P _ | exact nl_X | decide | exact w8_5 _ _ _ _ _) only [ju_224_11, ju_224_15, r_iLD1, cl_210, r_IF0, r_iLD2, cl_211, r_iLD3, r_bPUSH, r_IC5, r_iCONST, r_iRET, r_IF3, r_aLD0, r_gR, r_iASTc, r_iST4, r_iLD4, r_IC3, r_iMUL, r_iADD, r_lCONST, r_lASTc, r_IINC4, r_GOTO, eq_self, Int.reduceLT, Int.reduceLE, Int.reduceEq, true_or, or_true, and_self, true_and, and_true, w8_0, w8_1, w8_2, w8_3, w8_4, nl_I, nl_P, nl_X, pu_I, pu_J, pu_V, w3_id, Int.add_zero, kd_149, rR_149_7, rR_149_8, g, if_true]
          have := lp_Rsheet (h := up (up h 155 x y) 156 x m) (y := y) (m := m) (Q := Q) e 24 0 rfl
          rw [fio_0] at this
          exact this
        · rw [if_neg g]
          simp only [ju_224_11, r_iLD1, cl_210, r_IF0, r_iLD2, cl_211, r_iLD3, r_bPUSH, r_IC5, r_iCONST, r_iRET, r_IF3, r_aLD0, r_gR, r_iAST, r_iST4, r_iLD4, r_IC3, r_iMUL, r_iADD, r_lCONST, r_lAST, r_IINC4, r_GOTO, eq_self, Int.reduceLT, Int.reduceLE, Int.reduceEq, true_or, or_true, and_self, true_and, and_true, w8_0, w8_1, w8_2, w8_3, w8_4, nl_I, nl_P, nl_X, pu_I, pu_J, pu_V, g, if_false]
      · rw [if_neg f, if_neg (fun z => f z.2)]
    · rw [if_neg (by simp [e]), if_pos (by simp [e2]), if_neg (fun z => e2 z.1.2)]
  · rw [if_pos (by simp [e]), if_neg (fun z => e z.1.1)]
theorem b_sheet (hI : INV h) : Both 223 224 [aP 0, aI x, aI y, aI m] [aP 149, aI x, aI y, aI m, aX] h := by
  unfold Both
  rw [s_Tsheet]
  by_cases e : ((0 ≤ x ∧ x < 4) ∧ 0 ≤ y ∧ y < 4) ∧ m ≤ 24
  · rw [if_pos e]
    by_cases g : 0 ≤ m
    · rw [if_pos g]
      obtain ⟨q, rfl⟩ := Int.eq_ofNat_of_zero_le e.1.1.1
      have f1 : ∀ a, (a < 72 ∨ 79 < a) → shT h q y m a = h a := fun a ha => by unfold shT; rw [fil_ne (by omega), up_ne (by omega), up_ne (by omega), up_ne (by omega)]
      refine ⟨_, _, rfl, rfl, f1 _ (by omega), ?_⟩
      rw [s_Rsheet, if_pos e, if_pos g]
      have f2 : ∀ a, (a < 155 ∨ 157 < a) → shR (shT h q y m) q y m a = shT h q y m a := fun a ha => by unfold shR; rw [fio_ne (by omega), up_ne (by omega), up_ne (by omega)]
      refine ⟨_, rfl, rfl, by rw [f2 _ (by omega), f1 _ (by omega)], INV_s hI (fun a k q1 q2 _ => by rw [f2 a q2, f1 a q1]) (fun r hr => ?_)⟩
      have hs := hI.2.2.2 r hr
      have e155 : shR (shT h q y m) q y m 155 r = if r = q then y else h 155 r := by
        unfold shR
        rw [fio_ne (by omega), up_ne (by omega)]
        by_cases z : r = q
        · subst z; rw [up_s, if_pos rfl]
        · rw [up_k (by omega), if_neg z, f1 _ (by omega)]
      have e156 : shR (shT h q y m) q y m 156 r = if r = q then m else h 156 r := by
        unfold shR
        rw [fio_ne (by omega)]
        by_cases z : r = q
        · subst z; rw [up_s, if_pos rfl]
        · rw [up_k (by omega), if_neg z, up_ne (by omega), f1 _ (by omega)]
      have e157 : ∀ i : Nat, i < 24 → shR (shT h q y m) q y m 157 (24 * r + i) = if r = q then 0 else h 157 (24 * r + i) := fun i hi => by
        unfold shR
        rw [fio_k]
        by_cases z : r = q
        · subst z; rw [if_pos (by omega), if_pos rfl]
        · rw [if_neg (by omega), if_neg z, up_ne (by omega), up_ne (by omega), f1 _ (by omega)]
      unfold SQ at hs ⊢
      rw [e155, e156, f2 _ (by omega)]
      by_cases z : r = q
      · subst z
        simp only [if_true]
        unfold shT
        rw [fil_ne (by omega), up_s, up_k (by decide), up_k (by decide), up_s, up_k (by decide), up_s]
        refine ⟨rfl, ⟨g, e.2⟩, Or.inr ⟨rfl, rfl, e.1.2.1, by omega⟩, fun i hi => ?_⟩
        have := e157 i hi
        unfold shT at this
        rw [this, if_pos rfl]
        rw [show shR (fil (up (up (up h (72 + 2 * (r : Int)) 1 0) (72 + 2 * (r : Int)) 2 y) (72 + 2 * (r : Int)) 3 m) (73 + 2 * (r : Int)) 24 0) r y m (73 + 2 * (r : Int)) = fil (up (up (up h (72 + 2 * (r : Int)) 1 0) (72 + 2 * (r : Int)) 2 y) (72 + 2 * (r : Int)) 3 m) (73 + 2 * (r : Int)) 24 0 (73 + 2 * (r : Int)) from f2 _ (by omega), fil_at (by omega) (by omega)]
      · simp only [if_neg z]
        have g1 : ∀ a, 72 + 2 * (r : Int) ≤ a → a ≤ 73 + 2 * (r : Int) → shT h q y m a = h a := fun a q1 q2 => by unfold shT; rw [fil_ne (by omega), up_ne (by omega), up_ne (by omega), up_ne (by omega)]
        rw [g1 _ (by omega) (by omega)]
        refine ⟨hs.1, hs.2.1, hs.2.2.1, fun i hi => ?_⟩
        rw [e157 i hi, if_neg z, f2 _ (by omega), g1 _ (by omega) (by omega)]
        exact hs.2.2.2 i hi
    · rw [if_neg g]
      refine ⟨_, _, rfl, rfl, rfl, ?_⟩
      rw [s_Rsheet, if_pos e, if_neg g]
      exact ⟨_, rfl, rfl, rfl, hI⟩
  · rw [if_neg e]
    refine ⟨_, _, rfl, rfl, rfl, ?_⟩
    rw [s_Rsheet, if_neg e]
    exact ⟨_, rfl, rfl, rfl, hI⟩
end SS
