section CP
variable {h : am_F} {Q : am_V → am_S → Prop} {c d : Int}
theorem cpy_s {t : Nat} (hcd : c ≠ d) : up (cpy h c 0 d 0 (t : Int)) d (t : Int) (cpy h c 0 d 0 (t : Int) c (t : Int)) = cpy h c 0 d 0 ((t + 1 : Nat) : Int) := by
  have e : cpy h c 0 d 0 (t : Int) c (t : Int) = h c t := by unfold cpy; rw [if_neg (fun z => hcd z.1)]
  rw [e]
  funext a k
  unfold up cpy
  by_cases h1 : a = d ∧ k = (t : Int)
  · obtain ⟨rfl, rfl⟩ := h1
    rw [if_pos ⟨rfl, rfl⟩, if_pos ⟨rfl, by omega, by omega⟩]
    congr 1; omega
  · rw [if_neg h1]
    by_cases h2 : a = d ∧ 0 ≤ k ∧ k < 0 + (t : Int)
    · rw [if_pos h2, if_pos ⟨h2.1, h2.2.1, by omega⟩]
    · rw [if_neg h2, if_neg (fun z => h2 ⟨z.1, z.2.1, by
        have : ¬ k = (t : Int) := fun q => h1 ⟨z.1, q⟩
        have := z.2.2
        omega⟩)]
theorem lp_copies (hk : kd c = 20) (hl : ln c = 238) (hkd : kd d = 20) (hld : ln d = 238) (hcd : c ≠ d) : ∀ (k t : Nat), t + k = 238 → (wp 90 (am_ju 90 2) [aP c, aP d, aI (t : Int)] [] (sT (cpy h c 0 d 0 (t : Int))) Q ↔ Q aV (sT (cpy h c 0 d 0 238))) := by
  intro k
  induction k with
  | zero =>
    intro t ht
    have ht : t = 238 := by omega
    subst ht
    rw [ju_90_2]
    simp only [ju_90_13, r_iCONST, r_iST2, r_iLD2, r_sPUSH, r_IC3, r_aLD1, r_aLD0, r_iALD, r_iALDs, r_iAST, r_IINC2, r_GOTO, r_vRET, eq_self, Int.reduceLT, Int.reduceLE, Int.reduceEq, true_or, or_true, and_self, true_and, and_true, w8_0, w8_1, w8_2, w8_3, w8_4, nl_I, nl_P, nl_X, pu_I, pu_J, pu_V]
    rw [if_pos (by decide)]
    exact Iff.rfl
  | succ k ih =>
    intro t ht
    have hw : w3 ((t : Int) + 1) = ((t + 1 : Nat) : Int) := w3_id (by omega) (by omega)
    rw [ju_90_2]
    simp (disch := first | assumption | omega | exact w8_0 | exact w8_1 _ | exact w8_2 _ _ | exact w8_3 _ _ _ | exact w8_4 _ _ _ _ | exact nl_I _ | exact nl_P _ | exact nl_X | decide | exact w8_5 _ _ _ _ _) only [r_iCONST, r_iST2, r_iLD2, r_sPUSH, r_IC3, r_aLD1, r_aLD0, r_iALDc, r_iALDs, r_iASTc, r_IINC2, r_GOTO, r_vRET, eq_self, Int.reduceLT, Int.reduceLE, Int.reduceEq, true_or, or_true, and_self, true_and, and_true, w8_0, w8_1, w8_2, w8_3, w8_4, nl_I, nl_P, nl_X, pu_I, pu_J, pu_V, w3_id, Int.add_zero, hw]
    rw [if_neg (by omega), cpy_s hcd]
    exact ih (t + 1) (by omega)
theorem s_copies (hk : kd c = 20) (hl : ln c = 238) (hkd : kd d = 20) (hld : ln d = 238) (hcd : c ≠ d) : wp 90 (am_ju 90 0) [aP c, aP d, aX] [] (sT h) Q ↔ Q aV (sT (cpy h c 0 d 0 238)) := by
  have := lp_copies (h := h) (Q := Q) hk hl hkd hld hcd 238 0 rfl
  have e : cpy h c 0 d 0 ((0 : Nat) : Int) = h := by
    funext a k; unfold cpy; rw [if_neg (fun z => by have := z.2; omega)]
  rw [e] at this
  rw [ju_90_0]
  simp only [r_iCONST, r_iST2, r_iLD2, r_sPUSH, r_IC3, r_aLD1, r_aLD0, r_iALD, r_iALDs, r_iAST, r_IINC2, r_GOTO, r_vRET, eq_self, Int.reduceLT, Int.reduceLE, Int.reduceEq, true_or, or_true, and_self, true_and, and_true, w8_0, w8_1, w8_2, w8_3, w8_4, nl_I, nl_P, nl_X, pu_I, pu_J, pu_V]
  exact this
theorem cpy_d {k : Int} (h0 : 0 ≤ k) (h1 : k < 238) : cpy h c 0 d 0 238 d k = h c k := by
  unfold cpy; rw [if_pos ⟨rfl, h0, by omega⟩]; congr 1; omega
theorem cpy_n {a : Int} (ha : a ≠ d) : cpy h c 0 d 0 238 a = h a := by
  funext k; unfold cpy; rw [if_neg (fun z => ha z.1)]
end CP
