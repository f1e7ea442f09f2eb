/-- the row c with the things of the set its (those below t) on the ground -/
def whF (h : am_F) (c : Int) (its : Nat) (x : Int) (t : Nat) : am_F := fun c' k' => if c' = c ∧ 23 ≤ k' ∧ (k' - 23) % 6 = 0 ∧ (k' - 23) / 6 < (t : Int) ∧ its.testBit ((k' - 23) / 6).toNat = true then x else h c' k'
section WH
variable {h : am_F} {c x : Int} {its t : Nat}
theorem whF_lo {c' k' : Int} (hk : k' < 23) : whF h c its x t c' k' = h c' k' := by unfold whF; rw [if_neg (by omega)]
theorem whF_ne {c' : Int} (hc : c' ≠ c) : whF h c its x t c' = h c' := by funext k'; unfold whF; rw [if_neg (fun z => hc z.1)]
theorem whF_off {c' : Int} {u : Nat} {wh : Int} (h0 : 0 ≤ wh) (h1 : wh ≤ 4) : whF h c its x t c' (18 + 6 * u + wh) = h c' (18 + 6 * u + wh) := by unfold whF; rw [if_neg (by omega)]
theorem whF_at {u : Nat} : whF h c its x t c (18 + 6 * u + 5) = if u < t ∧ its.testBit u = true then x else h c (18 + 6 * u + 5) := by
  unfold whF
  have e : ((18 : Int) + 6 * u + 5 - 23) / 6 = (u : Int) := by omega
  rw [e, Int.toNat_natCast]
  by_cases hq : u < t ∧ its.testBit u = true
  · rw [if_pos hq, if_pos ⟨rfl, by omega, by omega, by omega, hq.2⟩]
  · rw [if_neg hq, if_neg (fun z => hq ⟨by omega, z.2.2.2.2⟩)]
theorem whF_0 : whF h c its x 0 = h := by
  funext c' k'
  unfold whF
  rw [if_neg (fun z => by have := z.2.2.2.1; omega)]
theorem whF_s {v : Int} (hv : v = if its.testBit t = true then x else h c (18 + 6 * t + 5)) : up (whF h c its x t) c (18 + 6 * t + 5) v = whF h c its x (t + 1) := by
  funext c' k'
  by_cases hc : c' = c ∧ k' = 18 + 6 * t + 5
  · obtain ⟨rfl, rfl⟩ := hc
    rw [up_s, whF_at, hv]
    by_cases hb : its.testBit t = true
    · rw [if_pos hb, if_pos ⟨by omega, hb⟩]
    · rw [if_neg hb, if_neg (fun z => hb z.2)]
  · have : up (whF h c its x t) c (18 + 6 * t + 5) v c' k' = whF h c its x t c' k' := by unfold up; rw [if_neg hc]
    rw [this]
    unfold whF
    by_cases h1 : c' = c ∧ 23 ≤ k' ∧ (k' - 23) % 6 = 0 ∧ (k' - 23) / 6 < (t : Int) ∧ its.testBit ((k' - 23) / 6).toNat = true
    · rw [if_pos h1, if_pos ⟨h1.1, h1.2.1, h1.2.2.1, by omega, h1.2.2.2.2⟩]
    · rw [if_neg h1, if_neg]
      rintro ⟨z1, z2, z3, z4, z5⟩
      exact h1 ⟨z1, z2, z3, by
        have : ¬ (k' = 18 + 6 * t + 5) := fun e => hc ⟨z1, e⟩
        omega, z5⟩
end WH
section GO
variable {h : am_F} {Q : am_V → am_S → Prop} {c bj so j b p : Int} {n its : Nat}
theorem lp_wh (hk : kd c = 20) (hl : ln c = 238) (h8 : n ≤ 8) (hn : h c 1 = (n : Int)) (hi : its < 256) {st : Int} (hst : h c 3 = st) (hs2 : 0 ≤ st ∧ st ≤ 100) {fl : Int} (hq : ∀ v, am_nl v = true → wp 125 (am_ju 125 125) [aP 149, aP c, aI bj, aI so, aI j, aI fl, aI b, aI p, aI (its : Int), v] [] (sT (whF h c its (10 + st) n)) Q) : ∀ (k t : Nat), t + k = n → wp 125 (am_ju 125 96) [aP 149, aP c, aI bj, aI so, aI j, aI fl, aI b, aI p, aI (its : Int), aI (t : Int)] [] (sT (whF h c its (10 + st) t)) Q := by
  intro k
  induction k with
  | zero =>
    intro t ht
    have ht : t = n := by omega
    subst ht
    have e1 : whF h c its (10 + st) t c 1 = (t : Int) := by rw [whF_lo (by omega), hn]
    rw [ju_125_96]
    simp (disch := first | assumption | omega | exact w8_0 | exact w8_1 _ | exact w8_2 _ _ | exact w8_3 _ _ _ | exact w8_4 _ _ _ _ | exact nl_I _ | exact nl_P _ | exact nl_X | decide | exact w8_5 _ _ _ _ _) only [r_aLD1, r_bPUSH, r_iCONST, r_iALDc, r_iALDs, r_iADD, r_iST3, r_iLD3, r_IC1, r_GOTO, r_iLD2, r_iST4, r_aLD0, r_pZ, r_pI, r_iST5, r_iST6, r_iLD6, r_IC3, cl_45, r_IF0, cl_122, r_iLD4, cl_123, r_iST7, r_iLD7, r_IF2, cl_18, r_DUP2, r_iSHL, r_iOR, r_iASTc, cl_124, r_iST8, r_gI, r_iLD8, r_iLD5, r_iST9, r_iLD9, cl_25, cl_34, r_IINC9, r_IINC6, r_iRET, eq_self, Int.reduceLT, Int.reduceLE, Int.reduceEq, true_or, or_true, and_self, true_and, and_true, w8_0, w8_1, w8_2, w8_3, w8_4, nl_I, nl_P, nl_X, pu_I, pu_J, pu_V, w3_id, Int.add_zero, e1]
    rw [if_pos (by omega)]
    exact hq _ (nl_I _)
  | succ k ih =>
    intro t ht
    have hw : w3 ((t : Int) + 1) = ((t + 1 : Nat) : Int) := w3_id (by omega) (by omega)
    have e1 : whF h c its (10 + st) t c 1 = (n : Int) := by rw [whF_lo (by omega), hn]
    have e3 : whF h c its (10 + st) t c 3 = st := by rw [whF_lo (by omega), hst]
    have e5 : whF h c its (10 + st) t c (18 + 6 * t + 5) = h c (18 + 6 * t + 5) := by rw [whF_at, if_neg (by omega)]
    have ih := ih (t + 1) (by omega)
    rw [ju_125_96]
    simp (disch := first | assumption | omega | exact w8_0 | exact w8_1 _ | exact w8_2 _ _ | exact w8_3 _ _ _ | exact w8_4 _ _ _ _ | exact nl_I _ | exact nl_P _ | exact nl_X | decide | exact w8_5 _ _ _ _ _) only [ju_125_116, ju_125_122, r_aLD1, r_bPUSH, r_iCONST, r_iALDc, r_iALDs, r_iADD, r_iST3, r_iLD3, r_IC1, r_GOTO, r_iLD2, r_iST4, r_aLD0, r_pZ, r_pI, r_iST5, r_iST6, r_iLD6, r_IC3, cl_45, r_IF0, cl_122, r_iLD4, cl_123, r_iST7, r_iLD7, r_IF2, cl_18, r_DUP2, r_iSHL, r_iOR, r_iASTc, cl_124, r_iST8, r_gI, r_iLD8, r_iLD5, r_iST9, r_iLD9, cl_25, cl_34, r_IINC9, r_IINC6, r_iRET, eq_self, Int.reduceLT, Int.reduceLE, Int.reduceEq, true_or, or_true, and_self, true_and, and_true, w8_0, w8_1, w8_2, w8_3, w8_4, nl_I, nl_P, nl_X, pu_I, pu_J, pu_V, w3_id, Int.add_zero, e1, e3, e5, s_thingAt, s_rhas (show its < 2 ^ 31 by omega) (show t < 31 by omega), b01, hw]
    rw [if_neg (by omega)]
    by_cases hb : its.testBit t = true
    · rw [if_neg (by simpa using hb), whF_s (by rw [if_pos hb])]
      exact ih
    · rw [if_pos hb, whF_s (by rw [if_neg hb])]
      exact ih
end GO
