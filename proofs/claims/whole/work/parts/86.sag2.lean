section SH2
variable {g h h' h1 h2 u : am_F} {Q : am_V → am_S → Prop} {so j bj x y z i o c w r v : Int} {n nb L s K nx b m k a q B S gg : Nat} {f P : Nat → Bool}
theorem cnt_r (P : Nat → Bool) : ∀ k a, 0 ≤ cnt P a k ∧ cnt P a k ≤ k := by
  intro k
  induction k with
  | zero => intro a; exact ⟨Int.le_refl _, Int.le_refl _⟩
  | succ k ih => intro a; rw [cnt]; have := ih (a + 1); split <;> omega
abbrev okS (n nb L s : Nat) (b x y m z : Int) : Prop := (0 ≤ b ∧ b < nb) ∧ ((0 ≤ x ∧ x < 4) ∧ 0 ≤ y ∧ y < 4) ∧ (0 ≤ z ∧ z < 2) ∧ (1 ≤ m ∧ m ≤ 8) ∧ m ≤ ((L - s : Nat) : Int)
def sP (h : am_F) (n s b q m : Nat) (i : Int) (w : Nat) : Bool := al (sgf h (fun k => h (73 + 2 * (q : Int)) (i + k)) (cS h b n) s (w : Int) (h 92 b)) m
def sAns (P : Nat → Bool) (z : Int) : Int := if z = 0 then cnt P 0 100 else lst P 0 100
theorem lp_Tsag (hC : CO h n nb L s) (hb : b < nb) (hm : s + m ≤ L) (hq4 : q < 4) (hi : 0 ≤ i) (hiL : i + (m : Int) ≤ 24) (hq : ∀ h', tR h h' → Q (aI (sAns (sP h n s b q m i) z)) (sT h')) {v3 v7 : Int} : ∀ (a k : Nat) (u : am_F), a + k = 100 → tR h u → wp 209 (am_ju 209 48) [aP 0, aI (b : Int), aI (q : Int), aI v3, aI i, aI (m : Int), aI z, aI v7, aI (cnt (sP h n s b q m i) a k), aI (lst (sP h n s b q m i) a k), aI ((a : Int) - 1)] [] (sT u) Q := by
  intro a
  obtain ⟨kq, r1, r2, k2, l2⟩ := sh_q q hq4
  have kk : kd 71 = 22 ∨ kd 71 = 23 := Or.inr kd_71
  have q0 : (0 : Int) ≤ (q : Int) := by omega
  have q4 : (q : Int) < 4 := by omega
  have rr0 : (0 : Int) ≤ rR 71 q := by rw [r1]; omega
  induction a with
  | zero =>
    intro k u hk hu
    have hk : k = 100 := by omega
    subst hk
    have := hq u hu
    unfold sAns at this
    rw [ju_209_48]
    simp only [ju_209_67, ju_209_71, ju_209_72, r_aLD0, r_gR, r_iLD1, cl_28, r_IF0, r_iLD2, r_iLD3, cl_204, r_iLD6, r_iCONST, cl_12, r_IF1, r_iRET, r_iLD5, r_IC2, r_bPUSH, r_IC4, cl_109, r_IC5, r_aALD, r_iLD4, cl_206, r_iST7, r_iLD7, r_iST8, r_iST9, r_iST10, r_iLD10, r_IF2, cl_208, r_IINC8, r_IINC10, r_GOTO, r_iLD8, r_iLD9, eq_self, Int.reduceLT, Int.reduceLE, Int.reduceEq, true_or, or_true, and_self, true_and, and_true, w8_0, w8_1, w8_2, w8_3, w8_4, nl_I, nl_P, nl_X, pu_I, pu_J, pu_V]
    rw [if_pos (by decide)]
    by_cases e : z = 0
    · simp only [e, not_true_eq_false, if_false]
      rw [if_pos e] at this
      exact this
    · simp only [e, not_false_eq_true, if_true]
      rw [if_neg e] at this
      exact this
  | succ a ih =>
    intro k u hk hu
    have e1 : ((a + 1 : Nat) : Int) - 1 = (a : Int) := by omega
    have hr := cnt_r (sP h n s b q m i) k (a + 1)
    have hw2 : w3 (cnt (sP h n s b q m i) (a + 1) k + 1) = 1 + cnt (sP h n s b q m i) (a + 1) k := by rw [w3_id (by omega) (by omega)]; omega
    have hwm : w3 ((a : Int) + -1) = (a : Int) - 1 := by rw [w3_id (by omega) (by omega)]; omega
    have w5 : ∀ x1 x2 x3 : Int, am_w8 [aI x1, aI x2, aP x3] = true := fun _ _ _ => w8_3 _ _ _
    rw [e1, ju_209_48]
    simp (disch := first | assumption | omega | exact w8_0 | exact w8_1 _ | exact w8_2 _ _ | exact w8_3 _ _ _ | exact w8_4 _ _ _ _ | exact nl_I _ | exact nl_P _ | exact nl_X | decide | exact w8_5 _ _ _ _ _) only [r_aLD0, r_gR, r_iLD1, cl_28, r_IF0, r_iLD2, r_iLD3, cl_204, r_iLD6, r_iCONST, cl_12, r_IF1, r_iRET, r_iLD5, r_IC2, r_bPUSH, r_IC4, cl_109, r_IC5, r_aALD, r_iLD4, cl_206, r_iST7, r_iLD7, r_iST8, r_iST9, r_iST10, r_iLD10, r_IF2, cl_208, r_IINC8, r_IINC10, r_GOTO, r_iLD8, r_iLD9, eq_self, Int.reduceLT, Int.reduceLE, Int.reduceEq, true_or, or_true, and_self, true_and, and_true, w8_0, w8_1, w8_2, w8_3, w8_4, nl_I, nl_P, nl_X, pu_I, pu_J, pu_V, w3_id, Int.add_zero, kd_0, kd_137, rR_0_3, rR_0_10, kk, rr0, r1, ln_71, q0, q4, and_self, true_and]
    rw [if_neg (by omega)]
    refine s_sags hC hu hb hm ⟨by omega, by omega⟩ hq4 hi hiL (fun g hg => ?_)
    have ih := ih (k + 1) g (by omega) hg
    rw [cnt, lst] at ih
    simp only [r_aLD0, r_gR, r_iLD1, cl_28, r_IF0, r_iLD2, r_iLD3, cl_204, r_iLD6, r_iCONST, cl_12, r_IF1, r_iRET, r_iLD5, r_IC2, r_bPUSH, r_IC4, cl_109, r_IC5, r_aALD, r_iLD4, cl_206, r_iST7, r_iLD7, r_iST8, r_iST9, r_iST10, r_iLD10, r_IF2, cl_208, r_IINC8, r_IINC10, r_GOTO, r_iLD8, r_iLD9, eq_self, Int.reduceLT, Int.reduceLE, Int.reduceEq, true_or, or_true, and_self, true_and, and_true, w8_0, w8_1, w8_2, w8_3, w8_4, nl_I, nl_P, nl_X, pu_I, pu_J, pu_V]
    rw [show al (sgf h (fun k => h (73 + 2 * (q : Int)) (i + k)) (cS h b n) s (a : Int) (h 92 b)) m = sP h n s b q m i a from rfl]
    by_cases e : sP h n s b q m i a = true
    · rw [if_pos e, if_pos e] at ih
      simp only [e, if_true, Int.reduceEq, if_false, ju_209_65, r_aLD0, r_gR, r_iLD1, cl_28, r_IF0, r_iLD2, r_iLD3, cl_204, r_iLD6, r_iCONST, cl_12, r_IF1, r_iRET, r_iLD5, r_IC2, r_bPUSH, r_IC4, cl_109, r_IC5, r_aALD, r_iLD4, cl_206, r_iST7, r_iLD7, r_iST8, r_iST9, r_iST10, r_iLD10, r_IF2, cl_208, r_IINC8, r_IINC10, r_GOTO, r_iLD8, r_iLD9, eq_self, Int.reduceLT, Int.reduceLE, Int.reduceEq, true_or, or_true, and_self, true_and, and_true, w8_0, w8_1, w8_2, w8_3, w8_4, nl_I, nl_P, nl_X, pu_I, pu_J, pu_V, hw2, hwm]
      exact ih
    · rw [if_neg e, if_neg e, Int.zero_add] at ih
      simp only [e, if_true, if_false, ju_209_65, r_aLD0, r_gR, r_iLD1, cl_28, r_IF0, r_iLD2, r_iLD3, cl_204, r_iLD6, r_iCONST, cl_12, r_IF1, r_iRET, r_iLD5, r_IC2, r_bPUSH, r_IC4, cl_109, r_IC5, r_aALD, r_iLD4, cl_206, r_iST7, r_iLD7, r_iST8, r_iST9, r_iST10, r_iLD10, r_IF2, cl_208, r_IINC8, r_IINC10, r_GOTO, r_iLD8, r_iLD9, eq_self, Int.reduceLT, Int.reduceLE, Int.reduceEq, true_or, or_true, and_self, true_and, and_true, w8_0, w8_1, w8_2, w8_3, w8_4, nl_I, nl_P, nl_X, pu_I, pu_J, pu_V, hwm]
      exact ih
theorem s_Tsagged (hC : CO h n nb L s) (hS : SH h) {bb mm : Int} (hq : ∀ h', tR h h' → okS n nb L s bb x y mm z → refu h (72 + 2 * x) y i mm = 0 → Q (aI (sAns (sP h n s bb.toNat x.toNat mm.toNat i) z)) (sT h')) (hq1 : okS n nb L s bb x y mm z → refu h (72 + 2 * x) y i mm ≠ 0 → Q (aI (refu h (72 + 2 * x) y i mm)) (sT h)) (hq0 : ¬ okS n nb L s bb x y mm z → Q (aI (-1)) (sT h)) : wp 209 (am_ju 209 0) [aP 0, aI bb, aI x, aI y, aI i, aI mm, aI z, aX, aX, aX, aX] [] (sT h) Q := by
  obtain ⟨c1, c2, c3, c4, c5, c6, c7, c8, c9, c10⟩ := id hC
  simp only [ju_209_0, ju_209_14, r_aLD0, r_gR, r_iLD1, cl_28, r_IF0, r_iLD2, r_iLD3, cl_204, r_iLD6, r_iCONST, cl_12, r_IF1, r_iRET, r_iLD5, r_IC2, r_bPUSH, r_IC4, cl_109, r_IC5, r_aALD, r_iLD4, cl_206, r_iST7, r_iLD7, r_iST8, r_iST9, r_iST10, r_iLD10, r_IF2, cl_208, r_IINC8, r_IINC10, r_GOTO, r_iLD8, r_iLD9, eq_self, Int.reduceLT, Int.reduceLE, Int.reduceEq, true_or, or_true, and_self, true_and, and_true, w8_0, w8_1, w8_2, w8_3, w8_4, nl_I, nl_P, nl_X, pu_I, pu_J, pu_V, kd_0, ln_0, rR_0_0, rR_0_1, rR_0_3, rR_0_4, rR_0_5, rR_0_6, rR_0_7, rR_0_8, rR_0_9, rR_0_10, kd_80, ln_80, rR_80_0, rR_80_1, rR_80_2, rR_80_3, kd_81, ln_81, rR_81_0, rR_81_1, rR_81_2, rR_81_3, rR_81_4, rR_81_5, s_hasBag kd_81, c1, s_isBelow, s_isSL]
  by_cases e1 : 0 ≤ bb ∧ bb < nb
  · rw [if_neg (by simp [e1])]
    by_cases e2 : (0 ≤ x ∧ x < 4) ∧ 0 ≤ y ∧ y < 4
    · rw [if_neg (by simp [e2])]
      by_cases e3 : 0 ≤ z ∧ z < 2
      · rw [if_pos (by simp [e3])]
        simp only [ju_209_16, ju_209_27, r_aLD0, r_gR, r_iLD1, cl_28, r_IF0, r_iLD2, r_iLD3, cl_204, r_iLD6, r_iCONST, cl_12, r_IF1, r_iRET, r_iLD5, r_IC2, r_bPUSH, r_IC4, cl_109, r_IC5, r_aALD, r_iLD4, cl_206, r_iST7, r_iLD7, r_iST8, r_iST9, r_iST10, r_iLD10, r_IF2, cl_208, r_IINC8, r_IINC10, r_GOTO, r_iLD8, r_iLD9, eq_self, Int.reduceLT, Int.reduceLE, Int.reduceEq, true_or, or_true, and_self, true_and, and_true, w8_0, w8_1, w8_2, w8_3, w8_4, nl_I, nl_P, nl_X, pu_I, pu_J, pu_V, kd_0, ln_0, rR_0_0, rR_0_1, rR_0_3, rR_0_4, rR_0_5, rR_0_6, rR_0_7, rR_0_8, rR_0_9, rR_0_10, kd_80, ln_80, rR_80_0, rR_80_1, rR_80_2, rR_80_3, s_left c5 c7 c6 c8]
        by_cases e4 : mm < 1
        · rw [if_pos e4]; exact hq0 (fun o => by omega)
        · rw [if_neg e4]
          by_cases e5 : 8 < mm
          · rw [if_pos e5]; exact hq0 (fun o => by omega)
          · rw [if_neg e5]
            by_cases e6 : mm ≤ ((L - s : Nat) : Int)
            · have ok : okS n nb L s bb x y mm z := ⟨e1, e2, e3, ⟨by omega, by omega⟩, e6⟩
              obtain ⟨q, rfl⟩ := Int.eq_ofNat_of_zero_le e2.1.1
              obtain ⟨b, rfl⟩ := Int.eq_ofNat_of_zero_le e1.1
              obtain ⟨m, rfl⟩ := Int.eq_ofNat_of_zero_le (show 0 ≤ mm by omega)
              have hq4 : q < 4 := by omega
              obtain ⟨k1, r1, r2, k2, l2⟩ := sh_q q hq4
              obtain ⟨s1, s2, s3, s4⟩ := hS q hq4
              have kk : kd 71 = 22 ∨ kd 71 = 23 := Or.inr kd_71
              have q0 : (0 : Int) ≤ (q : Int) := by omega
              have q4 : (q : Int) < 4 := by omega
              have r0 : (0 : Int) ≤ rR 71 q := by rw [r1]; omega
              have hl : 0 ≤ h (72 + 2 * (q : Int)) 3 ∧ h (72 + 2 * (q : Int)) 3 ≤ 24 := by rw [s1]; exact s2
              rw [if_pos e6, ju_209_29]
              simp (disch := first | assumption | omega | exact w8_0 | exact w8_1 _ | exact w8_2 _ _ | exact w8_3 _ _ _ | exact w8_4 _ _ _ _ | exact nl_I _ | exact nl_P _ | exact nl_X | decide | exact w8_5 _ _ _ _ _) only [r_aLD0, r_gR, r_iLD1, cl_28, r_IF0, r_iLD2, r_iLD3, cl_204, r_iLD6, r_iCONST, cl_12, r_IF1, r_iRET, r_iLD5, r_IC2, r_bPUSH, r_IC4, cl_109, r_IC5, r_aALD, r_iLD4, cl_206, r_iST7, r_iLD7, r_iST8, r_iST9, r_iST10, r_iLD10, r_IF2, cl_208, r_IINC8, r_IINC10, r_GOTO, r_iLD8, r_iLD9, eq_self, Int.reduceLT, Int.reduceLE, Int.reduceEq, true_or, or_true, and_self, true_and, and_true, w8_0, w8_1, w8_2, w8_3, w8_4, nl_I, nl_P, nl_X, pu_I, pu_J, pu_V, w3_id, Int.add_zero, kd_0, rR_0_10, kk, r0, r1, ln_71, q0, q4, and_self, true_and, s_refusal k1 hl]
              by_cases z0 : refu h (72 + 2 * (q : Int)) y i (m : Int) = 0
              · obtain ⟨z1, z2, z3, z4, z5, z6⟩ := refu_0 z0
                rw [if_pos z0, ju_209_42]
                simp only [r_aLD0, r_gR, r_iLD1, cl_28, r_IF0, r_iLD2, r_iLD3, cl_204, r_iLD6, r_iCONST, cl_12, r_IF1, r_iRET, r_iLD5, r_IC2, r_bPUSH, r_IC4, cl_109, r_IC5, r_aALD, r_iLD4, cl_206, r_iST7, r_iLD7, r_iST8, r_iST9, r_iST10, r_iLD10, r_IF2, cl_208, r_IINC8, r_IINC10, r_GOTO, r_iLD8, r_iLD9, eq_self, Int.reduceLT, Int.reduceLE, Int.reduceEq, true_or, or_true, and_self, true_and, and_true, w8_0, w8_1, w8_2, w8_3, w8_4, nl_I, nl_P, nl_X, pu_I, pu_J, pu_V]
                exact lp_Tsag hC (show b < nb by omega) (show s + m ≤ L by omega) hq4 z3 (by omega) (fun h' ht => hq h' ht ok z0) 100 0 h rfl (fun _ _ => rfl)
              · rw [if_neg z0]
                exact hq1 ok z0
            · rw [if_neg e6]; exact hq0 (fun o => e6 o.2.2.2.2)
      · rw [if_neg (by simp [e3])]; exact hq0 (fun o => e3 o.2.2.1)
    · rw [if_pos (by simp [e2])]; exact hq0 (fun o => e2 o.2.1)
  · rw [if_pos (by simp [e1])]; exact hq0 (fun o => e1 o.1)
theorem s_RsagC (hk : kd c = 20) (hl : ln c = 238) (hb : b < 3) (hw : h c (6 + 4 * b + 1) = w) (hr : h c (6 + 4 * b + 2) = r) (hw2 : 0 ≤ w ∧ w ≤ 999) (hr2 : 0 ≤ r ∧ r ≤ 999) : wp 47 (am_ju 47 0) [aP c, aI (b : Int)] [] (sT h) Q ↔ Q (aI ((w + r) / 10)) (sT h) := by
  have b2 : (b : Int) < 3 := by omega
  simp (disch := first | assumption | omega | exact w8_0 | exact w8_1 _ | exact w8_2 _ _ | exact w8_3 _ _ _ | exact w8_4 _ _ _ _ | exact nl_I _ | exact nl_P _ | exact nl_X | decide | exact w8_5 _ _ _ _ _) only [ju_47_0, r_aLD0, r_iLD1, cl_18, r_iCONST, r_iADD, r_iALDc, r_iALDs, r_bPUSH, r_iDIV, r_iRET, eq_self, Int.reduceLT, Int.reduceLE, Int.reduceEq, true_or, or_true, and_self, true_and, and_true, w8_0, w8_1, w8_2, w8_3, w8_4, nl_I, nl_P, nl_X, pu_I, pu_J, pu_V, w3_id, Int.add_zero, s_bagAt (h := h) (b := (b : Int)) ⟨by omega, by omega⟩, hw, hr]
  rw [iDv_n (by omega) (by omega) (by omega) (by omega)]
theorem up2 {a a' b' : Int} {c i j : Int} (hij : i ≠ j) (v w : Int) : up (up (up (up h c i v) c j w) c i a') c j b' = up (up h c i a') c j b' := by
  funext x k
  by_cases e : x = c
  · subst e
    by_cases f : k = j
    · subst f; rw [up_s, up_s]
    · rw [up_k f, up_k f]
      by_cases g : k = i
      · subst g; rw [up_s, up_s]
      · rw [up_k g, up_k g, up_k f, up_k g]
  · rw [up_ne e, up_ne e, up_ne e, up_ne e, up_ne e, up_ne e]
/-- the tried row of bag b, wet and wear as told -/
def sgG (g : am_F) (b : Nat) (w r : Int) : am_F := up (up g 151 (6 + 4 * b + 1) w) 151 (6 + 4 * b + 2) r
theorem sgG_k {k : Int} (hk : k < 6 ∨ 18 ≤ k) (hb : b < 3) : sgG g b w r 151 k = g 151 k := by unfold sgG; rw [up_k (by omega), up_k (by omega)]
end SH2
