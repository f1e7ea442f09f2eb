section WZ4
variable {g h h' h1 h2 u : am_F} {Q : am_V → am_S → Prop} {so j bj x y z o c w r k t : Int} {n nb L s K nx b m a q B S T i gg l M Z v ch N d p : Nat} {X : Nat → Int}
theorem s_wayN : wp 72 (am_ju 72 0) [aP 88, aP 61] [] (sT h) Q ↔ Q aV (sT (up (cpy h 62 0 89 0 20) 88 1 (cpy h 62 0 89 0 20 61 1))) := by
  simp only [ju_72_0, r_aLD0, r_gR, r_aLD1, cl_71, r_gI, r_pI, r_vRET, eq_self, Int.reduceLT, Int.reduceLE, Int.reduceEq, true_or, or_true, and_self, true_and, and_true, w8_0, w8_1, w8_2, w8_3, w8_4, nl_I, nl_P, nl_X, pu_I, pu_J, pu_V, kd_88, ln_88, rR_88_0, kd_61, ln_61, rR_61_0, s_takeRow kd_62 kd_89 ln_62 ln_89 (by decide)]
/-- the class after a way was read -/
def cWy (g : am_F) : am_F := up (up (up (cpy (up g 59 1 0) 62 0 89 0 20) 88 1 (g 61 1)) 90 4 0) 95 2 0
theorem s_Tway (hl : l ≤ 100) (hX : ∀ i : Nat, i < l → 32 ≤ X i ∧ X i ≤ 126) (e1 : h 59 1 = (l : Int)) (e6 : ∀ i : Nat, i < l → h 60 i = X i) (hq0 : wyA X l < 0 → ∀ g, wT h g → Q (aI (wyA X l)) (sT (up g 59 1 0))) (hq1 : 0 ≤ wyA X l → ∀ g, wT h g → g 61 1 = (wn X l 20 : Int) → (∀ j : Nat, j < wn X l 20 → g 62 j = sv X l j) → Q (aI (wyA X l)) (sT (cWy g))) : wp 74 (am_ju 74 0) [aP 0, aX] [] (sT h) Q := by
  simp only [ju_74_0, r_aLD0, r_gR, cl_70, r_iST1, r_iCONST, r_pI, r_iLD1, r_IF2, cl_73, r_iRET, eq_self, Int.reduceLT, Int.reduceLE, Int.reduceEq, true_or, or_true, and_self, true_and, and_true, w8_0, w8_1, w8_2, w8_3, w8_4, nl_I, nl_P, nl_X, pu_I, pu_J, pu_V, kd_0, ln_0, rR_0_0, rR_0_1, rR_0_3, rR_0_4, rR_0_5, rR_0_6, rR_0_7, rR_0_8, rR_0_9, rR_0_10, kd_59, ln_59, rR_59_0]
  refine s_TreadWay (X := X) hl hX e1 e6 (fun g hg hw => ?_)
  simp only [r_aLD0, r_gR, cl_70, r_iST1, r_iCONST, r_pI, r_iLD1, r_IF2, cl_73, r_iRET, eq_self, Int.reduceLT, Int.reduceLE, Int.reduceEq, true_or, or_true, and_self, true_and, and_true, w8_0, w8_1, w8_2, w8_3, w8_4, nl_I, nl_P, nl_X, pu_I, pu_J, pu_V, kd_0, ln_0, rR_0_0, rR_0_1, rR_0_3, rR_0_4, rR_0_5, rR_0_6, rR_0_7, rR_0_8, rR_0_9, rR_0_10, kd_59, ln_59, rR_59_0]
  by_cases e : wyA X l < 0
  · rw [if_pos e, ju_74_17]
    simp only [r_aLD0, r_gR, cl_70, r_iST1, r_iCONST, r_pI, r_iLD1, r_IF2, cl_73, r_iRET, eq_self, Int.reduceLT, Int.reduceLE, Int.reduceEq, true_or, or_true, and_self, true_and, and_true, w8_0, w8_1, w8_2, w8_3, w8_4, nl_I, nl_P, nl_X, pu_I, pu_J, pu_V]
    exact hq0 e g hg
  · obtain ⟨w1, w2, w3⟩ := hw (by omega)
    have := hq1 (by omega) g hg (by rw [w1, w2]) w3
    rw [if_neg e]
    simp only [r_aLD0, r_gR, cl_70, r_iST1, r_iCONST, r_pI, r_iLD1, r_IF2, cl_73, r_iRET, eq_self, Int.reduceLT, Int.reduceLE, Int.reduceEq, true_or, or_true, and_self, true_and, and_true, w8_0, w8_1, w8_2, w8_3, w8_4, nl_I, nl_P, nl_X, pu_I, pu_J, pu_V, kd_80, ln_80, rR_80_0, rR_80_1, rR_80_2, rR_80_3]
    rw [ju_73_0]
    simp only [r_aLD0, r_gR, r_aLD1, cl_72, r_iCONST, r_pI, r_vRET, eq_self, Int.reduceLT, Int.reduceLE, Int.reduceEq, true_or, or_true, and_self, true_and, and_true, w8_0, w8_1, w8_2, w8_3, w8_4, nl_I, nl_P, nl_X, pu_I, pu_J, pu_V, kd_80, ln_80, rR_80_0, rR_80_1, rR_80_2, rR_80_3, kd_90, ln_90, rR_90_0, rR_90_1, rR_90_2, rR_90_3, kd_95, ln_95, rR_95_0, kd_88, ln_88, rR_88_0, s_wayN, ju_74_17, r_aLD0, r_gR, cl_70, r_iST1, r_iCONST, r_pI, r_iLD1, r_IF2, cl_73, r_iRET, eq_self, Int.reduceLT, Int.reduceLE, Int.reduceEq, true_or, or_true, and_self, true_and, and_true, w8_0, w8_1, w8_2, w8_3, w8_4, nl_I, nl_P, nl_X, pu_I, pu_J, pu_V]
    have ee : cpy (up g 59 1 0) 62 0 89 0 20 61 1 = g 61 1 := by rw [cpy_out (by decide), up_ne (by decide)]
    rw [ee]
    exact this
theorem b_way (hI : INV h) : Both 74 78 [aP 0, aX] [aP 149, aX, aX, aX] h := by
  obtain ⟨⟨n, nb, L, s, K, nx, hW⟩, hK, ⟨l, t1, t2, t3, t4⟩, hS⟩ := id hI
  have hP := hW.1
  have e6 : ∀ i : Nat, i < l → h 60 i = (fun i : Nat => h 154 i) i := fun i hi => (t4 i hi).1
  have hX : ∀ i : Nat, i < l → 32 ≤ (fun i : Nat => h 154 i) i ∧ (fun i : Nat => h 154 i) i ≤ 126 := fun i hi => (t4 i hi).2
  generalize hXX : (fun i : Nat => h 154 i) = X at e6 hX
  have e15 : ∀ i : Nat, h 154 i = X i := fun i => by rw [← hXX]
  refine s_Tway (X := X) t1 hX t2 e6 (fun hA g hg => ?_) (fun hA g hg w1 w2 => ?_)
  · have hF : ∀ a k, ¬ (a = 59 ∧ (k = 1 ∨ k = 2)) → a ≠ 61 → a ≠ 62 → up g 59 1 0 a k = h a k := fun a k z1 z2 z3 => by
      rw [← hg a k (by omega) z2 z3]
      unfold up
      rw [if_neg (by omega)]
    have hF1 : up g 59 1 0 (-1) = h (-1) := funext fun k => hF _ _ (by omega) (by decide) (by decide)
    have h59 : up g 59 1 0 59 1 = 0 := up_s
    refine ⟨_, _, rfl, rfl, hF1, ?_⟩
    generalize up g 59 1 0 = g1 at hF hF1 h59 ⊢
    refine s_Rway (X := X) t1 hX (by rw [hF _ _ (by decide) (by decide) (by decide)]; exact t3) (fun i hi => by rw [hF _ _ (by omega) (by decide) (by decide)]; exact e15 i) (fun _ g2 f1 f2 => ?_) (fun hB => absurd hA (by omega))
    have hf : ∀ a k, ¬ (a = 59 ∧ (k = 1 ∨ k = 2)) → a ≠ 61 → a ≠ 62 → ¬ (a = 149 ∧ (k = 6 ∨ k = 11 ∨ k = 12)) → a ≠ 152 → g2 a k = h a k := fun a k z1 z2 z3 z4 z5 => by rw [f1 a k z4 z5, hF a k z1 z2 z3]
    refine ⟨g2, rfl, rfl, funext fun k => hf _ _ (by omega) (by decide) (by decide) (by omega) (by decide), WX_mv (fun a k q => by unfold lv at q; exact hf _ _ (by omega) (by omega) (by omega) (by omega) (by omega)) (fun k _ _ => hf _ _ (by omega) (by omega) (by omega) (by omega) (by omega)) ⟨n, nb, L, s, K, nx, hW⟩, KP_c (fun a k q => by unfold lv at q; exact hf _ _ (by omega) (by omega) (by omega) (by omega) (by omega)) (fun k _ _ => hf _ _ (by omega) (by omega) (by omega) (by omega) (by omega)) (hf _ _ (by omega) (by omega) (by omega) (by omega) (by omega)) (hf _ _ (by omega) (by omega) (by omega) (by omega) (by omega)) hK, ⟨0, Nat.zero_le _, by rw [f1 _ _ (by decide) (by decide)]; exact h59, f2, fun i hi => absurd hi (Nat.not_lt_zero _)⟩, SH_c (fun a k _ _ _ => hf _ _ (by omega) (by omega) (by omega) (by omega) (by omega)) (fun a k _ _ _ => hf _ _ (by omega) (by omega) (by omega) (by omega) (by omega)) hS⟩
  · have hN := wn_le X l 20
    have hF : ∀ a k, ¬ (a = 59 ∧ (k = 1 ∨ k = 2)) → a ≠ 61 → a ≠ 62 → a ≠ 89 → ¬ (a = 88 ∧ k = 1) → ¬ (a = 90 ∧ k = 4) → ¬ (a = 95 ∧ k = 2) → cWy g a k = h a k := fun a k z1 z2 z3 z4 z5 z6 z7 => by
      rw [← hg a k (by omega) z2 z3]
      have : cWy g a k = cpy (up g 59 1 0) 62 0 89 0 20 a k := by
        unfold cWy
        rw [up, if_neg z7, up, if_neg z6, up, if_neg z5]
      rw [this, cpy_out z4]
      unfold up
      rw [if_neg (by omega)]
    have h59 : cWy g 59 1 = 0 := by unfold cWy; rw [up_ne (by decide), up_ne (by decide), up_ne (by decide), cpy_out (by decide)]; exact up_s
    have h88 : cWy g 88 1 = (wn X l 20 : Int) := by unfold cWy; rw [up_ne (by decide), up_ne (by decide), up_s, w1]
    have h90 : cWy g 90 4 = 0 := by unfold cWy; rw [up_ne (by decide)]; exact up_s
    have h95 : cWy g 95 2 = 0 := up_s
    have h89 : ∀ j : Nat, j < wn X l 20 → cWy g 89 j = sv X l j := fun j hj => by unfold cWy; rw [up_ne (by decide), up_ne (by decide), up_ne (by decide), cpy_hit (by omega) (by omega), up_ne (by decide)]; exact w2 j hj
    have hF1 : cWy g (-1) = h (-1) := funext fun k => hF _ _ (by omega) (by decide) (by decide) (by decide) (by omega) (by omega) (by omega)
    refine ⟨_, _, rfl, rfl, hF1, ?_⟩
    generalize cWy g = g1 at hF hF1 h59 h88 h90 h95 h89 ⊢
    refine s_Rway (X := X) t1 hX (by rw [hF _ _ (by decide) (by decide) (by decide) (by decide) (by decide) (by decide) (by decide)]; exact t3) (fun i hi => by rw [hF _ _ (by omega) (by decide) (by decide) (by decide) (by omega) (by omega) (by omega)]; exact e15 i) (fun hB => absurd hA (by omega)) (fun _ g2 f1 f2 f3 f4 f5 f6 => ?_)
    have hf : ∀ a k, ¬ (a = 59 ∧ (k = 1 ∨ k = 2)) → a ≠ 61 → a ≠ 62 → a ≠ 89 → ¬ (a = 88 ∧ k = 1) → ¬ (a = 90 ∧ k = 4) → ¬ (a = 95 ∧ k = 2) → ¬ (a = 149 ∧ (k = 6 ∨ k = 11 ∨ k = 12)) → a ≠ 152 → ¬ (a = 150 ∧ (k = 2 ∨ k = 3 ∨ k = 5 ∨ (66 ≤ k ∧ k < 86))) → g2 a k = h a k := fun a k z1 z2 z3 z4 z5 z6 z7 z8 z9 z10 => by rw [f1 a k z8 z9 z10, hF a k z1 z2 z3 z4 z5 z6 z7]
    have ho : ∀ a k, (a < 80 ∨ 136 < a) → a ≠ 150 → ¬ (a = 59 ∧ (k = 1 ∨ k = 2)) → a ≠ 61 → a ≠ 62 → ¬ (a = 149 ∧ (k = 6 ∨ k = 11 ∨ k = 12)) → a ≠ 152 → g2 a k = h a k := fun a k z1 z2 z3 z4 z5 z6 z7 => hf a k z3 z4 z5 (by omega) (by omega) (by omega) (by omega) z6 z7 (by omega)
    obtain ⟨⟨⟨r0, r1, r2, r3, r4, r5, r6, r7⟩, p1, p2, p3, p4, p5, p6, p7, p8, p9, p10⟩, ⟨x1, x2⟩, q1, q2, q3, q4, q5, q6⟩ := id hW
    simp only [Int.add_zero] at p1 p2 p3 p4 p7 p8 p9 p10 q3
    have c : ∀ k, ¬ (k = 2 ∨ k = 3 ∨ k = 5 ∨ (66 ≤ k ∧ k < 86)) → g2 150 k = h 150 k := fun k hk => hf _ _ (by omega) (by decide) (by decide) (by decide) (by omega) (by omega) (by omega) (by omega) (by decide) (by omega)
    have cw : ∀ a k, 81 ≤ a → a ≤ 95 → a ≠ 89 → ¬ (a = 88 ∧ k = 1) → ¬ (a = 90 ∧ k = 4) → ¬ (a = 95 ∧ k = 2) → g2 a k = h a k := fun a k z1 z2 z3 z4 z5 z6 => hf _ _ (by omega) (by omega) (by omega) z3 z4 z5 z6 (by omega) (by omega) (by omega)
    refine ⟨g2, rfl, rfl, funext fun k => ho _ _ (by omega) (by decide) (by omega) (by decide) (by decide) (by omega) (by decide), ⟨n, nb, wn X l 20, 0, 0, nx, ⟨⟨?_, r1, ?_, r3, f3, hN, fun t ht => ?_, fun b hb => ?_⟩, ?_, ?_, ?_, ?_, ?_, Nat.zero_le _, ?_, fun b hb => ?_, fun t ht => ?_, fun i hi => ?_⟩, ⟨?_, fun t ht => ?_⟩, RG_0 ?_ q2 ?_ f5⟩, KP_c (fun a k q => by unfold lv at q; exact ho _ _ (by omega) (by omega) (by omega) (by omega) (by omega) (by omega) (by omega)) (fun k _ _ => ho _ _ (by omega) (by omega) (by omega) (by omega) (by omega) (by omega) (by omega)) (ho _ _ (by omega) (by omega) (by omega) (by omega) (by omega) (by omega) (by omega)) (ho _ _ (by omega) (by omega) (by omega) (by omega) (by omega) (by omega) (by omega)) hK, ⟨0, Nat.zero_le _, by rw [f1 _ _ (by decide) (by decide) (by decide)]; exact h59, f2, fun i hi => absurd hi (Nat.not_lt_zero _)⟩, SH_c (fun a k _ _ _ => ho _ _ (by omega) (by omega) (by omega) (by omega) (by omega) (by omega) (by omega)) (fun a k _ _ _ => ho _ _ (by omega) (by omega) (by omega) (by omega) (by omega) (by omega) (by omega)) hS⟩
    · rw [c _ (by decide)]; exact r0
    · rw [c _ (by decide)]; exact r2
    · rw [c _ (by omega), c _ (by omega), c _ (by omega)]; exact r6 t ht
    · unfold bk
      rw [c _ (by omega), c _ (by omega), c _ (by omega), c _ (by omega)]; exact r7 b hb
    · simp only [Int.add_zero]; rw [cw _ _ (by omega) (by omega) (by omega) (by omega) (by omega) (by omega)]; exact p1
    · simp only [Int.add_zero]; rw [cw _ _ (by omega) (by omega) (by omega) (by omega) (by omega) (by omega)]; exact p2
    · simp only [Int.add_zero]; rw [f1 _ _ (by decide) (by decide) (by decide)]; exact h88
    · simp only [Int.add_zero]; rw [f1 _ _ (by decide) (by decide) (by decide)]; exact h90
    · exact f4
    · simp only [Int.add_zero]; rw [c _ (by decide), cw _ _ (by omega) (by omega) (by omega) (by omega) (by omega) (by omega)]; exact p7
    · simp only [Int.add_zero]
      rw [c _ (by omega), c _ (by omega), c _ (by omega), c _ (by omega), cw 82 b (by omega) (by omega) (by omega) (by omega) (by omega) (by omega), cw 91 b (by omega) (by omega) (by omega) (by omega) (by omega) (by omega), cw 92 b (by omega) (by omega) (by omega) (by omega) (by omega) (by omega), cw 93 b (by omega) (by omega) (by omega) (by omega) (by omega) (by omega)]
      exact p8 b hb
    · simp only [Int.add_zero]
      rw [c _ (by omega), c _ (by omega), c _ (by omega), c _ (by omega), c _ (by omega), c _ (by omega), cw 83 t (by omega) (by omega) (by omega) (by omega) (by omega) (by omega), cw 84 t (by omega) (by omega) (by omega) (by omega) (by omega) (by omega), cw 85 t (by omega) (by omega) (by omega) (by omega) (by omega) (by omega), cw 86 t (by omega) (by omega) (by omega) (by omega) (by omega) (by omega), cw 87 t (by omega) (by omega) (by omega) (by omega) (by omega) (by omega), cw 94 t (by omega) (by omega) (by omega) (by omega) (by omega) (by omega)]
      exact p9 t ht
    · simp only [Int.add_zero]
      rw [f6 i hi, f1 _ _ (by omega) (by decide) (by omega)]
      exact (h89 i hi).symm
    · rw [c _ (by decide)]; exact x1
    · rw [c _ (by omega), c _ (by omega)]; exact x2 t ht
    · rw [cw _ _ (by omega) (by omega) (by omega) (by omega) (by omega) (by omega)]; exact q3
    · rw [f1 _ _ (by decide) (by decide) (by decide)]; exact h95
end WZ4
