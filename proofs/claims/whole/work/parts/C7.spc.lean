section SRA
variable {g h h' h1 h2 u : am_F} {Q : am_V → am_S → Prop} {so j bj x y z o c w r t mm df T : Int} {n nb L s K nx b m a q B S i gg l M Z v ch N d p p0 k : Nat} {X : Nat → Int}
theorem b_shop (hI : INV h) : Both 89 99 [aP 0, aX] [aP 149] h := by
  obtain ⟨⟨n, nb, L, s, K, nx, hW⟩, hK, ⟨l, t1, t2, t3, t4⟩, hS⟩ := id hI
  have hP := hW.1
  have e6 : ∀ i : Nat, i < l → h 60 i = (fun i : Nat => h 154 i) i := fun i hi => (t4 i hi).1
  have hX : ∀ i : Nat, i < l → 32 ≤ (fun i : Nat => h 154 i) i ∧ (fun i : Nat => h 154 i) i ≤ 126 := fun i hi => (t4 i hi).2
  generalize hXX : (fun i : Nat => h 154 i) = X at e6 hX
  have e15 : ∀ i : Nat, h 154 i = X i := fun i => by rw [← hXX]
  refine s_Tshop (X := X) t1 hX t2 e6 (fun hA hl2 g hg => ?_) (fun hA g hg w1 w2 w3 w4 w5 w6 => ?_)
  · have hF : ∀ a k, ¬ (a = 59 ∧ (k = 1 ∨ k = 2)) → ¬ (63 ≤ a ∧ a ≤ 70) → up g 59 1 0 a k = h a k := fun a k z1 z2 => by
      rw [← hg a k (by omega) z2]
      unfold up
      rw [if_neg (by omega)]
    have hF1 : up g 59 1 0 (-1) = h (-1) := funext fun k => hF _ _ (by omega) (by decide)
    have h59 : up g 59 1 0 59 1 = 0 := up_s
    refine ⟨_, _, rfl, rfl, hF1, ?_⟩
    generalize up g 59 1 0 = g1 at hF hF1 h59 ⊢
    refine s_Rshop (X := X) t1 hX (by rw [hF _ _ (by decide) (by decide)]; exact t3) (fun i hi => by rw [hF _ _ (by omega) (by decide)]; exact e15 i) (fun _ => by omega) (fun _ g2 f1 f2 => ?_) (fun hB => absurd hB hA)
    have hf : ∀ a k, ¬ (a = 59 ∧ (k = 1 ∨ k = 2)) → ¬ (63 ≤ a ∧ a ≤ 70) → ¬ (a = 149 ∧ (k = 6 ∨ k = 11 ∨ k = 12)) → a ≠ 152 → g2 a k = h a k := fun a k z1 z2 z4 z5 => by rw [f1 a k z4 z5, hF a k z1 z2]
    refine ⟨g2, rfl, rfl, funext fun k => hf _ _ (by omega) (by decide) (by omega) (by decide), WX_mv (fun a k q => by unfold lv at q; exact hf _ _ (by omega) (by omega) (by omega) (by omega)) (fun k _ _ => hf _ _ (by omega) (by omega) (by omega) (by omega)) ⟨n, nb, L, s, K, nx, hW⟩, KP_c (fun a k q => by unfold lv at q; exact hf _ _ (by omega) (by omega) (by omega) (by omega)) (fun k _ _ => hf _ _ (by omega) (by omega) (by omega) (by omega)) (hf _ _ (by omega) (by omega) (by omega) (by omega)) (hf _ _ (by omega) (by omega) (by omega) (by omega)) hK, ⟨0, Nat.zero_le _, by rw [f1 _ _ (by decide) (by decide)]; exact h59, f2, fun i hi => absurd hi (Nat.not_lt_zero _)⟩, SH_c (fun a k _ _ _ => hf _ _ (by omega) (by omega) (by omega) (by omega)) (fun a k _ _ _ => hf _ _ (by omega) (by omega) (by omega) (by omega)) hS⟩
  · have hF : ∀ a k, ¬ (a = 59 ∧ (k = 1 ∨ k = 2)) → ¬ (63 ≤ a ∧ a ≤ 70) → ¬ ((81 ≤ a ∧ a ≤ 87) ∨ (91 ≤ a ∧ a ≤ 94) ∨ (a = 95 ∧ k = 2)) → cSh (up g 59 1 0) a k = h a k := fun a k z1 z2 z3 => by
      rw [cSh_o z3, ← hg a k (by omega) z2]
      unfold up
      rw [if_neg (by omega)]
    have h59 : cSh (up g 59 1 0) 59 1 = 0 := by rw [cSh_o (by decide)]; exact up_s
    have h81 : cSh (up g 59 1 0) 81 6 = ((shB X l).2.1 : Int) := by rw [cSh_81.1, up_ne (by decide)]; exact w1
    have h817 : cSh (up g 59 1 0) 81 7 = ((shG X l).2.1 : Int) := by rw [cSh_81.2.1, up_ne (by decide)]; exact w3
    have h95 : cSh (up g 59 1 0) 95 2 = 0 := cSh_81.2.2
    have h82 : ∀ j : Nat, j < (shB X l).2.1 → cSh (up g 59 1 0) 82 j = kiW (nxl X l (bq X l j)) ∧ cSh (up g 59 1 0) 91 j = 0 ∧ cSh (up g 59 1 0) 92 j = 0 ∧ cSh (up g 59 1 0) 93 j = 0 := fun j hj => by
      have z := cSh_82 (g := up g 59 1 0) (b := j) (by omega)
      refine ⟨?_, z.2⟩
      rw [z.1, up_ne (by decide)]
      exact (w5 j hj).1
    have h83 : ∀ j : Nat, j < (shG X l).2.1 → cSh (up g 59 1 0) 83 j = thV X l (shB X l).2.2 0 j ∧ cSh (up g 59 1 0) 84 j = thV X l (shB X l).2.2 1 j ∧ cSh (up g 59 1 0) 85 j = thV X l (shB X l).2.2 2 j ∧ cSh (up g 59 1 0) 86 j = thV X l (shB X l).2.2 3 j ∧ cSh (up g 59 1 0) 87 j = thV X l (shB X l).2.2 4 j ∧ cSh (up g 59 1 0) 94 j = thV X l (shB X l).2.2 5 j := fun j hj => by
      obtain ⟨y1, y2, y3, y4, y5, y6⟩ := cSh_83 (g := up g 59 1 0) (b := j) (by omega)
      rw [y1, y2, y3, y4, y5, y6, up_ne (by decide), up_ne (by decide), up_ne (by decide), up_ne (by decide), up_ne (by decide), up_ne (by decide)]
      exact (w6 j hj).1
    have hO : ∀ j : Nat, j < (shG X l).2.1 → tOK X l (shB X l).2.1 (thp X l (shB X l).2.2 j) := fun j hj => (w6 j hj).2
    have hF1 : cSh (up g 59 1 0) (-1) = h (-1) := funext fun k => hF _ _ (by omega) (by decide) (by omega)
    refine ⟨_, _, rfl, rfl, hF1, ?_⟩
    generalize cSh (up g 59 1 0) = g1 at hF hF1 h59 h81 h817 h95 h82 h83 ⊢
    refine s_Rshop (X := X) t1 hX (by rw [hF _ _ (by decide) (by decide) (by decide)]; exact t3) (fun i hi => by rw [hF _ _ (by omega) (by decide) (by omega)]; exact e15 i) (fun z => absurd hA z) (fun hB => absurd hA hB) (fun _ g2 f1 f2 f3 f4 f5 f6 f7 f8 f9 => ?_)
    have hf : ∀ a k, ¬ (a = 59 ∧ (k = 1 ∨ k = 2)) → ¬ (63 ≤ a ∧ a ≤ 70) → ¬ ((81 ≤ a ∧ a ≤ 87) ∨ (91 ≤ a ∧ a ≤ 94) ∨ (a = 95 ∧ k = 2)) → ¬ (a = 149 ∧ (k = 6 ∨ k = 11 ∨ k = 12)) → a ≠ 152 → ¬ (a = 150 ∧ (k = 0 ∨ k = 1 ∨ (5 ≤ k ∧ k < 66))) → g2 a k = h a k := fun a k z1 z2 z3 z4 z5 z6 => by rw [f1 a k z4 z5 z6, hF a k z1 z2 z3]
    have ho : ∀ a k, (a < 80 ∨ 136 < a) → a ≠ 150 → ¬ (a = 59 ∧ (k = 1 ∨ k = 2)) → ¬ (63 ≤ a ∧ a ≤ 70) → ¬ (a = 149 ∧ (k = 6 ∨ k = 11 ∨ k = 12)) → a ≠ 152 → g2 a k = h a k := fun a k z1 z2 z3 z4 z5 z6 => hf a k z3 z4 (by omega) z5 z6 (by omega)
    obtain ⟨⟨⟨r0, r1, r2, r3, r4, r5, r6, r7⟩, p1, p2, p3, p4, p5, p6, p7, p8, p9, p10⟩, ⟨x1, x2⟩, q1, q2, q3, q4, q5, q6⟩ := id hW
    simp only [Int.add_zero] at p1 p2 p3 p4 p7 p8 p9 p10 q3
    have c : ∀ k, ¬ (k = 0 ∨ k = 1 ∨ (5 ≤ k ∧ k < 66)) → g2 150 k = h 150 k := fun k hk => hf _ _ (by omega) (by omega) (by omega) (by omega) (by decide) (by omega)
    have cw : ∀ a k, a ≤ 148 → g2 a k = g1 a k := fun a k z => f1 a k (by omega) (by omega) (by omega)
    have cv : ∀ a k, 88 ≤ a → a ≤ 90 → g2 a k = h a k := fun a k z1 z2 => hf _ _ (by omega) (by omega) (by omega) (by omega) (by omega) (by omega)
    refine ⟨g2, rfl, rfl, funext fun k => ho _ _ (by omega) (by decide) (by omega) (by omega) (by omega) (by decide), ⟨(shG X l).2.1, (shB X l).2.1, L, s, 0, nx, ⟨⟨f3, f6, f4, f7, ?_, r5, fun t ht => ?_, fun b hb => ?_⟩, ?_, ?_, ?_, ?_, ?_, p6, ?_, fun b hb => ?_, fun t ht => ?_, fun i hi => ?_⟩, ⟨?_, fun t ht => ?_⟩, RG_0 ?_ q2 ?_ f5⟩, KP_c (fun a k q => by unfold lv at q; exact ho _ _ (by omega) (by omega) (by omega) (by omega) (by omega) (by omega)) (fun k _ _ => ho _ _ (by omega) (by omega) (by omega) (by omega) (by omega) (by omega)) (ho _ _ (by omega) (by omega) (by omega) (by omega) (by omega) (by omega)) (ho _ _ (by omega) (by omega) (by omega) (by omega) (by omega) (by omega)) hK, ⟨0, Nat.zero_le _, by rw [cw _ _ (by decide)]; exact h59, f2, fun i hi => absurd hi (Nat.not_lt_zero _)⟩, SH_c (fun a k _ _ _ => ho _ _ (by omega) (by omega) (by omega) (by omega) (by omega) (by omega)) (fun a k _ _ _ => ho _ _ (by omega) (by omega) (by omega) (by omega) (by omega) (by omega)) hS⟩
    · rw [c _ (by decide)]; exact r4
    · obtain ⟨y0, y1, y2, y3, y4, y5⟩ := f9 t ht
      have vv := thV_r f6 (hO t ht)
      simp only [Int.add_zero]
      rw [y0, y1, y2]
      omega
    · obtain ⟨⟨y0, y00⟩, y1, y2, y3⟩ := f8 b hb
      have vv := kiW_r (nxl X l (bq X l b))
      unfold bk
      rw [y0, y1, y2, y3]
      omega
    · simp only [Int.add_zero]; rw [cw _ _ (by decide)]; exact h81
    · simp only [Int.add_zero]; rw [cw _ _ (by decide)]; exact h817
    · simp only [Int.add_zero]; rw [cv _ _ (by decide) (by decide)]; exact p3
    · simp only [Int.add_zero]; rw [cv _ _ (by decide) (by decide)]; exact p4
    · rw [c _ (by decide)]; exact p5
    · simp only [Int.add_zero]; rw [c _ (by decide), cv _ _ (by decide) (by decide)]; exact p7
    · obtain ⟨⟨y0, y00⟩, y1, y2, y3⟩ := f8 b hb
      obtain ⟨u0, u1, u2, u3⟩ := h82 b hb
      simp only [Int.add_zero]
      rw [y0, y1, y2, y3, cw 82 b (by decide), cw 91 b (by decide), cw 92 b (by decide), cw 93 b (by decide), u0, u1, u2, u3]
      exact ⟨rfl, rfl, rfl, rfl⟩
    · obtain ⟨y0, y1, y2, y3, y4, y5⟩ := f9 t ht
      obtain ⟨u0, u1, u2, u3, u4, u5⟩ := h83 t ht
      simp only [Int.add_zero]
      rw [y0, y1, y2, y3, y4, y5, cw 83 t (by decide), cw 84 t (by decide), cw 85 t (by decide), cw 86 t (by decide), cw 87 t (by decide), cw 94 t (by decide), u0, u1, u2, u3, u4, u5]
      exact ⟨rfl, rfl, rfl, rfl, rfl, rfl⟩
    · simp only [Int.add_zero]
      rw [c _ (by omega), cv _ _ (by decide) (by decide)]
      exact p10 i hi
    · rw [c _ (by decide)]; exact x1
    · obtain ⟨y0, y1, y2, y3, y4, y5⟩ := f9 t ht
      have vv := thV_r f6 (hO t ht)
      rw [y3, y5]
      omega
    · rw [hf _ _ (by omega) (by omega) (by omega) (by omega) (by omega) (by omega)]; exact q3
    · rw [cw _ _ (by decide)]; exact h95
end SRA
