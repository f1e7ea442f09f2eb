section BP
variable {h h' h1 h2 : am_F} {Q : am_V → am_S → Prop} {x y b i pl j c d k v : Int} {n nb L s K nx t : Nat}
theorem RG_c (hA : ∀ a k, 95 ≤ a → a ≤ 136 → h2 a k = h a k) (hC : ∀ k, k = 5 ∨ 86 ≤ k → h2 150 k = h 150 k) (hG : RG h 0 150 n nb L K nx) : RG h2 0 150 n nb L K nx := by
  obtain ⟨g1, g2, g3, g4, g5, g6⟩ := hG
  refine ⟨g1, g2, by rw [hA _ _ (by omega) (by omega)]; exact g3, by rw [hA _ _ (by omega) (by omega)]; exact g4, by rw [hC _ (by omega)]; exact g5, fun j hj => ?_⟩
  have hp : (nx + 8 - K + j) % 8 < 8 := Nat.mod_lt _ (by decide)
  have e := g6 j hj
  generalize (nx + 8 - K + j) % 8 = p at hp e ⊢
  obtain ⟨e1, e2, e3, e4, e5, e6⟩ := e
  refine ⟨?_, ?_, ?_, ?_, fun b hb => ?_, fun t ht => ?_⟩
  · rw [hC _ (by omega), hA _ _ (by omega) (by omega)]; exact e1
  · rw [hC _ (by omega), hA _ _ (by omega) (by omega)]; exact e2
  · rw [hC _ (by omega)]; exact e3
  · rw [hC _ (by omega)]; exact e4
  · rw [hC _ (by omega), hC _ (by omega), hC _ (by omega), hA _ _ (by omega) (by omega), hA _ _ (by omega) (by omega), hA _ _ (by omega) (by omega)]; exact e5 b hb
  · rw [hC _ (by omega), hA _ _ (by omega) (by omega)]; exact e6 t ht
theorem RG_0 (h1 : h 95 1 = (nx : Int)) (h2 : nx < 8) (h3 : h 95 2 = 0) (h4 : h 150 5 = 0) : RG h 0 150 n nb L 0 nx := ⟨by omega, h2, by rw [Int.add_zero]; exact h1, by rw [Int.add_zero]; exact h3, h4, fun j hj => absurd hj (by omega)⟩
/-- the two sides at the world: all in one -/
theorem WD_o (hW : WD h 0 150 n nb L s K nx) : (h 150 0 = (nb : Int) ∧ nb ≤ 3 ∧ h 150 1 = (n : Int) ∧ n ≤ 8 ∧ h 150 2 = (L : Int) ∧ L ≤ 20 ∧ h 150 3 = (s : Int) ∧ s ≤ L ∧ h 150 5 = (K : Int)) ∧ (h 81 6 = (nb : Int) ∧ h 81 7 = (n : Int) ∧ h 88 1 = (L : Int) ∧ h 90 4 = (s : Int) ∧ h 150 4 = h 90 5 ∧ h 95 2 = (K : Int) ∧ h 95 1 = (nx : Int) ∧ nx < 8 ∧ K ≤ 8 ∧ 0 ≤ h 150 4 ∧ h 150 4 < 2147483648) := by
  obtain ⟨⟨⟨r0, r1, r2, r3, r4, r5, r6, r7⟩, p1, p2, p3, p4, p5, p6, p7, p8, p9, p10⟩, ⟨x1, x2⟩, g1, g2, g3, g4, g5, g6⟩ := hW
  simp only [Int.add_zero] at p1 p2 p3 p4 p7 g3 g4
  exact ⟨⟨r0, r1, r2, r3, r4, r5, p5, p6, g5⟩, p1, p2, p3, p4, p7, g4, g3, g2, g1, x1⟩
theorem WD_seed (hW : WD h 0 150 n nb L s K nx) (hv : 0 ≤ v ∧ v < 2147483648) : WD (up (up h 90 5 v) 150 4 v) 0 150 n nb L s K nx := by
  obtain ⟨⟨⟨r0, r1, r2, r3, r4, r5, r6, r7⟩, p1, p2, p3, p4, p5, p6, p7, p8, p9, p10⟩, ⟨x1, x2⟩, hG⟩ := hW
  simp only [Int.add_zero] at p1 p2 p3 p4 p7 p8 p9 p10
  refine ⟨⟨⟨?_, r1, ?_, r3, ?_, r5, fun t ht => ?_, fun b hb => ?_⟩, ?_, ?_, ?_, ?_, ?_, p6, ?_, fun b hb => ?_, fun t ht => ?_, fun i hi => ?_⟩, ⟨?_, fun t ht => ?_⟩, RG_c (fun a k q1 q2 => ?_) (fun k q => ?_) hG⟩
  · simp (disch := first | omega | decide) only [up_k, up_ne, up_s, Int.add_zero, ne_eq, not_false_eq_true]; exact r0
  · simp (disch := first | omega | decide) only [up_k, up_ne, up_s, Int.add_zero, ne_eq, not_false_eq_true]; exact r2
  · simp (disch := first | omega | decide) only [up_k, up_ne, up_s, Int.add_zero, ne_eq, not_false_eq_true]; exact r4
  · simp (disch := first | omega | decide) only [up_k, up_ne, up_s, Int.add_zero, ne_eq, not_false_eq_true]; have := r6 t ht; simpa only [Int.add_zero] using this
  · unfold bk; simp (disch := first | omega | decide) only [up_k, up_ne, up_s, Int.add_zero, ne_eq, not_false_eq_true]; exact r7 b hb
  · simp (disch := first | omega | decide) only [up_k, up_ne, up_s, Int.add_zero, ne_eq, not_false_eq_true]; exact p1
  · simp (disch := first | omega | decide) only [up_k, up_ne, up_s, Int.add_zero, ne_eq, not_false_eq_true]; exact p2
  · simp (disch := first | omega | decide) only [up_k, up_ne, up_s, Int.add_zero, ne_eq, not_false_eq_true]; exact p3
  · simp (disch := first | omega | decide) only [up_k, up_ne, up_s, Int.add_zero, ne_eq, not_false_eq_true]; exact p4
  · simp (disch := first | omega | decide) only [up_k, up_ne, up_s, Int.add_zero, ne_eq, not_false_eq_true]; exact p5
  · simp (disch := first | omega | decide) only [up_k, up_ne, up_s, Int.add_zero, ne_eq, not_false_eq_true]
  · simp (disch := first | omega | decide) only [up_k, up_ne, up_s, Int.add_zero, ne_eq, not_false_eq_true]; exact p8 b hb
  · simp (disch := first | omega | decide) only [up_k, up_ne, up_s, Int.add_zero, ne_eq, not_false_eq_true]; have := p9 t ht; simpa only [Int.add_zero] using this
  · simp (disch := first | omega | decide) only [up_k, up_ne, up_s, Int.add_zero, ne_eq, not_false_eq_true]; exact p10 i hi
  · simp (disch := first | omega | decide) only [up_k, up_ne, up_s, Int.add_zero, ne_eq, not_false_eq_true]; exact hv
  · simp (disch := first | omega | decide) only [up_k, up_ne, up_s, Int.add_zero, ne_eq, not_false_eq_true]; exact x2 t ht
  · rw [up_ne (by omega), up_ne (by omega)]
  · simp (disch := first | omega | decide) only [up_k, up_ne, up_s, Int.add_zero, ne_eq, not_false_eq_true]
theorem WD_again (hW : WD h 0 150 n nb L s K nx) : WD (up (up h 90 4 0) 150 3 0) 0 150 n nb L 0 K nx := by
  obtain ⟨⟨⟨r0, r1, r2, r3, r4, r5, r6, r7⟩, p1, p2, p3, p4, p5, p6, p7, p8, p9, p10⟩, ⟨x1, x2⟩, hG⟩ := hW
  simp only [Int.add_zero] at p1 p2 p3 p4 p7 p8 p9 p10
  refine ⟨⟨⟨?_, r1, ?_, r3, ?_, r5, fun t ht => ?_, fun b hb => ?_⟩, ?_, ?_, ?_, ?_, ?_, Nat.zero_le _, ?_, fun b hb => ?_, fun t ht => ?_, fun i hi => ?_⟩, ⟨?_, fun t ht => ?_⟩, RG_c (fun a k q1 q2 => ?_) (fun k q => ?_) hG⟩
  · simp (disch := first | omega | decide) only [up_k, up_ne, up_s, Int.add_zero, ne_eq, not_false_eq_true]; exact r0
  · simp (disch := first | omega | decide) only [up_k, up_ne, up_s, Int.add_zero, ne_eq, not_false_eq_true]; exact r2
  · simp (disch := first | omega | decide) only [up_k, up_ne, up_s, Int.add_zero, ne_eq, not_false_eq_true]; exact r4
  · simp (disch := first | omega | decide) only [up_k, up_ne, up_s, Int.add_zero, ne_eq, not_false_eq_true]; have := r6 t ht; simpa only [Int.add_zero] using this
  · unfold bk; simp (disch := first | omega | decide) only [up_k, up_ne, up_s, Int.add_zero, ne_eq, not_false_eq_true]; exact r7 b hb
  · simp (disch := first | omega | decide) only [up_k, up_ne, up_s, Int.add_zero, ne_eq, not_false_eq_true]; exact p1
  · simp (disch := first | omega | decide) only [up_k, up_ne, up_s, Int.add_zero, ne_eq, not_false_eq_true]; exact p2
  · simp (disch := first | omega | decide) only [up_k, up_ne, up_s, Int.add_zero, ne_eq, not_false_eq_true]; exact p3
  · simp (disch := first | omega | decide) only [up_k, up_ne, up_s, Int.add_zero, ne_eq, not_false_eq_true]; rfl
  · simp (disch := first | omega | decide) only [up_k, up_ne, up_s, Int.add_zero, ne_eq, not_false_eq_true]; rfl
  · simp (disch := first | omega | decide) only [up_k, up_ne, up_s, Int.add_zero, ne_eq, not_false_eq_true]; exact p7
  · simp (disch := first | omega | decide) only [up_k, up_ne, up_s, Int.add_zero, ne_eq, not_false_eq_true]; exact p8 b hb
  · simp (disch := first | omega | decide) only [up_k, up_ne, up_s, Int.add_zero, ne_eq, not_false_eq_true]; have := p9 t ht; simpa only [Int.add_zero] using this
  · simp (disch := first | omega | decide) only [up_k, up_ne, up_s, Int.add_zero, ne_eq, not_false_eq_true]; exact p10 i hi
  · simp (disch := first | omega | decide) only [up_k, up_ne, up_s, Int.add_zero, ne_eq, not_false_eq_true]; exact x1
  · simp (disch := first | omega | decide) only [up_k, up_ne, up_s, Int.add_zero, ne_eq, not_false_eq_true]; exact x2 t ht
  · rw [up_ne (by omega), up_ne (by omega)]
  · simp (disch := first | omega | decide) only [up_k, up_ne, up_s, Int.add_zero, ne_eq, not_false_eq_true]
theorem WD_wh (hW : WD h 0 150 n nb L s K nx) (ht0 : t < n) (hv : 0 ≤ v ∧ v ≤ 40) : WD (up (up h 94 t v) 150 (18 + 6 * t + 5) v) 0 150 n nb L s K nx := by
  obtain ⟨⟨⟨r0, r1, r2, r3, r4, r5, r6, r7⟩, p1, p2, p3, p4, p5, p6, p7, p8, p9, p10⟩, ⟨x1, x2⟩, hG⟩ := hW
  simp only [Int.add_zero] at p1 p2 p3 p4 p7 p8 p9 p10
  refine ⟨⟨⟨?_, r1, ?_, r3, ?_, r5, fun t ht => ?_, fun b hb => ?_⟩, ?_, ?_, ?_, ?_, ?_, p6, ?_, fun b hb => ?_, fun u hu => ?_, fun i hi => ?_⟩, ⟨?_, fun u hu => ?_⟩, RG_c (fun a k q1 q2 => ?_) (fun k q => ?_) hG⟩
  · simp (disch := first | omega | decide) only [up_k, up_ne, up_s, Int.add_zero, ne_eq, not_false_eq_true]; exact r0
  · simp (disch := first | omega | decide) only [up_k, up_ne, up_s, Int.add_zero, ne_eq, not_false_eq_true]; exact r2
  · simp (disch := first | omega | decide) only [up_k, up_ne, up_s, Int.add_zero, ne_eq, not_false_eq_true]; exact r4
  · simp (disch := first | omega | decide) only [up_k, up_ne, up_s, Int.add_zero, ne_eq, not_false_eq_true]; have := r6 t ht; simpa only [Int.add_zero] using this
  · unfold bk; simp (disch := first | omega | decide) only [up_k, up_ne, up_s, Int.add_zero, ne_eq, not_false_eq_true]; exact r7 b hb
  · simp (disch := first | omega | decide) only [up_k, up_ne, up_s, Int.add_zero, ne_eq, not_false_eq_true]; exact p1
  · simp (disch := first | omega | decide) only [up_k, up_ne, up_s, Int.add_zero, ne_eq, not_false_eq_true]; exact p2
  · simp (disch := first | omega | decide) only [up_k, up_ne, up_s, Int.add_zero, ne_eq, not_false_eq_true]; exact p3
  · simp (disch := first | omega | decide) only [up_k, up_ne, up_s, Int.add_zero, ne_eq, not_false_eq_true]; exact p4
  · simp (disch := first | omega | decide) only [up_k, up_ne, up_s, Int.add_zero, ne_eq, not_false_eq_true]; exact p5
  · simp (disch := first | omega | decide) only [up_k, up_ne, up_s, Int.add_zero, ne_eq, not_false_eq_true]; exact p7
  · simp (disch := first | omega | decide) only [up_k, up_ne, up_s, Int.add_zero, ne_eq, not_false_eq_true]; exact p8 b hb
  · have q := p9 u hu
    by_cases e : u = t
    · subst e; simp (disch := first | omega | decide) only [up_k, up_ne, up_s, Int.add_zero, ne_eq, not_false_eq_true]; exact ⟨q.1, q.2.1, q.2.2.1, q.2.2.2.1, q.2.2.2.2.1, trivial⟩
    · simp (disch := first | omega | decide) only [up_k, up_ne, up_s, Int.add_zero, ne_eq, not_false_eq_true]; exact q
  · simp (disch := first | omega | decide) only [up_k, up_ne, up_s, Int.add_zero, ne_eq, not_false_eq_true]; exact p10 i hi
  · simp (disch := first | omega | decide) only [up_k, up_ne, up_s, Int.add_zero, ne_eq, not_false_eq_true]; exact x1
  · by_cases e : u = t
    · subst e; simp (disch := first | omega | decide) only [up_k, up_ne, up_s, Int.add_zero, ne_eq, not_false_eq_true]; exact ⟨(x2 u hu).1, hv⟩
    · simp (disch := first | omega | decide) only [up_k, up_ne, up_s, Int.add_zero, ne_eq, not_false_eq_true]; exact x2 u hu
  · rw [up_ne (by omega), up_ne (by omega)]
  · simp (disch := first | omega | decide) only [up_k, up_ne, up_s, Int.add_zero, ne_eq, not_false_eq_true]
theorem WD_set (hW : WD h 0 150 n nb L s K nx) {bb : Nat} (hb0 : bb < nb) (hv : 0 ≤ v ∧ v < 1000) {q : Int} (hq : q = 0 ∨ q = 1) : WD (up (up h (91 + q) bb v) 150 (6 + 4 * bb + 1 + q) v) 0 150 n nb L s K nx := by
  obtain ⟨⟨⟨r0, r1, r2, r3, r4, r5, r6, r7⟩, p1, p2, p3, p4, p5, p6, p7, p8, p9, p10⟩, ⟨x1, x2⟩, hG⟩ := hW
  simp only [Int.add_zero] at p1 p2 p3 p4 p7 p8 p9 p10
  have hqq : (∀ b : Nat, b < nb → bk (up (up h (91 + q) bb v) 150 (6 + 4 * bb + 1 + q) v) 150 b) ∧ ∀ b : Nat, b < nb → up (up h (91 + q) bb v) 150 (6 + 4 * bb + 1 + q) v 150 (6 + 4 * b) = up (up h (91 + q) bb v) 150 (6 + 4 * bb + 1 + q) v 82 b ∧ up (up h (91 + q) bb v) 150 (6 + 4 * bb + 1 + q) v 150 (6 + 4 * b + 1) = up (up h (91 + q) bb v) 150 (6 + 4 * bb + 1 + q) v 91 b ∧ up (up h (91 + q) bb v) 150 (6 + 4 * bb + 1 + q) v 150 (6 + 4 * b + 2) = up (up h (91 + q) bb v) 150 (6 + 4 * bb + 1 + q) v 92 b ∧ up (up h (91 + q) bb v) 150 (6 + 4 * bb + 1 + q) v 150 (6 + 4 * b + 3) = up (up h (91 + q) bb v) 150 (6 + 4 * bb + 1 + q) v 93 b := by
    rcases hq with rfl | rfl
    · refine ⟨fun b hb => ?_, fun b hb => ?_⟩
      · have z := r7 b hb
        unfold bk at z ⊢
        by_cases e : b = bb
        · subst e; simp (disch := first | omega | decide) only [up_k, up_ne, up_s, Int.add_zero, ne_eq, not_false_eq_true]; exact ⟨z.1, by omega, z.2.2⟩
        · simp (disch := first | omega | decide) only [up_k, up_ne, up_s, Int.add_zero, ne_eq, not_false_eq_true]; exact z
      · have z := p8 b hb
        rw [show (91 : Int) + 0 = 91 by omega]
        by_cases e : b = bb
        · subst e; simp (disch := first | omega | decide) only [up_k, up_ne, up_s, Int.add_zero, ne_eq, not_false_eq_true]; exact ⟨z.1, trivial, z.2.2⟩
        · simp (disch := first | omega | decide) only [up_k, up_ne, up_s, Int.add_zero, ne_eq, not_false_eq_true]; exact z
    · refine ⟨fun b hb => ?_, fun b hb => ?_⟩
      · have z := r7 b hb
        unfold bk at z ⊢
        rw [show 6 + 4 * (bb : Int) + 1 + 1 = 6 + 4 * bb + 2 by omega]
        by_cases e : b = bb
        · subst e; simp (disch := first | omega | decide) only [up_k, up_ne, up_s, Int.add_zero, ne_eq, not_false_eq_true]; exact ⟨z.1, z.2.1, by omega, z.2.2.2⟩
        · simp (disch := first | omega | decide) only [up_k, up_ne, up_s, Int.add_zero, ne_eq, not_false_eq_true]; exact z
      · have z := p8 b hb
        rw [show (91 : Int) + 1 = 92 by omega, show 6 + 4 * (bb : Int) + 1 + 1 = 6 + 4 * bb + 2 by omega]
        by_cases e : b = bb
        · subst e; simp (disch := first | omega | decide) only [up_k, up_ne, up_s, Int.add_zero, ne_eq, not_false_eq_true]; exact ⟨z.1, z.2.1, trivial, z.2.2.2⟩
        · simp (disch := first | omega | decide) only [up_k, up_ne, up_s, Int.add_zero, ne_eq, not_false_eq_true]; exact z
  refine ⟨⟨⟨?_, r1, ?_, r3, ?_, r5, fun t ht => ?_, hqq.1⟩, ?_, ?_, ?_, ?_, ?_, p6, ?_, ?_, fun u hu => ?_, fun i hi => ?_⟩, ⟨?_, fun u hu => ?_⟩, RG_c (fun a k q1 q2 => ?_) (fun k q => ?_) hG⟩
  · simp (disch := first | omega | decide) only [up_k, up_ne, up_s, Int.add_zero, ne_eq, not_false_eq_true]; exact r0
  · simp (disch := first | omega | decide) only [up_k, up_ne, up_s, Int.add_zero, ne_eq, not_false_eq_true]; exact r2
  · simp (disch := first | omega | decide) only [up_k, up_ne, up_s, Int.add_zero, ne_eq, not_false_eq_true]; exact r4
  · simp (disch := first | omega | decide) only [up_k, up_ne, up_s, Int.add_zero, ne_eq, not_false_eq_true]; have := r6 t ht; simpa only [Int.add_zero] using this
  · simp (disch := first | omega | decide) only [up_k, up_ne, up_s, Int.add_zero, ne_eq, not_false_eq_true]; exact p1
  · simp (disch := first | omega | decide) only [up_k, up_ne, up_s, Int.add_zero, ne_eq, not_false_eq_true]; exact p2
  · simp (disch := first | omega | decide) only [up_k, up_ne, up_s, Int.add_zero, ne_eq, not_false_eq_true]; exact p3
  · simp (disch := first | omega | decide) only [up_k, up_ne, up_s, Int.add_zero, ne_eq, not_false_eq_true]; exact p4
  · simp (disch := first | omega | decide) only [up_k, up_ne, up_s, Int.add_zero, ne_eq, not_false_eq_true]; exact p5
  · simp (disch := first | omega | decide) only [up_k, up_ne, up_s, Int.add_zero, ne_eq, not_false_eq_true]; exact p7
  · simp only [Int.add_zero]; exact hqq.2
  · simp (disch := first | omega | decide) only [up_k, up_ne, up_s, Int.add_zero, ne_eq, not_false_eq_true]; have := p9 u hu; simpa only [Int.add_zero] using this
  · simp (disch := first | omega | decide) only [up_k, up_ne, up_s, Int.add_zero, ne_eq, not_false_eq_true]; exact p10 i hi
  · simp (disch := first | omega | decide) only [up_k, up_ne, up_s, Int.add_zero, ne_eq, not_false_eq_true]; exact x1
  · simp (disch := first | omega | decide) only [up_k, up_ne, up_s, Int.add_zero, ne_eq, not_false_eq_true]; exact x2 u hu
  · rw [up_ne (by omega), up_ne (by omega)]
  · simp (disch := first | omega | decide) only [up_k, up_ne, up_s, Int.add_zero, ne_eq, not_false_eq_true]
end BP
