section SW
variable {g h h' h1 h2 r : am_F} {Q : am_V → am_S → Prop} {so j x bj : Int} {n nb L s K nx b t f p : Nat}
theorem mC_r (h8 : n ≤ 8) (ht : tk h 150 n) (hk : bk h 150 b) : (0 ≤ (mC h 150 b n so j).1 ∧ (mC h 150 b n so j).1 ≤ 999) ∧ (0 ≤ (mC h 150 b n so j).2.1 ∧ (mC h 150 b n so j).2.1 ≤ 999) ∧ (mC h 150 b n so j).2.2.1 < 16 := by
  obtain ⟨d1, d2, d3⟩ := tk_r (b := b) h8 ht
  obtain ⟨b1, b2, b3, b4⟩ := hk
  have a1 := ageW_r (D := sumF (rW h 150 b 1) n) b2 d2.1
  have a2 := ageR_r (so := so) (E := sumF (rW h 150 b 2) n) b3 d3.1
  have hg : (h 150 (6 + 4 * (b : Int) + 3)).toNat < 16 := by omega
  have wr := weak_r (k := h 150 (6 + 4 * (b : Int))) (w := ageW (h 150 (6 + 4 * (b : Int) + 1)) (sumF (rW h 150 b 1) n)) (r := ageR (h 150 (6 + 4 * (b : Int) + 2)) (sumF (rW h 150 b 2) n) so) (W := sumF (rW h 150 b 0) n) (E := sumF (rW h 150 b 2) n) (so := so) (j := j) (g := (h 150 (6 + 4 * (b : Int) + 3)).toNat)
  unfold mC core
  split
  · exact ⟨b2, b3, hg⟩
  · split
    · exact ⟨a1, a2, hg⟩
    · exact ⟨a1, a2, or16 hg (by omega)⟩
set_option maxHeartbeats 2000000 in
theorem WD_step (hW : WD h 0 150 n nb L s K nx) (hsL : s < L) (hso : h 89 s = so) (hA : SA h h1 n nb s K nx so j) (hB : SB h1 h2 n nb s K so j) : WD h2 0 150 n nb L (s + 1) (K + 1 - dl K) ((nx + 1) % 8) := by
  have hP := hW.1
  obtain ⟨⟨⟨r0, r1, r2, r3, r4, r5, r6, r7⟩, p1, p2, p3, p4, p5, p6, p7, p8, p9, p10⟩, ⟨x1, x2⟩, g1, g2, g3, g4, g5, g6⟩ := id hW
  simp only [Int.add_zero] at p1 p2 p3 p4 p7 p8 p9 p10 g3 g4
  obtain ⟨a1, a2, a3, a4, a5, a6, ⟨a7, a7b, a7t⟩, a8⟩ := hA
  obtain ⟨⟨b1, -⟩, ⟨b2, b3, b4, b5⟩, b6, b7, b8, b9⟩ := hB
  obtain ⟨n1, n2, ⟨n3, n4, n5, n6⟩, n7, n8⟩ := rNo_o (h := h1) g1
  have e150 : h1 150 = h 150 := a1 150 (by omega) (by decide)
  rw [e150] at b2 b4 b6 b7 b8 n1 n3 n4 n5 n6 n7
  have emC : ∀ b : Nat, mC h1 150 b n so j = mC h 150 b n so j := fun b => (mC_c e150 b).1
  have efL : fL h1 150 n so j nb = fL h 150 n so j nb := fL_p r3 (fun k _ _ => by rw [e150]) nb r1
  have efC : flC h n so j nb = fL h 150 n so j nb := flC_fL hP (fun _ _ _ => rfl) nb (Nat.le_refl _)
  have cl : ∀ a, 80 ≤ a → a ≤ 136 → h2 a = h1 a := fun a q1 q2 => b1 a (by omega) (by omega)
  have dl1 : dl K ≤ 1 ∧ (dl K = 1 ↔ K = 8) := by unfold dl; split <;> omega
  have dlK : dl K ≤ K := by omega
  have hix : (((nx + 1) % 8 + 8 - (K + 1 - dl K) + (K - dl K)) % 8 = nx) := by omega
  refine ⟨⟨⟨?_, r1, ?_, r3, ?_, r5, fun t ht => ?_, fun b hb => ?_⟩, ?_, ?_, ?_, ?_, ?_, by omega, ?_, fun b hb => ?_, fun t ht => ?_, fun i hi => ?_⟩, ⟨?_, fun t ht => ?_⟩, by omega, Nat.mod_lt _ (by decide), ?_, ?_, ?_, fun q hq => ?_⟩
  · rw [b2 0 (by decide)]; exact r0
  · rw [b2 1 (by decide)]; exact r2
  · rw [b2 2 (by decide)]; exact r4
  · obtain ⟨-, z⟩ := b7 t ht
    rw [z 0 (by decide) (by decide), z 1 (by decide) (by decide), z 2 (by decide) (by decide)]; exact r6 t ht
  · obtain ⟨z0, z1, z2, z3⟩ := b6 b hb
    obtain ⟨m1, m2, m3⟩ := mC_r (so := so) (j := j) r3 r6 (r7 b hb)
    unfold bk
    rw [z0, z1, z2, z3, emC]
    exact ⟨(r7 b hb).1, m1, m2, by omega, by omega⟩
  · rw [Int.add_zero, cl 81 (by decide) (by decide), a2 81 (by decide) (by decide)]; exact p1
  · rw [Int.add_zero, cl 81 (by decide) (by decide), a2 81 (by decide) (by decide)]; exact p2
  · rw [Int.add_zero, cl 88 (by decide) (by decide), a2 88 (by decide) (by decide)]; exact p3
  · rw [Int.add_zero, cl 90 (by decide) (by decide)]; exact a3.1
  · exact b3
  · rw [Int.add_zero, cl 90 (by decide) (by decide), a3.2, b4, p7]
  · obtain ⟨z0, z1, z2, z3⟩ := b6 b hb
    obtain ⟨y1, y2, y3⟩ := a4 b hb
    simp only [Int.add_zero]
    rw [z0, z1, z2, z3, emC, cl 82 (by decide) (by decide), cl 91 (by decide) (by decide), cl 92 (by decide) (by decide), cl 93 (by decide) (by decide), a2 82 (by decide) (by decide), y1, y2, y3, cc_mC hP hb]
    exact ⟨(p8 b hb).1, rfl, rfl, rfl⟩
  · obtain ⟨y5, z⟩ := b7 t ht
    have q := Rp_t hP (t := (t : Int)) (by omega) (by omega)
    rw [Int.add_zero, Int.add_zero (83 : Int), Int.add_zero (84 : Int), Int.add_zero (85 : Int), Int.add_zero (86 : Int), Int.add_zero (87 : Int), Int.add_zero (94 : Int)]
    have z0 := z 0 (by decide) (by decide)
    rw [Int.add_zero] at z0
    rw [Int.add_zero] at q
    rw [z0, z 1 (by decide) (by decide), z 2 (by decide) (by decide), z 3 (by decide) (by decide), z 4 (by decide) (by decide), y5, cl 83 (by decide) (by decide), cl 84 (by decide) (by decide), cl 85 (by decide) (by decide), cl 86 (by decide) (by decide), cl 87 (by decide) (by decide), cl 94 (by decide) (by decide), a2 83 (by decide) (by decide), a2 84 (by decide) (by decide), a2 85 (by decide) (by decide), a2 86 (by decide) (by decide), a2 87 (by decide) (by decide), a5 t ht, efL, efC]
    exact ⟨q.1, q.2.1, q.2.2.1, q.2.2.2.1, q.2.2.2.2.1, by rw [q.2.2.2.2.2]⟩
  · rw [Int.add_zero, b8 _ (by omega) (by omega), cl 89 (by decide) (by decide), a2 89 (by decide) (by decide)]; exact p10 i hi
  · rw [b4]
    have := dr_r (h 150 4)
    split
    · exact this
    · exact x1
  · obtain ⟨y5, z⟩ := b7 t ht
    rw [z 3 (by decide) (by decide), y5]
    have := x2 t ht
    refine ⟨this.1, ?_⟩
    split
    · omega
    · exact this.2
  · rw [Int.add_zero, cl 95 (by decide) (by decide)]; exact a6.1
  · rw [Int.add_zero, cl 95 (by decide) (by decide)]; exact a6.2
  · exact b5
  · by_cases e : q = K - dl K
    · subst e
      rw [hix]
      refine ⟨?_, ?_, ?_, ?_, fun b hb => ?_, fun t ht => ?_⟩
      · rw [Int.add_zero, b9 _ (by omega), n3, cl _ (by omega) (by omega), a7.1, p4, p5]
      · rw [Int.add_zero, b9 _ (by omega), n4, cl _ (by omega) (by omega), a7.2, p7]
      · rw [b9 _ (by omega), n3, p5]; omega
      · rw [b9 _ (by omega), n4]; exact x1
      · obtain ⟨y1, y2, y3⟩ := n5 b (by omega)
        obtain ⟨w1, w2, w3'⟩ := a7b b (by omega)
        obtain ⟨-, v1, v2, v3⟩ := r7 b hb
        simp only [Int.add_zero]
        rw [b9 _ (by omega), b9 _ (by omega), b9 _ (by omega), y1, y2, y3, cl _ (by omega) (by omega), cl _ (by omega) (by omega), cl _ (by omega) (by omega), w1, w2, w3']
        exact ⟨⟨(p8 b hb).2.1, (p8 b hb).2.2.1, (p8 b hb).2.2.2⟩, v1, v2, v3⟩
      · rw [Int.add_zero, b9 _ (by omega), n6 t (by omega), cl _ (by omega) (by omega), a7t t (by omega)]
        exact ⟨(Rp_t hP (t := (t : Int)) (by omega) (by omega)).2.2.2.2.2, (x2 t ht).2⟩
    · have hq2 : q < K - dl K := by omega
      have ixe : (((nx + 1) % 8 + 8 - (K + 1 - dl K) + q) % 8) = (nx + 8 - K + (q + dl K)) % 8 := by omega
      have pne : (nx + 8 - K + (q + dl K)) % 8 ≠ nx := by omega
      have pl : (nx + 8 - K + (q + dl K)) % 8 < 8 := Nat.mod_lt _ (by decide)
      rw [ixe]
      have hE := g6 (q + dl K) (by omega)
      generalize (nx + 8 - K + (q + dl K)) % 8 = pp at pne pl hE ⊢
      refine EN_m (fun i i0 i1 => ?_) (fun a k q1 q2 => ?_) r1 r3 hE
      · rw [b9 _ (by omega), n7 q hq2 i i0 i1]
      · rw [cl a (by omega) (by omega), a8 a (by omega) (by omega) (by omega)]
theorem b_step (hI : INV h) : Both 119 126 [aP 0] [aP 149, aX] h := by
  obtain ⟨⟨n, nb, L, s, K, nx, hW⟩, hr⟩ := id hI
  have hP := hW.1
  obtain ⟨⟨o1, o2, o3, o4, o5, o6, o7, o8, o9⟩, p1, p2, p3, p4, p5, p6, p7, p8, p9, p10⟩ := WD_o hW
  refine s_Tstep (so := h 89 s) (Rp_CO hP) p7 p8 p6 p9 (fun _ => rfl) (fun h1 hs hA => ⟨_, h1, rfl, rfl, hA.1 _ (by omega) (by decide), ?_⟩) (fun z => ⟨_, h, rfl, rfl, rfl, ?_⟩)
  · have e150 : h1 150 = h 150 := hA.1 150 (by omega) (by decide)
    refine s_Rstep (so := h 89 s) (K := K) (RO_150 e150 hP.1) (by rw [e150, o7]) o8 (by rw [e150, o9]) p9 (by rw [e150]; exact p10) (fun _ => by rw [e150, Rp_i hP (by omega) (by omega)]) (fun h2 _ hB => ⟨h2, ?_, rfl, ?_, ?_⟩) (fun z => absurd z (by omega))
    · rw [e150, p5, fL_p o4 (fun k _ _ => by rw [e150]) nb o2, flC_fL hP (fun _ _ _ => rfl) nb (Nat.le_refl _)]
    · rw [hB.1.1 _ (by decide) (by decide), hA.1 _ (by omega) (by decide)]
    · rw [e150, p5] at hB
      refine INV_w hI (fun a k q1 q2 q3 => ?_) ⟨n, nb, L, s + 1, K + 1 - dl K, (nx + 1) % 8, WD_step hW hs rfl hA hB⟩
      by_cases z : a = 149
      · subst z
        rw [hB.1.2 k (by unfold scr at q3; omega), hA.1 _ (by omega) (by decide)]
      · rw [hB.1.1 a z q2, hA.1 a q1 (by unfold scr at q3; omega)]
  · refine s_Rstep (so := h 89 s) (K := K) hP.1 o7 o8 o9 p9 p10 (fun _ => by rw [Rp_i hP (by omega) (by omega)]) (fun h2 q _ => absurd q (by omega)) (fun _ => ⟨_, rfl, rfl, rfl, hI⟩)
end SW
