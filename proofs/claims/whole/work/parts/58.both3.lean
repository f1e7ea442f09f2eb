section BQ
variable {h h' h1 h2 : am_F} {Q : am_V → am_S → Prop} {x y b i pl j c d k v t : Int} {n nb L s K nx : Nat}
/-- the class's store after a bag was added -/
def cAB (h : am_F) (nb : Nat) (k : Int) : am_F := up (up (up (up (up (up h 91 nb 0) 92 nb 0) 93 nb 0) 82 nb k) 81 6 (nb + 1)) 95 2 0
set_option maxHeartbeats 1000000 in
theorem WD_bag (hW : WD h 0 150 n nb L s K nx) (h3 : nb < 3) (hk : 0 ≤ k ∧ k < 4) : WD (rAB (cAB h nb k) nb k) 0 150 n (nb + 1) L s 0 nx := by
  obtain ⟨⟨⟨r0, r1, r2, r3, r4, r5, r6, r7⟩, p1, p2, p3, p4, p5, p6, p7, p8, p9, p10⟩, ⟨x1, x2⟩, g1, g2, g3, g4, g5, g6⟩ := hW
  simp only [Int.add_zero] at p1 p2 p3 p4 p7 p8 p9 p10 g3
  unfold rAB cAB
  refine ⟨⟨⟨?_, by omega, ?_, r3, ?_, r5, fun t ht => ?_, fun b hb => ?_⟩, ?_, ?_, ?_, ?_, ?_, p6, ?_, fun b hb => ?_, fun t ht => ?_, fun i hi => ?_⟩, ⟨?_, fun t ht => ?_⟩, RG_0 ?_ g2 ?_ ?_⟩
  · simp (disch := first | omega | decide) only [up_k, up_ne, up_s, Int.add_zero, ne_eq, not_false_eq_true]; omega
  · simp (disch := first | omega | decide) only [up_k, up_ne, up_s, Int.add_zero, ne_eq, not_false_eq_true]; exact r2
  · simp (disch := first | omega | decide) only [up_k, up_ne, up_s, Int.add_zero, ne_eq, not_false_eq_true]; exact r4
  · simp (disch := first | omega | decide) only [up_k, up_ne, up_s, Int.add_zero, ne_eq, not_false_eq_true]; have := r6 t ht; simpa only [Int.add_zero] using this
  · unfold bk
    by_cases e : b = nb
    · subst e; simp (disch := first | omega | decide) only [up_k, up_ne, up_s, Int.add_zero, ne_eq, not_false_eq_true]; omega
    · simp (disch := first | omega | decide) only [up_k, up_ne, up_s, Int.add_zero, ne_eq, not_false_eq_true]; exact r7 b (by omega)
  · simp (disch := first | omega | decide) only [up_k, up_ne, up_s, Int.add_zero, ne_eq, not_false_eq_true]; omega
  · simp (disch := first | omega | decide) only [up_k, up_ne, up_s, Int.add_zero, ne_eq, not_false_eq_true]; exact p2
  · simp (disch := first | omega | decide) only [up_k, up_ne, up_s, Int.add_zero, ne_eq, not_false_eq_true]; exact p3
  · simp (disch := first | omega | decide) only [up_k, up_ne, up_s, Int.add_zero, ne_eq, not_false_eq_true]; exact p4
  · simp (disch := first | omega | decide) only [up_k, up_ne, up_s, Int.add_zero, ne_eq, not_false_eq_true]; exact p5
  · simp (disch := first | omega | decide) only [up_k, up_ne, up_s, Int.add_zero, ne_eq, not_false_eq_true]; exact p7
  · by_cases e : b = nb
    · subst e; simp (disch := first | omega | decide) only [up_k, up_ne, up_s, Int.add_zero, ne_eq, not_false_eq_true]; exact ⟨trivial, trivial, trivial, trivial⟩
    · simp (disch := first | omega | decide) only [up_k, up_ne, up_s, Int.add_zero, ne_eq, not_false_eq_true]; exact p8 b (by omega)
  · simp (disch := first | omega | decide) only [up_k, up_ne, up_s, Int.add_zero, ne_eq, not_false_eq_true]; have := p9 t ht; simpa only [Int.add_zero] using this
  · simp (disch := first | omega | decide) only [up_k, up_ne, up_s, Int.add_zero, ne_eq, not_false_eq_true]; exact p10 i hi
  · simp (disch := first | omega | decide) only [up_k, up_ne, up_s, Int.add_zero, ne_eq, not_false_eq_true]; exact x1
  · simp (disch := first | omega | decide) only [up_k, up_ne, up_s, Int.add_zero, ne_eq, not_false_eq_true]; exact x2 t ht
  · simp (disch := first | omega | decide) only [up_k, up_ne, up_s, Int.add_zero, ne_eq, not_false_eq_true]; exact g3
  · simp (disch := first | omega | decide) only [up_k, up_ne, up_s, Int.add_zero, ne_eq, not_false_eq_true]
  · simp (disch := first | omega | decide) only [up_k, up_ne, up_s, Int.add_zero, ne_eq, not_false_eq_true]
/-- the class's store after a thing was added -/
def cAT (h : am_F) (n : Nat) (v1 v2 v3 v4 v5 : Int) : am_F := up (gAT (up h 94 n 3) n v1 v2 v3 v4 v5) 95 2 0
set_option maxHeartbeats 2000000 in
theorem WD_thing {v1 v2 v3 v4 v5 : Int} (hW : WD h 0 150 n nb L s K nx) (h8 : n < 8) (ok : okT v1 v2 v3 v4 v5) : WD (rAT (cAT h n v1 v2 v3 v4 v5) n v1 v2 v3 v4 v5) 0 150 (n + 1) nb L s 0 nx := by
  obtain ⟨⟨⟨r0, r1, r2, r3, r4, r5, r6, r7⟩, p1, p2, p3, p4, p5, p6, p7, p8, p9, p10⟩, ⟨x1, x2⟩, g1, g2, g3, g4, g5, g6⟩ := hW
  obtain ⟨o1, o2, o3, o4, o5⟩ := ok
  simp only [Int.add_zero] at p1 p2 p3 p4 p7 p8 p9 p10 g3
  unfold rAT cAT gAT
  refine ⟨⟨⟨?_, r1, ?_, by omega, ?_, r5, fun t ht => ?_, fun b hb => ?_⟩, ?_, ?_, ?_, ?_, ?_, p6, ?_, fun b hb => ?_, fun t ht => ?_, fun i hi => ?_⟩, ⟨?_, fun t ht => ?_⟩, RG_0 ?_ g2 ?_ ?_⟩
  · simp (disch := first | omega | decide) only [up_k, up_ne, up_s, Int.add_zero, ne_eq, not_false_eq_true]; exact r0
  · simp (disch := first | omega | decide) only [up_k, up_ne, up_s, Int.add_zero, ne_eq, not_false_eq_true]; omega
  · simp (disch := first | omega | decide) only [up_k, up_ne, up_s, Int.add_zero, ne_eq, not_false_eq_true]; exact r4
  · by_cases e : t = n
    · subst e; simp (disch := first | omega | decide) only [up_k, up_ne, up_s, Int.add_zero, ne_eq, not_false_eq_true]; omega
    · simp (disch := first | omega | decide) only [up_k, up_ne, up_s, Int.add_zero, ne_eq, not_false_eq_true]; have := r6 t (by omega); simpa only [Int.add_zero] using this
  · unfold bk; simp (disch := first | omega | decide) only [up_k, up_ne, up_s, Int.add_zero, ne_eq, not_false_eq_true]; exact r7 b hb
  · simp (disch := first | omega | decide) only [up_k, up_ne, up_s, Int.add_zero, ne_eq, not_false_eq_true]; exact p1
  · simp (disch := first | omega | decide) only [up_k, up_ne, up_s, Int.add_zero, ne_eq, not_false_eq_true]; omega
  · simp (disch := first | omega | decide) only [up_k, up_ne, up_s, Int.add_zero, ne_eq, not_false_eq_true]; exact p3
  · simp (disch := first | omega | decide) only [up_k, up_ne, up_s, Int.add_zero, ne_eq, not_false_eq_true]; exact p4
  · simp (disch := first | omega | decide) only [up_k, up_ne, up_s, Int.add_zero, ne_eq, not_false_eq_true]; exact p5
  · simp (disch := first | omega | decide) only [up_k, up_ne, up_s, Int.add_zero, ne_eq, not_false_eq_true]; exact p7
  · simp (disch := first | omega | decide) only [up_k, up_ne, up_s, Int.add_zero, ne_eq, not_false_eq_true]; exact p8 b hb
  · by_cases e : t = n
    · subst e; simp (disch := first | omega | decide) only [up_k, up_ne, up_s, Int.add_zero, ne_eq, not_false_eq_true]; exact ⟨trivial, trivial, trivial, trivial, trivial, trivial⟩
    · simp (disch := first | omega | decide) only [up_k, up_ne, up_s, Int.add_zero, ne_eq, not_false_eq_true]; have := p9 t (by omega); simpa only [Int.add_zero] using this
  · simp (disch := first | omega | decide) only [up_k, up_ne, up_s, Int.add_zero, ne_eq, not_false_eq_true]; exact p10 i hi
  · simp (disch := first | omega | decide) only [up_k, up_ne, up_s, Int.add_zero, ne_eq, not_false_eq_true]; exact x1
  · by_cases e : t = n
    · subst e; simp (disch := first | omega | decide) only [up_k, up_ne, up_s, Int.add_zero, ne_eq, not_false_eq_true]; omega
    · simp (disch := first | omega | decide) only [up_k, up_ne, up_s, Int.add_zero, ne_eq, not_false_eq_true]; exact x2 t (by omega)
  · simp (disch := first | omega | decide) only [up_k, up_ne, up_s, Int.add_zero, ne_eq, not_false_eq_true]; exact g3
  · simp (disch := first | omega | decide) only [up_k, up_ne, up_s, Int.add_zero, ne_eq, not_false_eq_true]
  · simp (disch := first | omega | decide) only [up_k, up_ne, up_s, Int.add_zero, ne_eq, not_false_eq_true]
theorem up_out {a a' k v : Int} (q : a' < 80 ∨ 136 < a') (q2 : a' ≠ 150) (ha : (80 ≤ a ∧ a ≤ 136) ∨ a = 150) : up h a k v a' = h a' := up_ne (by omega) _ _
theorem b_again (hI : INV h) : Both 130 131 [aP 0, aX] [aP 149, aX] h := by
  obtain ⟨⟨n, nb, L, s, K, nx, hW⟩, hr⟩ := id hI
  obtain ⟨o, o'⟩ := WD_o hW
  unfold Both
  rw [s_Tagain]
  refine ⟨_, _, rfl, rfl, up_ne (by decide) _ _, ?_⟩
  rw [s_Ragain]
  refine ⟨_, ?_, rfl, by rw [up_ne (by decide), up_ne (by decide)], INV_w hI (fun a k q1 q2 _ => ?_) ⟨n, nb, L, 0, K, nx, WD_again hW⟩⟩
  · simp (disch := first | omega | decide) only [up_k, up_ne, up_s, Int.add_zero, ne_eq, not_false_eq_true]; rw [o.2.2.2.2.2.2.1, o'.2.2.2.1]
  · rw [up_out q1 q2 (by omega), up_out q1 q2 (by omega)]
theorem b_seed (hI : INV h) (hx : x < 2147483648) : Both 132 133 [aP 0, aI x, aX] [aP 149, aI x, aX] h := by
  obtain ⟨⟨n, nb, L, s, K, nx, hW⟩, hr⟩ := id hI
  obtain ⟨o, o'⟩ := WD_o hW
  unfold Both
  rw [s_Tseed]
  by_cases e : 0 ≤ x
  · rw [if_pos e, if_pos e]
    refine ⟨_, _, rfl, rfl, up_ne (by decide) _ _, ?_⟩
    rw [s_Rseed, if_pos e, if_pos e]
    refine ⟨_, ?_, rfl, by rw [up_ne (by decide), up_ne (by decide)], INV_w hI (fun a k q1 q2 _ => ?_) ⟨n, nb, L, s, K, nx, WD_seed hW ⟨e, hx⟩⟩⟩
    · simp (disch := first | omega | decide) only [up_k, up_ne, up_s, Int.add_zero, ne_eq, not_false_eq_true]; rw [o'.2.2.2.2.1]
    · rw [up_out q1 q2 (by omega), up_out q1 q2 (by omega)]
  · rw [if_neg e, if_neg e]
    refine ⟨_, _, rfl, rfl, rfl, ?_⟩
    rw [s_Rseed, if_neg e, if_neg e]
    exact ⟨_, rfl, rfl, rfl, hI⟩
theorem b_give (hI : INV h) : Both 37 38 [aP 0, aI t] [aP 149, aI t, aX] h := by
  obtain ⟨⟨n, nb, L, s, K, nx, hW⟩, hr⟩ := id hI
  obtain ⟨⟨o1, o2, o3, o4, -⟩, p1, p2, -⟩ := WD_o hW
  unfold Both
  rw [s_Tgive o4 p2]
  by_cases e : 0 ≤ t ∧ t < n
  · obtain ⟨t', rfl⟩ := Int.eq_ofNat_of_zero_le e.1
    rw [if_pos e, if_pos e]
    refine ⟨_, _, rfl, rfl, up_ne (by decide) _ _, ?_⟩
    rw [s_Rgive o4 (by rw [up_ne (by decide)]; exact o3), if_pos e, if_pos e]
    refine ⟨_, ?_, rfl, by rw [up_ne (by decide), up_ne (by decide)], INV_w hI (fun a k q1 q2 _ => ?_) ⟨n, nb, L, s, K, nx, WD_wh hW (by omega) (by omega)⟩⟩
    · simp (disch := first | omega | decide) only [up_k, up_ne, up_s, Int.add_zero, ne_eq, not_false_eq_true]; rw [(Rp_t hW.1 e.1 e.2).2.2.2.2.2]
    · rw [up_out q1 q2 (by omega), up_out q1 q2 (by omega)]
  · rw [if_neg e, if_neg e]
    refine ⟨_, _, rfl, rfl, rfl, ?_⟩
    rw [s_Rgive o4 o3, if_neg e, if_neg e]
    exact ⟨_, rfl, rfl, rfl, hI⟩
theorem b_set (hI : INV h) : Both 62 63 [aP 0, aI b, aI x, aI y, aX, aX] [aP 149, aI b, aI x, aI y, aX] h := by
  obtain ⟨⟨n, nb, L, s, K, nx, hW⟩, hr⟩ := id hI
  obtain ⟨⟨o1, o2, o3, o4, -⟩, p1, p2, -⟩ := WD_o hW
  unfold Both
  rw [s_Tset o2 p1]
  by_cases e : (0 ≤ b ∧ b < nb) ∧ (0 ≤ x ∧ x < 2) ∧ 0 ≤ y ∧ y < 1000
  · obtain ⟨b', rfl⟩ := Int.eq_ofNat_of_zero_le e.1.1
    obtain ⟨e1, ex, ey⟩ := id e
    rw [if_pos e, if_pos e]
    refine ⟨_, _, rfl, rfl, up_ne (by omega) _ _, ?_⟩
    rw [s_Rset o2 (by rw [up_ne (by omega)]; exact o1), if_pos e, if_pos e]
    refine ⟨_, ?_, rfl, by rw [up_ne (by omega), up_ne (by omega)], INV_w hI (fun a k q1 q2 _ => ?_) ⟨n, nb, L, s, K, nx, WD_set hW (by omega) ey (by omega)⟩⟩
    · rw [up_ne (by omega)]
      obtain ⟨z1, z2, z3, z4⟩ := Rp_b hW.1 e1.1 e1.2
      have hx : x = 0 ∨ x = 1 := by omega
      rcases hx with rfl | rfl
      · simp only [Int.add_zero]; rw [z2]
      · rw [show 6 + 4 * (b' : Int) + 1 + 1 = 6 + 4 * b' + 2 by omega, z3]; rfl
    · rw [up_out q1 q2 (by omega), up_out q1 q2 (by omega)]
  · rw [if_neg e, if_neg e]
    refine ⟨_, _, rfl, rfl, rfl, ?_⟩
    rw [s_Rset o2 o1, if_neg e, if_neg e]
    exact ⟨_, rfl, rfl, rfl, hI⟩
theorem b_pack (hI : INV h) : Both 31 36 [aP 0, aI t, aI b] [aP 149, aI t, aI b, aX] h := by
  obtain ⟨⟨n, nb, L, s, K, nx, hW⟩, hr⟩ := id hI
  obtain ⟨⟨o1, o2, o3, o4, -⟩, p1, p2, -⟩ := WD_o hW
  have hbk := hW.1.1.2.2.2.2.2.2.2
  unfold Both
  rw [s_Tpack o4 p2 o2 p1 (fun b hb => by have := (hbk b hb).2.2.2; rw [(Rp_b hW.1 (by omega) (by omega)).2.2.2] at this; exact this)]
  by_cases e : (0 ≤ t ∧ t < n) ∧ 0 ≤ b ∧ b < nb
  · obtain ⟨t', rfl⟩ := Int.eq_ofNat_of_zero_le e.1.1
    obtain ⟨b', rfl⟩ := Int.eq_ofNat_of_zero_le e.2.1
    have eg := (Rp_b hW.1 e.2.1 e.2.2).2.2.2
    by_cases z : tornB (h 93 b').toNat = true
    · rw [if_pos e, if_pos z, if_neg (fun q => q.2 z)]
      refine ⟨_, _, rfl, rfl, rfl, ?_⟩
      rw [s_Rpack o4 o3 o2 o1 (fun b hb => (hbk b hb).2.2.2), eg, if_pos e, if_pos z, if_neg (fun q => q.2 z)]
      exact ⟨_, rfl, rfl, rfl, hI⟩
    · rw [if_pos e, if_neg z, if_pos ⟨e, z⟩]
      refine ⟨_, _, rfl, rfl, up_ne (by decide) _ _, ?_⟩
      rw [s_Rpack o4 (by rw [up_ne (by decide)]; exact o3) o2 (by rw [up_ne (by decide)]; exact o1) (fun b hb => by rw [up_ne (by decide)]; exact (hbk b hb).2.2.2), up_ne (by decide), eg, if_pos e, if_neg z, if_pos ⟨e, z⟩]
      refine ⟨_, ?_, rfl, by rw [up_ne (by decide), up_ne (by decide)], INV_w hI (fun a k q1 q2 _ => ?_) ⟨n, nb, L, s, K, nx, WD_wh hW (by omega) (by omega)⟩⟩
      · rw [(Rp_t hW.1 e.1.1 e.1.2).2.2.2.2.2]
      · rw [up_out q1 q2 (by omega), up_out q1 q2 (by omega)]
  · rw [if_neg e, if_neg (fun z => e z.1)]
    refine ⟨_, _, rfl, rfl, rfl, ?_⟩
    rw [s_Rpack o4 o3 o2 o1 (fun b hb => (hbk b hb).2.2.2), if_neg e, if_neg (fun z => e z.1)]
    exact ⟨_, rfl, rfl, rfl, hI⟩
theorem b_bag (hI : INV h) : Both 16 20 [aP 0, aI k] [aP 149, aI k] h := by
  obtain ⟨⟨n, nb, L, s, K, nx, hW⟩, hr⟩ := id hI
  obtain ⟨⟨o1, o2, o3, o4, -⟩, p1, p2, -⟩ := WD_o hW
  unfold Both
  rw [s_Tbag p1 o2]
  by_cases e : (0 ≤ k ∧ k < 4) ∧ nb ≠ 3
  · rw [if_pos e, if_pos e.1, if_neg e.2]
    have f : ∀ a, a < 80 ∨ 136 < a → a ≠ 150 → cAB h nb k a = h a := fun a q1 q2 => by
      unfold cAB
      rw [up_out q1 q2 (by omega), up_out q1 q2 (by omega), up_out q1 q2 (by omega), up_out q1 q2 (by omega), up_out q1 q2 (by omega), up_out q1 q2 (by omega)]
    refine ⟨_, cAB h nb k, rfl, rfl, f _ (by omega) (by omega), ?_⟩
    rw [s_Rbag (nb := nb) (by unfold cAB; simp (disch := first | omega | decide) only [up_k, up_ne, up_s, Int.add_zero, ne_eq, not_false_eq_true]; exact o1) o2, if_pos e, if_pos e.1, if_neg e.2]
    have f2 : ∀ a, a < 80 ∨ 136 < a → a ≠ 150 → rAB (cAB h nb k) nb k a = h a := fun a q1 q2 => by
      unfold rAB
      rw [up_out q1 q2 (by omega), up_out q1 q2 (by omega), up_out q1 q2 (by omega), up_out q1 q2 (by omega), up_out q1 q2 (by omega), up_out q1 q2 (by omega), f a q1 q2]
    exact ⟨_, rfl, rfl, f2 _ (by omega) (by omega), INV_w hI (fun a k q1 q2 _ => by rw [f2 a q1 q2]) ⟨n, nb + 1, L, s, 0, nx, WD_bag hW (by omega) e.1⟩⟩
  · rw [if_neg e]
    refine ⟨_, _, rfl, rfl, rfl, ?_⟩
    rw [s_Rbag o1 o2, if_neg e]
    exact ⟨_, rfl, rfl, rfl, hI⟩
theorem b_thing {v1 v2 v3 v4 v5 : Int} (hI : INV h) : Both 24 26 [aP 0, aI v1, aI v2, aI v3, aI v4, aI v5] [aP 149, aI v1, aI v2, aI v3, aI v4, aI v5, aX] h := by
  obtain ⟨⟨n, nb, L, s, K, nx, hW⟩, hr⟩ := id hI
  obtain ⟨⟨o1, o2, o3, o4, -⟩, p1, p2, -⟩ := WD_o hW
  unfold Both
  rw [s_Tthing p2 o4]
  by_cases e : okT v1 v2 v3 v4 v5 ∧ n ≠ 8
  · rw [if_pos e, if_pos e.1, if_neg e.2]
    have f : ∀ a, a < 80 ∨ 136 < a → a ≠ 150 → cAT h n v1 v2 v3 v4 v5 a = h a := fun a q1 q2 => by
      unfold cAT gAT
      rw [up_out q1 q2 (by omega), up_out q1 q2 (by omega), up_out q1 q2 (by omega), up_out q1 q2 (by omega), up_out q1 q2 (by omega), up_out q1 q2 (by omega), up_out q1 q2 (by omega), up_out q1 q2 (by omega)]
    refine ⟨_, cAT h n v1 v2 v3 v4 v5, rfl, rfl, f _ (by omega) (by omega), ?_⟩
    rw [s_Rthing (n := n) (by unfold cAT gAT; simp (disch := first | omega | decide) only [up_k, up_ne, up_s, Int.add_zero, ne_eq, not_false_eq_true]; exact o3) o4, if_pos e, if_pos e.1, if_neg e.2]
    have f2 : ∀ a, a < 80 ∨ 136 < a → a ≠ 150 → rAT (cAT h n v1 v2 v3 v4 v5) n v1 v2 v3 v4 v5 a = h a := fun a q1 q2 => by
      unfold rAT
      rw [up_out q1 q2 (by omega), up_out q1 q2 (by omega), up_out q1 q2 (by omega), up_out q1 q2 (by omega), up_out q1 q2 (by omega), up_out q1 q2 (by omega), up_out q1 q2 (by omega), up_out q1 q2 (by omega), f a q1 q2]
    exact ⟨_, rfl, rfl, f2 _ (by omega) (by omega), INV_w hI (fun a k q1 q2 _ => by rw [f2 a q1 q2]) ⟨n + 1, nb, L, s, 0, nx, WD_thing hW (by omega) e.1⟩⟩
  · rw [if_neg e]
    refine ⟨_, _, rfl, rfl, rfl, ?_⟩
    rw [s_Rthing o3 o4, if_neg e]
    exact ⟨_, rfl, rfl, rfl, hI⟩
end BQ
