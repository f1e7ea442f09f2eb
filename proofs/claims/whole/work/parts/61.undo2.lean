section UO
variable {h h' h1 h2 : am_F} {Q : am_V → am_S → Prop} {e v1 v2 v3 : Int} {n nb L s K nx b t p : Nat}
theorem EN_c {e : Int} (hA : ∀ a k, 97 ≤ a → a ≤ 136 → h2 a k = h a k) (hC : ∀ k, 86 ≤ k → h2 150 k = h 150 k) (hp : p < 8) (he : 86 ≤ e) (hE : EN h 0 150 p e n nb L) : EN h2 0 150 p e n nb L := by
  obtain ⟨e1, e2, e3, e4, e5, e6⟩ := hE
  refine ⟨?_, ?_, ?_, ?_, fun b hb => ?_, fun t ht => ?_⟩
  · rw [hC _ (by omega), hA _ _ (by omega) (by omega)]; exact e1
  · rw [hC _ (by omega), hA _ _ (by omega) (by omega)]; exact e2
  · rw [hC _ (by omega)]; exact e3
  · rw [hC _ (by omega)]; exact e4
  · rw [hC _ (by omega), hC _ (by omega), hC _ (by omega), hA _ _ (by omega) (by omega), hA _ _ (by omega) (by omega), hA _ _ (by omega) (by omega)]; exact e5 b hb
  · rw [hC _ (by omega), hA _ _ (by omega) (by omega)]; exact e6 t ht
def cUn (h : am_F) (K nx : Nat) : am_F := mTk (up (up h 95 1 (((nx + 7) % 8 : Nat) : Int)) 95 2 ((K - 1 : Nat) : Int)) 90 (97 + 5 * (((nx + 7) % 8 : Nat) : Int))
set_option maxHeartbeats 1000000 in
theorem WD_undo (hW : WD h 0 150 n nb L s K nx) (hK0 : K ≠ 0) : WD (rUn (cUn h K nx) K) 0 150 n nb L (h 150 (86 + 19 * ((K - 1 : Nat) : Int))).toNat (K - 1) ((nx + 7) % 8) := by
  obtain ⟨⟨⟨r0, r1, r2, r3, r4, r5, r6, r7⟩, p1, p2, p3, p4, p5, p6, p7, p8, p9, p10⟩, ⟨x1, x2⟩, g1, g2, g3, g4, g5, g6⟩ := hW
  simp only [Int.add_zero] at p1 p2 p3 p4 p7 p8 p9 p10 g3 g4
  have hp : (nx + 7) % 8 < 8 := Nat.mod_lt _ (by decide)
  have eix : (nx + 8 - K + (K - 1)) % 8 = (nx + 7) % 8 := by omega
  obtain ⟨e1, e2, e3, e4, e5, e6⟩ := g6 (K - 1) (by omega)
  rw [eix] at e1 e2 e5 e6
  simp only [Int.add_zero] at e1 e2 e5 e6
  have hix : ∀ j : Nat, j < K - 1 → ((nx + 7) % 8 + 8 - (K - 1) + j) % 8 = (nx + 8 - K + j) % 8 := fun j hj => by omega
  have hs : ((h 150 (86 + 19 * ((K - 1 : Nat) : Int))).toNat : Int) = h 150 (86 + 19 * ((K - 1 : Nat) : Int)) := Int.toNat_of_nonneg e3.1
  have hsL : (h 150 (86 + 19 * ((K - 1 : Nat) : Int))).toNat ≤ L := by omega
  -- the class's cells
  have kq : ((K - 1 : Nat) : Int) ≤ 7 := by omega
  generalize hq : ((K - 1 : Nat) : Int) = q at *
  have q0 : 0 ≤ q := by omega
  generalize hpe : (nx + 7) % 8 = p at *
  have mk := mTk_o (h := up (up h 95 1 (p : Int)) 95 2 q) (c := 90) (d := 97 + 5 * (p : Int)) (by omega)
  have hcU : cUn h K nx = mTk (up (up h 95 1 (p : Int)) 95 2 q) 90 (97 + 5 * (p : Int)) := by unfold cUn; rw [hpe, hq]
  generalize hg : cUn h K nx = g at *
  rw [← hcU] at mk
  obtain ⟨m1, m2, m3, m4, m5⟩ := mk
  have c1 : ∀ a, a < 90 ∨ 95 < a → g a = h a := fun a ha => by rw [m5 a (by omega), up_ne (by omega), up_ne (by omega)]
  have c95 : g 95 1 = (p : Int) ∧ g 95 2 = q := by rw [m5 95 (by omega), up_k (by decide), up_s, up_s]; exact ⟨rfl, rfl⟩
  have c90 : g 90 4 = h (97 + 5 * (p : Int)) 4 ∧ g 90 5 = h (97 + 5 * (p : Int)) 5 := by rw [m3, m4, up_ne (by omega), up_ne (by omega)]; exact ⟨rfl, rfl⟩
  have cb : ∀ b : Nat, b < 3 → g 91 b = h (98 + 5 * (p : Int)) b ∧ g 92 b = h (99 + 5 * (p : Int)) b ∧ g 93 b = h (100 + 5 * (p : Int)) b := fun b hb => by
    have := m1 b (by omega) (by omega)
    rw [up_ne (by omega), up_ne (by omega), up_ne (by omega), up_ne (by omega), up_ne (by omega), up_ne (by omega)] at this
    rw [show (98 : Int) + 5 * p = 97 + 5 * p + 1 by omega, show (99 : Int) + 5 * p = 97 + 5 * p + 2 by omega, show (100 : Int) + 5 * p = 97 + 5 * p + 3 by omega]
    exact this
  have ct : ∀ t : Nat, t < 8 → g 94 t = h (101 + 5 * (p : Int)) t := fun t ht => by
    have := m2 t (by omega) (by omega)
    rw [up_ne (by omega), up_ne (by omega)] at this
    rw [show (101 : Int) + 5 * p = 97 + 5 * p + 4 by omega]
    exact this
  have g150 := c1 150 (by omega)
  -- the row
  have hrU : rUn g K = uW (uB (up (up (up g 150 5 q) 150 3 (g 150 (86 + 19 * q))) 150 4 (g 150 (86 + 19 * q + 1))) (86 + 19 * q) 3) (86 + 19 * q) 8 := by unfold rUn; rw [hq]
  have d1 : ∀ a, a ≠ 150 → rUn g K a = g a := fun a ha => by rw [hrU, uW_ne ha, uB_ne ha, up_ne ha, up_ne ha, up_ne ha]
  have d2 : ∀ k, k < 3 ∨ 66 ≤ k → rUn g K 150 k = h 150 k := fun k hk => by rw [hrU, uW_hi (by omega) (by omega), uB_hi (by omega) (by omega), up_k (by omega), up_k (by omega), up_k (by omega), g150]
  have d3 : rUn g K 150 3 = h 150 (86 + 19 * q) := by rw [hrU, uW_hi (by omega) (by omega), uB_hi (by omega) (by omega), up_k (by omega), up_s, g150]
  have d4 : rUn g K 150 4 = h 150 (86 + 19 * q + 1) := by rw [hrU, uW_hi (by omega) (by omega), uB_hi (by omega) (by omega), up_s, g150]
  have d5 : rUn g K 150 5 = q := by rw [hrU, uW_hi (by omega) (by omega), uB_hi (by omega) (by omega), up_k (by omega), up_k (by omega), up_s]
  have db0 : ∀ b : Nat, b < 3 → rUn g K 150 (6 + 4 * b) = h 150 (6 + 4 * b) := fun b hb => by rw [hrU, uW_hi (by omega) (by omega), uB_k0, up_k (by omega), up_k (by omega), up_k (by omega), g150]
  have db : ∀ b : Nat, b < 3 → ∀ m : Int, 1 ≤ m → m ≤ 3 → rUn g K 150 (6 + 4 * b + m) = h 150 (86 + 19 * q + 1 + m + 3 * b) := fun b hb m q1 q2 => by rw [hrU, uW_hi (by omega) (by omega), uB_at ⟨q1, q2⟩, if_pos hb, up_k (by omega), up_k (by omega), up_k (by omega), g150]
  have dt : ∀ t : Nat, t < 8 → rUn g K 150 (18 + 6 * t + 5) = h 150 (86 + 19 * q + 11 + t) := fun t ht => by rw [hrU, uW_at, if_pos ht, uB_hi (by omega) (by omega), up_k (by omega), up_k (by omega), up_k (by omega), g150]
  have dm : ∀ t : Nat, t < 8 → ∀ m : Int, 0 ≤ m → m ≤ 4 → rUn g K 150 (18 + 6 * t + m) = h 150 (18 + 6 * t + m) := fun t ht m q1 q2 => by rw [hrU, uW_off ⟨q1, q2⟩, uB_hi (by omega) (by omega), up_k (by omega), up_k (by omega), up_k (by omega), g150]
  have f1 : ∀ b : Nat, b < 3 → rUn g K 150 (6 + 4 * b + 1) = h 150 (86 + 19 * q + 2 + 3 * b) ∧ rUn g K 150 (6 + 4 * b + 2) = h 150 (86 + 19 * q + 3 + 3 * b) ∧ rUn g K 150 (6 + 4 * b + 3) = h 150 (86 + 19 * q + 4 + 3 * b) := fun b hb => by
    refine ⟨?_, ?_, ?_⟩
    · rw [db b hb 1 (by omega) (by omega)]; congr 1; omega
    · rw [db b hb 2 (by omega) (by omega)]; congr 1; omega
    · rw [db b hb 3 (by omega) (by omega)]; congr 1; omega
  refine ⟨⟨⟨?_, r1, ?_, r3, ?_, r5, fun t ht => ?_, fun b hb => ?_⟩, ?_, ?_, ?_, ?_, ?_, hsL, ?_, fun b hb => ?_, fun t ht => ?_, fun i hi => ?_⟩, ⟨?_, fun t ht => ?_⟩, by omega, hp, ?_, ?_, ?_, fun j hj => ?_⟩
  · rw [d2 0 (by omega)]; exact r0
  · rw [d2 1 (by omega)]; exact r2
  · rw [d2 2 (by omega)]; exact r4
  · rw [dm t (by omega) 0 (by omega) (by omega), dm t (by omega) 1 (by omega) (by omega), dm t (by omega) 2 (by omega) (by omega)]; exact r6 t ht
  · obtain ⟨z1, z2, z3⟩ := f1 b (by omega)
    obtain ⟨-, y1, y2, y3⟩ := e5 b hb
    unfold bk
    rw [db0 b (by omega), z1, z2, z3]
    exact ⟨(r7 b hb).1, y1, y2, y3⟩
  · rw [Int.add_zero, d1 _ (by decide), c1 _ (by omega)]; exact p1
  · rw [Int.add_zero, d1 _ (by decide), c1 _ (by omega)]; exact p2
  · rw [Int.add_zero, d1 _ (by decide), c1 _ (by omega)]; exact p3
  · rw [Int.add_zero, d1 _ (by decide), c90.1, ← e1, hs]
  · rw [d3, hs]
  · rw [Int.add_zero, d4, d1 _ (by decide), c90.2, e2]
  · obtain ⟨z1, z2, z3⟩ := f1 b (by omega)
    obtain ⟨⟨y1, y2, y3⟩, -⟩ := e5 b hb
    obtain ⟨w1, w2, w3'⟩ := cb b (by omega)
    simp only [Int.add_zero]
    rw [db0 b (by omega), z1, z2, z3, d1 _ (by decide), d1 _ (by decide), d1 _ (by decide), d1 _ (by decide), c1 82 (by omega), w1, w2, w3', y1, y2, y3]
    exact ⟨(p8 b hb).1, rfl, rfl, rfl⟩
  · have z := p9 t ht
    rw [show 18 + 6 * (t : Int) = 18 + 6 * (t : Int) + 0 by omega] at z
    simp only [Int.add_zero]
    rw [show 18 + 6 * (t : Int) = 18 + 6 * (t : Int) + 0 by omega]
    rw [dm t (by omega) 0 (by omega) (by omega)]
    simp only [Int.add_zero] at z ⊢
    rw [dm t (by omega) 1 (by omega) (by omega), dm t (by omega) 2 (by omega) (by omega), dm t (by omega) 3 (by omega) (by omega), dm t (by omega) 4 (by omega) (by omega), dt t (by omega), d1 _ (by decide), d1 _ (by decide), d1 _ (by decide), d1 _ (by decide), d1 _ (by decide), d1 _ (by decide), c1 83 (by omega), c1 84 (by omega), c1 85 (by omega), c1 86 (by omega), c1 87 (by omega), ct t (by omega), (e6 t ht).1]
    exact ⟨z.1, z.2.1, z.2.2.1, z.2.2.2.1, z.2.2.2.2.1, rfl⟩
  · rw [Int.add_zero, d2 _ (by omega), d1 _ (by decide), c1 _ (by omega)]; exact p10 i hi
  · rw [d4]; exact e4
  · rw [dm t (by omega) 3 (by omega) (by omega), dt t (by omega)]; exact ⟨(x2 t ht).1, (e6 t ht).2⟩
  · rw [Int.add_zero, d1 _ (by decide), c95.1]
  · rw [Int.add_zero, d1 _ (by decide), c95.2, hq]
  · rw [d5, hq]
  · rw [hix j hj]
    refine EN_c (h := h) (fun a k q1 q2 => ?_) (fun k q1 => ?_) (Nat.mod_lt _ (by decide)) (by omega) (g6 j (by omega))
    · rw [d1 a (by omega), c1 a (by omega)]
    · exact d2 k (by omega)
theorem b_undo (hI : INV h) : Both 128 129 [aP 0] [aP 149, aX, aX] h := by
  obtain ⟨⟨n, nb, L, s, K, nx, hW⟩, hr⟩ := id hI
  obtain ⟨⟨o1, o2, o3, o4, o5, o6, o7, o8, o9⟩, p1, p2, p3, p4, p5, p6, p7, p8, p9, p10⟩ := WD_o hW
  unfold Both
  rw [s_Tundo p7 p8 p6 p9]
  by_cases z : K = 0
  · rw [if_pos z, if_pos z]
    refine ⟨_, _, rfl, rfl, rfl, ?_⟩
    rw [s_Rundo o9 p9, if_pos z, if_pos z]
    exact ⟨_, rfl, rfl, rfl, hI⟩
  · rw [if_neg z, if_neg z]
    have hp : (nx + 7) % 8 < 8 := Nat.mod_lt _ (by decide)
    have f1 : ∀ a, a < 80 ∨ 136 < a → cUn h K nx a = h a := fun a ha => by
      unfold cUn
      rw [(mTk_o (by omega)).2.2.2.2 a (by omega), up_ne (by omega), up_ne (by omega)]
    have f2 : ∀ a, a < 80 ∨ 136 < a → a ≠ 150 → rUn (cUn h K nx) K a = h a := fun a ha hb => by
      unfold rUn
      rw [uW_ne hb, uB_ne hb, up_ne hb, up_ne hb, up_ne hb, f1 a ha]
    refine ⟨_, cUn h K nx, rfl, rfl, f1 _ (by omega), ?_⟩
    rw [s_Rundo (K := K) (by rw [f1 150 (by omega)]; exact o9) p9, if_neg z, if_neg z]
    exact ⟨_, rfl, rfl, f2 _ (by omega) (by omega), INV_w hI (fun a k q1 q2 _ => by rw [f2 a q1 q2]) ⟨n, nb, L, _, K - 1, _, WD_undo hW z⟩⟩
end UO
