section ST
variable {g h h' h1 h2 : am_F} {Q : am_V → am_S → Prop} {so j x : Int} {n nb L s K nx b t f p : Nat}
theorem nE_o (hK7 : K ≤ 7) : (∀ k : Int, k ≠ 5 → k < 86 + 19 * (K : Int) ∨ 86 + 19 * (K : Int) + 19 ≤ k → nE h K 150 k = h 150 k) ∧ nE h K 150 5 = ((K + 1 : Nat) : Int) ∧ nE h K 150 (86 + 19 * (K : Int)) = h 150 3 ∧ nE h K 150 (86 + 19 * (K : Int) + 1) = h 150 4 ∧ (∀ b : Nat, b < 3 → nE h K 150 (86 + 19 * (K : Int) + 2 + 3 * b) = h 150 (6 + 4 * b + 1) ∧ nE h K 150 (86 + 19 * (K : Int) + 3 + 3 * b) = h 150 (6 + 4 * b + 2) ∧ nE h K 150 (86 + 19 * (K : Int) + 4 + 3 * b) = h 150 (6 + 4 * b + 3)) ∧ (∀ t : Nat, t < 8 → nE h K 150 (86 + 19 * (K : Int) + 11 + t) = h 150 (18 + 6 * t + 5)) ∧ ∀ a, a ≠ 150 → nE h K a = h a := by
  unfold nE
  refine ⟨fun k q1 q2 => ?_, up_s, ?_, ?_, fun b hb => ?_, fun t ht => ?_, fun a ha => ?_⟩
  · rw [up_k q1, nW_out (by omega), nB_out (by omega), up_k (by omega), up_k (by omega)]
  · rw [up_k (by omega), nW_out (by omega), nB_out (by omega), up_k (by omega), up_s]
  · rw [up_k (by omega), nW_out (by omega), nB_out (by omega), up_s]
  · rw [up_k (by omega), up_k (by omega), up_k (by omega), nW_out (by omega), nW_out (by omega), nW_out (by omega)]
    generalize hg : up (up h 150 (86 + 19 * (K : Int)) (h 150 3)) 150 (86 + 19 * (K : Int) + 1) (h 150 4) = g
    have gl : ∀ k : Int, k < 86 → g 150 k = h 150 k := fun k q => by rw [← hg, up_k (by omega), up_k (by omega)]
    have a0 := nB_at (h := g) (e := 86 + 19 * (K : Int)) (b := 3) (c := b) (m := 0) (by omega) hb
    have a1 := nB_at (h := g) (e := 86 + 19 * (K : Int)) (b := 3) (c := b) (m := 1) (by omega) hb
    have a2 := nB_at (h := g) (e := 86 + 19 * (K : Int)) (b := 3) (c := b) (m := 2) (by omega) hb
    rw [show 86 + 19 * (K : Int) + 2 + 0 + 3 * (b : Int) = 86 + 19 * (K : Int) + 2 + 3 * b by omega, show 6 + 4 * (b : Int) + 1 + 0 = 6 + 4 * b + 1 by omega, gl _ (by omega)] at a0
    rw [show 86 + 19 * (K : Int) + 2 + 1 + 3 * (b : Int) = 86 + 19 * (K : Int) + 3 + 3 * b by omega, show 6 + 4 * (b : Int) + 1 + 1 = 6 + 4 * b + 2 by omega, gl _ (by omega)] at a1
    rw [show 86 + 19 * (K : Int) + 2 + 2 + 3 * (b : Int) = 86 + 19 * (K : Int) + 4 + 3 * b by omega, show 6 + 4 * (b : Int) + 1 + 2 = 6 + 4 * b + 3 by omega, gl _ (by omega)] at a2
    exact ⟨a0, a1, a2⟩
  · rw [up_k (by omega), nW_at ht, nB_out (by omega), up_k (by omega), up_k (by omega)]
  · rw [up_ne ha, nW_ne ha, nB_ne ha, up_ne ha, up_ne ha]
/-- one entry is lost, if eight are known -/
def dl (K : Nat) : Nat := if K = 8 then 1 else 0
theorem rNo_o (hK8 : K ≤ 8) : (∀ k : Int, k ≠ 5 → k < 86 → rNo h K 150 k = h 150 k) ∧ rNo h K 150 5 = ((K + 1 - dl K : Nat) : Int) ∧ (rNo h K 150 (86 + 19 * ((K - dl K : Nat) : Int)) = h 150 3 ∧ rNo h K 150 (86 + 19 * ((K - dl K : Nat) : Int) + 1) = h 150 4 ∧ (∀ b : Nat, b < 3 → rNo h K 150 (86 + 19 * ((K - dl K : Nat) : Int) + 2 + 3 * b) = h 150 (6 + 4 * b + 1) ∧ rNo h K 150 (86 + 19 * ((K - dl K : Nat) : Int) + 3 + 3 * b) = h 150 (6 + 4 * b + 2) ∧ rNo h K 150 (86 + 19 * ((K - dl K : Nat) : Int) + 4 + 3 * b) = h 150 (6 + 4 * b + 3)) ∧ (∀ t : Nat, t < 8 → rNo h K 150 (86 + 19 * ((K - dl K : Nat) : Int) + 11 + t) = h 150 (18 + 6 * t + 5))) ∧ (∀ j : Nat, j < K - dl K → ∀ i : Int, 0 ≤ i → i < 19 → rNo h K 150 (86 + 19 * (j : Int) + i) = h 150 (86 + 19 * ((j + dl K : Nat) : Int) + i)) ∧ ∀ a, a ≠ 150 → rNo h K a = h a := by
  unfold rNo dl
  by_cases z : K = 8
  · subst z
    simp only [if_true]
    obtain ⟨n1, n2, n3, n4, n5, n6, n7⟩ := nE_o (h := up (nSh h 219) 150 5 7) (K := 7) (by decide)
    have lo : ∀ k : Int, k ≠ 5 → k < 86 → up (nSh h 219) 150 5 7 150 k = h 150 k := fun k q1 q2 => by rw [up_k q1, nSh_k, if_neg (by omega)]
    refine ⟨fun k q1 q2 => by rw [n1 k q1 (by omega), lo k q1 q2], n2, ⟨?_, ?_, fun b hb => ?_, fun t ht => ?_⟩, fun j hj i i0 i1 => ?_, fun a ha => by rw [n7 a ha, up_ne ha, nSh_ne ha]⟩
    · rw [← lo 3 (by decide) (by decide)]; exact n3
    · rw [← lo 4 (by decide) (by decide)]; exact n4
    · have := n5 b hb
      rw [lo _ (by omega) (by omega), lo _ (by omega) (by omega), lo _ (by omega) (by omega)] at this
      exact this
    · have := n6 t ht
      rw [lo _ (by omega) (by omega)] at this
      exact this
    · rw [n1 _ (by omega) (by omega), up_k (by omega), nSh_k, if_pos (by omega)]
      congr 1; omega
  · simp only [if_neg z]
    obtain ⟨n1, n2, n3, n4, n5, n6, n7⟩ := nE_o (h := h) (K := K) (by omega)
    exact ⟨fun k q1 q2 => n1 k q1 (by omega), n2, ⟨n3, n4, n5, n6⟩, fun j hj i i0 i1 => by rw [n1 _ (by omega) (by omega)]; rfl, n7⟩
theorem EN_m {e e' : Int} (hC : ∀ i : Int, 0 ≤ i → i < 19 → h2 150 (e' + i) = h 150 (e + i)) (hA : ∀ a k : Int, 97 + 5 * (p : Int) ≤ a → a ≤ 101 + 5 * (p : Int) → h2 a k = h a k) (h3 : nb ≤ 3) (h8 : n ≤ 8) (hE : EN h 0 150 p e n nb L) : EN h2 0 150 p e' n nb L := by
  obtain ⟨e1, e2, e3, e4, e5, e6⟩ := hE
  have c0 : h2 150 e' = h 150 e := by have := hC 0 (by decide) (by decide); rw [Int.add_zero, Int.add_zero] at this; exact this
  refine ⟨?_, ?_, ?_, ?_, fun b hb => ?_, fun t ht => ?_⟩
  · rw [c0, hA _ _ (by omega) (by omega)]; exact e1
  · rw [hC 1 (by decide) (by decide), hA _ _ (by omega) (by omega)]; exact e2
  · rw [c0]; exact e3
  · rw [hC 1 (by decide) (by decide)]; exact e4
  · have := e5 b hb
    rw [Int.add_assoc e', Int.add_assoc e', Int.add_assoc e', hC _ (by omega) (by omega), hC _ (by omega) (by omega), hC _ (by omega) (by omega), hA _ _ (by omega) (by omega), hA _ _ (by omega) (by omega), hA _ _ (by omega) (by omega), ← Int.add_assoc, ← Int.add_assoc, ← Int.add_assoc]
    exact this
  · have := e6 t ht
    rw [Int.add_assoc e', hC _ (by omega) (by omega), hA _ _ (by omega) (by omega), ← Int.add_assoc]
    exact this
/-- rows alike in bags and things have the same steps -/
theorem mC_p {c : Int} (h8 : n ≤ 8) (e : ∀ k : Int, 6 ≤ k → k < 66 → h1 c k = h2 c k) (hb : b < 3) : mC h1 c b n so j = mC h2 c b n so j := by
  have e2 : mS h1 c b n = mS h2 c b n := setF_c (fun t ht => by rw [e _ (by omega) (by omega)])
  have e3 : ∀ wh : Int, 0 ≤ wh → wh ≤ 4 → sumF (rW h1 c b wh) n = sumF (rW h2 c b wh) n := fun wh q1 q2 => sumF_c (fun t ht => by unfold rW; rw [e _ (by omega) (by omega), e _ (by omega) (by omega)])
  unfold mC
  rw [e2, e3 0 (by omega) (by omega), e3 1 (by omega) (by omega), e3 2 (by omega) (by omega), e _ (by omega) (by omega), e _ (by omega) (by omega), e _ (by omega) (by omega), e _ (by omega) (by omega)]
theorem cc_mC (hP : Rp h 0 150 n nb L s) (hb : b < nb) : cc h n so j b = mC h 150 b n so j := by
  obtain ⟨z1, z2, z3, z4⟩ := Rp_b hP (b := (b : Int)) (by omega) (by omega)
  unfold cc mC
  rw [cy_core, sS_rW hP b 0 83 (fun t q => (Rp_t hP (by omega) (by omega)).1), sS_rW hP b 1 84 (fun t q => (Rp_t hP (by omega) (by omega)).2.1), sS_rW hP b 2 85 (fun t q => (Rp_t hP (by omega) (by omega)).2.2.1), z1, z2, z3, z4, cS_mS hP]
theorem flC_fL (hP : Rp h 0 150 n nb L s) (e : ∀ k : Int, 6 ≤ k → k < 66 → g 150 k = h 150 k) : ∀ B : Nat, B ≤ nb → flC h n so j B = fL g 150 n so j B := by
  intro B
  have h3 := hP.1.2.1
  induction B with
  | zero => intro _; rfl
  | succ B ih =>
    intro hB
    rw [flC, fL, ih (by omega), cc_mC hP (by omega), mC_p hP.1.2.2.2.1 e (by omega)]
theorem cc_c (e : ∀ a, 82 ≤ a → a ≤ 94 → a ≠ 90 → g a = h a) : cc g n so j b = cc h n so j b := by
  unfold cc cS
  rw [cy_core, cy_core, e 82 (by decide) (by decide) (by decide), e 83 (by decide) (by decide) (by decide), e 84 (by decide) (by decide) (by decide), e 85 (by decide) (by decide) (by decide), e 91 (by decide) (by decide) (by decide), e 92 (by decide) (by decide) (by decide), e 93 (by decide) (by decide) (by decide), e 94 (by decide) (by decide) (by decide)]
theorem flC_c (e : ∀ a, 82 ≤ a → a ≤ 94 → a ≠ 90 → g a = h a) : ∀ B : Nat, flC g n so j B = flC h n so j B := by
  intro B
  induction B with
  | zero => rfl
  | succ B ih => rw [flC, flC, ih, cc_c e]
end ST
