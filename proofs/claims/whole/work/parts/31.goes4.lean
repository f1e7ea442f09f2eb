section GR
variable {h h' : am_F} {c so j st : Int} {n nb B : Nat}
set_option maxHeartbeats 2000000 in
theorem GI_step (hc : c ≠ 149) (h8 : n ≤ 8) (hs : 0 ≤ st) (hB : B ≤ 2) (hbk : bk h c B) (hG : GI h h' c n so j st B) : GI h (goS h' c B n so j st) c n so j st (B + 1) := by
  obtain ⟨rd, eS, -⟩ := GI_read h8 hs hB hG
  obtain ⟨eC, eP⟩ := GI_mC h8 hs hB hG
  have s1 := GI_sum h8 hs hB hG (wh := 1) (by decide) (by decide)
  have s2 := GI_sum h8 hs hB hG (wh := 2) (by decide) (by decide)
  obtain ⟨g1, g2, g3, g4, g5, g6, g7⟩ := hG
  have r0 := rd (6 + 4 * B) (by omega) (by omega)
  have r1 := rd (6 + 4 * B + 1) (by omega) (by omega)
  have r2 := rd (6 + 4 * B + 2) (by omega) (by omega)
  have r3 := rd (6 + 4 * B + 3) (by omega) (by omega)
  have r14 : h' 149 14 = h 149 14 := g5 14 (by decide) (by decide)
  have hgn : ((h c (6 + 4 * B + 3)).toNat : Int) = h c (6 + 4 * B + 3) := Int.toNat_of_nonneg hbk.2.2.2.1
  have hbs : ∀ b : Nat, b < B + 1 → b < B ∨ b = B := fun b hb => by omega
  unfold goS
  rw [eS, eP, eC, r14]
  by_cases h0 : mS h c B n = 0
  · rw [if_pos h0]
    have m1 : mC h c B n so j = (h c (6 + 4 * B + 1), h c (6 + 4 * B + 2), (h c (6 + 4 * B + 3)).toNat, mS h c B n, 0) := by unfold mC core; rw [if_pos h0]
    have m2 : gvB h c B n so j = false := by unfold gvB; simp [h0]
    refine ⟨fun b hb => ?_, fun k => ?_, fun t ht => ?_, g4, g5, ?_, ?_⟩
    · rcases hbs b hb with q | q
      · exact g1 b q
      · subst q
        rw [m1]
        exact ⟨r0, r1, r2, by rw [r3]; exact hgn.symm⟩
    · rcases g2 k with q | q | q
      · exact Or.inl (by omega)
      · exact Or.inr (Or.inl q)
      · exact Or.inr (Or.inr q)
    · rw [g3 t ht, fL, m1]; simp
    · rw [g6, anyG, m2]; simp
    · rw [g7]
      by_cases hw : h 149 14 = (B : Int)
      · rw [if_neg (by omega), if_neg (fun z => by rw [hw, m2] at z; simp at z)]
      · have e : (0 ≤ h 149 14 ∧ h 149 14 < (B : Int) ∧ gvB h c (h 149 14) n so j = true) ↔ (0 ≤ h 149 14 ∧ h 149 14 < ((B + 1 : Nat) : Int) ∧ gvB h c (h 149 14) n so j = true) := by
          constructor
          · rintro ⟨a, b, c1⟩; exact ⟨a, by omega, c1⟩
          · rintro ⟨a, b, c1⟩; exact ⟨a, by omega, c1⟩
        simp only [e]
  · rw [if_neg h0]
    have n0 : gs1 h' c B n so c (6 + 4 * B) = h c (6 + 4 * B) := by unfold gs1; rw [up_k (by omega), up_k (by omega), r0]
    have n1 : gs1 h' c B n so c (6 + 4 * B + 1) = ageW (h c (6 + 4 * B + 1)) (sumF (rW h c B 1) n) := by unfold gs1; rw [up_k (by omega), up_s, r1, s1]
    have n2 : gs1 h' c B n so c (6 + 4 * B + 2) = ageR (h c (6 + 4 * B + 2)) (sumF (rW h c B 2) n) so := by unfold gs1; rw [up_s, r2, s2]
    have nk : ∀ k : Int, k ≠ 6 + 4 * B + 1 → k ≠ 6 + 4 * B + 2 → gs1 h' c B n so c k = h' c k := fun k q1 q2 => by unfold gs1; rw [up_k q2, up_k q1]
    have nc : ∀ c' : Int, c' ≠ c → gs1 h' c B n so c' = h' c' := fun c' q => by unfold gs1; rw [up_ne q, up_ne q]
    have h49 := nc 149 (Ne.symm hc)
    by_cases hp : mP h c B n so j < 0
    · rw [if_pos hp]
      have hp2 := hp
      unfold mP at hp2
      have m1 : mC h c B n so j = (ageW (h c (6 + 4 * B + 1)) (sumF (rW h c B 1) n), ageR (h c (6 + 4 * B + 2)) (sumF (rW h c B 2) n) so, (h c (6 + 4 * B + 3)).toNat, mS h c B n, 0) := by unfold mC core; rw [if_neg h0, if_pos hp2]
      have m2 : gvB h c B n so j = false := by
        unfold gvB
        have : ¬ 0 ≤ mP h c B n so j := by omega
        simp [this]
      refine ⟨fun b hb => ?_, fun k => ?_, fun t ht => ?_, fun c' q1 q2 => by rw [nc c' q1]; exact g4 c' q1 q2, fun k q1 q2 => by rw [h49]; exact g5 k q1 q2, ?_, ?_⟩
      · rcases hbs b hb with q | q
        · rw [nk _ (by omega) (by omega), nk _ (by omega) (by omega), nk _ (by omega) (by omega), nk _ (by omega) (by omega)]
          exact g1 b q
        · subst q
          rw [m1]
          exact ⟨n0, n1, n2, by rw [nk _ (by omega) (by omega), r3]; exact hgn.symm⟩
      · by_cases hk : k < 6 + 4 * ((B + 1 : Nat) : Int) ∧ 6 ≤ k
        · exact Or.inl hk
        · rw [nk k (by omega) (by omega)]
          rcases g2 k with q | q | q
          · exact Or.inl (by omega)
          · exact Or.inr (Or.inl q)
          · exact Or.inr (Or.inr q)
      · rw [nk _ (by omega) (by omega), g3 t ht, fL, m1]; simp
      · rw [h49, g6, anyG, m2]; simp
      · rw [h49, g7]
        by_cases hw : h 149 14 = (B : Int)
        · rw [if_neg (by omega), if_neg (fun z => by rw [hw, m2] at z; simp at z)]
        · have e : (0 ≤ h 149 14 ∧ h 149 14 < (B : Int) ∧ gvB h c (h 149 14) n so j = true) ↔ (0 ≤ h 149 14 ∧ h 149 14 < ((B + 1 : Nat) : Int) ∧ gvB h c (h 149 14) n so j = true) := by
            constructor
            · rintro ⟨a, b, c1⟩; exact ⟨a, by omega, c1⟩
            · rintro ⟨a, b, c1⟩; exact ⟨a, by omega, c1⟩
          simp only [e]
    · rw [if_neg hp]
      have hp2 := hp
      unfold mP at hp2
      have m2 : gvB h c B n so j = true := by
        unfold gvB
        have : 0 ≤ mP h c B n so j := by omega
        simp [h0, this]
      have m3 : (mC h c B n so j).1 = ageW (h c (6 + 4 * B + 1)) (sumF (rW h c B 1) n) := by unfold mC core; rw [if_neg h0, if_neg hp2]
      have m4 : (mC h c B n so j).2.1 = ageR (h c (6 + 4 * B + 2)) (sumF (rW h c B 2) n) so := by unfold mC core; rw [if_neg h0, if_neg hp2]
      generalize hf : (mC h c B n so j).2.2.2.2 = f at *
      generalize hgg : (mC h c B n so j).2.2.1 = gg at *
      generalize hx : (if (B : Int) = h 149 14 then (f : Int) else h' 149 15) = x
      generalize hH : up (up (up (gs1 h' c B n so) 149 13 1) c (6 + 4 * B + 3) (gg : Int)) 149 15 x = H
      have k1 : ∀ k : Int, k ≠ 6 + 4 * B + 3 → H c k = gs1 h' c B n so c k := fun k q => by rw [← hH, up_ne hc, up_k q, up_ne hc]
      have k2 : H c (6 + 4 * B + 3) = (gg : Int) := by rw [← hH, up_ne hc, up_s]
      have k3 : ∀ c' : Int, c' ≠ c → c' ≠ 149 → H c' = h' c' := fun c' q1 q2 => by rw [← hH, up_ne q2, up_ne q1, up_ne q2, nc c' q1]
      have k4 : ∀ k : Int, k ≠ 13 → k ≠ 15 → H 149 k = h' 149 k := fun k q1 q2 => by rw [← hH, up_k q2, up_ne (Ne.symm hc), up_k q1, h49]
      have k5 : H 149 13 = 1 := by rw [← hH, up_k (by decide), up_ne (Ne.symm hc), up_s]
      have k6 : H 149 15 = x := by rw [← hH, up_s]
      have w49 : ∀ t, whF H c f (10 + st) t 149 = H 149 := fun t => whF_ne (Ne.symm hc)
      refine ⟨fun b hb => ?_, fun k => ?_, fun t ht => ?_, fun c' q1 q2 => by rw [whF_ne q1, k3 c' q1 q2]; exact g4 c' q1 q2, fun k q1 q2 => by rw [w49, k4 k q1 q2]; exact g5 k q1 q2, ?_, ?_⟩
      · rw [whF_lo (by omega), whF_lo (by omega), whF_lo (by omega), whF_lo (by omega)]
        rcases hbs b hb with q | q
        · rw [k1 _ (by omega), k1 _ (by omega), k1 _ (by omega), k1 _ (by omega), nk _ (by omega) (by omega), nk _ (by omega) (by omega), nk _ (by omega) (by omega), nk _ (by omega) (by omega)]
          exact g1 b q
        · subst q
          rw [m3, m4, hgg]
          exact ⟨by rw [k1 _ (by omega), n0], by rw [k1 _ (by omega), n1], by rw [k1 _ (by omega), n2], k2⟩
      · by_cases hk : k < 6 + 4 * ((B + 1 : Nat) : Int) ∧ 6 ≤ k
        · exact Or.inl hk
        · by_cases hk2 : ∃ t : Nat, t < n ∧ k = 18 + 6 * t + 5
          · exact Or.inr (Or.inl hk2)
          · right; right
            have e : whF H c f (10 + st) n c k = H c k := by
              unfold whF
              rw [if_neg]
              rintro ⟨-, z2, z3, z4, -⟩
              exact hk2 ⟨((k - 23) / 6).toNat, by omega, by omega⟩
            rw [e, k1 k (by omega), nk k (by omega) (by omega)]
            rcases g2 k with q | q | q
            · omega
            · exact absurd q hk2
            · exact q
      · rw [whF_at, k1 _ (by omega), nk _ (by omega) (by omega), g3 t ht, fL, Nat.testBit_or, hf]
        by_cases q1 : f.testBit t = true
        · simp [q1, ht]
        · simp [q1]
      · rw [w49, k5, anyG, m2]; simp
      · rw [w49, k6, ← hx]
        by_cases hw : (B : Int) = h 149 14
        · rw [if_pos hw, ← hw, if_pos ⟨by omega, by omega, m2⟩, hf]
        · rw [if_neg hw, g7]
          have e : (0 ≤ h 149 14 ∧ h 149 14 < (B : Int) ∧ gvB h c (h 149 14) n so j = true) ↔ (0 ≤ h 149 14 ∧ h 149 14 < ((B + 1 : Nat) : Int) ∧ gvB h c (h 149 14) n so j = true) := by
            constructor
            · rintro ⟨a, b, c1⟩; exact ⟨a, by omega, c1⟩
            · rintro ⟨a, b, c1⟩; exact ⟨a, by omega, c1⟩
          simp only [e]
end GR
