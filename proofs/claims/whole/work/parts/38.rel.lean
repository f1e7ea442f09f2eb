theorem sumF_z {g : Nat → Int} {n : Nat} : ∀ {m : Nat}, n ≤ m → (∀ t, n ≤ t → g t = 0) → sumF g m = sumF g n := by
  intro m
  induction m with
  | zero => intro h1 _; have : n = 0 := by omega
            rw [this]
  | succ m ih =>
    intro h1 hz
    by_cases e : n = m + 1
    · rw [e]
    · rw [sumF, ih (by omega) hz, hz m (by omega)]; omega
/-- a world of the class (d = 0: the world; d = -79: the kept one) and a row c of the reference say the same of bags, things, way, step and draw -/
def Rp (h : am_F) (d c : Int) (n nb L s : Nat) : Prop := RO h c n nb L ∧ h (81 + d) 6 = (nb : Int) ∧ h (81 + d) 7 = (n : Int) ∧ h (88 + d) 1 = (L : Int) ∧ h (90 + d) 4 = (s : Int) ∧ h c 3 = (s : Int) ∧ s ≤ L ∧ h c 4 = h (90 + d) 5 ∧ (∀ b : Nat, b < nb → h c (6 + 4 * b) = h (82 + d) b ∧ h c (6 + 4 * b + 1) = h (91 + d) b ∧ h c (6 + 4 * b + 2) = h (92 + d) b ∧ h c (6 + 4 * b + 3) = h (93 + d) b) ∧ (∀ t : Nat, t < n → h c (18 + 6 * t + 0) = h (83 + d) t ∧ h c (18 + 6 * t + 1) = h (84 + d) t ∧ h c (18 + 6 * t + 2) = h (85 + d) t ∧ h c (18 + 6 * t + 3) = h (86 + d) t ∧ h c (18 + 6 * t + 4) = h (87 + d) t ∧ h c (18 + 6 * t + 5) = h (94 + d) t) ∧ ∀ i : Nat, i < L → h c (66 + i) = h (89 + d) i
section RE
variable {h h' : am_F} {Q : am_V → am_S → Prop} {c bj : Int} {n nb L s : Nat}
theorem Rp_CO (hP : Rp h 0 c n nb L s) : CO h n nb L s := by
  obtain ⟨⟨r0, hnb3, r1, h8, r2, hL, ht, hbk⟩, p1, p2, p3, p4, p5, p6, p7, pb, pt, pw⟩ := hP
  refine ⟨p1, hnb3, p2, h8, p3, hL, p4, p6, fun t q => ?_, fun b q => ?_⟩
  · have e := pt t q
    have := ht t q
    simp only [Int.add_zero] at e this
    rw [← e.1, ← e.2.1, ← e.2.2.1]
    exact this
  · have e := pb b q
    have := hbk b q
    unfold bk at this
    simp only [Int.add_zero] at e
    rw [← e.1, ← e.2.1, ← e.2.2.1, ← e.2.2.2]
    exact this
theorem cS_mS (hP : Rp h 0 c n nb L s) (b : Int) : cS h b n = mS h c b n := by
  obtain ⟨_, p1, p2, p3, p4, p5, p6, p7, pb, pt, pw⟩ := hP
  refine setF_c (fun t q => ?_)
  have e := (pt t q).2.2.2.2.2
  simp only [Int.add_zero] at e
  rw [e]
theorem sS_rW (hP : Rp h 0 c n nb L s) (b wh a : Int) (he : ∀ t : Nat, t < n → h c (18 + 6 * t + wh) = h a t) : sumS (h a) (cS h b n) 8 = sumF (rW h c b wh) n := by
  obtain ⟨⟨r0, hnb3, r1, h8, r2, hL, ht, hbk⟩, p1, p2, p3, p4, p5, p6, p7, pb, pt, pw⟩ := hP
  unfold sumS
  rw [sumF_z h8]
  · refine sumF_c (fun t q => ?_)
    have e := (pt t q).2.2.2.2.2
    simp only [Int.add_zero] at e
    unfold cS rW
    rw [setF_bit, he t q, e]
    by_cases z : h 94 t = b
    · simp [z, q]
    · simp [z]
  · intro t q
    unfold cS
    rw [setF_bit]
    simp [show ¬ t < n by omega]
theorem cR_bR (hP : Rp h 0 c n nb L s) {b : Nat} (hb : b < nb) : cR h n L s bj (-4) b = bR h c n bj (L - s) s b := by
  unfold cR bR
  rw [cS_mS hP]
  split
  · rfl
  · rw [fgv_fg0, ← cS_mS hP, sS_rW hP b 0 83, sS_rW hP b 1 84, sS_rW hP b 2 85]
    · obtain ⟨⟨r0, hnb3, r1, h8, r2, hL, ht, hbk⟩, p1, p2, p3, p4, p5, p6, p7, pb, pt, pw⟩ := hP
      have e := pb b hb
      simp only [Int.add_zero] at e p3
      rw [if_neg (by omega), e.1, e.2.1, e.2.2.1, e.2.2.2]
      refine fg0_c (L - s) s _ _ (fun i hi => ?_)
      have ew := pw i (by omega)
      simp only [Int.add_zero] at ew
      unfold sortI
      rw [if_pos ⟨by omega, by omega, by omega⟩, ew]
    · intro t q; have := (hP.2.2.2.2.2.2.2.2.2.1 t q).2.2.1; simpa using this
    · intro t q; have := (hP.2.2.2.2.2.2.2.2.2.1 t q).2.1; simpa using this
    · intro t q; have := (hP.2.2.2.2.2.2.2.2.2.1 t q).1; simpa using this
/-- holds: the two sides answer alike -/
theorem q_holds (hP : Rp h 0 150 n nb L s) : minB (cR h n L s bj (-4)) nb = minB (bR h 150 n bj (L - s) s) nb := minB_eq (fun _ hb => cR_bR hP hb)
end RE
