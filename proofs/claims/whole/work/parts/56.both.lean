section BO
variable {h h' h1 h2 : am_F} {Q : am_V → am_S → Prop} {x y t b i pl j c d k : Int} {n nb L s K nx : Nat}
theorem FR_150 (hF : FR h h') : h' 150 = h 150 := funext fun k => hF 150 k (by unfold scr; omega)
theorem WD_FR (hF : FR h h') (hW : WD h 0 150 n nb L s K nx) : WD h' 0 150 n nb L s K nx := WD_mv (fun a k q => hF _ _ (by unfold scr; unfold lv at q; omega)) (fun k _ _ => by rw [FR_150 hF]) hW
theorem INV_w (hI : INV h) (hf : ∀ a k, (a < 80 ∨ 136 < a) → a ≠ 150 → ¬ scr a k → h2 a k = h a k) (hW : WX h2 0 150) : INV h2 := by
  obtain ⟨-, i2, i3, i4⟩ := hI
  refine ⟨hW, KP_c (fun a k q => hf _ _ ?_ ?_ ?_) (fun k _ _ => hf _ _ ?_ ?_ ?_) (hf _ _ ?_ ?_ ?_) (hf _ _ ?_ ?_ ?_) i2, TP_c (hf _ _ ?_ ?_ ?_) (hf _ _ ?_ ?_ ?_) (fun i _ => hf _ _ ?_ ?_ ?_) (fun i _ => hf _ _ ?_ ?_ ?_) i3, SH_c (fun a k _ _ _ => hf _ _ ?_ ?_ ?_) (fun a k _ _ _ => hf _ _ ?_ ?_ ?_) i4⟩
  all_goals (try unfold scr)
  all_goals (try unfold lv at q)
  all_goals omega
theorem Rp_b (hP : Rp h 0 150 n nb L s) (h0 : 0 ≤ b) (hb : b < nb) : h 150 (6 + 4 * b) = h 82 b ∧ h 150 (6 + 4 * b + 1) = h 91 b ∧ h 150 (6 + 4 * b + 2) = h 92 b ∧ h 150 (6 + 4 * b + 3) = h 93 b := by
  obtain ⟨b', rfl⟩ := Int.eq_ofNat_of_zero_le h0
  have := hP.2.2.2.2.2.2.2.2.1 b' (by omega)
  simpa only [Int.add_zero] using this
theorem Rp_t (hP : Rp h 0 150 n nb L s) (h0 : 0 ≤ t) (hb : t < n) : h 150 (18 + 6 * t + 0) = h 83 t ∧ h 150 (18 + 6 * t + 1) = h 84 t ∧ h 150 (18 + 6 * t + 2) = h 85 t ∧ h 150 (18 + 6 * t + 3) = h 86 t ∧ h 150 (18 + 6 * t + 4) = h 87 t ∧ h 150 (18 + 6 * t + 5) = h 94 t := by
  obtain ⟨b', rfl⟩ := Int.eq_ofNat_of_zero_le h0
  have := hP.2.2.2.2.2.2.2.2.2.1 b' (by omega)
  simpa only [Int.add_zero] using this
theorem Rp_i (hP : Rp h 0 150 n nb L s) (h0 : 0 ≤ i) (hb : i < L) : h 150 (66 + i) = h 89 i := by
  obtain ⟨b', rfl⟩ := Int.eq_ofNat_of_zero_le h0
  have := hP.2.2.2.2.2.2.2.2.2.2 b' (by omega)
  simpa only [Int.add_zero] using this
theorem bR_cc (e : h1 c = h2 c) (bj : Int) (m s : Nat) : bR h1 c n bj m s = bR h2 c n bj m s := by
  funext b
  unfold bR mS
  have e3 : ∀ wh, rW h1 c b wh = rW h2 c b wh := fun wh => by unfold rW; rw [e]
  rw [e, e3, e3, e3]
theorem b_holds (hI : INV h) : Both 137 140 [aP 0, aI x] [aP 149, aI x] h := by
  obtain ⟨⟨n, nb, L, s, K, nx, hW⟩, hr⟩ := id hI
  have hP := hW.1
  refine s_Tholds (Rp_CO hP) (fun h1 t1 => ⟨_, h1, rfl, rfl, FR_1 (FR_tR t1), ?_⟩)
  have hF := FR_tR t1
  have hW1 := WD_FR hF hW
  refine s_Rholds hW1.1.1 hW1.1.2.2.2.2.2.1 hP.2.2.2.2.2.2.1 (fun h2 t2 => ⟨h2, ?_, rfl, ?_, INV_FR hI (FR_t hF (FR_scT t2))⟩)
  · rw [q_holds hP, bR_cc (FR_150 hF)]
  · rw [FR_1 (FR_scT t2), FR_1 hF]
theorem b_strength (hI : INV h) : Both 52 54 [aP 0, aI b, aI pl] [aP 149, aI b, aI pl] h := by
  obtain ⟨⟨n, nb, L, s, K, nx, hW⟩, hr⟩ := id hI
  have hP := hW.1
  refine s_Tstrength (Rp_CO hP) (fun h1 t1 => ⟨_, h1, rfl, rfl, FR_1 (FR_tS t1), ?_⟩)
  have hF := FR_tS t1
  have hW1 := WD_FR hF hW
  rw [s_Rstrength hW1.1.1]
  refine ⟨h1, ?_, rfl, FR_1 hF, INV_FR hI hF⟩
  rw [FR_150 hF]
  by_cases f : (0 ≤ b ∧ b < nb) ∧ 0 ≤ pl ∧ pl < 4
  · obtain ⟨e1, e2, e3, e4⟩ := Rp_b hP f.1.1 f.1.2
    rw [if_pos f, if_pos f, e1, e2, e3]
  · rw [if_neg f, if_neg f]
theorem b_force (hI : INV h) : Both 57 59 [aP 0, aI b, aI pl, aI j] [aP 149, aI b, aI pl, aI j] h := by
  obtain ⟨⟨n, nb, L, s, K, nx, hW⟩, hr⟩ := id hI
  have hP := hW.1
  refine s_Tforce (Rp_CO hP) (fun h1 t1 => ⟨_, h1, rfl, rfl, FR_1 (FR_tS t1), ?_⟩)
  have hF := FR_tS t1
  have hW1 := WD_FR hF hW
  rw [s_Rforce hW1.1.1]
  refine ⟨h1, ?_, rfl, FR_1 hF, INV_FR hI hF⟩
  have e3 : ∀ wh, rW h1 150 b wh = rW h 150 b wh := fun wh => by unfold rW; rw [FR_150 hF]
  rw [FR_150 hF, e3, e3]
  by_cases f : (0 ≤ b ∧ b < nb) ∧ (0 ≤ pl ∧ pl < 4) ∧ 0 ≤ j ∧ j < 8
  · obtain ⟨e1, e2, e3, e4⟩ := Rp_b hP f.1.1 f.1.2
    rw [if_pos f, if_pos f, e4, sS_rW hP b 0 83 (fun t q => by have := (hP.2.2.2.2.2.2.2.2.2.1 t q).1; simpa using this), sS_rW hP b 2 85 (fun t q => by have := (hP.2.2.2.2.2.2.2.2.2.1 t q).2.2.1; simpa using this)]
  · rw [if_neg f, if_neg f]
theorem b_told (hI : INV h) : Both 60 61 [aP 0, aI t, aI x, aX] [aP 149, aI t, aI x] h := by
  obtain ⟨⟨n, nb, L, s, K, nx, hW⟩, hr⟩ := id hI
  have hP := hW.1
  unfold Both
  rw [s_Ttold hP.1.2.2.2.1 (by have := hP.2.2.1; simpa only [Int.add_zero] using this)]
  refine ⟨_, h, rfl, rfl, rfl, ?_⟩
  rw [s_Rtold hP.1.2.2.2.1 hP.1.2.2.1]
  refine ⟨h, ?_, rfl, rfl, hI⟩
  by_cases f : (0 ≤ t ∧ t < n) ∧ 0 ≤ x ∧ x < 6
  · obtain ⟨t', rfl⟩ := Int.eq_ofNat_of_zero_le f.1.1
    rw [if_pos f, if_pos f, q_told hP (by omega) f.2]
  · rw [if_neg f, if_neg f]
theorem b_of (hI : INV h) : Both 44 48 [aP 0, aI b, aI x] [aP 149, aI b, aI x] h := by
  obtain ⟨⟨n, nb, L, s, K, nx, hW⟩, hr⟩ := id hI
  have hP := hW.1
  refine s_Tof (Rp_CO hP) (fun h1 t1 => ⟨_, h1, rfl, rfl, FR_1 (FR_tS t1), ?_⟩)
  have hF := FR_tS t1
  have hW1 := WD_FR hF hW
  rw [s_Rof hW1.1.1]
  refine ⟨h1, ?_, rfl, FR_1 hF, INV_FR hI hF⟩
  by_cases f : 0 ≤ b ∧ b < nb
  · obtain ⟨b', rfl⟩ := Int.eq_ofNat_of_zero_le f.1
    rw [if_pos f, if_pos f, q_of hP (by omega)]
    have e3 : ∀ wh, rW h1 150 b' wh = rW h 150 b' wh := fun wh => by unfold rW; rw [FR_150 hF]
    unfold ofR mS
    rw [FR_150 hF, e3]
  · rw [if_neg f, if_neg f]
theorem b_sort (hI : INV h) : Both 101 102 [aP 0, aI i] [aP 149, aI i] h := by
  obtain ⟨⟨n, nb, L, s, K, nx, hW⟩, hr⟩ := id hI
  have hP := hW.1
  unfold Both
  rw [s_Tsort hP.1.2.2.2.2.2.1 (by have := hP.2.2.2.1; simpa only [Int.add_zero] using this)]
  refine ⟨_, h, rfl, rfl, rfl, ?_⟩
  rw [s_Rsort hP.1.2.2.2.2.2.1 hP.1.2.2.2.2.1]
  refine ⟨h, ?_, rfl, rfl, hI⟩
  by_cases f : 0 ≤ i ∧ i < L
  · rw [if_pos f, if_pos f, Rp_i hP f.1 f.2]
  · rw [if_neg f, if_neg f]
theorem b_count (hI : INV h) : Both 105 108 [aP 0, aI x] [aP 149, aI x] h := by
  obtain ⟨⟨n, nb, L, s, K, nx, hW⟩, hr⟩ := id hI
  have hP := hW.1
  obtain ⟨g1, g2, g3, g4, g5, g6⟩ := hW.2.2
  unfold Both
  rw [s_Tcount (Rp_CO hP)]
  refine ⟨_, h, rfl, rfl, rfl, ?_⟩
  rw [s_Rcount hP.1 hP.2.2.2.2.2.1 hP.2.2.2.2.2.2.1]
  refine ⟨h, ?_, rfl, rfl, hI⟩
  rw [q_count hP (by rw [g5, ← g4, Int.add_zero])]
end BO
