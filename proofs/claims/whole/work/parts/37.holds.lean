theorem fg0_lt {so : Nat → Int} {k bj W D E : Int} {g : Nat} : ∀ (m s : Nat) (w r : Int), fg0 so k bj W D E g m s w r = 99 ∨ fg0 so k bj W D E g m s w r < ((s + m : Nat) : Int) := by
  intro m
  induction m with
  | zero => intro s w r; left; rfl
  | succ m ih =>
    intro s w r
    rw [fg0]
    split
    · right; omega
    · rcases ih (s + 1) (ageW w D) (ageR r E (so s)) with q | q
      · left; exact q
      · right; omega
section HO
variable {h h' : am_F} {Q : am_V → am_S → Prop} {x bj : Int} {n nb L s : Nat}
theorem s_toldStep : wp 136 (am_ju 136 0) [aI x] [] (sT h) Q ↔ Q (aI (if x = 99 then -4 else x)) (sT h) := by
  simp only [ju_136_0, ju_136_5, ju_136_6, r_iLD0, r_bPUSH, r_IC1, r_GOTO, r_iRET, eq_self, Int.reduceLT, Int.reduceLE, Int.reduceEq, true_or, or_true, and_self, true_and, and_true, w8_0, w8_1, w8_2, w8_3, w8_4, nl_I, nl_P, nl_X, pu_I, pu_J, pu_V]
  by_cases e : x = 99 <;> simp [e]
theorem s_orNone : wp 139 (am_ju 139 0) [aP 149, aI x] [] (sT h) Q ↔ Q (aI (if x = h 150 2 then -4 else x)) (sT h) := by
  simp only [ju_139_0, ju_139_8, ju_139_9, r_iLD1, r_aLD0, r_gR, r_iCONST, r_iALD, r_iALDs, r_IC1, r_bPUSH, r_GOTO, r_iRET, eq_self, Int.reduceLT, Int.reduceLE, Int.reduceEq, true_or, or_true, and_self, true_and, and_true, w8_0, w8_1, w8_2, w8_3, w8_4, nl_I, nl_P, nl_X, pu_I, pu_J, pu_V, kd_149, ln_149, rR_149_0, rR_149_1, rR_149_2, rR_149_3, rR_149_5, rR_149_7, rR_149_8, rR_149_9, rR_149_10, rR_149_16, rR_149_17, rR_149_18, kd_150, ln_150]
  by_cases e : x = h 150 2 <;> simp [e]
/-- the answer of holds, from the step of the first give -/
def told (x : Int) : Int := if x = 99 then -4 else x
theorem s_Tholds (hC : CO h n nb L s) (hq : ∀ h', tR h h' → Q (aI (if 0 ≤ bj ∧ bj < 8 then told (minB (cR h n L s bj (-4)) nb) else -1)) (sT h')) : wp 137 (am_ju 137 0) [aP 0, aI bj] [] (sT h) Q := by
  simp only [ju_137_0, ju_137_6, r_iLD1, r_bPUSH, cl_12, r_IF1, r_iCONST, r_iRET, r_aLD0, r_gR, cl_135, cl_136, eq_self, Int.reduceLT, Int.reduceLE, Int.reduceEq, true_or, or_true, and_self, true_and, and_true, w8_0, w8_1, w8_2, w8_3, w8_4, nl_I, nl_P, nl_X, pu_I, pu_J, pu_V, kd_0, ln_0, rR_0_0, rR_0_1, rR_0_3, rR_0_4, rR_0_5, rR_0_6, rR_0_7, rR_0_8, rR_0_9, rR_0_10, kd_137, ln_137, rR_137_0, rR_137_1, rR_137_2, rR_137_3, rR_137_4, rR_137_6, rR_137_7, rR_137_8, s_isBelow]
  by_cases hb : 0 ≤ bj ∧ bj < 8
  · simp only [hb, and_self, if_true, Int.reduceEq, if_false, ne_eq, not_true_eq_false, not_false_eq_true]
    refine s_oFG (bj := bj) hC ⟨hb.1, by have := hb.2; omega⟩ (fun h' ht => ?_)
    simp only [r_iLD1, r_bPUSH, cl_12, r_IF1, r_iCONST, r_iRET, r_aLD0, r_gR, cl_135, cl_136, eq_self, Int.reduceLT, Int.reduceLE, Int.reduceEq, true_or, or_true, and_self, true_and, and_true, w8_0, w8_1, w8_2, w8_3, w8_4, nl_I, nl_P, nl_X, pu_I, pu_J, pu_V, s_toldStep]
    have := hq h' ht
    rw [if_pos hb] at this
    exact this
  · have := hq h (fun _ _ => rfl)
    rw [if_neg hb] at this
    simp only [hb, if_false, if_true, ne_eq, not_true_eq_false, not_false_eq_true]
    exact this
theorem bR_lt {c : Int} {m s b : Nat} : bR h c n bj m s b = 99 ∨ bR h c n bj m s b < ((s + m : Nat) : Int) := by
  unfold bR
  split
  · left; rfl
  · exact fg0_lt m s _ _
theorem RO_cp {c d : Int} (hR : RO h c n nb L) : RO (cpy h c 0 d 0 238) d n nb L := by
  obtain ⟨r0, hnb3, r1, h8, r2, hL, ht, hbk⟩ := hR
  refine ⟨by rw [cpy_d (by omega) (by omega), r0], hnb3, by rw [cpy_d (by omega) (by omega), r1], h8, by rw [cpy_d (by omega) (by omega), r2], hL, ?_, fun b hb => ?_⟩
  · intro t h1
    rw [cpy_d (by omega) (by omega), cpy_d (by omega) (by omega), cpy_d (by omega) (by omega)]
    exact ht t h1
  · have := hbk b hb
    unfold bk at this ⊢
    rw [cpy_d (by omega) (by omega), cpy_d (by omega) (by omega), cpy_d (by omega) (by omega), cpy_d (by omega) (by omega)]
    exact this
theorem fg0_c {so so' : Nat → Int} {k bj W D E : Int} {g : Nat} : ∀ (m s : Nat) (w r : Int), (∀ i, i < s + m → so i = so' i) → fg0 so k bj W D E g m s w r = fg0 so' k bj W D E g m s w r := by
  intro m
  induction m with
  | zero => intro s w r _; rfl
  | succ m ih =>
    intro s w r hq
    rw [fg0, fg0, hq s (by omega), ih (s + 1) _ _ (fun i hi => hq i (by omega))]
theorem setF_c {p q : Nat → Bool} : ∀ {n : Nat}, (∀ t, t < n → p t = q t) → setF p n = setF q n := by
  intro n
  induction n with
  | zero => intro _; rfl
  | succ n ih => intro hq; rw [setF, setF, ih (fun t ht => hq t (by omega)), hq n (by omega)]
theorem sumF_c {f g : Nat → Int} : ∀ {n : Nat}, (∀ t, t < n → f t = g t) → sumF f n = sumF g n := by
  intro n
  induction n with
  | zero => intro _; rfl
  | succ n ih => intro hq; rw [sumF, sumF, ih (fun t ht => hq t (by omega)), hq n (by omega)]
/-- rows alike in what counts give the same answers -/
def aR2 (h1 h2 : am_F) (c d : Int) (n nb L : Nat) : Prop := (∀ b : Nat, b < nb → h1 c (6 + 4 * b) = h2 d (6 + 4 * b) ∧ h1 c (6 + 4 * b + 1) = h2 d (6 + 4 * b + 1) ∧ h1 c (6 + 4 * b + 2) = h2 d (6 + 4 * b + 2) ∧ h1 c (6 + 4 * b + 3) = h2 d (6 + 4 * b + 3)) ∧ (∀ t : Nat, t < n → ∀ k : Int, 0 ≤ k → k ≤ 5 → h1 c (18 + 6 * t + k) = h2 d (18 + 6 * t + k)) ∧ ∀ i : Nat, i < L → h1 c (66 + i) = h2 d (66 + i)
theorem bR_a {h1 h2 : am_F} {c d : Int} {m s b : Nat} (ha : aR2 h1 h2 c d n nb L) (hs : s + m ≤ L) (hb : b < nb) : bR h1 c n bj m s b = bR h2 d n bj m s b := by
  obtain ⟨a1, a2, a3⟩ := ha
  obtain ⟨b1, b2, b3, b4⟩ := a1 b hb
  have e1 : mS h1 c b n = mS h2 d b n := setF_c (fun t ht => by rw [a2 t ht 5 (by omega) (by omega)])
  have e2 : ∀ wh : Int, 0 ≤ wh → wh ≤ 5 → sumF (rW h1 c b wh) n = sumF (rW h2 d b wh) n := fun wh q1 q2 => sumF_c (fun t ht => by unfold rW; rw [a2 t ht 5 (by omega) (by omega), a2 t ht wh q1 q2])
  unfold bR
  rw [e1, e2 0 (by omega) (by omega), e2 1 (by omega) (by omega), e2 2 (by omega) (by omega), b1, b2, b3, b4]
  split
  · rfl
  · exact fg0_c m s _ _ (fun i hi => a3 i (by omega))
theorem bR_cp {c d : Int} {b : Nat} (hR : RO h c n nb L) (hs : s ≤ L) (hb : b < nb) : bR (cpy h c 0 d 0 238) d n bj (L - s) s b = bR h c n bj (L - s) s b := by
  obtain ⟨r0, hnb3, r1, h8, r2, hL, ht, hbk⟩ := hR
  refine bR_a (nb := nb) (L := L) ⟨fun b hb => ⟨?_, ?_, ?_, ?_⟩, fun t ht k k0 k5 => ?_, fun i hi => ?_⟩ (by omega) hb <;> rw [cpy_d (by omega) (by omega)]
theorem s_Rholds (hR : RO h 150 n nb L) (hs : h 150 3 = (s : Int)) (hsL : s ≤ L) (hq : ∀ h', scT h h' → Q (aI (if 0 ≤ bj ∧ bj < 8 then told (minB (bR h 150 n bj (L - s) s) nb) else -1)) (sT h')) : wp 140 (am_ju 140 0) [aP 149, aI bj] [] (sT h) Q := by
  simp only [ju_140_0, ju_140_7, r_iLD1, r_iCONST, r_bPUSH, cl_17, r_IF1, r_iRET, r_aLD0, r_gR, cl_90, cl_138, cl_139, eq_self, Int.reduceLT, Int.reduceLE, Int.reduceEq, true_or, or_true, and_self, true_and, and_true, w8_0, w8_1, w8_2, w8_3, w8_4, nl_I, nl_P, nl_X, pu_I, pu_J, pu_V, kd_149, ln_149, rR_149_0, rR_149_1, rR_149_2, rR_149_3, rR_149_5, rR_149_7, rR_149_8, rR_149_9, rR_149_10, rR_149_16, rR_149_17, rR_149_18, s_in]
  by_cases hb : 0 ≤ bj ∧ bj < 8
  · have hb7 : 0 ≤ bj ∧ bj ≤ 7 := ⟨by omega, by omega⟩
    simp only [hb7, and_self, if_true, Int.reduceEq, if_false, ne_eq, not_true_eq_false, not_false_eq_true, s_copies kd_150 ln_150 kd_151 ln_151 (by decide : (150 : Int) ≠ 151), r_iLD1, r_iCONST, r_bPUSH, cl_17, r_IF1, r_iRET, r_aLD0, r_gR, cl_90, cl_138, cl_139, eq_self, Int.reduceLT, Int.reduceLE, Int.reduceEq, true_or, or_true, and_self, true_and, and_true, w8_0, w8_1, w8_2, w8_3, w8_4, nl_I, nl_P, nl_X, pu_I, pu_J, pu_V, kd_149, ln_149, rR_149_0, rR_149_1, rR_149_2, rR_149_3, rR_149_5, rR_149_7, rR_149_8, rR_149_9, rR_149_10, rR_149_16, rR_149_17, rR_149_18]
    have e3 : cpy h 150 0 151 0 238 151 3 = (s : Int) := by rw [cpy_d (by omega) (by omega), hs]
    refine lp_hold hb7 (L - s) s _ (RO_cp hR) e3 (by omega) (fun h' hsc => ?_)
    have hsc' : scT h h' := ⟨fun a q1 q2 => by rw [hsc.1 a q1 q2, cpy_n q1], fun k q1 q2 => by rw [hsc.2 k q1 q2, cpy_n (by decide)]⟩
    have e2 : h' 150 2 = (L : Int) := by rw [hsc'.1 150 (by decide) (by decide)]; exact hR.2.2.2.2.1
    have := hq h' hsc'
    rw [if_pos hb] at this
    have eb : minB (bR (cpy h 150 0 151 0 238) 151 n bj (L - s) s) nb = minB (bR h 150 n bj (L - s) s) nb := minB_eq (fun b hb => bR_cp hR hsL hb)
    rw [eb]
    simp only [r_iLD1, r_iCONST, r_bPUSH, cl_17, r_IF1, r_iRET, r_aLD0, r_gR, cl_90, cl_138, cl_139, eq_self, Int.reduceLT, Int.reduceLE, Int.reduceEq, true_or, or_true, and_self, true_and, and_true, w8_0, w8_1, w8_2, w8_3, w8_4, nl_I, nl_P, nl_X, pu_I, pu_J, pu_V, kd_149, ln_149, rR_149_0, rR_149_1, rR_149_2, rR_149_3, rR_149_5, rR_149_7, rR_149_8, rR_149_9, rR_149_10, rR_149_16, rR_149_17, rR_149_18, s_orNone, e2]
    have hx : (if (if minB (bR h 150 n bj (L - s) s) nb = 99 then (L : Int) else minB (bR h 150 n bj (L - s) s) nb) = (L : Int) then -4 else (if minB (bR h 150 n bj (L - s) s) nb = 99 then (L : Int) else minB (bR h 150 n bj (L - s) s) nb)) = told (minB (bR h 150 n bj (L - s) s) nb) := by
      unfold told
      by_cases q : minB (bR h 150 n bj (L - s) s) nb = 99
      · rw [if_pos q, if_pos rfl, if_pos q]
      · rw [if_neg q, if_neg, if_neg q]
        rcases minB_at (bR h 150 n bj (L - s) s) nb with z | ⟨b, z1, z2⟩
        · exact absurd z q
        · rcases bR_lt (h := h) (n := n) (bj := bj) (c := 150) (m := L - s) (s := s) (b := b) with y | y
          · exact absurd (z2.trans y) q
          · omega
    rw [hx]
    exact this
  · have := hq h ⟨fun _ _ _ => rfl, fun _ _ _ => rfl⟩
    rw [if_neg hb] at this
    have hb7 : ¬ (0 ≤ bj ∧ bj ≤ 7) := fun z => hb ⟨by omega, by omega⟩
    simp only [hb7, if_false, if_true, ne_eq, not_true_eq_false, not_false_eq_true]
    exact this
end HO
