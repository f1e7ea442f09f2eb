section HU
variable {h h' : am_F} {Q : am_V → am_S → Prop} {c bj so j st : Int} {n nb L : Nat}
/-- rows that are alike but in wet and wear have the same sets and sums -/
theorem al_S {h1 h2 : am_F} (e : ∀ k : Int, 18 ≤ k → h1 c k = h2 c k) (b : Int) : mS h1 c b n = mS h2 c b n ∧ ∀ wh : Int, 0 ≤ wh → rW h1 c b wh = rW h2 c b wh := by
  constructor
  · unfold mS
    congr 1
    funext t
    rw [e _ (by omega)]
  · intro wh h0
    funext t
    unfold rW
    rw [e _ (by omega), e _ (by omega)]
theorem RO_step (hc : c ≠ 149) (hR : RO h c n nb L) (hno : anyG (h00 h) c n so j nb = false) (hG : GI (h00 h) h' c n so j st nb) (x : Int) : RO (up h' c 3 x) c n nb L := by
  obtain ⟨e1, e2⟩ := GI_no hc hR hno hG
  obtain ⟨r0, hnb3, r1, h8, r2, hL, ht, hbk⟩ := hR
  have f : ∀ k : Int, ¬ (6 ≤ k ∧ k < 18) → k ≠ 3 → up h' c 3 x c k = h c k := fun k q1 q2 => by rw [up_k q2, e1 k q1]
  refine ⟨by rw [f _ (by omega) (by omega), r0], hnb3, by rw [f _ (by omega) (by omega), r1], h8, by rw [f _ (by omega) (by omega), r2], hL, ?_, fun b hb => ?_⟩
  · intro t h1
    rw [f _ (by omega) (by omega), f _ (by omega) (by omega), f _ (by omega) (by omega)]
    exact ht t h1
  · obtain ⟨a1, a2, a3, a4⟩ := e2 b hb
    obtain ⟨b1, b2, b3, b4⟩ := hbk b hb
    obtain ⟨d1, d2, d3⟩ := tk_r (b := b) h8 ht
    have w1 := ageW_r (D := sumF (rW h c b 1) n) b2 d2.1
    have w2 := ageR_r (so := so) (E := sumF (rW h c b 2) n) b3 d3.1
    unfold bk
    rw [up_k (by omega), up_k (by omega), up_k (by omega), up_k (by omega), a1, a2, a3, a4]
    refine ⟨b1, ?_, ?_, b4⟩
    · split <;> omega
    · split <;> omega
theorem bR_step (hc : c ≠ 149) (hR : RO h c n nb L) {s m : Nat} (hso : h c (66 + s) = so) (hno : anyG (h00 h) c n so (jl so bj) nb = false) (hG : GI (h00 h) h' c n so (jl so bj) st nb) (x : Int) {b : Nat} (hb : b < nb) : bR (up h' c 3 x) c n bj m (s + 1) b = bR h c n bj (m + 1) s b := by
  obtain ⟨e1, e2⟩ := GI_no hc hR hno hG
  obtain ⟨a1, a2, a3, a4⟩ := e2 b hb
  have e : h00 h c = h c := by unfold h00; rw [up_ne hc, up_ne hc]
  obtain ⟨z1, z2⟩ := al_S (h1 := up h' c 3 x) (h2 := h) (c := c) (n := n) (fun k q => by rw [up_k (by omega), e1 k (by omega)]) b
  have hg := anyG_f hno b hb
  rw [(mC_c (so := so) (j := jl so bj) (n := n) e b).2.2.2] at hg
  unfold bR
  rw [z1, z2 0 (by decide), z2 1 (by decide), z2 2 (by decide)]
  have hs : (fun s : Nat => up h' c 3 x c (66 + s)) = fun s : Nat => h c (66 + s) := by
    funext s; rw [up_k (by omega), e1 _ (by omega)]
  rw [hs, up_k (by omega), up_k (by omega), up_k (by omega), up_k (by omega), a1, a2, a3, a4]
  by_cases h0 : mS h c b n = 0
  · rw [if_pos h0, if_pos h0]
  · rw [if_neg h0, if_neg h0, if_neg h0, if_neg h0, fg0]
    rw [if_neg]
    · rw [hso]
    · rw [hso]
      unfold gvB at hg
      simp only [h0, ne_eq, not_false_eq_true, decide_true, Bool.true_and, decide_eq_false_iff_not] at hg
      unfold mP at hg
      exact hg
theorem bR_ge {m s b : Nat} (hms : s + m ≤ 99) : (s : Int) ≤ bR h c n bj m s b := by
  unfold bR
  split
  · omega
  · exact fg0_ge m s _ _ hms
theorem bR_give {m s b : Nat} (hso : h c (66 + s) = so) (hg : gvB h c b n so (jl so bj) = true) : bR h c n bj (m + 1) s b = (s : Int) := by
  unfold gvB at hg
  simp only [Bool.and_eq_true, decide_eq_true_eq] at hg
  unfold bR
  rw [if_neg hg.1, fg0, if_pos]
  rw [hso]
  have := hg.2
  unfold mP at this
  exact this
/-- other cells are as they were; of the reference's own only 13 and 15 may differ -/
def scT (h h' : am_F) : Prop := (∀ a : Int, a ≠ 151 → a ≠ 149 → h' a = h a) ∧ ∀ k : Int, k ≠ 13 → k ≠ 15 → h' 149 k = h 149 k
theorem lp_hold (hbj : 0 ≤ bj ∧ bj ≤ 7) : ∀ (m s : Nat) (h : am_F), RO h 151 n nb L → h 151 3 = (s : Int) → s + m = L → (∀ h', scT h h' → Q (aI (if minB (bR h 151 n bj m s) nb = 99 then (L : Int) else minB (bR h 151 n bj m s) nb)) (sT h')) → wp 138 (am_ju 138 0) [aP 149, aI bj] [] (sT h) Q := by
  intro m
  induction m with
  | zero =>
    intro s h hR hs hm hq
    obtain ⟨r0, hnb3, r1, h8, r2, hL, ht, hbk⟩ := id hR
    have hz : minB (bR h 151 n bj 0 s) nb = 99 := by
      rcases minB_at (bR h 151 n bj 0 s) nb with q | ⟨b, q1, q2⟩
      · exact q
      · rw [q2]; unfold bR; split <;> rfl
    rw [ju_138_0]
    simp only [ju_138_25, r_aLD0, r_gR, r_iCONST, r_iALD, r_iALDs, r_IC3, r_iLD1, cl_125, r_POP, r_gI, r_IF0, r_iSUB, r_iRET, eq_self, Int.reduceLT, Int.reduceLE, Int.reduceEq, true_or, or_true, and_self, true_and, and_true, w8_0, w8_1, w8_2, w8_3, w8_4, nl_I, nl_P, nl_X, pu_I, pu_J, pu_V, kd_149, ln_149, rR_149_0, rR_149_1, rR_149_2, rR_149_3, rR_149_5, rR_149_7, rR_149_8, rR_149_9, rR_149_10, rR_149_16, rR_149_17, rR_149_18, kd_151, ln_151, hs, r2]
    have := hq h ⟨fun _ _ _ => rfl, fun _ _ _ => rfl⟩
    rw [if_pos hz] at this
    simp only [show (L : Int) ≤ (s : Int) from by omega, if_true]
    exact this
  | succ m ih =>
    intro s h hR hs hm hq
    obtain ⟨r0, hnb3, r1, h8, r2, hL, ht, hbk⟩ := id hR
    rw [ju_138_0]
    simp only [r_aLD0, r_gR, r_iCONST, r_iALD, r_iALDs, r_IC3, r_iLD1, cl_125, r_POP, r_gI, r_IF0, r_iSUB, r_iRET, eq_self, Int.reduceLT, Int.reduceLE, Int.reduceEq, true_or, or_true, and_self, true_and, and_true, w8_0, w8_1, w8_2, w8_3, w8_4, nl_I, nl_P, nl_X, pu_I, pu_J, pu_V, kd_149, ln_149, rR_149_0, rR_149_1, rR_149_2, rR_149_3, rR_149_5, rR_149_7, rR_149_8, rR_149_9, rR_149_10, rR_149_16, rR_149_17, rR_149_18, kd_151, ln_151, hs, r2, true_and]
    rw [if_neg (by omega)]
    refine s_goes (so := h 151 (66 + s)) (st := (s : Int)) (nb := nb) (n := n) kd_151 (by decide) ln_151 h8 r1 r0 hnb3 ht hbk hbj hs ⟨by omega, by omega⟩ rfl (fun h' hG => ?_)
    generalize hso : h 151 (66 + (s : Int)) = so at *
    have e13 : up h' 151 3 ((s : Int) + 1) 149 13 = if anyG (h00 h) 151 n so (jl so bj) nb = true then 1 else 0 := by
      rw [up_ne (by decide), hG.2.2.2.2.2.1]
      rfl
    have hsc : scT h (up h' 151 3 ((s : Int) + 1)) := by
      refine ⟨fun a q1 q2 => ?_, fun k q1 q2 => ?_⟩
      · rw [up_ne q1, hG.2.2.2.1 a q1 q2]; unfold h00; rw [up_ne q2, up_ne q2]
      · rw [up_ne (by decide), hG.2.2.2.2.1 k q1 q2]; unfold h00; rw [up_k q2, up_k q1]
    simp only [r_aLD0, r_gR, r_iCONST, r_iALD, r_iALDs, r_IC3, r_iLD1, cl_125, r_POP, r_gI, r_IF0, r_iSUB, r_iRET, eq_self, Int.reduceLT, Int.reduceLE, Int.reduceEq, true_or, or_true, and_self, true_and, and_true, w8_0, w8_1, w8_2, w8_3, w8_4, nl_I, nl_P, nl_X, pu_I, pu_J, pu_V, kd_149, ln_149, rR_149_0, rR_149_1, rR_149_2, rR_149_3, rR_149_5, rR_149_7, rR_149_8, rR_149_9, rR_149_10, rR_149_16, rR_149_17, rR_149_18, kd_151, ln_151, e13, up_s]
    by_cases hg : anyG (h00 h) 151 n so (jl so bj) nb = true
    · simp only [hg, if_true, Int.reduceEq, if_false]
      rw [w3_id (by omega) (by omega), show (s : Int) + 1 - 1 = (s : Int) by omega]
      obtain ⟨b, hb, hgb⟩ := anyG_t hg
      rw [(mC_c (h1 := h00 h) (h2 := h) (c := 151) (so := so) (j := jl so bj) (n := n) (by unfold h00; rw [up_ne (by decide), up_ne (by decide)]) b).2.2.2] at hgb
      have hmin : minB (bR h 151 n bj (m + 1) s) nb = (s : Int) := by
        have l1 := (minB_le (bR h 151 n bj (m + 1) s) nb).2 b hb
        rw [bR_give hso hgb] at l1
        rcases minB_at (bR h 151 n bj (m + 1) s) nb with q | ⟨b2, q1, q2⟩
        · omega
        · have := bR_ge (h := h) (c := 151) (n := n) (bj := bj) (m := m + 1) (s := s) (b := b2) (by omega)
          omega
      have := hq _ hsc
      rw [hmin, if_neg (by omega)] at this
      exact this
    · have hg' : anyG (h00 h) 151 n so (jl so bj) nb = false := by simpa using hg
      simp only [hg, if_true, if_false]
      refine ih (s + 1) _ (RO_step (by decide) hR hg' hG _) (by rw [up_s]; omega) (by omega) (fun h2 hs2 => ?_)
      have e : minB (bR (up h' 151 3 ((s : Int) + 1)) 151 n bj m (s + 1)) nb = minB (bR h 151 n bj (m + 1) s) nb := minB_eq (fun b hb => bR_step (by decide) hR hso hg' hG _ hb)
      rw [e]
      exact hq h2 ⟨fun a q1 q2 => by rw [hs2.1 a q1 q2, hsc.1 a q1 q2], fun k q1 q2 => by rw [hs2.2 k q1 q2, hsc.2 k q1 q2]⟩
end HU
