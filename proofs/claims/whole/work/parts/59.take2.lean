/-! Moments, the past and worlds are copied -/
def mo (c : Int) : Prop := (kd c = 3 ∧ 0 ≤ c ∧ rR c 0 = c + 1 ∧ rR c 1 = c + 2 ∧ rR c 2 = c + 3 ∧ rR c 3 = c + 4) ∧ (kd (c + 1) = 20 ∧ ln (c + 1) = 3) ∧ (kd (c + 2) = 20 ∧ ln (c + 2) = 3) ∧ (kd (c + 3) = 20 ∧ ln (c + 3) = 3) ∧ (kd (c + 4) = 20 ∧ ln (c + 4) = 8)
theorem mo_90 : mo 90 := by unfold mo; decide +kernel
theorem mo_11 : mo 11 := by unfold mo; decide +kernel
theorem mo_p : ∀ p : Nat, p < 8 → mo (97 + 5 * p) ∧ mo (18 + 5 * p) ∧ rR 96 p = 97 + 5 * p ∧ rR 17 p = 18 + 5 * p := by unfold mo; decide +kernel
section CQ
variable {h : am_F} {a c d k l : Int}
theorem cpy_hit (h0 : 0 ≤ k) (h1 : k < l) : cpy h c 0 d 0 l d k = h c k := by
  unfold cpy; rw [if_pos ⟨rfl, h0, by omega⟩]; congr 1; omega
theorem cpy_out (ha : a ≠ d) : cpy h c 0 d 0 l a = h a := by
  funext k; unfold cpy; rw [if_neg (fun z => ha z.1)]
end CQ
def mT4 (h : am_F) (c d : Int) : am_F := cpy (cpy (cpy (cpy h (d + 1) 0 (c + 1) 0 3) (d + 2) 0 (c + 2) 0 3) (d + 3) 0 (c + 3) 0 3) (d + 4) 0 (c + 4) 0 8
def mTk (h : am_F) (c d : Int) : am_F := up (up (mT4 h c d) c 4 (mT4 h c d d 4)) c 5 (up (mT4 h c d) c 4 (mT4 h c d d 4) d 5)
section MT
variable {h h' : am_F} {Q : am_V → am_S → Prop} {c d : Int} {n nb L s K nx : Nat}
theorem s_mTake (hc : mo c) (hd : mo d) : wp 110 (am_ju 110 0) [aP c, aP d] [] (sT h) Q ↔ Q aV (sT (mTk h c d)) := by
  obtain ⟨⟨k0, c0, q0, q1, q2, q3⟩, ⟨k1, l1⟩, ⟨k2, l2⟩, ⟨k3, l3⟩, ⟨k4, l4⟩⟩ := hc
  obtain ⟨⟨k0', c0', q0', q1', q2', q3'⟩, ⟨k1', l1'⟩, ⟨k2', l2'⟩, ⟨k3', l3'⟩, ⟨k4', l4'⟩⟩ := hd
  simp (disch := first | assumption | omega | exact w8_0 | exact w8_1 _ | exact w8_2 _ _ | exact w8_3 _ _ _ | exact w8_4 _ _ _ _ | exact nl_I _ | exact nl_P _ | exact nl_X | decide | exact w8_5 _ _ _ _ _) only [ju_110_0, r_aLD0, r_gR, r_aLD1, cl_71, r_gI, r_pI, r_vRET, eq_self, Int.reduceLT, Int.reduceLE, Int.reduceEq, true_or, or_true, and_self, true_and, and_true, w8_0, w8_1, w8_2, w8_3, w8_4, nl_I, nl_P, nl_X, pu_I, pu_J, pu_V, w3_id, Int.add_zero, q0, q1, q2, q3, q0', q1', q2', q3', k0, k0', s_takeRow k1' k1 l1' l1 (show (0 : Int) ≤ 3 by decide), s_takeRow k2' k2 l2' l2 (show (0 : Int) ≤ 3 by decide), s_takeRow k3' k3 l3' l3 (show (0 : Int) ≤ 3 by decide), s_takeRow k4' k4 l4' l4 (show (0 : Int) ≤ 8 by decide)]
  rfl
theorem mTk_o (hcd : c + 5 ≤ d ∨ d + 5 ≤ c) : (∀ k, 0 ≤ k → k < 3 → mTk h c d (c + 1) k = h (d + 1) k ∧ mTk h c d (c + 2) k = h (d + 2) k ∧ mTk h c d (c + 3) k = h (d + 3) k) ∧ (∀ k, 0 ≤ k → k < 8 → mTk h c d (c + 4) k = h (d + 4) k) ∧ mTk h c d c 4 = h d 4 ∧ mTk h c d c 5 = h d 5 ∧ ∀ a, a < c ∨ c + 4 < a → mTk h c d a = h a := by
  unfold mTk mT4
  refine ⟨fun k k0 k1 => ⟨?_, ?_, ?_⟩, fun k k0 k1 => ?_, ?_, ?_, fun a ha => ?_⟩
  · rw [up_ne (by omega), up_ne (by omega), cpy_out (by omega), cpy_out (by omega), cpy_out (by omega), cpy_hit k0 k1]
  · rw [up_ne (by omega), up_ne (by omega), cpy_out (by omega), cpy_out (by omega), cpy_hit k0 k1, cpy_out (by omega)]
  · rw [up_ne (by omega), up_ne (by omega), cpy_out (by omega), cpy_hit k0 k1, cpy_out (by omega), cpy_out (by omega)]
  · rw [up_ne (by omega), up_ne (by omega), cpy_hit k0 k1, cpy_out (by omega), cpy_out (by omega), cpy_out (by omega)]
  · rw [up_k (by omega), up_s, cpy_out (by omega), cpy_out (by omega), cpy_out (by omega), cpy_out (by omega)]
  · rw [up_s, up_ne (by omega), cpy_out (by omega), cpy_out (by omega), cpy_out (by omega), cpy_out (by omega)]
  · rw [up_ne (by omega), up_ne (by omega), cpy_out (by omega), cpy_out (by omega), cpy_out (by omega), cpy_out (by omega)]
/-- a moment's slots that count, of p and q -/
theorem mTk_lv {p q : Int} (hcd : p + 5 ≤ q ∨ q + 5 ≤ p) {a k : Int} (hp : 0 ≤ a) (ha : (a = 0 ∧ 4 ≤ k ∧ k ≤ 5) ∨ (1 ≤ a ∧ a ≤ 3 ∧ 0 ≤ k ∧ k < 3) ∨ (a = 4 ∧ 0 ≤ k ∧ k < 8)) : mTk h p q (p + a) k = h (q + a) k := by
  obtain ⟨m1, m2, m3, m4, m5⟩ := mTk_o (h := h) hcd
  have ha5 : a = 0 ∨ a = 1 ∨ a = 2 ∨ a = 3 ∨ a = 4 := by omega
  rcases ha5 with rfl | rfl | rfl | rfl | rfl
  · have : k = 4 ∨ k = 5 := by omega
    rw [Int.add_zero, Int.add_zero]
    rcases this with rfl | rfl
    · exact m3
    · exact m4
  · exact (m1 k (by omega) (by omega)).1
  · exact (m1 k (by omega) (by omega)).2.1
  · exact (m1 k (by omega) (by omega)).2.2
  · exact m2 k (by omega) (by omega)
theorem s_keep (hn : h 95 1 = (nx : Int)) (h8 : nx < 8) (hK : h 95 2 = (K : Int)) (hK8 : K ≤ 8) : wp 111 (am_ju 111 0) [aP 95, aP 90] [] (sT h) Q ↔ Q aV (sT (up (up (mTk h (97 + 5 * nx) 90) 95 1 (((nx + 1) % 8 : Nat) : Int)) 95 2 (if K = 8 then 8 else ((K + 1 : Nat) : Int)))) := by
  obtain ⟨mp, -, rp, -⟩ := mo_p nx h8
  have n2 : (nx : Int) < 8 := by omega
  have n0 : (0 : Int) ≤ nx := by omega
  have kk : kd 96 = 22 ∨ kd 96 = 23 := Or.inl kd_96
  have kp : kd (97 + 5 * (nx : Int)) = 3 := mp.1.1
  have r0 : (0 : Int) ≤ rR 96 nx := by rw [rp]; omega
  obtain ⟨-, -, -, -, m5⟩ := mTk_o (h := h) (c := 97 + 5 * (nx : Int)) (d := 90) (by omega)
  have e1 : mTk h (97 + 5 * (nx : Int)) 90 95 1 = (nx : Int) := by rw [m5 95 (by omega), hn]
  have e2 : ∀ v, up (mTk h (97 + 5 * (nx : Int)) 90) 95 1 v 95 2 = (K : Int) := fun v => by rw [up_k (by decide), m5 95 (by omega), hK]
  have e3 : iRm ((nx : Int) + 1) 8 = (((nx + 1) % 8 : Nat) : Int) := by rw [iRm_n (by omega) (by omega) (by omega) (by omega)]; omega
  have e4 : (if (8 : Int) < (K : Int) + 1 then (8 : Int) else (K : Int) + 1) = if K = 8 then 8 else ((K + 1 : Nat) : Int) := by
    by_cases e : K = 8
    · rw [if_pos (by omega), if_pos e]
    · rw [if_neg (by omega), if_neg e]; omega
  simp (disch := first | assumption | omega | exact w8_0 | exact w8_1 _ | exact w8_2 _ _ | exact w8_3 _ _ _ | exact w8_4 _ _ _ _ | exact nl_I _ | exact nl_P _ | exact nl_X | decide | exact w8_5 _ _ _ _ _) only [ju_111_0, r_aLD0, r_gR, r_gI, r_aALD, r_aLD1, cl_110, r_iCONST, r_iADD, r_bPUSH, r_iREM, r_pI, r_MMIN, r_vRET, eq_self, Int.reduceLT, Int.reduceLE, Int.reduceEq, true_or, or_true, and_self, true_and, and_true, w8_0, w8_1, w8_2, w8_3, w8_4, nl_I, nl_P, nl_X, pu_I, pu_J, pu_V, w3_id, Int.add_zero, kd_95, rR_95_0, kk, hn, r0, rp, ln_96, and_self, true_and, kp, s_mTake mp mo_90, e1, ne_eq, Int.reduceEq, not_false_eq_true, e2, e3, e4]
  exact and_iff_right ⟨n0, n2⟩
theorem s_back (hn : h 95 1 = (nx : Int)) (h8 : nx < 8) (hK : h 95 2 = (K : Int)) (hK8 : K ≤ 8) (hK0 : K ≠ 0) : wp 127 (am_ju 127 0) [aP 95, aP 90] [] (sT h) Q ↔ Q aV (sT (mTk (up (up h 95 1 (((nx + 7) % 8 : Nat) : Int)) 95 2 ((K - 1 : Nat) : Int)) 90 (97 + 5 * (((nx + 7) % 8 : Nat) : Int)))) := by
  have hp : (nx + 7) % 8 < 8 := Nat.mod_lt _ (by decide)
  have e3 : iRm ((nx : Int) + 8 - 1) 8 = (((nx + 7) % 8 : Nat) : Int) := by rw [iRm_n (by omega) (by omega) (by omega) (by omega)]; omega
  generalize (nx + 7) % 8 = p at hp e3 ⊢
  obtain ⟨mp, -, rp, -⟩ := mo_p p hp
  have n2 : (p : Int) < 8 := by omega
  have n0 : (0 : Int) ≤ p := by omega
  have kk : kd 96 = 22 ∨ kd 96 = 23 := Or.inl kd_96
  have kp : kd (97 + 5 * (p : Int)) = 3 := mp.1.1
  have r0 : (0 : Int) ≤ rR 96 p := by rw [rp]; omega
  have e1 : ∀ v, up (up h 95 1 (p : Int)) 95 2 v 95 1 = (p : Int) := fun v => by rw [up_k (by decide), up_s]
  have e2 : up h 95 1 (p : Int) 95 2 = (K : Int) := by rw [up_k (by decide), hK]
  have e4 : (K : Int) - 1 = ((K - 1 : Nat) : Int) := by omega
  have k0 : ¬ ((K : Int) = 0) := by omega
  simp (disch := first | assumption | omega | exact w8_0 | exact w8_1 _ | exact w8_2 _ _ | exact w8_3 _ _ _ | exact w8_4 _ _ _ _ | exact nl_I _ | exact nl_P _ | exact nl_X | decide | exact w8_5 _ _ _ _ _) only [ju_127_0, ju_127_4, r_aLD0, r_gI, r_IF1, r_vRET, r_bPUSH, r_iADD, r_iCONST, r_iSUB, r_iREM, r_pI, r_DUPI, r_DUPP, r_aLD1, r_gR, r_aALD, cl_110, eq_self, Int.reduceLT, Int.reduceLE, Int.reduceEq, true_or, or_true, and_self, true_and, and_true, w8_0, w8_1, w8_2, w8_3, w8_4, nl_I, nl_P, nl_X, pu_I, pu_J, pu_V, w3_id, Int.add_zero, kd_90, kd_95, rR_95_0, kk, hn, hK, k0, if_true, r0, rp, ln_96, and_self, true_and, kp, s_mTake mo_90 mp, e1, ne_eq, Int.reduceEq, not_false_eq_true, e2, e3, e4]
  exact and_iff_right ⟨n0, n2⟩
end MT
