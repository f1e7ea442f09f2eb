/-- the class's store behind a step -/
def SA (h h1 : am_F) (n nb s K nx : Nat) (so j : Int) : Prop := (∀ a, (a < 80 ∨ 136 < a) → a ≠ 58 → h1 a = h a) ∧ (∀ a, 81 ≤ a → a ≤ 89 → h1 a = h a) ∧ (h1 90 4 = ((s + 1 : Nat) : Int) ∧ h1 90 5 = if so = 3 then dr (h 90 5) else h 90 5) ∧ (∀ b : Nat, b < nb → h1 91 b = (cc h n so j b).1 ∧ h1 92 b = (cc h n so j b).2.1 ∧ h1 93 b = ((cc h n so j b).2.2.1 : Int)) ∧ (∀ t : Nat, t < n → h1 94 t = if (flC h n so j nb).testBit t = true then 10 + (s : Int) else h 94 t) ∧ (h1 95 1 = (((nx + 1) % 8 : Nat) : Int) ∧ h1 95 2 = ((K + 1 - dl K : Nat) : Int)) ∧ ((h1 (97 + 5 * (nx : Int)) 4 = h 90 4 ∧ h1 (97 + 5 * (nx : Int)) 5 = h 90 5) ∧ (∀ b : Nat, b < 3 → h1 (98 + 5 * (nx : Int)) b = h 91 b ∧ h1 (99 + 5 * (nx : Int)) b = h 92 b ∧ h1 (100 + 5 * (nx : Int)) b = h 93 b) ∧ ∀ t : Nat, t < 8 → h1 (101 + 5 * (nx : Int)) t = h 94 t) ∧ ∀ a, 97 ≤ a → a ≤ 136 → (a < 97 + 5 * (nx : Int) ∨ 101 + 5 * (nx : Int) < a) → h1 a = h a
section SU
variable {g h h' h1 h2 : am_F} {Q : am_V → am_S → Prop} {so j x : Int} {n nb L s K nx b t f p : Nat}
def cKp (h : am_F) (K nx : Nat) : am_F := up (up (mTk h (97 + 5 * (nx : Int)) 90) 95 1 (((nx + 1) % 8 : Nat) : Int)) 95 2 (if K = 8 then 8 else ((K + 1 : Nat) : Int))
theorem cKp_o (h8 : nx < 8) : (∀ a, (a < 97 + 5 * (nx : Int) ∨ 101 + 5 * (nx : Int) < a) → a ≠ 95 → cKp h K nx a = h a) ∧ (cKp h K nx 95 1 = (((nx + 1) % 8 : Nat) : Int) ∧ cKp h K nx 95 2 = ((K + 1 - dl K : Nat) : Int)) ∧ ((cKp h K nx (97 + 5 * (nx : Int)) 4 = h 90 4 ∧ cKp h K nx (97 + 5 * (nx : Int)) 5 = h 90 5) ∧ (∀ b : Nat, b < 3 → cKp h K nx (98 + 5 * (nx : Int)) b = h 91 b ∧ cKp h K nx (99 + 5 * (nx : Int)) b = h 92 b ∧ cKp h K nx (100 + 5 * (nx : Int)) b = h 93 b) ∧ ∀ t : Nat, t < 8 → cKp h K nx (101 + 5 * (nx : Int)) t = h 94 t) := by
  obtain ⟨m1, m2, m3, m4, m5⟩ := mTk_o (h := h) (c := 97 + 5 * (nx : Int)) (d := 90) (by omega)
  unfold cKp
  refine ⟨fun a q1 q2 => by rw [up_ne q2, up_ne q2, m5 a (by omega)], ⟨by rw [up_k (by decide), up_s], ?_⟩, ⟨by rw [up_ne (by omega), up_ne (by omega), m3], by rw [up_ne (by omega), up_ne (by omega), m4]⟩, fun b hb => ?_, fun t ht => ?_⟩
  · rw [up_s]
    unfold dl
    by_cases e : K = 8
    · rw [if_pos e, if_pos e, e]; rfl
    · rw [if_neg e, if_neg e]; rfl
  · have := m1 b (by omega) (by omega)
    rw [show (98 : Int) + 5 * nx = 97 + 5 * nx + 1 by omega, show (99 : Int) + 5 * nx = 97 + 5 * nx + 2 by omega, show (100 : Int) + 5 * nx = 97 + 5 * nx + 3 by omega]
    rw [up_ne (by omega), up_ne (by omega), up_ne (by omega), up_ne (by omega), up_ne (by omega), up_ne (by omega)]
    exact this
  · have := m2 t (by omega) (by omega)
    rw [show (101 : Int) + 5 * nx = 97 + 5 * nx + 4 by omega]
    rw [up_ne (by omega), up_ne (by omega)]
    exact this
theorem SA_of (h8 : nx < 8) (hg1 : ∀ a, (a < 97 + 5 * (nx : Int) ∨ 101 + 5 * (nx : Int) < a) → a ≠ 95 → a ≠ 90 → g a = h a) (hg2 : ∀ a, 95 ≤ a → a ≤ 136 → g a = cKp h K nx a) (hg4 : g 90 5 = if so = 3 then dr (h 90 5) else h 90 5) (hI : WI g h' n so j nb) : SA h (up (wF h' (flC h n so j nb) (10 + s) n) 90 4 ((s + 1 : Nat) : Int)) n nb s K nx so j := by
  obtain ⟨i1, i2, i3⟩ := hI
  obtain ⟨k1, k2, k3, k4, k5⟩ := cKp_o (h := h) (K := K) h8
  have ec : ∀ a, 82 ≤ a → a ≤ 94 → a ≠ 90 → g a = h a := fun a q1 q2 q3 => hg1 a (by omega) (by omega) q3
  have f0 : ∀ a, a ≠ 90 → a ≠ 94 → a ≠ 58 → a ≠ 91 → a ≠ 92 → a ≠ 93 → up (wF h' (flC h n so j nb) (10 + s) n) 90 4 ((s + 1 : Nat) : Int) a = g a := fun a q1 q2 q3 q4 q5 q6 => by rw [up_ne q1, wF_ne q2, i3 a q3 q4 q5 q6]
  have f1 : ∀ a, 95 ≤ a → a ≤ 136 → up (wF h' (flC h n so j nb) (10 + s) n) 90 4 ((s + 1 : Nat) : Int) a = cKp h K nx a := fun a q1 q2 => by rw [f0 a (by omega) (by omega) (by omega) (by omega) (by omega) (by omega), hg2 a q1 q2]
  refine ⟨fun a q1 q2 => ?_, fun a q1 q2 => ?_, ⟨up_s, ?_⟩, fun b hb => ?_, fun t ht => ?_, ?_, ⟨?_, fun b hb => ?_, fun t ht => ?_⟩, fun a q1 q2 q3 => ?_⟩
  · rw [f0 a (by omega) (by omega) q2 (by omega) (by omega) (by omega), hg1 a (by omega) (by omega) (by omega)]
  · rw [f0 a (by omega) (by omega) (by omega) (by omega) (by omega) (by omega), hg1 a (by omega) (by omega) (by omega)]
  · rw [up_k (by decide), wF_ne (by decide), i3 90 (by decide) (by decide) (by decide) (by decide), hg4]
  · have := i1 b hb
    rw [cc_c ec] at this
    rw [up_ne (by decide), up_ne (by decide), up_ne (by decide), wF_ne (by decide), wF_ne (by decide), wF_ne (by decide)]
    exact this
  · rw [up_ne (by decide), wF_at, i3 94 (by decide) (by decide) (by decide) (by decide), ec 94 (by decide) (by decide) (by decide)]
    by_cases z : (flC h n so j nb).testBit t = true
    · rw [if_pos ⟨ht, z⟩, if_pos z]
    · rw [if_neg (fun q => z q.2), if_neg z]
  · rw [f1 95 (by decide) (by decide)]; exact k2
  · rw [f1 _ (by omega) (by omega)]; exact k3
  · rw [f1 _ (by omega) (by omega), f1 _ (by omega) (by omega), f1 _ (by omega) (by omega)]; exact k4 b hb
  · rw [f1 _ (by omega) (by omega)]; exact k5 t ht
  · rw [f1 a (by omega) q2, k1 a q3 (by omega)]
theorem s_drawJolt : wp 112 (am_ju 112 0) [aP 90] [] (sT h) Q ↔ Q (aI (dj (h 90 5))) (sT (up h 90 5 (dr (h 90 5)))) := by
  have e : up h 90 5 (dr (h 90 5)) 90 5 = dr (h 90 5) := up_s
  simp only [ju_112_0, r_aLD0, r_gI, r_LDC, r_iMUL, r_sPUSH, r_iADD, r_iAND, r_pI, r_iDIV, r_bPUSH, r_iREM, r_iRET, eq_self, Int.reduceLT, Int.reduceLE, Int.reduceEq, true_or, or_true, and_self, true_and, and_true, w8_0, w8_1, w8_2, w8_3, w8_4, nl_I, nl_P, nl_X, pu_I, pu_J, pu_V, kd_90, dr_c, e, dj_c, ne_eq, Int.reduceEq, not_false_eq_true]
theorem CO_c (e : ∀ a, 81 ≤ a → a ≤ 93 → a ≠ 90 → g a = h a) (e4 : g 90 4 = h 90 4) (hC : CO h n nb L s) : CO g n nb L s := by
  unfold CO at hC ⊢
  rw [e 81 (by decide) (by decide) (by decide), e 88 (by decide) (by decide) (by decide), e4, e 83 (by decide) (by decide) (by decide), e 84 (by decide) (by decide) (by decide), e 85 (by decide) (by decide) (by decide), e 82 (by decide) (by decide) (by decide), e 91 (by decide) (by decide) (by decide), e 92 (by decide) (by decide) (by decide), e 93 (by decide) (by decide) (by decide)]
  exact hC
theorem jl_dj {d : Int} : (so = 3 → jl so d = d) ∧ (so ≠ 3 → jl so 0 = jl so d) := by
  unfold jl
  constructor
  · intro e; rw [if_neg (by omega), if_neg (by omega), if_pos e]
  · intro e; rw [if_neg e, if_neg e]
theorem s_walk (hC : CO h n nb L s) (hsL : s < L) (hn : h 95 1 = (nx : Int)) (h8 : nx < 8) (hK : h 95 2 = (K : Int)) (hK8 : K ≤ 8) (hso : h 89 s = so) (hq : ∀ h1, SA h h1 n nb s K nx so (jl so (dj (h 90 5))) → Q (aI (flC h n so (jl so (dj (h 90 5))) nb : Int)) (sT h1)) : wp 118 (am_ju 118 0) [aP 80, aP 58, aX, aX, aX, aX] [] (sT h) Q := by
  obtain ⟨c1, c2, c3, c4, c5, c6, c7, c8, c9, c10⟩ := id hC
  obtain ⟨k1, k2, k3, k4, k5⟩ := cKp_o (h := h) (K := K) h8
  rw [ju_118_0]
  simp only [r_aLD0, r_gR, cl_111, r_gI, cl_100, r_iST2, r_iLD2, r_iCONST, r_IC1, cl_112, r_GOTO, cl_113, r_iST3, r_iST4, r_iST5, r_iLD5, r_IC3, r_aLD1, cl_39, cl_42, r_iLD4, r_iLD3, cl_117, r_iOR, r_iAST, r_IINC5, cl_29, r_IF0, r_bPUSH, r_iADD, r_DUPI, r_DUPP, r_pI, r_iRET, eq_self, Int.reduceLT, Int.reduceLE, Int.reduceEq, true_or, or_true, and_self, true_and, and_true, w8_0, w8_1, w8_2, w8_3, w8_4, nl_I, nl_P, nl_X, pu_I, pu_J, pu_V, kd_80, ln_80, rR_80_0, rR_80_1, rR_80_2, rR_80_3, kd_95, ln_95, rR_95_0, s_keep hn h8 hK hK8]
  rw [show up (up (mTk h (97 + 5 * (nx : Int)) 90) 95 1 (((nx + 1) % 8 : Nat) : Int)) 95 2 (if K = 8 then 8 else ((K + 1 : Nat) : Int)) = cKp h K nx from rfl]
  have e90 : cKp h K nx 90 = h 90 := k1 90 (by omega) (by decide)
  have es : sortI (cKp h K nx) s = so := by
    unfold sortI
    rw [k1 88 (by omega) (by decide), k1 89 (by omega) (by decide), if_pos ⟨by omega, by omega, by omega⟩, hso]
  have hdj := dj_r (h 90 5)
  have hj7 := jl_r (so := so) hdj
  simp only [r_aLD0, r_gR, cl_111, r_gI, cl_100, r_iST2, r_iLD2, r_iCONST, r_IC1, cl_112, r_GOTO, cl_113, r_iST3, r_iST4, r_iST5, r_iLD5, r_IC3, r_aLD1, cl_39, cl_42, r_iLD4, r_iLD3, cl_117, r_iOR, r_iAST, r_IINC5, cl_29, r_IF0, r_bPUSH, r_iADD, r_DUPI, r_DUPP, r_pI, r_iRET, eq_self, Int.reduceLT, Int.reduceLE, Int.reduceEq, true_or, or_true, and_self, true_and, and_true, w8_0, w8_1, w8_2, w8_3, w8_4, nl_I, nl_P, nl_X, pu_I, pu_J, pu_V, kd_80, ln_80, rR_80_0, rR_80_1, rR_80_2, rR_80_3, kd_88, ln_88, rR_88_0, kd_90, ln_90, rR_90_0, rR_90_1, rR_90_2, rR_90_3, e90, c7, s_sortAt, es]
  by_cases z : so = 3
  · rw [if_neg (by simpa using z)]
    simp only [r_aLD0, r_gR, cl_111, r_gI, cl_100, r_iST2, r_iLD2, r_iCONST, r_IC1, cl_112, r_GOTO, cl_113, r_iST3, r_iST4, r_iST5, r_iLD5, r_IC3, r_aLD1, cl_39, cl_42, r_iLD4, r_iLD3, cl_117, r_iOR, r_iAST, r_IINC5, cl_29, r_IF0, r_bPUSH, r_iADD, r_DUPI, r_DUPP, r_pI, r_iRET, eq_self, Int.reduceLT, Int.reduceLE, Int.reduceEq, true_or, or_true, and_self, true_and, and_true, w8_0, w8_1, w8_2, w8_3, w8_4, nl_I, nl_P, nl_X, pu_I, pu_J, pu_V, kd_80, ln_80, rR_80_0, rR_80_1, rR_80_2, rR_80_3, kd_90, ln_90, rR_90_0, rR_90_1, rR_90_2, rR_90_3, s_drawJolt, e90]
    rw [← (jl_dj (d := dj (h 90 5))).1 z]
    have ec : ∀ a, (a < 97 + 5 * (nx : Int) ∨ 101 + 5 * (nx : Int) < a) → a ≠ 95 → a ≠ 90 → up (cKp h K nx) 90 5 (dr (h 90 5)) a = h a := fun a q1 q2 q3 => by rw [up_ne q3, k1 a q1 q2]
    refine s_walk26 (CO_c (fun a q1 q2 q3 => ec a (by omega) (by omega) q3) (by rw [up_k (by decide), e90]) hC) hj7 (fun g hG => ?_)
    rw [flC_c (fun a q1 q2 q3 => ec a (by omega) (by omega) q3)]
    refine hq _ (SA_of h8 ec (fun a q1 q2 => by rw [up_ne (by omega)]) (by rw [up_s, if_pos z]) hG)
  · rw [if_pos z, ju_118_19]
    simp only [r_aLD0, r_gR, cl_111, r_gI, cl_100, r_iST2, r_iLD2, r_iCONST, r_IC1, cl_112, r_GOTO, cl_113, r_iST3, r_iST4, r_iST5, r_iLD5, r_IC3, r_aLD1, cl_39, cl_42, r_iLD4, r_iLD3, cl_117, r_iOR, r_iAST, r_IINC5, cl_29, r_IF0, r_bPUSH, r_iADD, r_DUPI, r_DUPP, r_pI, r_iRET, eq_self, Int.reduceLT, Int.reduceLE, Int.reduceEq, true_or, or_true, and_self, true_and, and_true, w8_0, w8_1, w8_2, w8_3, w8_4, nl_I, nl_P, nl_X, pu_I, pu_J, pu_V, kd_80, ln_80, rR_80_0, rR_80_1, rR_80_2, rR_80_3, kd_88, ln_88, rR_88_0, kd_90, ln_90, rR_90_0, rR_90_1, rR_90_2, rR_90_3, e90, c7, s_joltAt, es]
    rw [(jl_dj (d := dj (h 90 5))).2 z]
    have ec : ∀ a, (a < 97 + 5 * (nx : Int) ∨ 101 + 5 * (nx : Int) < a) → a ≠ 95 → a ≠ 90 → cKp h K nx a = h a := fun a q1 q2 q3 => k1 a q1 q2
    refine s_walk26 (CO_c (fun a q1 q2 q3 => ec a (by omega) (by omega) q3) (by rw [e90]) hC) hj7 (fun g hG => ?_)
    rw [flC_c (fun a q1 q2 q3 => ec a (by omega) (by omega) q3)]
    refine hq _ (SA_of h8 ec (fun a q1 q2 => rfl) (by rw [e90, if_neg z]) hG)
theorem s_left (hL : h 88 1 = (L : Int)) (hs : h 90 4 = (s : Int)) (hL2 : L ≤ 20) (hsL : s ≤ L) : wp 109 (am_ju 109 0) [aP 80] [] (sT h) Q ↔ Q (aI ((L - s : Nat) : Int)) (sT h) := by
  have e : (if (0 : Int) < (L : Int) - (s : Int) then (L : Int) - (s : Int) else 0) = ((L - s : Nat) : Int) := by split <;> omega
  simp (disch := first | assumption | omega | exact w8_0 | exact w8_1 _ | exact w8_2 _ _ | exact w8_3 _ _ _ | exact w8_4 _ _ _ _ | exact nl_I _ | exact nl_P _ | exact nl_X | decide | exact w8_5 _ _ _ _ _) only [ju_109_0, r_iCONST, r_aLD0, r_gR, r_gI, r_iSUB, r_MMAX, r_iRET, eq_self, Int.reduceLT, Int.reduceLE, Int.reduceEq, true_or, or_true, and_self, true_and, and_true, w8_0, w8_1, w8_2, w8_3, w8_4, nl_I, nl_P, nl_X, pu_I, pu_J, pu_V, w3_id, Int.add_zero, kd_80, kd_88, kd_90, rR_80_1, rR_80_2, hL, hs, e]
theorem s_Tstep (hC : CO h n nb L s) (hn : h 95 1 = (nx : Int)) (h8 : nx < 8) (hK : h 95 2 = (K : Int)) (hK8 : K ≤ 8) (hso : s < L → h 89 s = so) (hq : ∀ h1, s < L → SA h h1 n nb s K nx so (jl so (dj (h 90 5))) → Q (aI (flC h n so (jl so (dj (h 90 5))) nb : Int)) (sT h1)) (hq0 : s = L → Q (aI (-2)) (sT h)) : wp 119 (am_ju 119 0) [aP 0] [] (sT h) Q := by
  obtain ⟨c1, c2, c3, c4, c5, c6, c7, c8, c9, c10⟩ := id hC
  simp only [ju_119_0, r_aLD0, r_gR, cl_109, r_IF1, r_bPUSH, r_iRET, cl_118, eq_self, Int.reduceLT, Int.reduceLE, Int.reduceEq, true_or, or_true, and_self, true_and, and_true, w8_0, w8_1, w8_2, w8_3, w8_4, nl_I, nl_P, nl_X, pu_I, pu_J, pu_V, kd_0, ln_0, rR_0_0, rR_0_1, rR_0_3, rR_0_4, rR_0_5, rR_0_6, rR_0_7, rR_0_8, rR_0_9, rR_0_10, kd_80, ln_80, rR_80_0, rR_80_1, rR_80_2, rR_80_3, s_left c5 c7 c6 c8]
  by_cases z : s = L
  · rw [if_neg (by omega)]
    exact hq0 z
  · rw [if_pos (by omega), ju_119_6]
    simp only [r_aLD0, r_gR, cl_109, r_IF1, r_bPUSH, r_iRET, cl_118, eq_self, Int.reduceLT, Int.reduceLE, Int.reduceEq, true_or, or_true, and_self, true_and, and_true, w8_0, w8_1, w8_2, w8_3, w8_4, nl_I, nl_P, nl_X, pu_I, pu_J, pu_V, kd_0, ln_0, rR_0_0, rR_0_1, rR_0_3, rR_0_4, rR_0_5, rR_0_6, rR_0_7, rR_0_8, rR_0_9, rR_0_10, kd_80, ln_80, rR_80_0, rR_80_1, rR_80_2, rR_80_3]
    refine s_walk hC (by omega) hn h8 hK hK8 (hso (by omega)) (fun h1 hS => ?_)
    simp only [r_aLD0, r_gR, cl_109, r_IF1, r_bPUSH, r_iRET, cl_118, eq_self, Int.reduceLT, Int.reduceLE, Int.reduceEq, true_or, or_true, and_self, true_and, and_true, w8_0, w8_1, w8_2, w8_3, w8_4, nl_I, nl_P, nl_X, pu_I, pu_J, pu_V]
    exact hq h1 (by omega) hS
end SU
