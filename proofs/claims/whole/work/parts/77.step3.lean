/-- the reference's store behind a step -/
def SB (h h2 : am_F) (n nb s K : Nat) (so j : Int) : Prop := ((∀ a, a ≠ 149 → a ≠ 150 → h2 a = h a) ∧ ∀ k, k < 11 → h2 149 k = h 149 k) ∧ ((∀ k, k < 3 → h2 150 k = h 150 k) ∧ h2 150 3 = ((s + 1 : Nat) : Int) ∧ (h2 150 4 = if so = 3 then dr (h 150 4) else h 150 4) ∧ h2 150 5 = ((K + 1 - dl K : Nat) : Int)) ∧ (∀ b : Nat, b < nb → h2 150 (6 + 4 * b) = h 150 (6 + 4 * b) ∧ h2 150 (6 + 4 * b + 1) = (mC h 150 b n so j).1 ∧ h2 150 (6 + 4 * b + 2) = (mC h 150 b n so j).2.1 ∧ h2 150 (6 + 4 * b + 3) = ((mC h 150 b n so j).2.2.1 : Int)) ∧ (∀ t : Nat, t < n → h2 150 (18 + 6 * t + 5) = (if (fL h 150 n so j nb).testBit t = true then 10 + (s : Int) else h 150 (18 + 6 * t + 5)) ∧ ∀ m : Int, 0 ≤ m → m ≤ 4 → h2 150 (18 + 6 * t + m) = h 150 (18 + 6 * t + m)) ∧ (∀ k, 66 ≤ k → k < 86 → h2 150 k = h 150 k) ∧ ∀ k, 86 ≤ k → h2 150 k = rNo h K 150 k
section SV
variable {g h h' h1 h2 r : am_F} {Q : am_V → am_S → Prop} {so j x bj : Int} {n nb L s K nx b t f p : Nat}
theorem fL_p {c : Int} (h8 : n ≤ 8) (e : ∀ k : Int, 6 ≤ k → k < 66 → h1 c k = h2 c k) : ∀ B : Nat, B ≤ 3 → fL h1 c n so j B = fL h2 c n so j B := by
  intro B
  induction B with
  | zero => intro _; rfl
  | succ B ih => intro hB; rw [fL, fL, ih (by omega), mC_p h8 e (by omega)]
theorem RO_p {c : Int} (e : ∀ k : Int, k < 3 ∨ (6 ≤ k ∧ k < 66) → g c k = h c k) (hR : RO h c n nb L) : RO g c n nb L := by
  obtain ⟨r0, r1, r2, r3, r4, r5, r6, r7⟩ := hR
  refine ⟨by rw [e _ (by omega)]; exact r0, r1, by rw [e _ (by omega)]; exact r2, r3, by rw [e _ (by omega)]; exact r4, r5, fun t ht => ?_, fun b hb => ?_⟩
  · rw [e _ (by omega), e _ (by omega), e _ (by omega)]; exact r6 t ht
  · unfold bk; rw [e _ (by omega), e _ (by omega), e _ (by omega), e _ (by omega)]; exact r7 b hb
set_option maxHeartbeats 1000000 in
theorem step51 (hR : RO h 150 n nb L) (h3 : h 150 3 = (s : Int)) (hsL : s < L) (hso : h 150 (66 + s) = so) (hbj : 0 ≤ bj ∧ bj ≤ 7) (e1 : ∀ k : Int, k ≠ 4 → k ≠ 5 → k < 86 → r 150 k = h 150 k) (e4 : r 150 4 = if so = 3 then dr (h 150 4) else h 150 4) (e5 : r 150 5 = ((K + 1 - dl K : Nat) : Int)) (e6 : ∀ k, 86 ≤ k → r 150 k = rNo h K 150 k) (e7 : ∀ a, a ≠ 150 → r a = h a) (hq : ∀ h2, SB h h2 n nb s K so (jl so bj) → Q (aI (fL h 150 n so (jl so bj) nb : Int)) (sT h2)) : wp 126 (am_ju 126 51) [aP 149, aI bj] [] (sT r) Q := by
  have hRr : RO (up r 149 14 (-1)) 150 n nb L := RO_p (fun k q => by rw [up_ne (by decide), e1 k (by omega) (by omega) (by omega)]) hR
  obtain ⟨r0, r1, r2, r3, r4, r5, r6, r7⟩ := id hRr
  rw [ju_126_51]
  simp only [r_aLD0, r_gR, r_iCONST, r_iALD, r_iALDs, r_IC1, r_bPUSH, r_iRET, cl_120, r_iST1, r_iADD, r_ITL, r_LDC2, r_lMUL, r_lADD, r_lAND, r_LTI, r_iAST, r_LDC, r_iDIV, r_iREM, r_pI, r_iLD1, cl_125, eq_self, Int.reduceLT, Int.reduceLE, Int.reduceEq, true_or, or_true, and_self, true_and, and_true, w8_0, w8_1, w8_2, w8_3, w8_4, nl_I, nl_P, nl_X, pu_I, pu_J, pu_V, kd_149, ln_149, rR_149_0, rR_149_1, rR_149_2, rR_149_3, rR_149_5, rR_149_7, rR_149_8, rR_149_9, rR_149_10, rR_149_16, rR_149_17, rR_149_18, kd_150, ln_150]
  refine s_goes (so := so) (st := (s : Int)) (nb := nb) (n := n) kd_150 (by decide) ln_150 r3 r2 r0 r1 r6 r7 hbj (by rw [up_ne (by decide), e1 3 (by decide) (by decide) (by decide), h3]) ⟨by omega, by omega⟩ (by rw [up_ne (by decide), e1 _ (by omega) (by omega) (by omega), hso]) (fun h' hG => ?_)
  have rw0 : ∀ k : Int, h00 (up r 149 14 (-1)) 150 k = r 150 k := fun k => by unfold h00; rw [up_ne (by decide), up_ne (by decide), up_ne (by decide)]
  have el : ∀ k : Int, 6 ≤ k → k < 66 → h00 (up r 149 14 (-1)) 150 k = h 150 k := fun k q1 q2 => by rw [rw0, e1 k (by omega) (by omega) (by omega)]
  rw [fL_p r3 el nb r1]
  simp only [r_aLD0, r_gR, r_iCONST, r_iALD, r_iALDs, r_IC1, r_bPUSH, r_iRET, cl_120, r_iST1, r_iADD, r_ITL, r_LDC2, r_lMUL, r_lADD, r_lAND, r_LTI, r_iAST, r_LDC, r_iDIV, r_iREM, r_pI, r_iLD1, cl_125, eq_self, Int.reduceLT, Int.reduceLE, Int.reduceEq, true_or, or_true, and_self, true_and, and_true, w8_0, w8_1, w8_2, w8_3, w8_4, nl_I, nl_P, nl_X, pu_I, pu_J, pu_V]
  refine hq _ ?_
  obtain ⟨g1, g2, g3, g4, g5, g6, g7⟩ := hG
  have oth : ∀ k : Int, k < 6 ∨ 66 ≤ k → h' 150 k = r 150 k := fun k q => by
    rcases g2 k with z | ⟨u, z1, z2⟩ | z
    · omega
    · omega
    · rw [z, rw0]
  refine ⟨⟨fun a q1 q2 => ?_, fun k q => ?_⟩, ⟨fun k q => ?_, by rw [up_s]; omega, ?_, ?_⟩, fun b hb => ?_, fun t ht => ⟨?_, fun m m0 m1 => ?_⟩, fun k q1 q2 => ?_, fun k q => ?_⟩
  · rw [up_ne q2, g4 a q2 q1]
    unfold h00
    rw [up_ne q1, up_ne q1, up_ne q1, e7 a q2]
  · rw [up_ne (by decide), g5 k (by omega) (by omega)]
    unfold h00
    rw [up_k (by omega), up_k (by omega), up_k (by omega), e7 149 (by decide)]
  · rw [up_k (by omega), oth k (by omega), e1 k (by omega) (by omega) (by omega)]
  · rw [up_k (by omega), oth 4 (by omega), e4]
  · rw [up_k (by omega), oth 5 (by omega), e5]
  · have z := g1 b hb
    rw [mC_p r3 el (by omega), el _ (by omega) (by omega)] at z
    rw [up_k (by omega), up_k (by omega), up_k (by omega), up_k (by omega)]
    exact z
  · rw [up_k (by omega), g3 t ht, fL_p r3 el nb r1, el _ (by omega) (by omega)]
  · rw [up_k (by omega)]
    rcases g2 (18 + 6 * t + m) with z | ⟨u, z1, z2⟩ | z
    · omega
    · omega
    · rw [z, el _ (by omega) (by omega)]
  · rw [up_k (by omega), oth k (by omega), e1 k (by omega) (by omega) q2]
  · rw [up_k (by omega), oth k (by omega), e6 k q]
theorem s_Rstep (hR : RO h 150 n nb L) (h3 : h 150 3 = (s : Int)) (hsL : s ≤ L) (hK : h 150 5 = (K : Int)) (hK8 : K ≤ 8) (hd : 0 ≤ h 150 4 ∧ h 150 4 < 2147483648) (hso : s < L → h 150 (66 + s) = so) (hq : ∀ h2, s < L → SB h h2 n nb s K so (jl so (dj (h 150 4))) → Q (aI (fL h 150 n so (jl so (dj (h 150 4))) nb : Int)) (sT h2)) (hq0 : s = L → Q (aI (-2)) (sT h)) : wp 126 (am_ju 126 0) [aP 149, aX] [] (sT h) Q := by
  have l1 := ln_150
  have k1 := kd_150
  obtain ⟨r0, r1, r2, r3, r4, r5, r6, r7⟩ := id hR
  rw [ju_126_0]
  simp (disch := first | assumption | omega | exact w8_0 | exact w8_1 _ | exact w8_2 _ _ | exact w8_3 _ _ _ | exact w8_4 _ _ _ _ | exact nl_I _ | exact nl_P _ | exact nl_X | decide | exact w8_5 _ _ _ _ _) only [r_aLD0, r_gR, r_iCONST, r_iALDc, r_iALDs, r_IC1, r_bPUSH, r_iRET, cl_120, r_iST1, r_iADD, r_ITL, r_LDC2, r_lMUL, r_lADD, r_lAND, r_LTI, r_iASTc, r_LDC, r_iDIV, r_iREM, r_pI, r_iLD1, cl_125, eq_self, Int.reduceLT, Int.reduceLE, Int.reduceEq, true_or, or_true, and_self, true_and, and_true, w8_0, w8_1, w8_2, w8_3, w8_4, nl_I, nl_P, nl_X, pu_I, pu_J, pu_V, w3_id, Int.add_zero, kd_149, rR_149_0, h3, r4]
  by_cases z : s = L
  · rw [if_neg (by omega)]
    exact hq0 z
  · have hs : s < L := by omega
    have hso := hso hs
    obtain ⟨n1, n2, -, -, n5⟩ := rNo_o (h := h) hK8
    have m3 : rNo h K 150 3 = (s : Int) := by rw [n1 3 (by decide) (by decide), h3]
    have mso : rNo h K 150 (66 + (s : Int)) = so := by rw [n1 _ (by omega) (by omega), hso]
    have m4 : rNo h K 150 4 = h 150 4 := n1 4 (by decide) (by decide)
    rw [if_pos (by omega), ju_126_11]
    simp only [r_aLD0, r_gR, r_iCONST, r_iALD, r_iALDs, r_IC1, r_bPUSH, r_iRET, cl_120, r_iST1, r_iADD, r_ITL, r_LDC2, r_lMUL, r_lADD, r_lAND, r_LTI, r_iAST, r_LDC, r_iDIV, r_iREM, r_pI, r_iLD1, cl_125, eq_self, Int.reduceLT, Int.reduceLE, Int.reduceEq, true_or, or_true, and_self, true_and, and_true, w8_0, w8_1, w8_2, w8_3, w8_4, nl_I, nl_P, nl_X, pu_I, pu_J, pu_V, kd_149, s_notes hK hK8]
    simp (disch := first | assumption | omega | exact w8_0 | exact w8_1 _ | exact w8_2 _ _ | exact w8_3 _ _ _ | exact w8_4 _ _ _ _ | exact nl_I _ | exact nl_P _ | exact nl_X | decide | exact w8_5 _ _ _ _ _) only [r_aLD0, r_gR, r_iCONST, r_iALDc, r_iALDs, r_IC1, r_bPUSH, r_iRET, cl_120, r_iST1, r_iADD, r_ITL, r_LDC2, r_lMUL, r_lADD, r_lAND, r_LTI, r_iASTc, r_LDC, r_iDIV, r_iREM, r_pI, r_iLD1, cl_125, eq_self, Int.reduceLT, Int.reduceLE, Int.reduceEq, true_or, or_true, and_self, true_and, and_true, w8_0, w8_1, w8_2, w8_3, w8_4, nl_I, nl_P, nl_X, pu_I, pu_J, pu_V, w3_id, Int.add_zero, kd_149, rR_149_0, m3, mso]
    by_cases y : so = 3
    · have u4 : up (rNo h K) 150 4 (dr (h 150 4)) 150 4 = dr (h 150 4) := up_s
      have hdj := dj_r (h 150 4)
      rw [if_neg (by simpa using y)]
      have dl' := dr_l hd.1 hd.2
      rw [w3_id (show -2147483648 ≤ h 150 4 by omega) hd.2] at dl'
      obtain ⟨hd1, hd2⟩ := hd
      simp (disch := first | assumption | omega | exact w8_0 | exact w8_1 _ | exact w8_2 _ _ | exact w8_3 _ _ _ | exact w8_4 _ _ _ _ | exact nl_I _ | exact nl_P _ | exact nl_X | decide | exact w8_5 _ _ _ _ _) only [r_aLD0, r_gR, r_iCONST, r_iALDc, r_iALDs, r_IC1, r_bPUSH, r_iRET, cl_120, r_iST1, r_iADD, r_ITL, r_LDC2, r_lMUL, r_lADD, r_lAND, r_LTI, r_iASTc, r_LDC, r_iDIV, r_iREM, r_pI, r_iLD1, cl_125, eq_self, Int.reduceLT, Int.reduceLE, Int.reduceEq, true_or, or_true, and_self, true_and, and_true, w8_0, w8_1, w8_2, w8_3, w8_4, nl_I, nl_P, nl_X, pu_I, pu_J, pu_V, w3_id, Int.add_zero, kd_149, rR_149_0, m4, dl', u4, dj_c, ne_eq, Int.reduceEq, not_false_eq_true]
      have e := (jl_dj (so := so) (d := dj (h 150 4))).1 y
      exact step51 hR h3 hs hso hdj (fun k q1 q2 q3 => by rw [up_k q1, n1 k q2 q3]) (by rw [up_s, if_pos y]) (by rw [up_k (by decide), n2]) (fun k q => by rw [up_k (by omega)]) (fun a ha => by rw [up_ne ha, n5 a ha]) (fun h2 hB => hq h2 hs hB)
    · rw [if_pos y]
      have e := (jl_dj (so := so) (d := dj (h 150 4))).2 y
      refine step51 hR h3 hs hso ⟨by decide, by decide⟩ (fun k q1 q2 q3 => n1 k q2 q3) (by rw [m4, if_neg y]) n2 (fun _ _ => rfl) n5 (fun h2 hB => ?_)
      rw [e] at hB ⊢
      exact hq h2 hs hB
end SV
