def sortI (h : am_F) (s : Int) : Int := if 0 ≤ s ∧ s < h 88 1 ∧ s < 20 then h 89 s else -1
def jl (so bj : Int) : Int := if so = 1 then 2 else if so = 2 then 3 else if so = 3 then bj else 0
def wkB (k w r : Int) (g : Nat) (W E j : Int) (pl : Nat) : Bool := !g.testBit pl && decide (stren k w r pl < forc g W E pl j)
def weak (k w r : Int) (g : Nat) (W E so j : Int) : Int := if so = 4 then -1 else if wkB k w r g W E j 0 = true then 0 else if wkB k w r g W E j 1 = true then 1 else if wkB k w r g W E j 2 = true then 2 else if wkB k w r g W E j 3 = true then 3 else -1
def ageW (w D : Int) : Int := if w + D < 999 then w + D else 999
def ageR (r E so : Int) : Int := if r + (if so = 4 then 2 else 1 + E) < 999 then r + (if so = 4 then 2 else 1 + E) else 999
def tornB (g : Nat) : Bool := g.testBit 0 || (g.testBit 1 && g.testBit 2)
def adn (S f : Nat) : Nat := S &&& (255 ^^^ f)
theorem adn_ok (S f : Nat) (hS : S < 256) (hf : f < 256) : bAnd (S : Int) (bXor (f : Int) (-1)) = (adn S f : Int) := by
  have h1 : Int32.ofInt (bXor (f : Int) (-1)) = nI f ^^^ Int32.ofInt (-1) := by rw [bXor, am_i3, oi_nI]
  have h2 : nI S &&& (nI f ^^^ Int32.ofInt (-1)) = nI (S &&& (255 ^^^ f)) := by
    apply Int32.toBitVec_inj.mp
    rw [Int32.toBitVec_and, Int32.toBitVec_xor]
    apply BitVec.eq_of_getLsbD_eq
    intro i hi
    rw [BitVec.getLsbD_and, BitVec.getLsbD_xor]
    have e1 : (nI S).toBitVec.getLsbD i = S.testBit i := by
      show (BitVec.ofNat 32 S).getLsbD i = _
      rw [BitVec.getLsbD_ofNat]; simp [hi]
    have e2 : (nI f).toBitVec.getLsbD i = f.testBit i := by
      show (BitVec.ofNat 32 f).getLsbD i = _
      rw [BitVec.getLsbD_ofNat]; simp [hi]
    have e3 : (nI (S &&& (255 ^^^ f))).toBitVec.getLsbD i = (S &&& (255 ^^^ f)).testBit i := by
      show (BitVec.ofNat 32 _).getLsbD i = _
      rw [BitVec.getLsbD_ofNat]; simp [hi]
    have e4 : ∀ i, i < 32 → (Int32.ofInt (-1)).toBitVec.getLsbD i = true := by decide +kernel
    rw [e1, e2, e3, e4 i hi, Nat.testBit_and, Nat.testBit_xor, show (255 : Nat) = 2 ^ 8 - 1 from rfl, Nat.testBit_two_pow_sub_one]
    by_cases h8 : i < 8
    · simp [h8]
    · have : S.testBit i = false := Nat.testBit_lt_two_pow (Nat.lt_of_lt_of_le hS (Nat.pow_le_pow_right (n := 2) (i := 8) (by decide) (by omega)))
      simp [this]
  have hlt : S &&& (255 ^^^ f) < 2 ^ 31 := Nat.lt_of_le_of_lt Nat.and_le_left (by omega)
  rw [bAnd, h1, oi_nI, h2, nI_toInt hlt, adn]
theorem up_kd {h : am_F} {c c' k v : Int} {q : Int} (hk : kd c = q) (hn : kd c' ≠ q) : up h c k v c' = h c' := by
  have : c' ≠ c := fun e => hn (by rw [e]; exact hk)
  exact up_ne this k v
section BI
variable {h : am_F} {Q : am_V → am_S → Prop} {c k w r S W D E pl j so v s bj : Int} {g : Nat}
theorem s_sortAt : wp 100 (am_ju 100 0) [aP 88, aI s] [] (sT h) Q ↔ Q (aI (sortI h s)) (sT h) := by
  simp only [ju_100_0, ju_100_14, ju_100_15, r_iLD1, r_IF2, r_aLD0, r_gI, r_IC3, r_bPUSH, r_gR, r_iALD, r_iALDs, r_GOTO, r_iCONST, r_iRET, eq_self, Int.reduceLT, Int.reduceLE, Int.reduceEq, true_or, or_true, and_self, true_and, and_true, w8_0, w8_1, w8_2, w8_3, w8_4, nl_I, nl_P, nl_X, pu_I, pu_J, pu_V, kd_88, ln_88, rR_88_0, kd_89, ln_89]
  unfold sortI
  by_cases h0 : s < 0
  · simp [h0, show ¬ 0 ≤ s by omega]
  · by_cases h1 : h 88 1 ≤ s
    · simp [h0, h1, show ¬ s < h 88 1 by omega]
    · by_cases h2 : 20 ≤ s
      · simp [h0, h1, h2, show ¬ s < 20 by omega]
      · simp [h0, h1, h2, show 0 ≤ s by omega, show s < h 88 1 by omega, show s < 20 by omega]
theorem s_joltAt : wp 113 (am_ju 113 0) [aP 88, aI s, aI bj] [] (sT h) Q ↔ Q (aI (jl (sortI h s) bj)) (sT h) := by
  rw [ju_113_0]
  simp only [r_aLD0, r_iLD1, cl_100, r_TSW, r_iCONST, r_iRET, r_iLD2, eq_self, Int.reduceLT, Int.reduceLE, Int.reduceEq, true_or, or_true, and_self, true_and, and_true, w8_0, w8_1, w8_2, w8_3, w8_4, nl_I, nl_P, nl_X, pu_I, pu_J, pu_V, kd_88, s_sortAt]
  generalize sortI h s = so
  by_cases h1 : so = 1
  · subst h1
    rw [show tswT [1, 3, 10, 4, 6, 8] 1 = 4 from by decide]
    simp only [ju_113_4, r_aLD0, r_iLD1, cl_100, r_TSW, r_iCONST, r_iRET, r_iLD2, eq_self, Int.reduceLT, Int.reduceLE, Int.reduceEq, true_or, or_true, and_self, true_and, and_true, w8_0, w8_1, w8_2, w8_3, w8_4, nl_I, nl_P, nl_X, pu_I, pu_J, pu_V]; simp [jl]
  · by_cases h2 : so = 2
    · subst h2
      rw [show tswT [1, 3, 10, 4, 6, 8] 2 = 6 from by decide]
      simp only [ju_113_6, r_aLD0, r_iLD1, cl_100, r_TSW, r_iCONST, r_iRET, r_iLD2, eq_self, Int.reduceLT, Int.reduceLE, Int.reduceEq, true_or, or_true, and_self, true_and, and_true, w8_0, w8_1, w8_2, w8_3, w8_4, nl_I, nl_P, nl_X, pu_I, pu_J, pu_V]; simp [jl]
    · by_cases h3 : so = 3
      · subst h3
        rw [show tswT [1, 3, 10, 4, 6, 8] 3 = 8 from by decide]
        simp only [ju_113_8, r_aLD0, r_iLD1, cl_100, r_TSW, r_iCONST, r_iRET, r_iLD2, eq_self, Int.reduceLT, Int.reduceLE, Int.reduceEq, true_or, or_true, and_self, true_and, and_true, w8_0, w8_1, w8_2, w8_3, w8_4, nl_I, nl_P, nl_X, pu_I, pu_J, pu_V]; simp [jl]
      · rw [show tswT [1, 3, 10, 4, 6, 8] so = 10 from by
          show (if 1 ≤ so ∧ so ≤ 3 then _ else (10 : Int)) = 10
          exact if_neg (by omega)]
        simp only [ju_113_10, r_aLD0, r_iLD1, cl_100, r_TSW, r_iCONST, r_iRET, r_iLD2, eq_self, Int.reduceLT, Int.reduceLE, Int.reduceEq, true_or, or_true, and_self, true_and, and_true, w8_0, w8_1, w8_2, w8_3, w8_4, nl_I, nl_P, nl_X, pu_I, pu_J, pu_V]; simp [jl, h1, h2, h3]
theorem g_isT : ∀ g : Nat, g < 16 → ((g &&& 6 = 6) ↔ (g.testBit 1 = true ∧ g.testBit 2 = true)) := by decide +kernel
theorem s_has0 {a : Nat} (ha : a < 2 ^ 31) : wp 29 (am_ju 29 0) [aI (a : Int), aI 0] [] (sT h) Q ↔ Q (aI (if a.testBit 0 = true then 1 else 0)) (sT h) := s_has (t := 0) ha (by decide)
theorem s_isTorn (hg : g < 16) : wp 30 (am_ju 30 0) [aI (g : Int)] [] (sT h) Q ↔ Q (aI (if tornB g = true then 1 else 0)) (sT h) := by
  have hand : bAnd (g : Int) 6 = ((g &&& 6 : Nat) : Int) := bAnd_n g 6 (by omega) (by decide)
  have e := g_isT g hg
  simp only [ju_30_0, ju_30_9, ju_30_11, ju_30_12, r_iLD0, r_iCONST, cl_29, r_IF1, r_bPUSH, r_iAND, r_IC1, r_GOTO, r_zRET, eq_self, Int.reduceLT, Int.reduceLE, Int.reduceEq, true_or, or_true, and_self, true_and, and_true, w8_0, w8_1, w8_2, w8_3, w8_4, nl_I, nl_P, nl_X, pu_I, pu_J, pu_V, hand, s_has0 (show g < 2 ^ 31 by omega), b01, r_zRET0, r_zRET1]
  by_cases h0 : g.testBit 0 = true
  · simp [h0, tornB]
  · by_cases h6 : g &&& 6 = 6
    · have := e.mp h6
      simp [h0, h6, tornB, this]
    · have h7 : ¬ (((g &&& 6 : Nat) : Int) = 6) := by omega
      have : ¬ (g.testBit 1 = true ∧ g.testBit 2 = true) := fun q => h6 (e.mpr q)
      have h8 : tornB g = false := by
        unfold tornB
        cases h9 : g.testBit 1 <;> cases h10 : g.testBit 2 <;> simp_all
      simp only [h0, h7, h8, if_false, not_false_eq_true, not_true, if_true]
      simp
theorem st_wk (hk : kd c = 0) (hkk : 0 ≤ k ∧ k ≤ 3) (hw : 0 ≤ w ∧ w ≤ 999) (hr : 0 ≤ r ∧ r ≤ 999) (hg : g < 16) (hW : 0 ≤ W ∧ W ≤ 1000) (hE : 0 ≤ E ∧ E ≤ 1000) (hj : 0 ≤ j ∧ j ≤ 7) {p : Nat} (hp : p < 4) : wp 115 (am_ju 115 7) [aP c, aI so, aI j, aI (p : Int)] [] (sT (bw h c k w r g S W D E)) Q ↔ if wkB k w r g W E j p = true then Q (aI (p : Int)) (sT (bw h c k w r g S W D E)) else wp 115 (am_ju 115 7) [aP c, aI so, aI j, aI ((p + 1 : Nat) : Int)] [] (sT (bw h c k w r g S W D E)) Q := by
  have hw3 : w3 ((p : Int) + 1) = ((p + 1 : Nat) : Int) := w3_id (by omega) (by omega)
  conv => lhs; rw [ju_115_7]
  simp only [ju_115_25, r_iLD1, r_iCONST, r_IC1, r_iRET, r_iST3, r_iLD3, r_IC3, r_aLD0, r_gI, cl_29, r_IF1, r_iLD2, cl_56, cl_51, r_IC5, r_IINC3, r_GOTO, eq_self, Int.reduceLT, Int.reduceLE, Int.reduceEq, true_or, or_true, and_self, true_and, and_true, w8_0, w8_1, w8_2, w8_3, w8_4, nl_I, nl_P, nl_X, pu_I, pu_J, pu_V, hk, bw_3, s_has (show g < 2 ^ 31 by omega) (show p < 31 by omega), b01, s_forceAt hk hg hW hE hj, s_strengthAt hk hkk hw hr, hw3]
  rw [if_neg (by omega)]
  unfold wkB
  by_cases hb : g.testBit p = true
  · simp [hb]
  · by_cases hf : stren k w r p < forc g W E p j
    · simp [hb, hf, show ¬ forc g W E p j ≤ stren k w r p by omega]
    · simp [hb, hf, show forc g W E p j ≤ stren k w r p by omega]
theorem s_weakPlace (hk : kd c = 0) (hkk : 0 ≤ k ∧ k ≤ 3) (hw : 0 ≤ w ∧ w ≤ 999) (hr : 0 ≤ r ∧ r ≤ 999) (hg : g < 16) (hW : 0 ≤ W ∧ W ≤ 1000) (hE : 0 ≤ E ∧ E ≤ 1000) (hj : 0 ≤ j ∧ j ≤ 7) : wp 115 (am_ju 115 0) [aP c, aI so, aI j, aX] [] (sT (bw h c k w r g S W D E)) Q ↔ Q (aI (weak k w r g W E so j)) (sT (bw h c k w r g S W D E)) := by
  rw [ju_115_0]
  simp only [ju_115_5, r_iLD1, r_iCONST, r_IC1, r_iRET, r_iST3, r_iLD3, r_IC3, r_aLD0, r_gI, cl_29, r_IF1, r_iLD2, cl_56, cl_51, r_IC5, r_IINC3, r_GOTO, eq_self, Int.reduceLT, Int.reduceLE, Int.reduceEq, true_or, or_true, and_self, true_and, and_true, w8_0, w8_1, w8_2, w8_3, w8_4, nl_I, nl_P, nl_X, pu_I, pu_J, pu_V]
  have s0 := st_wk (so := so) (S := S) (D := D) (h := h) (Q := Q) hk hkk hw hr hg hW hE hj (p := 0) (by decide)
  have s1 := st_wk (so := so) (S := S) (D := D) (h := h) (Q := Q) hk hkk hw hr hg hW hE hj (p := 1) (by decide)
  have s2 := st_wk (so := so) (S := S) (D := D) (h := h) (Q := Q) hk hkk hw hr hg hW hE hj (p := 2) (by decide)
  have s3 := st_wk (so := so) (S := S) (D := D) (h := h) (Q := Q) hk hkk hw hr hg hW hE hj (p := 3) (by decide)
  have s4 : wp 115 (am_ju 115 7) [aP c, aI so, aI j, aI ((3 + 1 : Nat) : Int)] [] (sT (bw h c k w r g S W D E)) Q ↔ Q (aI (-1)) (sT (bw h c k w r g S W D E)) := by
    rw [ju_115_7]
    simp only [ju_115_27, r_iLD1, r_iCONST, r_IC1, r_iRET, r_iST3, r_iLD3, r_IC3, r_aLD0, r_gI, cl_29, r_IF1, r_iLD2, cl_56, cl_51, r_IC5, r_IINC3, r_GOTO, eq_self, Int.reduceLT, Int.reduceLE, Int.reduceEq, true_or, or_true, and_self, true_and, and_true, w8_0, w8_1, w8_2, w8_3, w8_4, nl_I, nl_P, nl_X, pu_I, pu_J, pu_V]
    rw [if_pos (by decide)]
  simp only [show ((0 : Nat) : Int) = 0 from rfl] at s0
  rw [s4] at s3; rw [s3] at s2; rw [s2] at s1; rw [s1] at s0
  rw [s0]
  unfold weak
  by_cases h4 : so = 4
  · simp [h4]
  · simp only [h4, if_false, not_false_eq_true, if_true]
    (repeat' split) <;> simp_all
theorem s_age (hk : kd c = 0) (hw : 0 ≤ w ∧ w ≤ 999) (hr : 0 ≤ r ∧ r ≤ 999) (hD : 0 ≤ D ∧ D ≤ 1000) (hE : 0 ≤ E ∧ E ≤ 1000) {g : Int} : wp 114 (am_ju 114 0) [aP c, aI so] [] (sT (bw h c k w r g S W D E)) Q ↔ if S = 0 then Q aV (sT (bw h c k w r g S W D E)) else Q aV (sT (bw h c k (ageW w D) (ageR r E so) g S W D E)) := by
  simp only [ju_114_0, ju_114_4, ju_114_22, ju_114_26, r_aLD0, r_gI, r_IF1, r_vRET, r_sPUSH, r_iADD, r_MMIN, r_pI, r_iLD1, r_iCONST, r_IC1, r_GOTO, eq_self, Int.reduceLT, Int.reduceLE, Int.reduceEq, true_or, or_true, and_self, true_and, and_true, w8_0, w8_1, w8_2, w8_3, w8_4, nl_I, nl_P, nl_X, pu_I, pu_J, pu_V, hk, bw_4, bw_1, bw_2, bw_6, bw_7, up_1, up_2]
  simp (disch := omega) only [w3_id]
  unfold ageW ageR
  by_cases h0 : S = 0
  · simp [h0]
  · by_cases h4 : so = 4
    · simp [h0, h4]
    · simp [h0, h4]
end BI
