/-! One bag: its cell in a normal form, what its methods answer -/
def bw (h : am_F) (c k w r g S W D E : Int) : am_F := up (up (up (up (up (up (up (up h c 0 k) c 1 w) c 2 r) c 3 g) c 4 S) c 5 W) c 6 D) c 7 E
section BW
variable {h : am_F} {c c' x k w r g S W D E v : Int}
theorem bw_0 : bw h c k w r g S W D E c 0 = k := by simp [bw, up]
theorem bw_1 : bw h c k w r g S W D E c 1 = w := by simp [bw, up]
theorem bw_2 : bw h c k w r g S W D E c 2 = r := by simp [bw, up]
theorem bw_3 : bw h c k w r g S W D E c 3 = g := by simp [bw, up]
theorem bw_4 : bw h c k w r g S W D E c 4 = S := by simp [bw, up]
theorem bw_5 : bw h c k w r g S W D E c 5 = W := by simp [bw, up]
theorem bw_6 : bw h c k w r g S W D E c 6 = D := by simp [bw, up]
theorem bw_7 : bw h c k w r g S W D E c 7 = E := by simp [bw, up]
theorem bw_n (hk : kd c = 0) (hn : kd c' ≠ 0) : bw h c k w r g S W D E c' = h c' := by
  have : c' ≠ c := fun e => hn (e ▸ hk)
  funext x
  simp [bw, up, this]
theorem up_1 : up (bw h c k w r g S W D E) c 1 v = bw h c k v r g S W D E := by
  funext a b; simp only [bw, up]; (repeat' split) <;> first | rfl | omega
theorem up_2 : up (bw h c k w r g S W D E) c 2 v = bw h c k w v g S W D E := by
  funext a b; simp only [bw, up]; (repeat' split) <;> first | rfl | omega
theorem up_3 : up (bw h c k w r g S W D E) c 3 v = bw h c k w r v S W D E := by
  funext a b; simp only [bw, up]; (repeat' split) <;> first | rfl | omega
theorem up_4 : up (bw h c k w r g S W D E) c 4 v = bw h c k w r g v W D E := by
  funext a b; simp only [bw, up]; (repeat' split) <;> first | rfl | omega
theorem up_5 : up (bw h c k w r g S W D E) c 5 v = bw h c k w r g S v D E := by
  funext a b; simp only [bw, up]; (repeat' split) <;> first | rfl | omega
theorem up_6 : up (bw h c k w r g S W D E) c 6 v = bw h c k w r g S W v E := by
  funext a b; simp only [bw, up]; (repeat' split) <;> first | rfl | omega
theorem up_7 : up (bw h c k w r g S W D E) c 7 v = bw h c k w r g S W D v := by
  funext a b; simp only [bw, up]; (repeat' split) <;> first | rfl | omega
theorem up_0 : up (bw h c k w r g S W D E) c 0 v = bw h c v w r g S W D E := by
  funext a b; simp only [bw, up]; (repeat' split) <;> first | rfl | omega
end BW
theorem iDv_n {a b : Int} (ha : 0 ≤ a) (ha2 : a < 2147483648) (hb : 0 < b) (hb2 : b < 2147483648) : iDv a b = a / b := by
  obtain ⟨x, rfl⟩ := Int.eq_ofNat_of_zero_le ha
  obtain ⟨y, rfl⟩ := Int.eq_ofNat_of_zero_le (Int.le_of_lt hb)
  have h := Nat.div_le_self x y
  rw [iDv, oi_nI, oi_nI, pk_div (by omega) (by omega) (by omega), nI_toInt (by omega)]
  simp
theorem iRm_n {a b : Int} (ha : 0 ≤ a) (ha2 : a < 2147483648) (hb : 0 < b) (hb2 : b < 2147483648) : iRm a b = a % b := by
  obtain ⟨x, rfl⟩ := Int.eq_ofNat_of_zero_le ha
  obtain ⟨y, rfl⟩ := Int.eq_ofNat_of_zero_le (Int.le_of_lt hb)
  have h := Nat.mod_le x y
  rw [iRm, oi_nI, oi_nI, pk_rem (by omega) (by omega) (by omega), nI_toInt (by omega)]
  simp
def paper (w r pl : Int) : Int := if pl = 0 then 90 - r - 2 * w else if pl = 3 then 90 - r - w else 60 - r - w
def thin (r pl : Int) : Int := (if pl = 3 then 50 else 70) - 2 * r
def mx0 (x : Int) : Int := if 0 < x then x else 0
def stren (k w r pl : Int) : Int := if k = 0 then mx0 (paper w r pl) else if k = 1 then mx0 (paper w r pl + 40) else if k = 2 then mx0 (thin r pl) else mx0 (thin r pl + r + 30)
def whH (g : Nat) : Int := (if g.testBit 1 = true then 0 else 1) + (if g.testBit 2 = true then 0 else 1)
def forc (g : Nat) (W E pl j : Int) : Int := if pl = 3 then 3 * E else if pl = 0 then W * (10 + j) / 10 else if whH g = 0 then 0 else W * (10 + j) / 10 / whH g
section BG
variable {h : am_F} {Q : am_V → am_S → Prop} {c k w r S W D E pl j so v : Int} {g : Nat}
theorem s_paperAt {g : Int} (hk : kd c = 0) (hw : 0 ≤ w ∧ w ≤ 999) (hr : 0 ≤ r ∧ r ≤ 999) : wp 49 (am_ju 49 0) [aP c, aI pl] [] (sT (bw h c k w r g S W D E)) Q ↔ Q (aI (paper w r pl)) (sT (bw h c k w r g S W D E)) := by
  simp only [ju_49_0, ju_49_12, ju_49_23, r_iLD1, r_IF1, r_bPUSH, r_aLD0, r_gI, r_iSUB, r_iCONST, r_iMUL, r_iRET, r_IC1, eq_self, Int.reduceLT, Int.reduceLE, Int.reduceEq, true_or, or_true, and_self, true_and, and_true, w8_0, w8_1, w8_2, w8_3, w8_4, nl_I, nl_P, nl_X, pu_I, pu_J, pu_V, hk, bw_1, bw_2]
  simp (disch := omega) only [w3_id]
  unfold paper
  by_cases h0 : pl = 0
  · simp [h0]
  · by_cases h3 : pl = 3
    · simp [h3]
    · simp [h0, h3]
theorem s_thinAt {g : Int} (hk : kd c = 0) (hr : 0 ≤ r ∧ r ≤ 999) : wp 50 (am_ju 50 0) [aP c, aI pl] [] (sT (bw h c k w r g S W D E)) Q ↔ Q (aI (thin r pl)) (sT (bw h c k w r g S W D E)) := by
  simp only [ju_50_0, ju_50_5, ju_50_6, r_iLD1, r_iCONST, r_IC1, r_bPUSH, r_GOTO, r_aLD0, r_gI, r_iMUL, r_iSUB, r_iRET, eq_self, Int.reduceLT, Int.reduceLE, Int.reduceEq, true_or, or_true, and_self, true_and, and_true, w8_0, w8_1, w8_2, w8_3, w8_4, nl_I, nl_P, nl_X, pu_I, pu_J, pu_V, hk, bw_2]
  simp (disch := omega) only [w3_id]
  unfold thin
  by_cases h3 : pl = 3
  · simp [h3]
  · simp [h3]
theorem paper_r (hw : 0 ≤ w ∧ w ≤ 999) (hr : 0 ≤ r ∧ r ≤ 999) : -3000 ≤ paper w r pl ∧ paper w r pl ≤ 90 := by unfold paper; (repeat' split) <;> omega
theorem thin_r (hr : 0 ≤ r ∧ r ≤ 999) : -3000 ≤ thin r pl ∧ thin r pl ≤ 70 := by unfold thin; split <;> omega
theorem s_strengthAt {g : Int} (hk : kd c = 0) (hkk : 0 ≤ k ∧ k ≤ 3) (hw : 0 ≤ w ∧ w ≤ 999) (hr : 0 ≤ r ∧ r ≤ 999) : wp 51 (am_ju 51 0) [aP c, aI pl] [] (sT (bw h c k w r g S W D E)) Q ↔ Q (aI (stren k w r pl)) (sT (bw h c k w r g S W D E)) := by
  have hp := paper_r (pl := pl) hw hr
  have ht := thin_r (pl := pl) hr
  rw [ju_51_0]
  simp only [r_aLD0, r_gI, r_TSW, r_iCONST, r_iLD1, cl_49, r_MMAX, r_iRET, r_bPUSH, r_iADD, cl_50, eq_self, Int.reduceLT, Int.reduceLE, Int.reduceEq, true_or, or_true, and_self, true_and, and_true, w8_0, w8_1, w8_2, w8_3, w8_4, nl_I, nl_P, nl_X, pu_I, pu_J, pu_V, hk, bw_0]
  have h4 : k = 0 ∨ k = 1 ∨ k = 2 ∨ k = 3 := by omega
  rcases h4 with rfl | rfl | rfl | rfl
  · rw [show tswT [0, 2, 23, 3, 9, 17] 0 = 3 from by decide]
    simp only [ju_51_3, r_aLD0, r_gI, r_TSW, r_iCONST, r_iLD1, cl_49, r_MMAX, r_iRET, r_bPUSH, r_iADD, cl_50, eq_self, Int.reduceLT, Int.reduceLE, Int.reduceEq, true_or, or_true, and_self, true_and, and_true, w8_0, w8_1, w8_2, w8_3, w8_4, nl_I, nl_P, nl_X, pu_I, pu_J, pu_V, hk, s_paperAt hk hw hr]
    rfl
  · rw [show tswT [0, 2, 23, 3, 9, 17] 1 = 9 from by decide]
    simp only [ju_51_9, r_aLD0, r_gI, r_TSW, r_iCONST, r_iLD1, cl_49, r_MMAX, r_iRET, r_bPUSH, r_iADD, cl_50, eq_self, Int.reduceLT, Int.reduceLE, Int.reduceEq, true_or, or_true, and_self, true_and, and_true, w8_0, w8_1, w8_2, w8_3, w8_4, nl_I, nl_P, nl_X, pu_I, pu_J, pu_V, hk, s_paperAt hk hw hr]
    simp (disch := omega) only [w3_id]
    rfl
  · rw [show tswT [0, 2, 23, 3, 9, 17] 2 = 17 from by decide]
    simp only [ju_51_17, r_aLD0, r_gI, r_TSW, r_iCONST, r_iLD1, cl_49, r_MMAX, r_iRET, r_bPUSH, r_iADD, cl_50, eq_self, Int.reduceLT, Int.reduceLE, Int.reduceEq, true_or, or_true, and_self, true_and, and_true, w8_0, w8_1, w8_2, w8_3, w8_4, nl_I, nl_P, nl_X, pu_I, pu_J, pu_V, hk, s_thinAt hk hr]
    rfl
  · rw [show tswT [0, 2, 23, 3, 9, 17] 3 = 23 from by decide]
    simp only [ju_51_23, r_aLD0, r_gI, r_TSW, r_iCONST, r_iLD1, cl_49, r_MMAX, r_iRET, r_bPUSH, r_iADD, cl_50, eq_self, Int.reduceLT, Int.reduceLE, Int.reduceEq, true_or, or_true, and_self, true_and, and_true, w8_0, w8_1, w8_2, w8_3, w8_4, nl_I, nl_P, nl_X, pu_I, pu_J, pu_V, hk, s_thinAt hk hr, bw_2]
    simp (disch := omega) only [w3_id]
    rfl
end BG
/-! sums over sets, counts of bits -/
def sumS (f : Int → Int) (a : Nat) (n : Nat) : Int := sumF (fun t => if a.testBit t = true then f t else 0) n
theorem sumS_r {f : Int → Int} {a M : Nat} (hf : ∀ t : Nat, a.testBit t = true → 0 ≤ f t ∧ f t ≤ M) (n : Nat) : 0 ≤ sumS f a n ∧ sumS f a n ≤ n * M := by
  induction n with
  | zero => exact ⟨Int.le_refl _, by simp [sumS, sumF]⟩
  | succ n ih =>
    have e : sumS f a (n + 1) = sumS f a n + (if a.testBit n = true then f n else 0) := rfl
    have e2 : ((n + 1 : Nat) : Int) * M = n * M + M := by rw [Int.natCast_add, Int.add_mul]; simp
    by_cases hb : a.testBit n = true
    · have := hf n hb
      rw [e, if_pos hb]; omega
    · rw [e, if_neg hb]; omega
def popc (a : Nat) : Nat := (List.range 8).countP (fun t => a.testBit t)
def bcE1 (a : Int) : Int := w3 (a - bAnd (bUsh a 1) 1431655765)
def bcE2 (a : Int) : Int := w3 (bAnd a 858993459 + bAnd (bUsh a 2) 858993459)
def bcE3 (a : Int) : Int := bAnd (w3 (a + bUsh a 4)) 252645135
def bcE4 (a : Int) : Int := w3 (a + bUsh a 8)
def bcE5 (a : Int) : Int := w3 (a + bUsh a 16)
theorem bcE_ok : ∀ a : Nat, a < 256 → bAnd (bcE5 (bcE4 (bcE3 (bcE2 (bcE1 (a : Int)))))) 63 = (popc a : Int) := by decide +kernel
section BH
variable {h : am_F} {Q : am_V → am_S → Prop} {c k w r S W D E pl j so v : Int} {g : Nat}
theorem s_bitCount {a : Nat} (ha : a < 256) : wp 55 (am_ju 55 0) [aI (a : Int)] [] (sT h) Q ↔ Q (aI (popc a : Int)) (sT h) := by
  rw [← bcE_ok a ha]
  simp only [ju_55_0, r_iLD0, r_iCONST, r_iUSHR, r_LDCW, r_iAND, r_iSUB, r_iST0, r_iADD, r_bPUSH, r_iRET, eq_self, Int.reduceLT, Int.reduceLE, Int.reduceEq, true_or, or_true, and_self, true_and, and_true, w8_0, w8_1, w8_2, w8_3, w8_4, nl_I, nl_P, nl_X, pu_I, pu_J, pu_V, bcE1, bcE2, bcE3, bcE4, bcE5]
theorem lp_sumOf {a : Nat} (ha : a < 2 ^ 31) (hk : kd c = 20) (hn : ln c = 8) (hf : ∀ t : Nat, a.testBit t = true → 0 ≤ h c t ∧ h c t ≤ (99 : Nat)) : ∀ (n t : Nat), t + n = 8 → (wp 40 (am_ju 40 4) [aP c, aI (a : Int), aI (sumS (h c) a t), aI (t : Int)] [] (sT h) Q ↔ Q (aI (sumS (h c) a 8)) (sT h)) := by
  intro n
  induction n with
  | zero =>
    intro t ht
    have ht : t = 8 := by omega
    subst ht
    simp only [ju_40_4, ju_40_20, r_iCONST, r_iST2, r_iST3, r_iLD3, r_aLD0, r_aLEN, r_aLENs, r_IC3, r_iLD1, cl_29, r_IF0, r_iLD2, r_iALD, r_iALDs, r_iADD, r_IINC3, r_GOTO, r_iRET, eq_self, Int.reduceLT, Int.reduceLE, Int.reduceEq, true_or, or_true, and_self, true_and, and_true, w8_0, w8_1, w8_2, w8_3, w8_4, nl_I, nl_P, nl_X, pu_I, pu_J, pu_V, hk, hn]
    rw [if_pos (by omega)]
  | succ n ih =>
    intro t ht
    have hr := sumS_r (M := 99) hf t
    have hw : w3 ((t : Int) + 1) = ((t + 1 : Nat) : Int) := w3_id (by omega) (by omega)
    have e : sumS (h c) a (t + 1) = sumS (h c) a t + (if a.testBit t = true then h c t else 0) := rfl
    have ih := ih (t + 1) (by omega)
    rw [e] at ih
    rw [ju_40_4]
    simp only [ju_40_18, r_iCONST, r_iST2, r_iST3, r_iLD3, r_aLD0, r_aLEN, r_aLENs, r_IC3, r_iLD1, cl_29, r_IF0, r_iLD2, r_iALD, r_iALDs, r_iADD, r_IINC3, r_GOTO, r_iRET, eq_self, Int.reduceLT, Int.reduceLE, Int.reduceEq, true_or, or_true, and_self, true_and, and_true, w8_0, w8_1, w8_2, w8_3, w8_4, nl_I, nl_P, nl_X, pu_I, pu_J, pu_V, hk, hn, s_has ha (show t < 31 by omega), b01, hw]
    rw [if_neg (by omega)]
    by_cases hb : a.testBit t = true
    · have := hf t hb
      have hw2 : w3 (sumS (h c) a t + h c t) = sumS (h c) a t + h c t := w3_id (by omega) (by omega)
      rw [if_pos hb] at ih
      rw [if_neg (by simpa using hb), hw2]
      exact (and_iff_right ⟨by omega, by omega⟩).trans ih
    · rw [if_neg hb, Int.add_zero] at ih
      rw [if_pos hb]
      exact ih
theorem s_sumOf {a : Nat} (ha : a < 2 ^ 31) (hk : kd c = 20) (hn : ln c = 8) (hf : ∀ t : Nat, a.testBit t = true → 0 ≤ h c t ∧ h c t ≤ (99 : Nat)) : wp 40 (am_ju 40 0) [aP c, aI (a : Int), aX, aX] [] (sT h) Q ↔ Q (aI (sumS (h c) a 8)) (sT h) := by
  rw [ju_40_0]
  simp only [r_iCONST, r_iST2, r_iST3, r_iLD3, r_aLD0, r_aLEN, r_aLENs, r_IC3, r_iLD1, cl_29, r_IF0, r_iLD2, r_iALD, r_iALDs, r_iADD, r_IINC3, r_GOTO, r_iRET, eq_self, Int.reduceLT, Int.reduceLE, Int.reduceEq, true_or, or_true, and_self, true_and, and_true, w8_0, w8_1, w8_2, w8_3, w8_4, nl_I, nl_P, nl_X, pu_I, pu_J, pu_V]
  exact lp_sumOf ha hk hn hf 8 0 rfl
theorem s_thingsAt {pl : Int} {n : Nat} (h8 : n ≤ 8) (hn : h 81 7 = (n : Int)) : wp 39 (am_ju 39 0) [aP 80, aI pl, aX, aX] [] (sT h) Q ↔ Q (aI ((setF (fun t => decide (h 94 t = pl)) n : Nat) : Int)) (sT h) := by
  rw [ju_39_0]
  simp only [r_iCONST, r_iST2, r_iST3, r_iLD3, r_aLD0, r_gR, r_gI, r_IC3, r_iALD, r_iALDs, r_iLD1, r_IC1, r_iLD2, r_iSHL, r_iOR, r_IINC3, r_GOTO, r_iRET, eq_self, Int.reduceLT, Int.reduceLE, Int.reduceEq, true_or, or_true, and_self, true_and, and_true, w8_0, w8_1, w8_2, w8_3, w8_4, nl_I, nl_P, nl_X, pu_I, pu_J, pu_V]
  exact lp_thingsAt h8 hn n 0 (Nat.zero_add n)
theorem g16 : ∀ g : Nat, g < 16 → popc (g &&& 6) ≤ 2 ∧ 2 - (popc (g &&& 6) : Int) = whH g ∧ (g &&& 6) < 256 := by decide +kernel
theorem whH_r (g : Nat) : 0 ≤ whH g ∧ whH g ≤ 2 := by unfold whH; (repeat' split) <;> omega
theorem s_forceAt (hk : kd c = 0) (hg : g < 16) (hW : 0 ≤ W ∧ W ≤ 1000) (hE : 0 ≤ E ∧ E ≤ 1000) (hj : 0 ≤ j ∧ j ≤ 7) : wp 56 (am_ju 56 0) [aP c, aI pl, aI j, aX, aX] [] (sT (bw h c k w r g S W D E)) Q ↔ Q (aI (forc g W E pl j)) (sT (bw h c k w r g S W D E)) := by
  have hm : 0 ≤ W * (10 + j) ∧ W * (10 + j) ≤ 17000 := by
    constructor
    · exact Int.mul_nonneg hW.1 (by omega)
    · exact Int.le_trans (Int.mul_le_mul hW.2 (show 10 + j ≤ 17 by omega) (by omega) (by omega)) (by omega)
  obtain ⟨g1, g2, g3⟩ := g16 g hg
  have hwh := whH_r g
  have hand : bAnd (g : Int) 6 = ((g &&& 6 : Nat) : Int) := bAnd_n g 6 (by omega) (by decide)
  simp only [ju_56_0, ju_56_8, ju_56_21, ju_56_33, ju_56_36, r_iLD1, r_iCONST, r_IC1, r_aLD0, r_gI, r_iMUL, r_iRET, r_bPUSH, r_iLD2, r_iADD, r_iDIV, r_iST3, r_IF1, r_iLD3, r_iAND, cl_55, r_iSUB, r_iST4, r_iLD4, r_IF4, r_GOTO, eq_self, Int.reduceLT, Int.reduceLE, Int.reduceEq, true_or, or_true, and_self, true_and, and_true, w8_0, w8_1, w8_2, w8_3, w8_4, nl_I, nl_P, nl_X, pu_I, pu_J, pu_V, hk, bw_7, bw_5, bw_3, hand, s_bitCount g3, ne_eq, Int.reduceEq, not_false_eq_true]
  simp (disch := omega) only [w3_id]
  rw [iDv_n hm.1 (by omega) (by omega) (by omega), g2]
  unfold forc
  by_cases h3 : pl = 3
  · simp [h3]
  · by_cases h0 : pl = 0
    · simp [h0]
    · by_cases hz : whH g = 0
      · simp [h3, h0, hz]
      · have hpos : 0 < whH g := by omega
        simp only [h3, h0, hz, hpos, if_false, if_true, not_false_eq_true]
        rw [r_iDIV hz, r_iRET, iDv_n (Int.ediv_nonneg hm.1 (by omega)) (by have := Int.ediv_le_self 10 hm.1; omega) hpos (by omega)]
end BH
