/-! Numbers: bits of small sets -/
theorem b01 (c : Prop) [Decidable c] : ((if c then (1 : Int) else 0) = 0) = ¬ c := by by_cases h : c <;> simp [h]
theorem r_zRETb {m : Nat} {is : List am_I} {L : List am_V} {st : am_S} {Q : am_V → am_S → Prop} {c : Prop} [Decidable c] : wp m (zRET :: is) L [aI (if c then 1 else 0)] st Q ↔ Q (aI (if c then 1 else 0)) st := r_zRET (by by_cases h : c <;> simp [h])
theorem r_zRET0 {m : Nat} {is : List am_I} {L : List am_V} {st : am_S} {Q : am_V → am_S → Prop} : wp m (zRET :: is) L [aI 0] st Q ↔ Q (aI 0) st := r_zRET (Or.inl rfl)
theorem r_zRET1 {m : Nat} {is : List am_I} {L : List am_V} {st : am_S} {Q : am_V → am_S → Prop} : wp m (zRET :: is) L [aI 1] st Q ↔ Q (aI 1) st := r_zRET (Or.inr rfl)
theorem oi_nI (n : Nat) : Int32.ofInt (n : Int) = nI n := Int32.ofInt_eq_ofNat
theorem bOr_n (a b : Nat) (ha : a < 2 ^ 31) (hb : b < 2 ^ 31) : bOr (a : Int) (b : Int) = ((a ||| b : Nat) : Int) := by
  have : nI a ||| nI b = nI (a ||| b) := by
    apply Int32.toBitVec_inj.mp
    rw [Int32.toBitVec_or]
    show BitVec.ofNat 32 a ||| BitVec.ofNat 32 b = BitVec.ofNat 32 (a ||| b)
    apply BitVec.eq_of_toNat_eq
    rw [BitVec.toNat_or, BitVec.toNat_ofNat, BitVec.toNat_ofNat, BitVec.toNat_ofNat, Nat.or_mod_two_pow]
  rw [bOr, oi_nI, oi_nI, this, nI_toInt (Nat.or_lt_two_pow ha hb)]
theorem bAnd_n (a b : Nat) (ha : a < 2 ^ 31) (hb : b < 2 ^ 31) : bAnd (a : Int) (b : Int) = ((a &&& b : Nat) : Int) := by
  have : nI a &&& nI b = nI (a &&& b) := by
    apply Int32.toBitVec_inj.mp
    rw [Int32.toBitVec_and]
    show BitVec.ofNat 32 a &&& BitVec.ofNat 32 b = BitVec.ofNat 32 (a &&& b)
    apply BitVec.eq_of_toNat_eq
    rw [BitVec.toNat_and, BitVec.toNat_ofNat, BitVec.toNat_ofNat, BitVec.toNat_ofNat, Nat.and_mod_two_pow]
  rw [bAnd, oi_nI, oi_nI, this, nI_toInt (Nat.and_lt_two_pow a hb)]
theorem nI_s31 : ∀ n, n < 32 → ((nI n &&& 31).toBitVec.smod 32).toNat = n := by decide +kernel
theorem bShl_n (a t : Nat) (ht : t < 31) (ha : a * 2 ^ t < 2 ^ 31) : bShl (a : Int) (t : Int) = ((a * 2 ^ t : Nat) : Int) := by
  rw [bShl, oi_nI, oi_nI, pk_shlN (nI t &&& 31) t (nI_s31 t (by omega)) (by omega), nI_toInt ha]
theorem bShr_n (a t : Nat) (ht : t < 31) (ha : a < 2 ^ 31) : bShr (a : Int) (t : Int) = ((a / 2 ^ t : Nat) : Int) := by
  rw [bShr, oi_nI, oi_nI, pk_shrN ha (nI t &&& 31) t (nI_s31 t (by omega)), nI_toInt (Nat.lt_of_le_of_lt (Nat.div_le_self _ _) ha)]
theorem bBit_n (a t : Nat) (ht : t < 31) (ha : a < 2 ^ 31) : bAnd (bShr (a : Int) (t : Int)) 1 = if a.testBit t = true then 1 else 0 := by
  rw [bShr_n a t ht ha, show (1 : Int) = ((1 : Nat) : Int) from rfl, bAnd_n _ _ (Nat.lt_of_le_of_lt (Nat.div_le_self _ _) ha) (by decide), Nat.and_one_is_mod, Nat.testBit_eq_decide_div_mod_eq]
  by_cases h : a / 2 ^ t % 2 = 1
  · simp [h]
  · have : a / 2 ^ t % 2 = 0 := by omega
    simp [this]
def setF (p : Nat → Bool) : Nat → Nat
  | 0 => 0
  | n + 1 => setF p n ||| (if p n then 2 ^ n else 0)
theorem setF_lt (p : Nat → Bool) (n : Nat) : setF p n < 2 ^ n := by
  induction n with
  | zero => simp [setF]
  | succ n ih =>
    rw [setF]
    refine Nat.or_lt_two_pow (Nat.lt_of_lt_of_le ih (Nat.pow_le_pow_right (by decide) (Nat.le_succ n))) ?_
    split
    · exact Nat.pow_lt_pow_right (by decide) (Nat.lt_succ_self n)
    · exact Nat.two_pow_pos _
theorem setF_bit (p : Nat → Bool) (n t : Nat) : (setF p n).testBit t = (decide (t < n) && p t) := by
  induction n with
  | zero => simp [setF]
  | succ n ih =>
    rw [setF, Nat.testBit_or, ih]
    by_cases hp : p n = true
    · rw [if_pos hp, Nat.testBit_two_pow]
      by_cases h : n = t
      · subst h; simp [hp]
      · have e : (decide (t < n + 1)) = decide (t < n) := by
          by_cases h2 : t < n
          · simp [h2]; omega
          · simp [h2]; omega
        simp [h, e]
    · rw [if_neg hp]
      by_cases h : n = t
      · subst h; simp [hp]
      · have e : (decide (t < n + 1)) = decide (t < n) := by
          by_cases h2 : t < n
          · simp [h2]; omega
          · simp [h2]; omega
        simp [e]
def sumF (f : Nat → Int) : Nat → Int
  | 0 => 0
  | n + 1 => sumF f n + f n
section T1
variable {h : am_F} {Q : am_V → am_S → Prop} {c d i j k n v w x : Int}
theorem s_isBelow : wp 12 (am_ju 12 0) [aI x, aI n] [] (sT h) Q ↔ Q (aI (if 0 ≤ x ∧ x < n then 1 else 0)) (sT h) := by
  simp only [ju_12_0, ju_12_7, ju_12_8, r_iLD0, r_IF2, r_iLD1, r_IC3, r_iCONST, r_GOTO, r_zRET, eq_self, Int.reduceLT, Int.reduceLE, Int.reduceEq, true_or, or_true, and_self, true_and, and_true, w8_0, w8_1, w8_2, w8_3, w8_4, nl_I, nl_P, nl_X, pu_I, pu_J, pu_V]
  by_cases h1 : x < 0
  · simp [h1, show ¬ 0 ≤ x by omega, r_zRET0]
  · by_cases h2 : n ≤ x
    · simp [h1, h2, show ¬ x < n by omega, r_zRET0]
    · simp [h1, h2, show 0 ≤ x by omega, show x < n by omega, r_zRET1]
theorem s_hasBag (hk : kd c = 2) : wp 28 (am_ju 28 0) [aP c, aI x] [] (sT h) Q ↔ Q (aI (if 0 ≤ x ∧ x < h c 6 then 1 else 0)) (sT h) := by
  simp only [ju_28_0, r_iLD1, r_aLD0, r_gI, cl_12, r_zRET, eq_self, Int.reduceLT, Int.reduceLE, Int.reduceEq, true_or, or_true, and_self, true_and, and_true, w8_0, w8_1, w8_2, w8_3, w8_4, nl_I, nl_P, nl_X, pu_I, pu_J, pu_V, hk, s_isBelow, r_zRETb]
theorem s_hasThing (hk : kd c = 2) : wp 27 (am_ju 27 0) [aP c, aI x] [] (sT h) Q ↔ Q (aI (if 0 ≤ x ∧ x < h c 7 then 1 else 0)) (sT h) := by
  simp only [ju_27_0, r_iLD1, r_aLD0, r_gI, cl_12, r_zRET, eq_self, Int.reduceLT, Int.reduceLE, Int.reduceEq, true_or, or_true, and_self, true_and, and_true, w8_0, w8_1, w8_2, w8_3, w8_4, nl_I, nl_P, nl_X, pu_I, pu_J, pu_V, hk, s_isBelow, r_zRETb]
theorem s_has {a t : Nat} (ha : a < 2 ^ 31) (ht : t < 31) : wp 29 (am_ju 29 0) [aI (a : Int), aI (t : Int)] [] (sT h) Q ↔ Q (aI (if a.testBit t = true then 1 else 0)) (sT h) := by
  simp only [ju_29_0, ju_29_8, ju_29_9, r_iLD0, r_iLD1, r_iSHR, r_iCONST, r_iAND, r_IF0, r_GOTO, r_zRET, eq_self, Int.reduceLT, Int.reduceLE, Int.reduceEq, true_or, or_true, and_self, true_and, and_true, w8_0, w8_1, w8_2, w8_3, w8_4, nl_I, nl_P, nl_X, pu_I, pu_J, pu_V, bBit_n a t ht ha, b01, r_zRET0, r_zRET1]
  by_cases hb : a.testBit t = true <;> simp [hb]
theorem lp_thingsAt {pl : Int} {n : Nat} (h8 : n ≤ 8) (hn : h 81 7 = (n : Int)) : ∀ (k t : Nat), t + k = n → (wp 39 (am_ju 39 4) [aP 80, aI pl, aI ((setF (fun t => decide (h 94 t = pl)) t : Nat) : Int), aI (t : Int)] [] (sT h) Q ↔ Q (aI ((setF (fun t => decide (h 94 t = pl)) n : Nat) : Int)) (sT h)) := by
  intro k
  induction k with
  | zero =>
    intro t ht
    have ht : t = n := by omega
    subst ht
    simp only [ju_39_4, ju_39_24, r_iCONST, r_iST2, r_iST3, r_iLD3, r_aLD0, r_gR, r_gI, r_IC3, r_iALD, r_iALDs, r_iLD1, r_IC1, r_iLD2, r_iSHL, r_iOR, r_IINC3, r_GOTO, r_iRET, eq_self, Int.reduceLT, Int.reduceLE, Int.reduceEq, true_or, or_true, and_self, true_and, and_true, w8_0, w8_1, w8_2, w8_3, w8_4, nl_I, nl_P, nl_X, pu_I, pu_J, pu_V, kd_80, ln_80, rR_80_0, rR_80_1, rR_80_2, rR_80_3, kd_81, ln_81, rR_81_0, rR_81_1, rR_81_2, rR_81_3, rR_81_4, rR_81_5, kd_90, ln_90, rR_90_0, rR_90_1, rR_90_2, rR_90_3, hn]
    rw [if_pos (by omega)]
  | succ k ih =>
    intro t ht
    rw [ju_39_4]
    simp only [ju_39_22, r_iCONST, r_iST2, r_iST3, r_iLD3, r_aLD0, r_gR, r_gI, r_IC3, r_iALD, r_iALDs, r_iLD1, r_IC1, r_iLD2, r_iSHL, r_iOR, r_IINC3, r_GOTO, r_iRET, eq_self, Int.reduceLT, Int.reduceLE, Int.reduceEq, true_or, or_true, and_self, true_and, and_true, w8_0, w8_1, w8_2, w8_3, w8_4, nl_I, nl_P, nl_X, pu_I, pu_J, pu_V, kd_80, ln_80, rR_80_0, rR_80_1, rR_80_2, rR_80_3, kd_81, ln_81, rR_81_0, rR_81_1, rR_81_2, rR_81_3, rR_81_4, rR_81_5, kd_90, ln_90, rR_90_0, rR_90_1, rR_90_2, rR_90_3, kd_94, ln_94, hn]
    rw [if_neg (by omega)]
    have hs : setF (fun t => decide (h 94 t = pl)) (t + 1) = setF (fun t => decide (h 94 t = pl)) t ||| (if decide (h 94 t = pl) = true then 2 ^ t else 0) := rfl
    have hlt := setF_lt (fun t => decide (h 94 t = pl)) t
    have h31 : 2 ^ t < 2 ^ 31 := Nat.pow_lt_pow_right (by decide) (by omega)
    refine (and_iff_right ⟨by omega, by omega⟩).trans ?_
    have ih := ih (t + 1) (by omega)
    rw [hs] at ih
    have hw : w3 ((t : Int) + 1) = ((t + 1 : Nat) : Int) := w3_id (by omega) (by omega)
    by_cases hp : h 94 t = pl
    · rw [if_neg (by simpa using hp), hw, show (1 : Int) = ((1 : Nat) : Int) from rfl, bShl_n 1 t (by omega) (by omega), Nat.one_mul, bOr_n _ _ (by omega) h31]
      simpa [hp] using ih
    · rw [if_pos hp, hw]
      simpa [hp] using ih
end T1
