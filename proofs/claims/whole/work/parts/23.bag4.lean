/-- a bag of world h with the set S of things -/
def bS (h : am_F) (c k w r : Int) (g S : Nat) : am_F := bw h c k w r (g : Int) (S : Int) (sumS (h 83) S 8) (sumS (h 84) S 8) (sumS (h 85) S 8)
def wkS (h : am_F) (k w r : Int) (g S : Nat) (so j : Int) : Int := weak k w r g (sumS (h 83) S 8) (sumS (h 85) S 8) so j
def aW (h : am_F) (w : Int) (S : Nat) : Int := ageW w (sumS (h 84) S 8)
def aR (h : am_F) (r : Int) (S : Nat) (so : Int) : Int := ageR r (sumS (h 85) S 8) so
/-- one step of a bag: wet, wear, gone, things, what falls -/
def cy (h : am_F) (k so j : Int) (w r : Int) (g S : Nat) : Int × Int × Nat × Nat × Nat :=
  if S = 0 then (w, r, g, S, 0)
  else if wkS h k (aW h w S) (aR h r S so) g S so j < 0 then (aW h w S, aR h r S so, g, S, 0)
  else (aW h w S, aR h r S so, g ||| 2 ^ (wkS h k (aW h w S) (aR h r S so) g S so j).toNat, adn S (fallN (wkS h k (aW h w S) (aR h r S so) g S so j) (g ||| 2 ^ (wkS h k (aW h w S) (aR h r S so) g S so j).toNat) S), fallN (wkS h k (aW h w S) (aR h r S so) g S so j) (g ||| 2 ^ (wkS h k (aW h w S) (aR h r S so) g S so j).toNat) S)
theorem weak_r {k w r W E so j : Int} {g : Nat} : -1 ≤ weak k w r g W E so j ∧ weak k w r g W E so j ≤ 3 := by unfold weak; (repeat' split) <;> omega
theorem ageW_r {w D : Int} (hw : 0 ≤ w ∧ w ≤ 999) (hD : 0 ≤ D) : 0 ≤ ageW w D ∧ ageW w D ≤ 999 := by unfold ageW; split <;> omega
theorem ageR_r {r E so : Int} (hr : 0 ≤ r ∧ r ≤ 999) (hE : 0 ≤ E) : 0 ≤ ageR r E so ∧ ageR r E so ≤ 999 := by unfold ageR; (repeat' split) <;> omega
theorem gd_W {h : am_F} {a : Nat} (hg : gd h a) : (0 ≤ sumS (h 83) a 8 ∧ sumS (h 83) a 8 ≤ 240) ∧ (0 ≤ sumS (h 84) a 8 ∧ sumS (h 84) a 8 ≤ 40) ∧ (0 ≤ sumS (h 85) a 8 ∧ sumS (h 85) a 8 ≤ 40) := by
  have h1 := sS_r (f := h 83) (a := a) (M := 30) (fun t ht => by have := (hg t ht).1; omega)
  have h2 := sS_r (f := h 84) (a := a) (M := 5) (fun t ht => by have := (hg t ht).2.1; omega)
  have h3 := sS_r (f := h 85) (a := a) (M := 5) (fun t ht => by have := (hg t ht).2.2; omega)
  omega
theorem adn_lt {S f : Nat} (hS : S < 256) : adn S f < 256 := Nat.lt_of_le_of_lt Nat.and_le_left hS
theorem adn_sub {S f t : Nat} (h : (adn S f).testBit t = true) : S.testBit t = true := by
  unfold adn at h
  rw [Nat.testBit_and, Bool.and_eq_true] at h
  exact h.1
theorem adn_0 {S : Nat} (hS : S < 256) : adn S 0 = S := by
  unfold adn
  rw [Nat.xor_zero, show (255 : Nat) = 2 ^ 8 - 1 from rfl, Nat.and_two_pow_sub_one_eq_mod, Nat.mod_eq_of_lt hS]
theorem fallN_lt {p : Int} {g S : Nat} (hS : S < 256) : fallN p g S < 256 := by
  unfold fallN
  split
  · exact (lo_ok S hS).2.1
  · split
    · exact hS
    · omega
theorem or16 {g p : Nat} (hg : g < 16) (hp : p < 4) : g ||| 2 ^ p < 16 := Nat.or_lt_two_pow (n := 4) hg (Nat.pow_lt_pow_right (by decide) hp)
section BK
variable {h : am_F} {Q : am_V → am_S → Prop} {c k w r so j s bj : Int} {g S : Nat}
theorem cy_r (hw : 0 ≤ w ∧ w ≤ 999) (hr : 0 ≤ r ∧ r ≤ 999) (hg : g < 16) (hS : S < 256) (hd : gd h S) : (0 ≤ (cy h k so j w r g S).1 ∧ (cy h k so j w r g S).1 ≤ 999) ∧ (0 ≤ (cy h k so j w r g S).2.1 ∧ (cy h k so j w r g S).2.1 ≤ 999) ∧ (cy h k so j w r g S).2.2.1 < 16 ∧ (cy h k so j w r g S).2.2.2.1 < 256 ∧ gd h (cy h k so j w r g S).2.2.2.1 ∧ (cy h k so j w r g S).2.2.2.2 < 256 := by
  obtain ⟨d1, d2, d3⟩ := gd_W hd
  have a1 := ageW_r hw d2.1
  have a2 := ageR_r (so := so) hr d3.1
  have wr := weak_r (k := k) (w := aW h w S) (r := aR h r S so) (W := sumS (h 83) S 8) (E := sumS (h 85) S 8) (so := so) (j := j) (g := g)
  unfold cy
  by_cases h0 : S = 0
  · rw [if_pos h0]; exact ⟨hw, hr, hg, hS, hd, by simp⟩
  · rw [if_neg h0]
    by_cases hp : wkS h k (aW h w S) (aR h r S so) g S so j < 0
    · rw [if_pos hp]; exact ⟨a1, a2, hg, hS, hd, by simp⟩
    · rw [if_neg hp]
      exact ⟨a1, a2, or16 hg (by unfold wkS at hp ⊢; omega), adn_lt hS, gd_sub hd (fun t ht => adn_sub ht), fallN_lt hS⟩
theorem bS_n {c' : Int} (hk : kd c = 0) (hn : kd c' ≠ 0) : bS h c k w r g S c' = h c' := bw_n hk hn
set_option maxHeartbeats 1000000 in
theorem s_carry (hk : kd c = 0) (hkk : 0 ≤ k ∧ k ≤ 3) (hw : 0 ≤ w ∧ w ≤ 999) (hr : 0 ≤ r ∧ r ≤ 999) (hg : g < 16) (hS : S < 256) (hd : gd h S) (hj : 0 ≤ j ∧ j ≤ 7) : wp 117 (am_ju 117 0) [aP c, aP 81, aI so, aI j, aX, aX] [] (sT (bS h c k w r g S)) Q ↔ Q (aI ((cy h k so j w r g S).2.2.2.2 : Int)) (sT (bS h c k (cy h k so j w r g S).1 (cy h k so j w r g S).2.1 (cy h k so j w r g S).2.2.1 (cy h k so j w r g S).2.2.2.1)) := by
  obtain ⟨d1, d2, d3⟩ := gd_W hd
  have a1 := ageW_r hw d2.1
  have a2 := ageR_r (so := so) hr d3.1
  have wr := weak_r (k := k) (w := aW h w S) (r := aR h r S so) (W := sumS (h 83) S 8) (E := sumS (h 85) S 8) (so := so) (j := j) (g := g)
  rw [ju_117_0]
  unfold bS cy
  by_cases h0 : S = 0
  · subst h0
    simp only [r_aLD0, r_gI, r_IF1, r_iCONST, r_iRET, r_iLD2, cl_114, r_iLD3, cl_115, r_iST4, r_iLD4, r_IF3, r_DUPI, r_DUPP, r_iSHL, r_iOR, r_pI, cl_116, r_iST5, r_iLD5, r_IF0, r_aLD1, r_iXOR, r_iAND, cl_41, eq_self, Int.reduceLT, Int.reduceLE, Int.reduceEq, true_or, or_true, and_self, true_and, and_true, w8_0, w8_1, w8_2, w8_3, w8_4, nl_I, nl_P, nl_X, pu_I, pu_J, pu_V, hk, bw_4, if_true]
    simp
  · have h0' : ¬ ((S : Int) = 0) := by omega
    simp only [r_aLD0, r_gI, r_IF1, r_iCONST, r_iRET, r_iLD2, cl_114, r_iLD3, cl_115, r_iST4, r_iLD4, r_IF3, r_DUPI, r_DUPP, r_iSHL, r_iOR, r_pI, cl_116, r_iST5, r_iLD5, r_IF0, r_aLD1, r_iXOR, r_iAND, cl_41, eq_self, Int.reduceLT, Int.reduceLE, Int.reduceEq, true_or, or_true, and_self, true_and, and_true, w8_0, w8_1, w8_2, w8_3, w8_4, nl_I, nl_P, nl_X, pu_I, pu_J, pu_V, hk, bw_4, if_neg h0, if_neg h0', not_false_eq_true, if_true, h0']
    rw [ju_117_5]
    simp only [r_aLD0, r_gI, r_IF1, r_iCONST, r_iRET, r_iLD2, cl_114, r_iLD3, cl_115, r_iST4, r_iLD4, r_IF3, r_DUPI, r_DUPP, r_iSHL, r_iOR, r_pI, cl_116, r_iST5, r_iLD5, r_IF0, r_aLD1, r_iXOR, r_iAND, cl_41, eq_self, Int.reduceLT, Int.reduceLE, Int.reduceEq, true_or, or_true, and_self, true_and, and_true, w8_0, w8_1, w8_2, w8_3, w8_4, nl_I, nl_P, nl_X, pu_I, pu_J, pu_V, hk, s_age hk hw hr ⟨d2.1, by omega⟩ ⟨d3.1, by omega⟩, if_neg h0', s_weakPlace hk hkk a1 a2 hg ⟨d1.1, by omega⟩ ⟨d3.1, by omega⟩ hj]
    rw [show weak k (ageW w (sumS (h 84) S 8)) (ageR r (sumS (h 85) S 8) so) g (sumS (h 83) S 8) (sumS (h 85) S 8) so j = wkS h k (aW h w S) (aR h r S so) g S so j from rfl]
    rw [show ageW w (sumS (h 84) S 8) = aW h w S from rfl, show ageR r (sumS (h 85) S 8) so = aR h r S so from rfl]
    generalize hpq : wkS h k (aW h w S) (aR h r S so) g S so j = p
    unfold wkS at hpq
    rw [hpq] at wr
    by_cases hp : p < 0
    · rw [if_neg (by omega), if_pos hp]
      simp
    · obtain ⟨q, rfl⟩ := Int.eq_ofNat_of_zero_le (show 0 ≤ p by omega)
      have hq : q < 4 := by omega
      have h31 : 1 * 2 ^ q < 2 ^ 31 := by
        rw [Nat.one_mul]; exact Nat.pow_lt_pow_right (by decide) (by omega)
      have hor := or16 hg hq
      have e1 : bOr (g : Int) (bShl 1 (q : Int)) = ((g ||| 2 ^ q : Nat) : Int) := by
        rw [show (1 : Int) = ((1 : Nat) : Int) from rfl, bShl_n 1 q (by omega) h31, bOr_n _ _ (by omega) h31, Nat.one_mul]
      rw [if_pos (by omega), if_neg hp, ju_117_17]
      simp only [r_aLD0, r_gI, r_IF1, r_iCONST, r_iRET, r_iLD2, cl_114, r_iLD3, cl_115, r_iST4, r_iLD4, r_IF3, r_DUPI, r_DUPP, r_iSHL, r_iOR, r_pI, cl_116, r_iST5, r_iLD5, r_IF0, r_aLD1, r_iXOR, r_iAND, cl_41, eq_self, Int.reduceLT, Int.reduceLE, Int.reduceEq, true_or, or_true, and_self, true_and, and_true, w8_0, w8_1, w8_2, w8_3, w8_4, nl_I, nl_P, nl_X, pu_I, pu_J, pu_V, hk, bw_3, e1, up_3, s_fallenBy hk hor hS, bw_4]
      rw [Int.toNat_natCast]
      generalize hfq : fallN (q : Int) (g ||| 2 ^ q) S = f
      have hf : f < 256 := by rw [← hfq]; exact fallN_lt hS
      by_cases hf0 : f = 0
      · subst hf0
        simp only [adn_0 hS, Int.natCast_zero, if_true, ju_117_40, r_aLD0, r_gI, r_IF1, r_iCONST, r_iRET, r_iLD2, cl_114, r_iLD3, cl_115, r_iST4, r_iLD4, r_IF3, r_DUPI, r_DUPP, r_iSHL, r_iOR, r_pI, cl_116, r_iST5, r_iLD5, r_IF0, r_aLD1, r_iXOR, r_iAND, cl_41, eq_self, Int.reduceLT, Int.reduceLE, Int.reduceEq, true_or, or_true, and_self, true_and, and_true, w8_0, w8_1, w8_2, w8_3, w8_4, nl_I, nl_P, nl_X, pu_I, pu_J, pu_V]
      · rw [if_neg (by omega)]
        have hgd : gd (bw h c k (aW h w S) (aR h r S so) ((g ||| 2 ^ q : Nat) : Int) (S : Int) (sumS (h 83) S 8) (sumS (h 84) S 8) (sumS (h 85) S 8)) (adn S f) := by
          intro t ht
          rw [bw_n hk (by decide), bw_n hk (by decide), bw_n hk (by decide)]
          exact hd t (adn_sub ht)
        simp only [adn_ok S f hS hf, s_hold hk (adn_lt hS) hgd, r_aLD0, r_gI, r_IF1, r_iCONST, r_iRET, r_iLD2, cl_114, r_iLD3, cl_115, r_iST4, r_iLD4, r_IF3, r_DUPI, r_DUPP, r_iSHL, r_iOR, r_pI, cl_116, r_iST5, r_iLD5, r_IF0, r_aLD1, r_iXOR, r_iAND, cl_41, eq_self, Int.reduceLT, Int.reduceLE, Int.reduceEq, true_or, or_true, and_self, true_and, and_true, w8_0, w8_1, w8_2, w8_3, w8_4, nl_I, nl_P, nl_X, pu_I, pu_J, pu_V, ju_117_40, bw_hold]
        rw [bw_n hk (by decide), bw_n hk (by decide), bw_n hk (by decide)]
end BK
