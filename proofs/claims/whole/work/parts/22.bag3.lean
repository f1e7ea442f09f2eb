def lo (a : Int) : Int := bAnd a (w3 (-a))
def loN (a : Nat) : Nat := a - (a &&& (a - 1))
theorem lo_ok : ∀ a : Nat, a < 256 → lo (a : Int) = (loN a : Int) ∧ loN a < 256 ∧ (loN a = 0 ↔ a = 0) ∧ loN a ≤ a := by decide +kernel
theorem lo_sub : ∀ a : Nat, a < 256 → a &&& loN a = loN a := by decide +kernel
/-- what falls: by place p, of the set S, when g is gone -/
def fallN (p : Int) (g S : Nat) : Nat := if p = 3 then loN S else if tornB g = true then S else 0
def gd (h : am_F) (a : Nat) : Prop := ∀ t : Nat, a.testBit t = true → (0 ≤ h 83 t ∧ h 83 t ≤ 30) ∧ (0 ≤ h 84 t ∧ h 84 t ≤ 5) ∧ (0 ≤ h 85 t ∧ h 85 t ≤ 5)
theorem gd_sub {h : am_F} {a b : Nat} (hg : gd h a) (hs : ∀ t, b.testBit t = true → a.testBit t = true) : gd h b := fun t ht => hg t (hs t ht)
section BJ
variable {h : am_F} {Q : am_V → am_S → Prop} {c k w r W D E pl j so v s bj : Int} {g S : Nat}
theorem sS_r {f : Int → Int} {a : Nat} {M : Nat} (hf : ∀ t : Nat, a.testBit t = true → 0 ≤ f t ∧ f t ≤ M) : 0 ≤ sumS f a 8 ∧ sumS f a 8 ≤ 8 * M := sumS_r hf 8
theorem s_hold (hk : kd c = 0) {a : Nat} (ha : a < 256) (hg : gd h a) : wp 41 (am_ju 41 0) [aP c, aP 81, aI (a : Int)] [] (sT h) Q ↔ Q aV (sT (up (up (up (up h c 4 a) c 5 (sumS (h 83) a 8)) c 6 (sumS (h 84) a 8)) c 7 (sumS (h 85) a 8))) := by
  have n1 : kd 83 ≠ 0 := by decide
  have n2 : kd 84 ≠ 0 := by decide
  have n3 : kd 85 ≠ 0 := by decide
  have e1 : ∀ k v, up h c k v 83 = h 83 := fun k v => up_kd hk n1
  have e2 : ∀ k v k' v', up (up h c k v) c k' v' 84 = h 84 := fun k v k' v' => by rw [up_kd hk n2, up_kd hk n2]
  have e3 : ∀ k v k' v' k2 v2, up (up (up h c k v) c k' v') c k2 v2 85 = h 85 := fun k v k' v' k2 v2 => by rw [up_kd hk n3, up_kd hk n3, up_kd hk n3]
  simp only [ju_41_0, r_aLD0, r_iLD2, r_pI, r_aLD1, r_gR, cl_40, r_vRET, eq_self, Int.reduceLT, Int.reduceLE, Int.reduceEq, true_or, or_true, and_self, true_and, and_true, w8_0, w8_1, w8_2, w8_3, w8_4, nl_I, nl_P, nl_X, pu_I, pu_J, pu_V, hk, kd_81, ln_81, rR_81_0, rR_81_1, rR_81_2, rR_81_3, rR_81_4, rR_81_5]
  rw [s_sumOf (show a < 2 ^ 31 by omega) kd_83 ln_83 (fun t ht => by rw [e1]; have := (hg t ht).1; omega), e1]
  simp only [r_aLD0, r_iLD2, r_pI, r_aLD1, r_gR, cl_40, r_vRET, eq_self, Int.reduceLT, Int.reduceLE, Int.reduceEq, true_or, or_true, and_self, true_and, and_true, w8_0, w8_1, w8_2, w8_3, w8_4, nl_I, nl_P, nl_X, pu_I, pu_J, pu_V, hk, kd_81, ln_81, rR_81_0, rR_81_1, rR_81_2, rR_81_3, rR_81_4, rR_81_5]
  rw [s_sumOf (show a < 2 ^ 31 by omega) kd_84 ln_84 (fun t ht => by rw [e2]; have := (hg t ht).2.1; omega), e2]
  simp only [r_aLD0, r_iLD2, r_pI, r_aLD1, r_gR, cl_40, r_vRET, eq_self, Int.reduceLT, Int.reduceLE, Int.reduceEq, true_or, or_true, and_self, true_and, and_true, w8_0, w8_1, w8_2, w8_3, w8_4, nl_I, nl_P, nl_X, pu_I, pu_J, pu_V, hk, kd_81, ln_81, rR_81_0, rR_81_1, rR_81_2, rR_81_3, rR_81_4, rR_81_5]
  rw [s_sumOf (show a < 2 ^ 31 by omega) kd_85 ln_85 (fun t ht => by rw [e3]; have := (hg t ht).2.2; omega), e3]
  simp only [r_aLD0, r_iLD2, r_pI, r_aLD1, r_gR, cl_40, r_vRET, eq_self, Int.reduceLT, Int.reduceLE, Int.reduceEq, true_or, or_true, and_self, true_and, and_true, w8_0, w8_1, w8_2, w8_3, w8_4, nl_I, nl_P, nl_X, pu_I, pu_J, pu_V, hk, kd_81, ln_81, rR_81_0, rR_81_1, rR_81_2, rR_81_3, rR_81_4, rR_81_5]
theorem bw_hold {a : Int} : up (up (up (up (bw h c k w r pl so W D E) c 4 a) c 5 v) c 6 s) c 7 bj = bw h c k w r pl a v s bj := by rw [up_4, up_5, up_6, up_7]
theorem s_load (hk : kd c = 0) {b : Int} (hb : 0 ≤ b ∧ b < h 81 6 ∧ b < 3) {a : Nat} (ha : a < 256) (hg : gd h a) : wp 42 (am_ju 42 0) [aP 80, aP c, aI b, aI (a : Int)] [] (sT h) Q ↔ Q aV (sT (bw h c (h 82 b) (h 91 b) (h 92 b) (h 93 b) a (sumS (h 83) a 8) (sumS (h 84) a 8) (sumS (h 85) a 8))) := by
  have e : ∀ (h' : am_F) (k v c' : Int), kd c' ≠ 0 → up h' c k v c' = h' c' := fun h' k v c' hn => up_kd hk hn
  rw [ju_42_0]
  simp only [ju_42_6, r_aLD0, r_gR, r_iLD2, cl_28, r_IF1, r_vRET, r_aLD1, r_iALD, r_iALDs, r_pI, r_iLD3, cl_41, eq_self, Int.reduceLT, Int.reduceLE, Int.reduceEq, true_or, or_true, and_self, true_and, and_true, w8_0, w8_1, w8_2, w8_3, w8_4, nl_I, nl_P, nl_X, pu_I, pu_J, pu_V, hk, kd_80, ln_80, rR_80_0, rR_80_1, rR_80_2, rR_80_3, kd_81, ln_81, rR_81_0, rR_81_1, rR_81_2, rR_81_3, rR_81_4, rR_81_5, kd_82, ln_82, kd_90, ln_90, rR_90_0, rR_90_1, rR_90_2, rR_90_3, kd_91, ln_91, kd_92, ln_92, kd_93, ln_93, s_hasBag kd_81, b01, hb.1, hb.2.1, and_self, if_true, not_true, if_false, Int.reduceNeg, not_false_eq_true]
  rw [e _ _ _ 91 (by decide), e _ _ _ 92 (by decide), e _ _ _ 92 (by decide), e _ _ _ 93 (by decide), e _ _ _ 93 (by decide), e _ _ _ 93 (by decide)]
  have hg2 : gd (up (up (up (up h c 0 (h 82 b)) c 1 (h 91 b)) c 2 (h 92 b)) c 3 (h 93 b)) a := by
    intro t ht
    rw [e _ _ _ 83 (by decide), e _ _ _ 83 (by decide), e _ _ _ 83 (by decide), e _ _ _ 83 (by decide), e _ _ _ 84 (by decide), e _ _ _ 84 (by decide), e _ _ _ 84 (by decide), e _ _ _ 84 (by decide), e _ _ _ 85 (by decide), e _ _ _ 85 (by decide), e _ _ _ 85 (by decide), e _ _ _ 85 (by decide)]
    exact hg t ht
  simp only [s_hold hk ha hg2, r_aLD0, r_gR, r_iLD2, cl_28, r_IF1, r_vRET, r_aLD1, r_iALD, r_iALDs, r_pI, r_iLD3, cl_41, eq_self, Int.reduceLT, Int.reduceLE, Int.reduceEq, true_or, or_true, and_self, true_and, and_true, w8_0, w8_1, w8_2, w8_3, w8_4, nl_I, nl_P, nl_X, pu_I, pu_J, pu_V]
  rw [e _ _ _ 83 (by decide), e _ _ _ 83 (by decide), e _ _ _ 83 (by decide), e _ _ _ 83 (by decide), e _ _ _ 84 (by decide), e _ _ _ 84 (by decide), e _ _ _ 84 (by decide), e _ _ _ 84 (by decide), e _ _ _ 85 (by decide), e _ _ _ 85 (by decide), e _ _ _ 85 (by decide), e _ _ _ 85 (by decide)]
  have hbb : (0 ≤ b ∧ b < 3) := ⟨hb.1, hb.2.2⟩
  simp only [hbb, true_and]
  rfl
theorem s_sag {g S : Int} (hk : kd c = 0) (hw : 0 ≤ w ∧ w ≤ 999) (hr : 0 ≤ r ∧ r ≤ 999) : wp 43 (am_ju 43 0) [aP c] [] (sT (bw h c k w r g S W D E)) Q ↔ Q (aI ((w + r) / 10)) (sT (bw h c k w r g S W D E)) := by
  simp only [ju_43_0, r_aLD0, r_gI, r_iADD, r_bPUSH, r_iDIV, r_iRET, eq_self, Int.reduceLT, Int.reduceLE, Int.reduceEq, true_or, or_true, and_self, true_and, and_true, w8_0, w8_1, w8_2, w8_3, w8_4, nl_I, nl_P, nl_X, pu_I, pu_J, pu_V, hk, bw_1, bw_2, ne_eq, Int.reduceEq, not_false_eq_true]
  simp (disch := omega) only [w3_id]
  rw [iDv_n (by omega) (by omega) (by omega) (by omega)]
theorem s_fallenBy (hk : kd c = 0) (hg : g < 16) (hS : S < 256) : wp 116 (am_ju 116 0) [aP c, aI pl] [] (sT (bw h c k w r g S W D E)) Q ↔ Q (aI (fallN pl g S : Int)) (sT (bw h c k w r g S W D E)) := by
  have hl : bAnd (S : Int) (w3 (-(S : Int))) = (loN S : Int) := (lo_ok S hS).1
  simp only [ju_116_0, ju_116_10, ju_116_17, ju_116_18, r_iLD1, r_iCONST, r_IC1, r_aLD0, r_gI, r_iNEG, r_iAND, r_iRET, cl_30, r_IF0, r_GOTO, eq_self, Int.reduceLT, Int.reduceLE, Int.reduceEq, true_or, or_true, and_self, true_and, and_true, w8_0, w8_1, w8_2, w8_3, w8_4, nl_I, nl_P, nl_X, pu_I, pu_J, pu_V, hk, bw_4, bw_3, hl, s_isTorn hg, b01]
  unfold fallN
  by_cases h3 : pl = 3
  · simp [h3]
  · by_cases ht : tornB g = true
    · simp [h3, ht]
    · simp [h3, ht]
end BJ
