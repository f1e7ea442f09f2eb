section LV
variable {g h h' h1 h2 u : am_F} {Q : am_V → am_S → Prop} {so j bj x y z i o c w r v : Int} {n nb L s K nx b m k a q B S T : Nat}
theorem gd_t (hu : tR h u) (hd : gd h S) : gd u S := fun t ht => by rw [hu 83 (by decide), hu 84 (by decide), hu 85 (by decide)]; exact hd t ht
theorem s_giveWith (hC : CO h n nb L s) (hu : tR h u) (hb : b < nb) (hS : S < 256) (hd : gd h S) (hbj : 0 ≤ bj ∧ bj ≤ 7) (hq : ∀ g, tR h g → Q (aI (gW h L s bj (h 82 b) b S)) (sT g)) : wp 150 (am_ju 150 0) [aP 137, aI (b : Int), aI (S : Int), aI bj] [] (sT u) Q := by
  obtain ⟨c1, c2, c3, c4, c5, c6, c7, c8, c9, c10⟩ := id hC
  have hCu := CO_t hC hu
  obtain ⟨e1, e2, e3, -, e5, -, e7, -⟩ := id hCu
  obtain ⟨d1, d2, d3, d4⟩ := c10 b hb
  obtain ⟨gg, eg⟩ := Int.eq_ofNat_of_zero_le d4.1
  have hgd := gd_t hu hd
  have ld := fun Q' => s_load (h := u) (Q := Q') (c := 138) (b := (b : Int)) kd_138 ⟨by omega, by omega, by omega⟩ hS hgd
  rw [hu 82 (by decide), hu 91 (by decide), hu 92 (by decide), hu 93 (by decide), eg] at ld
  have e4 : bS u 138 (h 82 b) (h 91 b) (h 92 b) gg S 90 4 = (s : Int) := by rw [bS_n kd_138 (by decide)]; exact e7
  rw [ju_150_0]
  simp only [r_aLD0, r_gR, r_iLD1, r_iLD2, cl_42, r_gI, r_iLD3, cl_134, r_iRET, eq_self, Int.reduceLT, Int.reduceLE, Int.reduceEq, true_or, or_true, and_self, true_and, and_true, w8_0, w8_1, w8_2, w8_3, w8_4, nl_I, nl_P, nl_X, pu_I, pu_J, pu_V, kd_137, ln_137, rR_137_0, rR_137_1, rR_137_2, rR_137_3, rR_137_4, rR_137_6, rR_137_7, rR_137_8, kd_80, ln_80, rR_80_0, rR_80_1, rR_80_2, rR_80_3, kd_138, ln_138, ld]
  rw [show bw u 138 (h 82 b) (h 91 b) (h 92 b) (gg : Int) (S : Int) (sumS (u 83) S 8) (sumS (u 84) S 8) (sumS (u 85) S 8) = bS u 138 (h 82 b) (h 91 b) (h 92 b) gg S from rfl]
  simp only [r_aLD0, r_gR, r_iLD1, r_iLD2, cl_42, r_gI, r_iLD3, cl_134, r_iRET, eq_self, Int.reduceLT, Int.reduceLE, Int.reduceEq, true_or, or_true, and_self, true_and, and_true, w8_0, w8_1, w8_2, w8_3, w8_4, nl_I, nl_P, nl_X, pu_I, pu_J, pu_V, kd_137, ln_137, rR_137_0, rR_137_1, rR_137_2, rR_137_3, rR_137_4, rR_137_6, rR_137_7, rR_137_8, kd_80, ln_80, rR_80_0, rR_80_1, rR_80_2, rR_80_3, kd_138, ln_138, kd_88, ln_88, rR_88_0, kd_90, ln_90, rR_90_0, rR_90_1, rR_90_2, rR_90_3, e4]
  refine s_firstGive kd_138 d1 d2 d3 (by omega) hgd hbj e5 c6 c8 (fun w' r' => ?_)
  simp only [r_aLD0, r_gR, r_iLD1, r_iLD2, cl_42, r_gI, r_iLD3, cl_134, r_iRET, eq_self, Int.reduceLT, Int.reduceLE, Int.reduceEq, true_or, or_true, and_self, true_and, and_true, w8_0, w8_1, w8_2, w8_3, w8_4, nl_I, nl_P, nl_X, pu_I, pu_J, pu_V]
  have := hq _ (bS_t (k := h 82 b) (w := w') (r := r') (g := gg) (S := S) hu)
  unfold gW at this
  rw [eg, Int.toNat_natCast] at this
  rw [fgv_t hu]
  exact this
theorem s_less (hS : S < 256) (hT : T < 256) (h1 : ∀ t : Nat, S.testBit t = true → 0 ≤ u 86 t ∧ u 86 t ≤ (99 : Nat)) (h2 : ∀ t : Nat, T.testBit t = true → 0 ≤ u 86 t ∧ u 86 t ≤ (99 : Nat)) : wp 164 (am_ju 164 0) [aP 137, aI (S : Int), aI (T : Int), aX, aX] [] (sT u) Q ↔ Q (aI (if cst (u 86) S < cst (u 86) T then 1 else 0)) (sT u) := by
  have r1 := sS_r (f := u 86) (a := S) (M := 99) h1
  have r2 := sS_r (f := u 86) (a := T) (M := 99) h2
  have p1 := popc_le S
  have p2 := popc_le T
  have hl := cst_lt (f := u 86) hS hT
  rw [ju_164_0]
  simp only [r_aLD0, r_gR, r_iLD1, cl_40, r_iLD2, r_iSUB, r_iST3, r_iLD3, r_IF0, r_IF3, r_iCONST, r_GOTO, r_zRET, cl_55, r_iST4, r_iLD4, r_IC3, eq_self, Int.reduceLT, Int.reduceLE, Int.reduceEq, true_or, or_true, and_self, true_and, and_true, w8_0, w8_1, w8_2, w8_3, w8_4, nl_I, nl_P, nl_X, pu_I, pu_J, pu_V, kd_137, ln_137, rR_137_0, rR_137_1, rR_137_2, rR_137_3, rR_137_4, rR_137_6, rR_137_7, rR_137_8, kd_80, ln_80, rR_80_0, rR_80_1, rR_80_2, rR_80_3, kd_81, ln_81, rR_81_0, rR_81_1, rR_81_2, rR_81_3, rR_81_4, rR_81_5, s_sumOf (h := u) (a := S) (show S < 2 ^ 31 by omega) kd_86 ln_86 h1, s_sumOf (h := u) (a := T) (show T < 2 ^ 31 by omega) kd_86 ln_86 h2]
  rw [w3_id (by omega) (by omega)]
  by_cases e : sumS (u 86) S 8 = sumS (u 86) T 8
  · rw [if_pos (by omega), ju_164_22]
    simp only [r_aLD0, r_gR, r_iLD1, cl_40, r_iLD2, r_iSUB, r_iST3, r_iLD3, r_IF0, r_IF3, r_iCONST, r_GOTO, r_zRET, cl_55, r_iST4, r_iLD4, r_IC3, eq_self, Int.reduceLT, Int.reduceLE, Int.reduceEq, true_or, or_true, and_self, true_and, and_true, w8_0, w8_1, w8_2, w8_3, w8_4, nl_I, nl_P, nl_X, pu_I, pu_J, pu_V, s_bitCount hS, s_bitCount hT]
    rw [w3_id (by omega) (by omega)]
    by_cases f : popc S = popc T
    · rw [if_pos (by omega), ju_164_36]
      simp only [ju_164_41, ju_164_42, r_aLD0, r_gR, r_iLD1, cl_40, r_iLD2, r_iSUB, r_iST3, r_iLD3, r_IF0, r_IF3, r_iCONST, r_GOTO, r_zRET, cl_55, r_iST4, r_iLD4, r_IC3, eq_self, Int.reduceLT, Int.reduceLE, Int.reduceEq, true_or, or_true, and_self, true_and, and_true, w8_0, w8_1, w8_2, w8_3, w8_4, nl_I, nl_P, nl_X, pu_I, pu_J, pu_V, r_zRET0, r_zRET1]
      by_cases w : S < T
      · rw [if_neg (by omega), if_pos (hl.mpr (Or.inr ⟨e, Or.inr ⟨f, w⟩⟩))]
      · rw [if_pos (by omega), if_neg (fun z => by have := hl.mp z; omega)]
    · rw [if_neg (by omega)]
      simp only [ju_164_34, ju_164_42, r_aLD0, r_gR, r_iLD1, cl_40, r_iLD2, r_iSUB, r_iST3, r_iLD3, r_IF0, r_IF3, r_iCONST, r_GOTO, r_zRET, cl_55, r_iST4, r_iLD4, r_IC3, eq_self, Int.reduceLT, Int.reduceLE, Int.reduceEq, true_or, or_true, and_self, true_and, and_true, w8_0, w8_1, w8_2, w8_3, w8_4, nl_I, nl_P, nl_X, pu_I, pu_J, pu_V, r_zRET0, r_zRET1]
      by_cases w : popc S < popc T
      · rw [if_neg (by omega), if_pos (hl.mpr (Or.inr ⟨e, Or.inl w⟩))]
      · rw [if_pos (by omega), if_neg (fun z => by have := hl.mp z; omega)]
  · rw [if_neg (by omega)]
    simp only [ju_164_20, ju_164_21, r_aLD0, r_gR, r_iLD1, cl_40, r_iLD2, r_iSUB, r_iST3, r_iLD3, r_IF0, r_IF3, r_iCONST, r_GOTO, r_zRET, cl_55, r_iST4, r_iLD4, r_IC3, eq_self, Int.reduceLT, Int.reduceLE, Int.reduceEq, true_or, or_true, and_self, true_and, and_true, w8_0, w8_1, w8_2, w8_3, w8_4, nl_I, nl_P, nl_X, pu_I, pu_J, pu_V, r_zRET0, r_zRET1]
    by_cases w : sumS (u 86) S 8 < sumS (u 86) T 8
    · rw [if_neg (by omega), if_pos (hl.mpr (Or.inl w))]
    · rw [if_pos (by omega), if_neg (fun z => by have := hl.mp z; omega)]
theorem adn_0i {A : Nat} (hA : A < 256) : adn A B = 0 ↔ ∀ t, A.testBit t = true → B.testBit t = true := by
  constructor
  · intro e t ht
    have := adn_bit (S := A) (f := B) (t := t) hA
    rw [e, Nat.zero_testBit, ht] at this
    cases hB : B.testBit t with
    | true => rfl
    | false => rw [hB] at this; cases this
  · intro hs
    apply Nat.eq_of_testBit_eq
    intro t
    rw [adn_bit hA, Nat.zero_testBit]
    cases hA2 : A.testBit t with
    | false => rfl
    | true => rw [hs t hA2]; rfl
/-- what may be left of bag b -/
def pLf (h : am_F) (n L s b S : Nat) : Bool := decide (adn S (cS h b n) = 0) && decide (gW h L s 7 (h 82 b) b (adn (cS h b n) S) = 99)
def lfO (h : am_F) (n L s b : Nat) : Nat := bst (pLf h n L s b) (cst (h 86)) (cS h b n) 256
theorem pLf_0 (h8 : n ≤ 8) : pLf h n L s b (cS h b n) = true := by
  have hS := cS_lt (h := h) (b := (b : Int)) h8
  have e : adn (cS h b n) (cS h b n) = 0 := (adn_0i hS).mpr (fun t q => q)
  unfold pLf gW
  rw [e]
  simp
theorem bst_lt {p : Nat → Bool} {f : Nat → Int} {x0 N : Nat} (h0 : x0 < N) : ∀ i, i ≤ N → bst p f x0 i < N := by
  intro i
  induction i with
  | zero => intro _; exact h0
  | succ i ih => intro hi; rw [bst]; have := ih (by omega); split <;> omega
theorem bst_p {p : Nat → Bool} {f : Nat → Int} {x0 : Nat} (h0 : p x0 = true) (i : Nat) : p (bst p f x0 i) = true := (bst_min h0 i).1
theorem pLf_bits (h8 : n ≤ 8) (hS : S < 256) (hp : pLf h n L s b S = true) : ∀ t, S.testBit t = true → t < n := by
  intro t ht
  unfold pLf at hp
  rw [Bool.and_eq_true, decide_eq_true_eq] at hp
  have := (adn_0i hS).mp hp.1 t ht
  unfold cS at this
  rw [setF_bit, Bool.and_eq_true, decide_eq_true_eq] at this
  exact this.1
set_option maxHeartbeats 1000000 in
theorem lp_leftOf (hC : CO h n nb L s) (hb : b < nb) (hwr : ∀ t : Nat, t < n → 0 ≤ h 86 t ∧ h 86 t ≤ (99 : Nat)) (hq : ∀ g, tR h g → Q (aI (lfO h n L s b : Int)) (sT g)) : ∀ (d i : Nat) (u : am_F), i + d = 256 → tR h u → wp 165 (am_ju 165 9) [aP 137, aI (b : Int), aI (cS h b n : Int), aI (bst (pLf h n L s b) (cst (h 86)) (cS h b n) i : Int), aI (i : Int)] [] (sT u) Q := by
  intro d
  have h8 := hC.2.2.2.1
  have hS := cS_lt (h := h) (b := (b : Int)) h8
  induction d with
  | zero =>
    intro i u hi hu
    have hi : i = 256 := by omega
    subst hi
    rw [ju_165_9]
    simp only [ju_165_39, r_aLD0, r_gR, r_iLD1, cl_39, r_iST2, r_iLD2, r_iST3, r_iCONST, r_iST4, r_iLD4, r_sPUSH, r_IC3, r_iXOR, r_iAND, r_IF1, r_iLD3, cl_164, r_GOTO, r_bPUSH, cl_150, r_IC1, r_IINC4, r_iRET, eq_self, Int.reduceLT, Int.reduceLE, Int.reduceEq, true_or, or_true, and_self, true_and, and_true, w8_0, w8_1, w8_2, w8_3, w8_4, nl_I, nl_P, nl_X, pu_I, pu_J, pu_V]
    rw [if_pos (by decide)]
    exact hq u hu
  | succ d ih =>
    intro i u hi hu
    have hw : w3 ((i : Int) + 1) = ((i + 1 : Nat) : Int) := w3_id (by omega) (by omega)
    have hbl := bst_lt (p := pLf h n L s b) (f := cst (h 86)) (N := 256) hS i (by omega)
    have hbp := bst_p (p := pLf h n L s b) (f := cst (h 86)) (x0 := cS h b n) (pLf_0 h8) i
    have ih := fun u => ih (i + 1) u (by omega)
    rw [bst] at ih
    generalize hbe : bst (pLf h n L s b) (cst (h 86)) (cS h b n) i = be at ih hbl hbp ⊢
    have i256 : i < 256 := by omega
    rw [ju_165_9]
    simp only [r_aLD0, r_gR, r_iLD1, cl_39, r_iST2, r_iLD2, r_iST3, r_iCONST, r_iST4, r_iLD4, r_sPUSH, r_IC3, r_iXOR, r_iAND, r_IF1, r_iLD3, cl_164, r_GOTO, r_bPUSH, cl_150, r_IC1, r_IINC4, r_iRET, eq_self, Int.reduceLT, Int.reduceLE, Int.reduceEq, true_or, or_true, and_self, true_and, and_true, w8_0, w8_1, w8_2, w8_3, w8_4, nl_I, nl_P, nl_X, pu_I, pu_J, pu_V, adn_ok i (cS h b n) i256 hS]
    rw [if_neg (by omega)]
    by_cases e : adn i (cS h b n) = 0
    · rw [if_neg (by omega)]
      have hsub := (adn_0i i256).mp e
      have hbi : ∀ t : Nat, i.testBit t = true → 0 ≤ u 86 t ∧ u 86 t ≤ (99 : Nat) := fun t ht => by
        have := hsub t ht
        unfold cS at this
        rw [setF_bit, Bool.and_eq_true, decide_eq_true_eq] at this
        rw [hu 86 (by decide)]
        exact hwr t this.1
      have hbb : ∀ t : Nat, be.testBit t = true → 0 ≤ u 86 t ∧ u 86 t ≤ (99 : Nat) := fun t ht => by
        rw [hu 86 (by decide)]
        exact hwr t (pLf_bits h8 hbl hbp t ht)
      simp only [r_aLD0, r_gR, r_iLD1, cl_39, r_iST2, r_iLD2, r_iST3, r_iCONST, r_iST4, r_iLD4, r_sPUSH, r_IC3, r_iXOR, r_iAND, r_IF1, r_iLD3, cl_164, r_GOTO, r_bPUSH, cl_150, r_IC1, r_IINC4, r_iRET, eq_self, Int.reduceLT, Int.reduceLE, Int.reduceEq, true_or, or_true, and_self, true_and, and_true, w8_0, w8_1, w8_2, w8_3, w8_4, nl_I, nl_P, nl_X, pu_I, pu_J, pu_V, kd_137, ln_137, rR_137_0, rR_137_1, rR_137_2, rR_137_3, rR_137_4, rR_137_6, rR_137_7, rR_137_8, s_less i256 hbl hbi hbb, hu 86 (by decide)]
      by_cases f : cst (h 86) i < cst (h 86) be
      · rw [if_pos (by simp [f]), ju_165_24]
        simp only [r_aLD0, r_gR, r_iLD1, cl_39, r_iST2, r_iLD2, r_iST3, r_iCONST, r_iST4, r_iLD4, r_sPUSH, r_IC3, r_iXOR, r_iAND, r_IF1, r_iLD3, cl_164, r_GOTO, r_bPUSH, cl_150, r_IC1, r_IINC4, r_iRET, eq_self, Int.reduceLT, Int.reduceLE, Int.reduceEq, true_or, or_true, and_self, true_and, and_true, w8_0, w8_1, w8_2, w8_3, w8_4, nl_I, nl_P, nl_X, pu_I, pu_J, pu_V, kd_137, ln_137, rR_137_0, rR_137_1, rR_137_2, rR_137_3, rR_137_4, rR_137_6, rR_137_7, rR_137_8, adn_ok (cS h b n) i hS i256]
        refine s_giveWith hC hu hb (adn_lt hS) (gd_sub (cS_gd hC) (fun t ht => adn_sub ht)) ⟨by decide, by decide⟩ (fun g hg => ?_)
        have ih := ih g hg
        simp only [r_aLD0, r_gR, r_iLD1, cl_39, r_iST2, r_iLD2, r_iST3, r_iCONST, r_iST4, r_iLD4, r_sPUSH, r_IC3, r_iXOR, r_iAND, r_IF1, r_iLD3, cl_164, r_GOTO, r_bPUSH, cl_150, r_IC1, r_IINC4, r_iRET, eq_self, Int.reduceLT, Int.reduceLE, Int.reduceEq, true_or, or_true, and_self, true_and, and_true, w8_0, w8_1, w8_2, w8_3, w8_4, nl_I, nl_P, nl_X, pu_I, pu_J, pu_V]
        by_cases y : gW h L s 7 (h 82 b) b (adn (cS h b n) i) = 99
        · have pi : pLf h n L s b i = true := by unfold pLf; simp [e, y]
          rw [if_pos ⟨pi, f⟩] at ih
          rw [if_neg (by simpa using y), ju_165_37]
          simp only [r_aLD0, r_gR, r_iLD1, cl_39, r_iST2, r_iLD2, r_iST3, r_iCONST, r_iST4, r_iLD4, r_sPUSH, r_IC3, r_iXOR, r_iAND, r_IF1, r_iLD3, cl_164, r_GOTO, r_bPUSH, cl_150, r_IC1, r_IINC4, r_iRET, eq_self, Int.reduceLT, Int.reduceLE, Int.reduceEq, true_or, or_true, and_self, true_and, and_true, w8_0, w8_1, w8_2, w8_3, w8_4, nl_I, nl_P, nl_X, pu_I, pu_J, pu_V, hw]
          exact ih
        · have pi : ¬ pLf h n L s b i = true := by unfold pLf; simp [y]
          rw [if_neg (fun q => pi q.1)] at ih
          rw [if_pos y, ju_165_37]
          simp only [r_aLD0, r_gR, r_iLD1, cl_39, r_iST2, r_iLD2, r_iST3, r_iCONST, r_iST4, r_iLD4, r_sPUSH, r_IC3, r_iXOR, r_iAND, r_IF1, r_iLD3, cl_164, r_GOTO, r_bPUSH, cl_150, r_IC1, r_IINC4, r_iRET, eq_self, Int.reduceLT, Int.reduceLE, Int.reduceEq, true_or, or_true, and_self, true_and, and_true, w8_0, w8_1, w8_2, w8_3, w8_4, nl_I, nl_P, nl_X, pu_I, pu_J, pu_V, hw]
          exact ih
      · have ih := ih u hu
        rw [if_neg (fun q => f q.2)] at ih
        rw [if_neg (by simp [f]), ju_165_37]
        simp only [r_aLD0, r_gR, r_iLD1, cl_39, r_iST2, r_iLD2, r_iST3, r_iCONST, r_iST4, r_iLD4, r_sPUSH, r_IC3, r_iXOR, r_iAND, r_IF1, r_iLD3, cl_164, r_GOTO, r_bPUSH, cl_150, r_IC1, r_IINC4, r_iRET, eq_self, Int.reduceLT, Int.reduceLE, Int.reduceEq, true_or, or_true, and_self, true_and, and_true, w8_0, w8_1, w8_2, w8_3, w8_4, nl_I, nl_P, nl_X, pu_I, pu_J, pu_V, hw]
        exact ih
    · have ih := ih u hu
      have pi : ¬ pLf h n L s b i = true := by unfold pLf; simp [e]
      rw [if_neg (fun q => pi q.1)] at ih
      rw [if_pos (by omega), ju_165_37]
      simp only [r_aLD0, r_gR, r_iLD1, cl_39, r_iST2, r_iLD2, r_iST3, r_iCONST, r_iST4, r_iLD4, r_sPUSH, r_IC3, r_iXOR, r_iAND, r_IF1, r_iLD3, cl_164, r_GOTO, r_bPUSH, cl_150, r_IC1, r_IINC4, r_iRET, eq_self, Int.reduceLT, Int.reduceLE, Int.reduceEq, true_or, or_true, and_self, true_and, and_true, w8_0, w8_1, w8_2, w8_3, w8_4, nl_I, nl_P, nl_X, pu_I, pu_J, pu_V, hw]
      exact ih
theorem s_leftOf (hC : CO h n nb L s) (hb : b < nb) (hwr : ∀ t : Nat, t < n → 0 ≤ h 86 t ∧ h 86 t ≤ (99 : Nat)) (hu : tR h u) (hq : ∀ g, tR h g → Q (aI (lfO h n L s b : Int)) (sT g)) : wp 165 (am_ju 165 0) [aP 137, aI (b : Int), aX, aX, aX] [] (sT u) Q := by
  have h8 := hC.2.2.2.1
  have e3 := (CO_t hC hu).2.2.1
  have ta : ∀ (Q' : am_V → am_S → Prop), wp 39 (am_ju 39 0) [aP 80, aI (b : Int), aX, aX] [] (sT u) Q' ↔ Q' (aI (cS h b n : Int)) (sT u) := fun Q' => by rw [s_thingsAt h8 e3, ← cS_t hu]; rfl
  rw [ju_165_0]
  simp only [r_aLD0, r_gR, r_iLD1, cl_39, r_iST2, r_iLD2, r_iST3, r_iCONST, r_iST4, r_iLD4, r_sPUSH, r_IC3, r_iXOR, r_iAND, r_IF1, r_iLD3, cl_164, r_GOTO, r_bPUSH, cl_150, r_IC1, r_IINC4, r_iRET, eq_self, Int.reduceLT, Int.reduceLE, Int.reduceEq, true_or, or_true, and_self, true_and, and_true, w8_0, w8_1, w8_2, w8_3, w8_4, nl_I, nl_P, nl_X, pu_I, pu_J, pu_V, kd_137, ln_137, rR_137_0, rR_137_1, rR_137_2, rR_137_3, rR_137_4, rR_137_6, rR_137_7, rR_137_8, kd_80, ln_80, rR_80_0, rR_80_1, rR_80_2, rR_80_3, ta]
  exact lp_leftOf hC hb hwr hq 256 0 u rfl hu
theorem lfO_p (h8 : n ≤ 8) : lfO h n L s b < 256 ∧ pLf h n L s b (lfO h n L s b) = true := ⟨bst_lt (cS_lt h8) 256 (Nat.le_refl _), bst_p (pLf_0 h8) 256⟩
theorem lp_leftAll (hC : CO h n nb L s) (hwr : ∀ t : Nat, t < n → 0 ≤ h 86 t ∧ h 86 t ≤ (99 : Nat)) (hq : ∀ g, tR h g → Q (aI (orB (lfO h n L s) nb : Int)) (sT g)) : ∀ (d b : Nat) (u : am_F), b + d = nb → tR h u → wp 166 (am_ju 166 4) [aP 137, aI (orB (lfO h n L s) b : Int), aI (b : Int)] [] (sT u) Q := by
  intro d
  have h8 := hC.2.2.2.1
  have h3 := hC.2.1
  induction d with
  | zero =>
    intro b u hb hu
    have hb : b = nb := by omega
    subst hb
    have e : u 81 6 = (b : Int) := by rw [hu 81 (by decide)]; exact hC.1
    rw [ju_166_4]
    simp only [ju_166_18, r_iCONST, r_iST1, r_iST2, r_iLD2, r_aLD0, r_gR, r_gI, r_IC3, r_iLD1, cl_165, r_iOR, r_IINC2, r_GOTO, r_iRET, eq_self, Int.reduceLT, Int.reduceLE, Int.reduceEq, true_or, or_true, and_self, true_and, and_true, w8_0, w8_1, w8_2, w8_3, w8_4, nl_I, nl_P, nl_X, pu_I, pu_J, pu_V, kd_137, ln_137, rR_137_0, rR_137_1, rR_137_2, rR_137_3, rR_137_4, rR_137_6, rR_137_7, rR_137_8, kd_80, ln_80, rR_80_0, rR_80_1, rR_80_2, rR_80_3, kd_81, ln_81, rR_81_0, rR_81_1, rR_81_2, rR_81_3, rR_81_4, rR_81_5, e]
    rw [if_pos (by omega)]
    exact hq u hu
  | succ d ih =>
    intro b u hb hu
    have e : u 81 6 = (nb : Int) := by rw [hu 81 (by decide)]; exact hC.1
    have hw : w3 ((b : Int) + 1) = ((b + 1 : Nat) : Int) := w3_id (by omega) (by omega)
    have l1 := orB_lt (T := lfO h n L s) b (fun c _ => (lfO_p h8).1)
    have l2 := (lfO_p (h := h) (n := n) (L := L) (s := s) (b := b) h8).1
    rw [ju_166_4]
    simp only [r_iCONST, r_iST1, r_iST2, r_iLD2, r_aLD0, r_gR, r_gI, r_IC3, r_iLD1, cl_165, r_iOR, r_IINC2, r_GOTO, r_iRET, eq_self, Int.reduceLT, Int.reduceLE, Int.reduceEq, true_or, or_true, and_self, true_and, and_true, w8_0, w8_1, w8_2, w8_3, w8_4, nl_I, nl_P, nl_X, pu_I, pu_J, pu_V, kd_137, ln_137, rR_137_0, rR_137_1, rR_137_2, rR_137_3, rR_137_4, rR_137_6, rR_137_7, rR_137_8, kd_80, ln_80, rR_80_0, rR_80_1, rR_80_2, rR_80_3, kd_81, ln_81, rR_81_0, rR_81_1, rR_81_2, rR_81_3, rR_81_4, rR_81_5, e]
    rw [if_neg (by omega)]
    refine s_leftOf hC (show b < nb by omega) hwr hu (fun g hg => ?_)
    simp only [r_iCONST, r_iST1, r_iST2, r_iLD2, r_aLD0, r_gR, r_gI, r_IC3, r_iLD1, cl_165, r_iOR, r_IINC2, r_GOTO, r_iRET, eq_self, Int.reduceLT, Int.reduceLE, Int.reduceEq, true_or, or_true, and_self, true_and, and_true, w8_0, w8_1, w8_2, w8_3, w8_4, nl_I, nl_P, nl_X, pu_I, pu_J, pu_V, bOr_n _ _ (show orB (lfO h n L s) b < 2 ^ 31 by omega) (show lfO h n L s b < 2 ^ 31 by omega), hw]
    exact ih (b + 1) g (by omega) hg
theorem s_Tleave (hC : CO h n nb L s) (hwr : ∀ t : Nat, t < n → 0 ≤ h 86 t ∧ h 86 t ≤ (99 : Nat)) (hq : ∀ g, tR h g → Q (aI (if 0 ≤ x ∧ x < 2 then (if x = 0 then (orB (lfO h n L s) nb : Int) else sumS (h 86) (orB (lfO h n L s) nb) 8) else -1)) (sT g)) : wp 167 (am_ju 167 0) [aP 0, aI x, aX] [] (sT h) Q := by
  have h8 := hC.2.2.2.1
  simp only [ju_167_0, r_iLD1, r_iCONST, cl_12, r_IF1, r_iRET, r_aLD0, r_gR, cl_166, r_iST2, r_iLD2, r_GOTO, cl_40, eq_self, Int.reduceLT, Int.reduceLE, Int.reduceEq, true_or, or_true, and_self, true_and, and_true, w8_0, w8_1, w8_2, w8_3, w8_4, nl_I, nl_P, nl_X, pu_I, pu_J, pu_V, s_isBelow]
  by_cases e : 0 ≤ x ∧ x < 2
  · rw [if_pos (by simp [e]), ju_167_6]
    simp only [if_pos e] at hq
    simp only [r_iLD1, r_iCONST, cl_12, r_IF1, r_iRET, r_aLD0, r_gR, cl_166, r_iST2, r_iLD2, r_GOTO, cl_40, eq_self, Int.reduceLT, Int.reduceLE, Int.reduceEq, true_or, or_true, and_self, true_and, and_true, w8_0, w8_1, w8_2, w8_3, w8_4, nl_I, nl_P, nl_X, pu_I, pu_J, pu_V, kd_0, ln_0, rR_0_0, rR_0_1, rR_0_3, rR_0_4, rR_0_5, rR_0_6, rR_0_7, rR_0_8, rR_0_9, rR_0_10, kd_137, ln_137, rR_137_0, rR_137_1, rR_137_2, rR_137_3, rR_137_4, rR_137_6, rR_137_7, rR_137_8]
    rw [ju_166_0]
    simp only [r_iCONST, r_iST1, r_iST2, r_iLD2, r_aLD0, r_gR, r_gI, r_IC3, r_iLD1, cl_165, r_iOR, r_IINC2, r_GOTO, r_iRET, eq_self, Int.reduceLT, Int.reduceLE, Int.reduceEq, true_or, or_true, and_self, true_and, and_true, w8_0, w8_1, w8_2, w8_3, w8_4, nl_I, nl_P, nl_X, pu_I, pu_J, pu_V]
    refine lp_leftAll hC hwr (fun g hg => ?_) nb 0 h (Nat.zero_add nb) (fun _ _ => rfl)
    have l1 := orB_lt (T := lfO h n L s) nb (fun c _ => (lfO_p h8).1)
    have hbt : ∀ t : Nat, (orB (lfO h n L s) nb).testBit t = true → 0 ≤ g 86 t ∧ g 86 t ≤ (99 : Nat) := fun t ht => by
      obtain ⟨b, q1, q2⟩ := (orB_bit nb).mp ht
      rw [hg 86 (by decide)]
      exact hwr t (pLf_bits h8 (lfO_p h8).1 (lfO_p h8).2 t q2)
    have := hq g hg
    simp only [r_iLD1, r_iCONST, cl_12, r_IF1, r_iRET, r_aLD0, r_gR, cl_166, r_iST2, r_iLD2, r_GOTO, cl_40, eq_self, Int.reduceLT, Int.reduceLE, Int.reduceEq, true_or, or_true, and_self, true_and, and_true, w8_0, w8_1, w8_2, w8_3, w8_4, nl_I, nl_P, nl_X, pu_I, pu_J, pu_V]
    by_cases f : x = 0
    · rw [if_pos f] at this
      simp only [f, not_true_eq_false, if_false, ju_167_20, r_iLD1, r_iCONST, cl_12, r_IF1, r_iRET, r_aLD0, r_gR, cl_166, r_iST2, r_iLD2, r_GOTO, cl_40, eq_self, Int.reduceLT, Int.reduceLE, Int.reduceEq, true_or, or_true, and_self, true_and, and_true, w8_0, w8_1, w8_2, w8_3, w8_4, nl_I, nl_P, nl_X, pu_I, pu_J, pu_V]
      exact this
    · rw [if_neg f] at this
      simp only [f, not_false_eq_true, if_true, ju_167_14, ju_167_20, r_iLD1, r_iCONST, cl_12, r_IF1, r_iRET, r_aLD0, r_gR, cl_166, r_iST2, r_iLD2, r_GOTO, cl_40, eq_self, Int.reduceLT, Int.reduceLE, Int.reduceEq, true_or, or_true, and_self, true_and, and_true, w8_0, w8_1, w8_2, w8_3, w8_4, nl_I, nl_P, nl_X, pu_I, pu_J, pu_V, kd_0, ln_0, rR_0_0, rR_0_1, rR_0_3, rR_0_4, rR_0_5, rR_0_6, rR_0_7, rR_0_8, rR_0_9, rR_0_10, kd_80, ln_80, rR_80_0, rR_80_1, rR_80_2, rR_80_3, kd_81, ln_81, rR_81_0, rR_81_1, rR_81_2, rR_81_3, rR_81_4, rR_81_5, s_sumOf (h := g) (show orB (lfO h n L s) nb < 2 ^ 31 by omega) kd_86 ln_86 hbt, hg 86 (by decide)]
      exact this
  · have := hq h (fun _ _ => rfl)
    rw [if_neg e] at this
    rw [if_neg (by simp [e])]
    exact this
end LV
