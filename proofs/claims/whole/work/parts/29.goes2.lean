/-- one step of one bag, by numbers -/
def core (k so j w r : Int) (g S : Nat) (W D E : Int) : Int × Int × Nat × Nat × Nat :=
  if S = 0 then (w, r, g, S, 0)
  else if weak k (ageW w D) (ageR r E so) g W E so j < 0 then (ageW w D, ageR r E so, g, S, 0)
  else (ageW w D, ageR r E so, g ||| 2 ^ (weak k (ageW w D) (ageR r E so) g W E so j).toNat, adn S (fallN (weak k (ageW w D) (ageR r E so) g W E so j) (g ||| 2 ^ (weak k (ageW w D) (ageR r E so) g W E so j).toNat) S), fallN (weak k (ageW w D) (ageR r E so) g W E so j) (g ||| 2 ^ (weak k (ageW w D) (ageR r E so) g W E so j).toNat) S)
theorem cy_core (h : am_F) (k so j w r : Int) (g S : Nat) : cy h k so j w r g S = core k so j w r g S (sumS (h 83) S 8) (sumS (h 84) S 8) (sumS (h 85) S 8) := rfl
def mC (h : am_F) (c b : Int) (n : Nat) (so j : Int) : Int × Int × Nat × Nat × Nat := core (h c (6 + 4 * b)) so j (h c (6 + 4 * b + 1)) (h c (6 + 4 * b + 2)) (h c (6 + 4 * b + 3)).toNat (mS h c b n) (sumF (rW h c b 0) n) (sumF (rW h c b 1) n) (sumF (rW h c b 2) n)
def mP (h : am_F) (c b : Int) (n : Nat) (so j : Int) : Int := weak (h c (6 + 4 * b)) (ageW (h c (6 + 4 * b + 1)) (sumF (rW h c b 1) n)) (ageR (h c (6 + 4 * b + 2)) (sumF (rW h c b 2) n) so) (h c (6 + 4 * b + 3)).toNat (sumF (rW h c b 0) n) (sumF (rW h c b 2) n) so j
def gs1 (h : am_F) (c b : Int) (n : Nat) (so : Int) : am_F := up (up h c (6 + 4 * b + 1) (ageW (h c (6 + 4 * b + 1)) (sumF (rW h c b 1) n))) c (6 + 4 * b + 2) (ageR (h c (6 + 4 * b + 2)) (sumF (rW h c b 2) n) so)
/-- the store behind one bag's step -/
def goS (h : am_F) (c b : Int) (n : Nat) (so j st : Int) : am_F :=
  if mS h c b n = 0 then h
  else if mP h c b n so j < 0 then gs1 h c b n so
  else whF (up (up (up (gs1 h c b n so) 149 13 1) c (6 + 4 * b + 3) ((mC h c b n so j).2.2.1 : Int)) 149 15 (if b = h 149 14 then ((mC h c b n so j).2.2.2.2 : Int) else h 149 15)) c (mC h c b n so j).2.2.2.2 (10 + st) n
def bk (h : am_F) (c b : Int) : Prop := (0 ≤ h c (6 + 4 * b) ∧ h c (6 + 4 * b) ≤ 3) ∧ (0 ≤ h c (6 + 4 * b + 1) ∧ h c (6 + 4 * b + 1) ≤ 999) ∧ (0 ≤ h c (6 + 4 * b + 2) ∧ h c (6 + 4 * b + 2) ≤ 999) ∧ (0 ≤ h c (6 + 4 * b + 3) ∧ h c (6 + 4 * b + 3) < 16)
section GP
variable {h : am_F} {Q : am_V → am_S → Prop} {c bj so j b st : Int} {n fl nb : Nat}
theorem mS_lt (h8 : n ≤ 8) : mS h c b n < 256 := Nat.lt_of_lt_of_le (setF_lt _ n) (Nat.pow_le_pow_right (n := 2) (j := 8) (by decide) h8)
set_option maxHeartbeats 2000000 in
theorem st_bag (hk : kd c = 20) (hc : c ≠ 149) (hl : ln c = 238) (h8 : n ≤ 8) (hn : h c 1 = (n : Int)) (hnb : h c 0 = (nb : Int)) (hnb3 : nb ≤ 3) (ht : tk h c n) (hb : 0 ≤ b ∧ b < nb) (hbk : bk h c b) (hj : 0 ≤ j ∧ j ≤ 7) (hst : h c 3 = st) (hs2 : 0 ≤ st ∧ st ≤ 100) (hfl : fl < 256) {v7 v8 v9 : am_V}
    (hq : ∀ v7 v8 v9, wp 125 (am_ju 125 35) [aP 149, aP c, aI bj, aI so, aI j, aI ((fl ||| (mC h c b n so j).2.2.2.2 : Nat) : Int), aI (b + 1), v7, v8, v9] [] (sT (goS h c b n so j st)) Q) :
    wp 125 (am_ju 125 35) [aP 149, aP c, aI bj, aI so, aI j, aI (fl : Int), aI b, v7, v8, v9] [] (sT h) Q := by
  obtain ⟨b1, b2, b3, b4⟩ := hbk
  obtain ⟨d1, d2, d3⟩ := tk_r (b := b) h8 ht
  obtain ⟨g, eg⟩ := Int.eq_ofNat_of_zero_le b4.1
  have hg : g < 16 := by omega
  have egn : (h c (6 + 4 * b + 3)).toNat = g := by rw [eg]; rfl
  have hw : w3 (b + 1) = b + 1 := w3_id (by omega) (by omega)
  have hSl := mS_lt (h := h) (c := c) (b := b) h8
  have a1 := ageW_r (D := sumF (rW h c b 1) n) b2 d2.1
  have a2 := ageR_r (so := so) (E := sumF (rW h c b 2) n) b3 d3.1
  rw [ju_125_35]
  simp (disch := first | assumption | omega | exact w8_0 | exact w8_1 _ | exact w8_2 _ _ | exact w8_3 _ _ _ | exact w8_4 _ _ _ _ | exact nl_I _ | exact nl_P _ | exact nl_X | decide | exact w8_5 _ _ _ _ _) only [r_aLD1, r_bPUSH, r_iCONST, r_iALDc, r_iALDs, r_iADD, r_iST3, r_iLD3, r_IC1, r_GOTO, r_iLD2, r_iST4, r_aLD0, r_pZ, r_pI, r_iST5, r_iST6, r_iLD6, r_IC3, cl_45, r_IF0, cl_122, r_iLD4, cl_123, r_iST7, r_iLD7, r_IF2, cl_18, r_DUP2, r_iSHL, r_iOR, r_iASTc, cl_124, r_iST8, r_gI, r_iLD8, r_iLD5, r_iST9, r_iLD9, cl_25, cl_34, r_IINC9, r_IINC6, r_iRET, eq_self, Int.reduceLT, Int.reduceLE, Int.reduceEq, true_or, or_true, and_self, true_and, and_true, w8_0, w8_1, w8_2, w8_3, w8_4, nl_I, nl_P, nl_X, pu_I, pu_J, pu_V, w3_id, Int.add_zero, hnb, s_thingsIn hk hl h8 hn]
  rw [if_neg (by omega), show setF (fun t => decide (h c (18 + 6 * t + 5) = b)) n = mS h c b n from rfl]
  by_cases h0 : mS h c b n = 0
  · rw [if_pos (by omega), ju_125_125]
    simp (disch := first | assumption | omega | exact w8_0 | exact w8_1 _ | exact w8_2 _ _ | exact w8_3 _ _ _ | exact w8_4 _ _ _ _ | exact nl_I _ | exact nl_P _ | exact nl_X | decide | exact w8_5 _ _ _ _ _) only [r_aLD1, r_bPUSH, r_iCONST, r_iALDc, r_iALDs, r_iADD, r_iST3, r_iLD3, r_IC1, r_GOTO, r_iLD2, r_iST4, r_aLD0, r_pZ, r_pI, r_iST5, r_iST6, r_iLD6, r_IC3, cl_45, r_IF0, cl_122, r_iLD4, cl_123, r_iST7, r_iLD7, r_IF2, cl_18, r_DUP2, r_iSHL, r_iOR, r_iASTc, cl_124, r_iST8, r_gI, r_iLD8, r_iLD5, r_iST9, r_iLD9, cl_25, cl_34, r_IINC9, r_IINC6, r_iRET, eq_self, Int.reduceLT, Int.reduceLE, Int.reduceEq, true_or, or_true, and_self, true_and, and_true, w8_0, w8_1, w8_2, w8_3, w8_4, nl_I, nl_P, nl_X, pu_I, pu_J, pu_V, w3_id, Int.add_zero, hw]
    have := hq v7 v8 v9
    simpa [mC, core, goS, h0] using this
  · rw [if_neg (by omega)]
    simp (disch := first | assumption | omega | exact w8_0 | exact w8_1 _ | exact w8_2 _ _ | exact w8_3 _ _ _ | exact w8_4 _ _ _ _ | exact nl_I _ | exact nl_P _ | exact nl_X | decide | exact w8_5 _ _ _ _ _) only [s_ages hk hl h8 hn ht ⟨hb.1, show b < 3 by omega⟩ rfl rfl b2 b3, r_aLD1, r_bPUSH, r_iCONST, r_iALDc, r_iALDs, r_iADD, r_iST3, r_iLD3, r_IC1, r_GOTO, r_iLD2, r_iST4, r_aLD0, r_pZ, r_pI, r_iST5, r_iST6, r_iLD6, r_IC3, cl_45, r_IF0, cl_122, r_iLD4, cl_123, r_iST7, r_iLD7, r_IF2, cl_18, r_DUP2, r_iSHL, r_iOR, r_iASTc, cl_124, r_iST8, r_gI, r_iLD8, r_iLD5, r_iST9, r_iLD9, cl_25, cl_34, r_IINC9, r_IINC6, r_iRET, eq_self, Int.reduceLT, Int.reduceLE, Int.reduceEq, true_or, or_true, and_self, true_and, and_true, w8_0, w8_1, w8_2, w8_3, w8_4, nl_I, nl_P, nl_X, pu_I, pu_J, pu_V, w3_id, Int.add_zero]
    rw [show up (up h c (6 + 4 * b + 1) (ageW (h c (6 + 4 * b + 1)) (sumF (rW h c b 1) n))) c (6 + 4 * b + 2) (ageR (h c (6 + 4 * b + 2)) (sumF (rW h c b 2) n) so) = gs1 h c b n so from rfl]
    have f0 : gs1 h c b n so c (6 + 4 * b) = h c (6 + 4 * b) := by unfold gs1; rw [up_k (by omega), up_k (by omega)]
    have f1 : gs1 h c b n so c (6 + 4 * b + 1) = ageW (h c (6 + 4 * b + 1)) (sumF (rW h c b 1) n) := by unfold gs1; rw [up_k (by omega), up_s]
    have f2 : gs1 h c b n so c (6 + 4 * b + 2) = ageR (h c (6 + 4 * b + 2)) (sumF (rW h c b 2) n) so := by unfold gs1; rw [up_s]
    have f3 : gs1 h c b n so c (6 + 4 * b + 3) = (g : Int) := by unfold gs1; rw [up_k (by omega), up_k (by omega), eg]
    have fn : gs1 h c b n so c 1 = (n : Int) := by unfold gs1; rw [up_k (by omega), up_k (by omega), hn]
    have fst : gs1 h c b n so c 3 = st := by unfold gs1; rw [up_k (by omega), up_k (by omega), hst]
    have ftk : tk (gs1 h c b n so) c n := tk_up (by omega) (tk_up (by omega) ht)
    have fr : ∀ wh, 0 ≤ wh → rW (gs1 h c b n so) c b wh = rW h c b wh := fun wh hwh => by unfold gs1; rw [rW_up (by omega) hwh, rW_up (by omega) hwh]
    have fS : mS (gs1 h c b n so) c b n = mS h c b n := by unfold gs1; rw [mS_up (by omega), mS_up (by omega)]
    have f49 : ∀ k, gs1 h c b n so 149 k = h 149 k := fun k => by unfold gs1; rw [up_ne (Ne.symm hc), up_ne (Ne.symm hc)]
    have wr := weak_r (k := h c (6 + 4 * b)) (w := ageW (h c (6 + 4 * b + 1)) (sumF (rW h c b 1) n)) (r := ageR (h c (6 + 4 * b + 2)) (sumF (rW h c b 2) n) so) (W := sumF (rW h c b 0) n) (E := sumF (rW h c b 2) n) (so := so) (j := j) (g := g)
    have eP : mP h c b n so j = weak (h c (6 + 4 * b)) (ageW (h c (6 + 4 * b + 1)) (sumF (rW h c b 1) n)) (ageR (h c (6 + 4 * b + 2)) (sumF (rW h c b 2) n) so) g (sumF (rW h c b 0) n) (sumF (rW h c b 2) n) so j := by unfold mP; rw [egn]
    rw [← eP] at wr
    have key : wp 125 (am_ju 125 57) [aP 149, aP c, aI bj, aI so, aI j, aI (fl : Int), aI b, v7, v8, v9] [aI (mP h c b n so j)] (sT (gs1 h c b n so)) Q := by
      rw [ju_125_57]
      simp (disch := first | assumption | omega | exact w8_0 | exact w8_1 _ | exact w8_2 _ _ | exact w8_3 _ _ _ | exact w8_4 _ _ _ _ | exact nl_I _ | exact nl_P _ | exact nl_X | decide | exact w8_5 _ _ _ _ _) only [r_aLD1, r_bPUSH, r_iCONST, r_iALDc, r_iALDs, r_iADD, r_iST3, r_iLD3, r_IC1, r_GOTO, r_iLD2, r_iST4, r_aLD0, r_pZ, r_pI, r_iST5, r_iST6, r_iLD6, r_IC3, cl_45, r_IF0, cl_122, r_iLD4, cl_123, r_iST7, r_iLD7, r_IF2, cl_18, r_DUP2, r_iSHL, r_iOR, r_iASTc, cl_124, r_iST8, r_gI, r_iLD8, r_iLD5, r_iST9, r_iLD9, cl_25, cl_34, r_IINC9, r_IINC6, r_iRET, eq_self, Int.reduceLT, Int.reduceLE, Int.reduceEq, true_or, or_true, and_self, true_and, and_true, w8_0, w8_1, w8_2, w8_3, w8_4, nl_I, nl_P, nl_X, pu_I, pu_J, pu_V, w3_id, Int.add_zero]
      by_cases hp : mP h c b n so j < 0
      · rw [if_pos hp, ju_125_125]
        simp (disch := first | assumption | omega | exact w8_0 | exact w8_1 _ | exact w8_2 _ _ | exact w8_3 _ _ _ | exact w8_4 _ _ _ _ | exact nl_I _ | exact nl_P _ | exact nl_X | decide | exact w8_5 _ _ _ _ _) only [r_aLD1, r_bPUSH, r_iCONST, r_iALDc, r_iALDs, r_iADD, r_iST3, r_iLD3, r_IC1, r_GOTO, r_iLD2, r_iST4, r_aLD0, r_pZ, r_pI, r_iST5, r_iST6, r_iLD6, r_IC3, cl_45, r_IF0, cl_122, r_iLD4, cl_123, r_iST7, r_iLD7, r_IF2, cl_18, r_DUP2, r_iSHL, r_iOR, r_iASTc, cl_124, r_iST8, r_gI, r_iLD8, r_iLD5, r_iST9, r_iLD9, cl_25, cl_34, r_IINC9, r_IINC6, r_iRET, eq_self, Int.reduceLT, Int.reduceLE, Int.reduceEq, true_or, or_true, and_self, true_and, and_true, w8_0, w8_1, w8_2, w8_3, w8_4, nl_I, nl_P, nl_X, pu_I, pu_J, pu_V, w3_id, Int.add_zero, hw]
        have := hq (aI (mP h c b n so j)) v8 v9
        have hp2 := hp
        unfold mP at hp2
        simpa [mC, core, goS, h0, hp, hp2] using this
      · rw [if_neg hp]
        obtain ⟨q, eq⟩ := Int.eq_ofNat_of_zero_le (show 0 ≤ mP h c b n so j by omega)
        have hq4 : q < 4 := by omega
        have h31 : 1 * 2 ^ q < 2 ^ 31 := by
          rw [Nat.one_mul]; exact Nat.pow_lt_pow_right (by decide) (by omega)
        have hor := or16 hg hq4
        have e1 : bOr (g : Int) (bShl 1 (q : Int)) = ((g ||| 2 ^ q : Nat) : Int) := by
          rw [show (1 : Int) = ((1 : Nat) : Int) from rfl, bShl_n 1 q (by omega) h31, bOr_n _ _ (by omega) h31, Nat.one_mul]
        have e13 : up (gs1 h c b n so) 149 13 1 c (6 + 4 * b + 3) = (g : Int) := by rw [up_ne hc, f3]
        rw [eq]
        simp (disch := first | assumption | omega | exact w8_0 | exact w8_1 _ | exact w8_2 _ _ | exact w8_3 _ _ _ | exact w8_4 _ _ _ _ | exact nl_I _ | exact nl_P _ | exact nl_X | decide | exact w8_5 _ _ _ _ _) only [r_aLD1, r_bPUSH, r_iCONST, r_iALDc, r_iALDs, r_iADD, r_iST3, r_iLD3, r_IC1, r_GOTO, r_iLD2, r_iST4, r_aLD0, r_pZ, r_pI, r_iST5, r_iST6, r_iLD6, r_IC3, cl_45, r_IF0, cl_122, r_iLD4, cl_123, r_iST7, r_iLD7, r_IF2, cl_18, r_DUP2, r_iSHL, r_iOR, r_iASTc, cl_124, r_iST8, r_gI, r_iLD8, r_iLD5, r_iST9, r_iLD9, cl_25, cl_34, r_IINC9, r_IINC6, r_iRET, eq_self, Int.reduceLT, Int.reduceLE, Int.reduceEq, true_or, or_true, and_self, true_and, and_true, w8_0, w8_1, w8_2, w8_3, w8_4, nl_I, nl_P, nl_X, pu_I, pu_J, pu_V, w3_id, Int.add_zero, s_bagAt, e13, e1]
        generalize h3e : up (up (gs1 h c b n so) 149 13 1) c (6 + 4 * b + 3) ((g ||| 2 ^ q : Nat) : Int) = h3
        have g1 : ∀ k, k ≠ 6 + 4 * b + 3 → h3 c k = gs1 h c b n so c k := fun k hk9 => by rw [← h3e, up_k hk9, up_ne hc]
        have g3 : h3 c (6 + 4 * b + 3) = ((g ||| 2 ^ q : Nat) : Int) := by rw [← h3e, up_s]
        have gn : h3 c 1 = (n : Int) := by rw [g1 _ (by omega), fn]
        have gst : h3 c 3 = st := by rw [g1 _ (by omega), fst]
        have gS : mS h3 c b n = mS h c b n := by
          rw [← fS]
          unfold mS
          congr 1
          funext t
          rw [g1 _ (by omega)]
        have g49 : ∀ k, k ≠ 13 → h3 149 k = h 149 k := fun k hk9 => by rw [← h3e, up_ne (Ne.symm hc), up_k hk9, f49]
        have ef : (mC h c b n so j).2.2.2.2 = fallN (q : Int) (g ||| 2 ^ q) (mS h c b n) := by
          have hp2 := hp
          rw [eP] at hp2 eq
          unfold mC core
          rw [egn, if_neg h0, if_neg hp2, eq, Int.toNat_natCast]
        have eg' : (mC h c b n so j).2.2.1 = g ||| 2 ^ q := by
          have hp2 := hp
          rw [eP] at hp2 eq
          unfold mC core
          rw [egn, if_neg h0, if_neg hp2, eq, Int.toNat_natCast]
        have hfa := fun Q' => s_falls (Q := Q') (pl := (q : Int)) hk hl h8 gn ⟨hb.1, show b < 3 by omega⟩ hor g3
        rw [gS, ← ef] at hfa
        have hf256 : (mC h c b n so j).2.2.2.2 < 256 := by rw [ef]; exact fallN_lt hSl
        simp (disch := first | assumption | omega | exact w8_0 | exact w8_1 _ | exact w8_2 _ _ | exact w8_3 _ _ _ | exact w8_4 _ _ _ _ | exact nl_I _ | exact nl_P _ | exact nl_X | decide | exact w8_5 _ _ _ _ _) only [hfa, r_aLD1, r_bPUSH, r_iCONST, r_iALDc, r_iALDs, r_iADD, r_iST3, r_iLD3, r_IC1, r_GOTO, r_iLD2, r_iST4, r_aLD0, r_pZ, r_pI, r_iST5, r_iST6, r_iLD6, r_IC3, cl_45, r_IF0, cl_122, r_iLD4, cl_123, r_iST7, r_iLD7, r_IF2, cl_18, r_DUP2, r_iSHL, r_iOR, r_iASTc, cl_124, r_iST8, r_gI, r_iLD8, r_iLD5, r_iST9, r_iLD9, cl_25, cl_34, r_IINC9, r_IINC6, r_iRET, eq_self, Int.reduceLT, Int.reduceLE, Int.reduceEq, true_or, or_true, and_self, true_and, and_true, w8_0, w8_1, w8_2, w8_3, w8_4, nl_I, nl_P, nl_X, pu_I, pu_J, pu_V, w3_id, Int.add_zero, g49 14 (by decide), g49 15 (by decide)]
        have fin : ∀ x : Int, x = (if b = h 149 14 then ((mC h c b n so j).2.2.2.2 : Int) else h 149 15) → wp 125 (am_ju 125 89) [aP 149, aP c, aI bj, aI so, aI j, aI (fl : Int), aI b, aI (q : Int), aI ((mC h c b n so j).2.2.2.2 : Int), v9] [aI x, aP 149] (sT h3) Q := by
          intro x hx
          rw [ju_125_89]
          simp (disch := first | assumption | omega | exact w8_0 | exact w8_1 _ | exact w8_2 _ _ | exact w8_3 _ _ _ | exact w8_4 _ _ _ _ | exact nl_I _ | exact nl_P _ | exact nl_X | decide | exact w8_5 _ _ _ _ _) only [r_aLD1, r_bPUSH, r_iCONST, r_iALDc, r_iALDs, r_iADD, r_iST3, r_iLD3, r_IC1, r_GOTO, r_iLD2, r_iST4, r_aLD0, r_pZ, r_pI, r_iST5, r_iST6, r_iLD6, r_IC3, cl_45, r_IF0, cl_122, r_iLD4, cl_123, r_iST7, r_iLD7, r_IF2, cl_18, r_DUP2, r_iSHL, r_iOR, r_iASTc, cl_124, r_iST8, r_gI, r_iLD8, r_iLD5, r_iST9, r_iLD9, cl_25, cl_34, r_IINC9, r_IINC6, r_iRET, eq_self, Int.reduceLT, Int.reduceLE, Int.reduceEq, true_or, or_true, and_self, true_and, and_true, w8_0, w8_1, w8_2, w8_3, w8_4, nl_I, nl_P, nl_X, pu_I, pu_J, pu_V, w3_id, Int.add_zero, bOr_n fl _ (show fl < 2 ^ 31 by omega) (show (mC h c b n so j).2.2.2.2 < 2 ^ 31 by omega)]
          have k1 : up h3 149 15 x c 1 = (n : Int) := by rw [up_ne hc, gn]
          have k3 : up h3 149 15 x c 3 = st := by rw [up_ne hc, gst]
          have := lp_wh (Q := Q) (bj := bj) (so := so) (j := j) (b := b) (p := (q : Int)) (fl := ((fl ||| (mC h c b n so j).2.2.2.2 : Nat) : Int)) hk hl h8 k1 hf256 k3 hs2 (fun v hv => ?_) n 0 (Nat.zero_add n)
          · rw [whF_0] at this
            exact this
          · rw [ju_125_125]
            simp (disch := first | assumption | omega | exact w8_0 | exact w8_1 _ | exact w8_2 _ _ | exact w8_3 _ _ _ | exact w8_4 _ _ _ _ | exact nl_I _ | exact nl_P _ | exact nl_X | decide | exact w8_5 _ _ _ _ _) only [r_aLD1, r_bPUSH, r_iCONST, r_iALDc, r_iALDs, r_iADD, r_iST3, r_iLD3, r_IC1, r_GOTO, r_iLD2, r_iST4, r_aLD0, r_pZ, r_pI, r_iST5, r_iST6, r_iLD6, r_IC3, cl_45, r_IF0, cl_122, r_iLD4, cl_123, r_iST7, r_iLD7, r_IF2, cl_18, r_DUP2, r_iSHL, r_iOR, r_iASTc, cl_124, r_iST8, r_gI, r_iLD8, r_iLD5, r_iST9, r_iLD9, cl_25, cl_34, r_IINC9, r_IINC6, r_iRET, eq_self, Int.reduceLT, Int.reduceLE, Int.reduceEq, true_or, or_true, and_self, true_and, and_true, w8_0, w8_1, w8_2, w8_3, w8_4, nl_I, nl_P, nl_X, pu_I, pu_J, pu_V, w3_id, Int.add_zero, hw]
            have h9 := hq (aI (q : Int)) (aI ((mC h c b n so j).2.2.2.2 : Int)) v
            unfold goS at h9
            rw [if_neg h0, if_neg hp, eg', h3e, ← hx] at h9
            exact h9
        by_cases hbw : b = h 149 14
        · rw [if_neg (by simpa using hbw)]
          exact fin _ (by rw [if_pos hbw])
        · rw [if_pos hbw, ju_125_87]
          simp (disch := first | assumption | omega | exact w8_0 | exact w8_1 _ | exact w8_2 _ _ | exact w8_3 _ _ _ | exact w8_4 _ _ _ _ | exact nl_I _ | exact nl_P _ | exact nl_X | decide | exact w8_5 _ _ _ _ _) only [r_aLD1, r_bPUSH, r_iCONST, r_iALDc, r_iALDs, r_iADD, r_iST3, r_iLD3, r_IC1, r_GOTO, r_iLD2, r_iST4, r_aLD0, r_pZ, r_pI, r_iST5, r_iST6, r_iLD6, r_IC3, cl_45, r_IF0, cl_122, r_iLD4, cl_123, r_iST7, r_iLD7, r_IF2, cl_18, r_DUP2, r_iSHL, r_iOR, r_iASTc, cl_124, r_iST8, r_gI, r_iLD8, r_iLD5, r_iST9, r_iLD9, cl_25, cl_34, r_IINC9, r_IINC6, r_iRET, eq_self, Int.reduceLT, Int.reduceLE, Int.reduceEq, true_or, or_true, and_self, true_and, and_true, w8_0, w8_1, w8_2, w8_3, w8_4, nl_I, nl_P, nl_X, pu_I, pu_J, pu_V, w3_id, Int.add_zero, g49 15 (by decide)]
          exact fin _ (by rw [if_neg hbw])
    by_cases h4 : so = 4
    · have e4 : mP h c b n so j = -1 := by unfold mP weak; rw [if_pos h4]
      rw [if_neg (by simpa using h4)]
      rw [e4] at key
      exact key
    · rw [if_pos h4, ju_125_53]
      simp (disch := first | assumption | omega | exact w8_0 | exact w8_1 _ | exact w8_2 _ _ | exact w8_3 _ _ _ | exact w8_4 _ _ _ _ | exact nl_I _ | exact nl_P _ | exact nl_X | decide | exact w8_5 _ _ _ _ _) only [r_aLD1, r_bPUSH, r_iCONST, r_iALDc, r_iALDs, r_iADD, r_iST3, r_iLD3, r_IC1, r_GOTO, r_iLD2, r_iST4, r_aLD0, r_pZ, r_pI, r_iST5, r_iST6, r_iLD6, r_IC3, cl_45, r_IF0, cl_122, r_iLD4, cl_123, r_iST7, r_iLD7, r_IF2, cl_18, r_DUP2, r_iSHL, r_iOR, r_iASTc, cl_124, r_iST8, r_gI, r_iLD8, r_iLD5, r_iST9, r_iLD9, cl_25, cl_34, r_IINC9, r_IINC6, r_iRET, eq_self, Int.reduceLT, Int.reduceLE, Int.reduceEq, true_or, or_true, and_self, true_and, and_true, w8_0, w8_1, w8_2, w8_3, w8_4, nl_I, nl_P, nl_X, pu_I, pu_J, pu_V, w3_id, Int.add_zero]
      have hgv := fun Q' => s_gives (Q := Q') (so := so) hk hl h8 fn ftk ⟨hb.1, show b < 3 by omega⟩ f0 f1 f2 b1 a1 a2 hg f3 hj h4
      rw [fr 0 (by decide), fr 2 (by decide), ← eP] at hgv
      simp only [hgv, pu_I]
      exact key
end GP
