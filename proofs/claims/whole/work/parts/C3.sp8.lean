/-! shop: the class -/
def shB (X : Nat → Int) (l : Nat) : Bool × Nat × Nat := bgF X l 3 0
def shG (X : Nat → Int) (l : Nat) : Bool × Nat × Nat := thF X l (shB X l).2.1 (shB X l).2.2 8 0
abbrev shO (X : Nat → Int) (l : Nat) : Prop := (shB X l).1 = true ∧ (shG X l).1 = true
def shAt (X : Nat → Int) (l : Nat) : Nat := if (shB X l).1 = true then (shG X l).2.2 else (shB X l).2.2
section SR6
variable {g h h' h1 h2 u : am_F} {Q : am_V → am_S → Prop} {so j bj x y z o c w r t mm df : Int} {n nb L s K nx b m a q B S T i gg l M Z v ch N d p p0 k : Nat} {X : Nat → Int}
def shF (h g : am_F) : Prop := ∀ a k, ¬ (a = 59 ∧ k = 2) → ¬ (63 ≤ a ∧ a ≤ 70) → g a k = h a k
theorem s_TreadShop (hl : l ≤ 100) (hX : ∀ i : Nat, i < l → 32 ≤ X i ∧ X i ≤ 126) (e1 : h 59 1 = (l : Int)) (e6 : ∀ i : Nat, i < l → h 60 i = X i) (hq0 : ¬ shO X l → shAt X l ≤ l → ∀ g, shF h g → Q (aI (-20 - (shAt X l : Int))) (sT g)) (hq1 : shO X l → ∀ g, shF h g → g 63 6 = ((shB X l).2.1 : Int) → (shB X l).2.1 ≤ 3 → g 63 7 = ((shG X l).2.1 : Int) → (shG X l).2.1 ≤ 8 → (∀ j : Nat, j < (shB X l).2.1 → g 64 j = kiW (nxl X l (bq X l j)) ∧ 0 ≤ g 64 j) → (∀ j : Nat, j < (shG X l).2.1 → thQ X l (shB X l).2.2 g j ∧ tOK X l (shB X l).2.1 (thp X l (shB X l).2.2 j)) → Q (aI ((shG X l).2.1 : Int)) (sT g)) : wp 86 (am_ju 86 0) [aP 59, aP 63, aP 70] [] (sT h) Q := by
  have flt : ∀ (g : am_F) (p : Nat), p ≤ 100 → g 59 2 = (p : Int) → Q (aI (-20 - (p : Int))) (sT g) → wp 86 (am_ju 86 21) [aP 59, aP 63, aP 70] [] (sT g) Q := by
    intro g p hp h2 hh
    have hw : w3 (-20 - (p : Int)) = -20 - (p : Int) := w3_id (by omega) (by omega)
    simp only [ju_86_21, r_aLD0, r_iCONST, r_pI, r_aLD1, r_aLD2, cl_79, cl_81, r_IF0, cl_85, r_IF1, cl_69, r_iRET, r_gI, eq_self, Int.reduceLT, Int.reduceLE, Int.reduceEq, true_or, or_true, and_self, true_and, and_true, w8_0, w8_1, w8_2, w8_3, w8_4, nl_I, nl_P, nl_X, pu_I, pu_J, pu_V, kd_59]
    simp only [ju_69_0, r_bPUSH, r_aLD0, r_gI, r_iSUB, r_iRET, eq_self, Int.reduceLT, Int.reduceLE, Int.reduceEq, true_or, or_true, and_self, true_and, and_true, w8_0, w8_1, w8_2, w8_3, w8_4, nl_I, nl_P, nl_X, pu_I, pu_J, pu_V, kd_59, h2, hw]
    exact hh
  have s70 := fun (h : am_F) (Q : am_V → am_S → Prop) => s_fillI (h := h) (Q := Q) (c := 70) (l := 8) (v := 3) kd_70 ln_70 (by decide)
  rw [ju_86_0]
  simp only [r_aLD0, r_iCONST, r_pI, r_aLD1, r_aLD2, cl_79, cl_81, r_IF0, cl_85, r_IF1, cl_69, r_iRET, r_gI, eq_self, Int.reduceLT, Int.reduceLE, Int.reduceEq, true_or, or_true, and_self, true_and, and_true, w8_0, w8_1, w8_2, w8_3, w8_4, nl_I, nl_P, nl_X, pu_I, pu_J, pu_V, kd_59, kd_63, kd_70, s70]
  have c1 : shF h (fil (up (up (up h 59 2 0) 63 6 0) 63 7 0) 70 (8 : Nat) 3) := fun a k z1 z2 => by
    unfold fil up
    rw [if_neg (by omega), if_neg (by omega), if_neg (by omega), if_neg (by omega)]
  have c2 : fil (up (up (up h 59 2 0) 63 6 0) 63 7 0) 70 (8 : Nat) 3 59 2 = ((0 : Nat) : Int) := by
    unfold fil
    rw [if_neg (by omega), up_ne (by decide), up_ne (by decide)]
    exact up_s
  have c3 : fil (up (up (up h 59 2 0) 63 6 0) 63 7 0) 70 (8 : Nat) 3 63 6 = ((0 : Nat) : Int) := by
    unfold fil
    rw [if_neg (by omega), up_k (by decide)]
    exact up_s
  have c4 : fil (up (up (up h 59 2 0) 63 6 0) 63 7 0) 70 (8 : Nat) 3 63 7 = ((0 : Nat) : Int) := by
    unfold fil
    rw [if_neg (by omega)]
    exact up_s
  generalize fil (up (up (up h 59 2 0) 63 6 0) 63 7 0) 70 (8 : Nat) 3 = u at c1 c2 c3 c4 ⊢
  rw [ju_81_0]
  simp only [r_iCONST, r_iST2, r_iLD2, r_IC3, r_aLD0, cl_67, cl_80, r_iST3, r_iLD3, r_IF3, r_zRET, r_aLD1, cl_14, r_DUPI, r_DUPP, r_gI, r_iADD, r_pI, r_iST4, r_iLD4, r_bPUSH, r_IC1, r_IINC2, r_GOTO, eq_self, Int.reduceLT, Int.reduceLE, Int.reduceEq, true_or, or_true, and_self, true_and, and_true, w8_0, w8_1, w8_2, w8_3, w8_4, nl_I, nl_P, nl_X, pu_I, pu_J, pu_V]
  refine lp_Tbags (h := u) (X := X) hl (by rw [c1 _ _ (by decide) (by decide)]; exact e1) (fun i hi => by rw [c1 _ _ (by omega) (by decide)]; exact e6 i hi) (R := shB X l) (fun g a1 a2 a3 a4 a5 a6 => ?_) 3 0 0 aX aX u rfl (by decide) (fun _ _ _ _ _ => rfl) rfl rfl c2 (Nat.zero_le _) rfl c3 (fun j hj => absurd hj (Nat.not_lt_zero _)) rfl
  have hg : shF h g := fun a k z1 z2 => by rw [a1 a k z1 (by omega) (by omega), c1 a k z1 z2]
  simp only [r_aLD0, r_iCONST, r_pI, r_aLD1, r_aLD2, cl_79, cl_81, r_IF0, cl_85, r_IF1, cl_69, r_iRET, r_gI, eq_self, Int.reduceLT, Int.reduceLE, Int.reduceEq, true_or, or_true, and_self, true_and, and_true, w8_0, w8_1, w8_2, w8_3, w8_4, nl_I, nl_P, nl_X, pu_I, pu_J, pu_V, kd_59, kd_63, kd_70]
  by_cases e : (shB X l).1 = true
  · rw [if_neg (by rw [if_pos e]; decide)]
    rw [ju_85_0]
    simp only [r_iCONST, r_iST3, r_iLD3, r_aLD2, r_aLEN, r_aLENs, r_IC3, r_aLD0, r_aLD1, cl_84, r_iAST, r_iALD, r_iALDs, r_IF3, r_zRET, cl_67, r_iST4, r_iLD4, r_IC1, r_bPUSH, r_iSUB, r_DUPI, r_DUPP, r_gI, r_iADD, r_pI, r_IINC3, r_GOTO, eq_self, Int.reduceLT, Int.reduceLE, Int.reduceEq, true_or, or_true, and_self, true_and, and_true, w8_0, w8_1, w8_2, w8_3, w8_4, nl_I, nl_P, nl_X, pu_I, pu_J, pu_V]
    refine lp_Tthings (h := g) (X := X) (nb := (shB X l).2.1) (p0 := (shB X l).2.2) hl hX (by rw [hg _ _ (by decide) (by decide)]; exact e1) (fun i hi => by rw [hg _ _ (by omega) (by decide)]; exact e6 i hi) a4 (R := shG X l) (fun g2 b1 b2 b3 b4 b5 b6 => ?_) 8 0 aX g rfl (by decide) (fun _ _ _ _ _ => rfl) rfl a2 a3 (by rw [a1 _ _ (by decide) (by decide) (by decide)]; exact c4) (fun j hj => absurd hj (Nat.not_lt_zero _)) rfl
    have hg2 : shF h g2 := fun a k z1 z2 => by rw [b1 a k z1 (by omega) (by omega), hg a k z1 z2]
    simp only [r_aLD0, r_iCONST, r_pI, r_aLD1, r_aLD2, cl_79, cl_81, r_IF0, cl_85, r_IF1, cl_69, r_iRET, r_gI, eq_self, Int.reduceLT, Int.reduceLE, Int.reduceEq, true_or, or_true, and_self, true_and, and_true, w8_0, w8_1, w8_2, w8_3, w8_4, nl_I, nl_P, nl_X, pu_I, pu_J, pu_V, kd_59, kd_63]
    by_cases f : (shG X l).1 = true
    · rw [if_pos (by rw [if_pos f]; decide), ju_86_24]
      simp only [r_aLD0, r_iCONST, r_pI, r_aLD1, r_aLD2, cl_79, cl_81, r_IF0, cl_85, r_IF1, cl_69, r_iRET, r_gI, eq_self, Int.reduceLT, Int.reduceLE, Int.reduceEq, true_or, or_true, and_self, true_and, and_true, w8_0, w8_1, w8_2, w8_3, w8_4, nl_I, nl_P, nl_X, pu_I, pu_J, pu_V, kd_63, b4]
      refine hq1 ⟨e, f⟩ g2 hg2 (by rw [b1 _ _ (by decide) (by decide) (by decide)]; exact a4) a5 b4 b5 (fun j hj => ?_) b6
      rw [b1 _ _ (by omega) (by omega) (by omega)]
      exact a6 j hj
    · rw [if_neg (by rw [if_neg f]; decide)]
      have hat : shAt X l = (shG X l).2.2 := by unfold shAt; rw [if_pos e]
      exact flt g2 (shAt X l) (by rw [hat]; omega) (by rw [hat]; exact b2) (hq0 (fun z => f z.2) (by rw [hat]; exact b3) g2 hg2)
  · rw [if_pos (by rw [if_neg e])]
    have hat : shAt X l = (shB X l).2.2 := by unfold shAt; rw [if_neg e]
    exact flt g (shAt X l) (by rw [hat]; omega) (by rw [hat]; exact a2) (hq0 (fun z => e z.1) (by rw [hat]; exact a3) g hg)
def gT6S (h : am_F) : am_F := cpy (cpy (cpy (cpy (cpy (cpy h 64 0 82 0 3) 65 0 83 0 8) 66 0 84 0 8) 67 0 85 0 8) 68 0 86 0 8) 69 0 87 0 8
def gTkS (h : am_F) : am_F := up (up (gT6S h) 81 6 (gT6S h 63 6)) 81 7 (up (gT6S h) 81 6 (gT6S h 63 6) 63 7)
theorem s_gTkS : wp 87 (am_ju 87 0) [aP 81, aP 63] [] (sT h) Q ↔ Q aV (sT (gTkS h)) := by
  simp only [ju_87_0, r_aLD0, r_gR, r_aLD1, cl_71, r_gI, r_pI, r_vRET, eq_self, Int.reduceLT, Int.reduceLE, Int.reduceEq, true_or, or_true, and_self, true_and, and_true, w8_0, w8_1, w8_2, w8_3, w8_4, nl_I, nl_P, nl_X, pu_I, pu_J, pu_V, kd_81, ln_81, rR_81_0, rR_81_1, rR_81_2, rR_81_3, rR_81_4, rR_81_5, kd_63, ln_63, rR_63_0, rR_63_1, rR_63_2, rR_63_3, rR_63_4, rR_63_5, s_takeRow kd_64 kd_82 ln_64 ln_82 (by decide), s_takeRow kd_65 kd_83 ln_65 ln_83 (by decide), s_takeRow kd_66 kd_84 ln_66 ln_84 (by decide), s_takeRow kd_67 kd_85 ln_67 ln_85 (by decide), s_takeRow kd_68 kd_86 ln_68 ln_86 (by decide), s_takeRow kd_69 kd_87 ln_69 ln_87 (by decide)]
  rfl
def mWh (h : am_F) : am_F := up (up (up (up (up (up (up (up (up h 91 0 0) 92 0 0) 93 0 0) 91 1 0) 92 1 0) 93 1 0) 91 2 0) 92 2 0) 93 2 0
def cSh (g : am_F) : am_F := up (mWh (cpy (gTkS g) 70 0 94 0 8)) 95 2 0
theorem s_goWith : wp 88 (am_ju 88 0) [aP 80, aP 63, aP 70, aX] [] (sT h) Q ↔ Q aV (sT (cSh h)) := by
  have w1 : w3 ((0 : Int) + 1) = 1 := by decide
  have w2 : w3 ((1 : Int) + 1) = 2 := by decide
  have w3' : w3 ((2 : Int) + 1) = 3 := by decide
  rw [ju_88_0]
  simp only [r_aLD0, r_gR, r_aLD1, cl_87, r_aLD2, cl_71, r_iCONST, r_iST3, r_iLD3, r_IC3, cl_13, r_IINC3, r_GOTO, r_pI, r_vRET, eq_self, Int.reduceLT, Int.reduceLE, Int.reduceEq, true_or, or_true, and_self, true_and, and_true, w8_0, w8_1, w8_2, w8_3, w8_4, nl_I, nl_P, nl_X, pu_I, pu_J, pu_V, kd_80, ln_80, rR_80_0, rR_80_1, rR_80_2, rR_80_3, kd_81, ln_81, rR_81_0, rR_81_1, rR_81_2, rR_81_3, rR_81_4, rR_81_5, kd_90, ln_90, rR_90_0, rR_90_1, rR_90_2, rR_90_3, kd_94, ln_94, kd_63, kd_70, s_gTkS, s_takeRow kd_70 kd_94 ln_70 ln_94 (by decide)]
  rw [ju_88_11]
  simp only [r_aLD0, r_gR, r_aLD1, cl_87, r_aLD2, cl_71, r_iCONST, r_iST3, r_iLD3, r_IC3, cl_13, r_IINC3, r_GOTO, r_pI, r_vRET, eq_self, Int.reduceLT, Int.reduceLE, Int.reduceEq, true_or, or_true, and_self, true_and, and_true, w8_0, w8_1, w8_2, w8_3, w8_4, nl_I, nl_P, nl_X, pu_I, pu_J, pu_V, kd_80, ln_80, rR_80_0, rR_80_1, rR_80_2, rR_80_3, kd_90, if_false, s_makeWhole (b := 0) ⟨by decide, by decide⟩, w1]
  rw [ju_88_11]
  simp only [r_aLD0, r_gR, r_aLD1, cl_87, r_aLD2, cl_71, r_iCONST, r_iST3, r_iLD3, r_IC3, cl_13, r_IINC3, r_GOTO, r_pI, r_vRET, eq_self, Int.reduceLT, Int.reduceLE, Int.reduceEq, true_or, or_true, and_self, true_and, and_true, w8_0, w8_1, w8_2, w8_3, w8_4, nl_I, nl_P, nl_X, pu_I, pu_J, pu_V, kd_80, ln_80, rR_80_0, rR_80_1, rR_80_2, rR_80_3, kd_90, if_false, s_makeWhole (b := 1) ⟨by decide, by decide⟩, w2]
  rw [ju_88_11]
  simp only [r_aLD0, r_gR, r_aLD1, cl_87, r_aLD2, cl_71, r_iCONST, r_iST3, r_iLD3, r_IC3, cl_13, r_IINC3, r_GOTO, r_pI, r_vRET, eq_self, Int.reduceLT, Int.reduceLE, Int.reduceEq, true_or, or_true, and_self, true_and, and_true, w8_0, w8_1, w8_2, w8_3, w8_4, nl_I, nl_P, nl_X, pu_I, pu_J, pu_V, kd_80, ln_80, rR_80_0, rR_80_1, rR_80_2, rR_80_3, kd_90, if_false, s_makeWhole (b := 2) ⟨by decide, by decide⟩, w3']
  rw [ju_88_11]
  simp only [r_aLD0, r_gR, r_aLD1, cl_87, r_aLD2, cl_71, r_iCONST, r_iST3, r_iLD3, r_IC3, cl_13, r_IINC3, r_GOTO, r_pI, r_vRET, eq_self, Int.reduceLT, Int.reduceLE, Int.reduceEq, true_or, or_true, and_self, true_and, and_true, w8_0, w8_1, w8_2, w8_3, w8_4, nl_I, nl_P, nl_X, pu_I, pu_J, pu_V, if_true]
  rw [ju_88_20]
  simp only [r_aLD0, r_gR, r_aLD1, cl_87, r_aLD2, cl_71, r_iCONST, r_iST3, r_iLD3, r_IC3, cl_13, r_IINC3, r_GOTO, r_pI, r_vRET, eq_self, Int.reduceLT, Int.reduceLE, Int.reduceEq, true_or, or_true, and_self, true_and, and_true, w8_0, w8_1, w8_2, w8_3, w8_4, nl_I, nl_P, nl_X, pu_I, pu_J, pu_V, kd_80, ln_80, rR_80_0, rR_80_1, rR_80_2, rR_80_3, kd_95]
  rfl
theorem cSh_o {a k : Int} (z : ¬ ((81 ≤ a ∧ a ≤ 87) ∨ (91 ≤ a ∧ a ≤ 94) ∨ (a = 95 ∧ k = 2))) : cSh g a k = g a k := by
  unfold cSh mWh gTkS gT6S
  rw [up, if_neg (by omega), up_ne (by omega), up_ne (by omega), up_ne (by omega), up_ne (by omega), up_ne (by omega), up_ne (by omega), up_ne (by omega), up_ne (by omega), up_ne (by omega), cpy_out (by omega), up_ne (by omega), up_ne (by omega), cpy_out (by omega), cpy_out (by omega), cpy_out (by omega), cpy_out (by omega), cpy_out (by omega), cpy_out (by omega)]
theorem cSh_81 : cSh g 81 6 = g 63 6 ∧ cSh g 81 7 = g 63 7 ∧ cSh g 95 2 = 0 := by
  unfold cSh mWh gTkS gT6S
  refine ⟨?_, ?_, up_s⟩ <;> simp (disch := first | assumption | decide) only [up_k, up_ne, up_s, cpy_hit, cpy_out, ne_eq, Int.reduceEq, not_false_eq_true]
theorem cSh_82 (hb : b < 3) : cSh g 82 b = g 64 b ∧ cSh g 91 b = 0 ∧ cSh g 92 b = 0 ∧ cSh g 93 b = 0 := by
  have k0 : (0 : Int) ≤ (b : Int) := by omega
  have k1 : (b : Int) < 3 := by omega
  refine ⟨?_, ?_⟩
  · unfold cSh mWh gTkS gT6S
    simp (disch := first | assumption | decide) only [up_k, up_ne, up_s, cpy_hit, cpy_out, ne_eq, Int.reduceEq, not_false_eq_true]
  · have hb : (b : Int) = 0 ∨ (b : Int) = 1 ∨ (b : Int) = 2 := by omega
    unfold cSh mWh
    rcases hb with e | e | e <;> rw [e] <;> refine ⟨?_, ?_, ?_⟩ <;> simp (disch := first | assumption | decide) only [up_k, up_ne, up_s, ne_eq, Int.reduceEq, not_false_eq_true]
theorem cSh_83 (hb : b < 8) : cSh g 83 b = g 65 b ∧ cSh g 84 b = g 66 b ∧ cSh g 85 b = g 67 b ∧ cSh g 86 b = g 68 b ∧ cSh g 87 b = g 69 b ∧ cSh g 94 b = g 70 b := by
  have k0 : (0 : Int) ≤ (b : Int) := by omega
  have k1 : (b : Int) < 8 := by omega
  unfold cSh mWh gTkS gT6S
  refine ⟨?_, ?_, ?_, ?_, ?_, ?_⟩ <;> simp (disch := first | assumption | decide) only [up_k, up_ne, up_s, cpy_hit, cpy_out, ne_eq, Int.reduceEq, not_false_eq_true]
theorem s_Tshop (hl : l ≤ 100) (hX : ∀ i : Nat, i < l → 32 ≤ X i ∧ X i ≤ 126) (e1 : h 59 1 = (l : Int)) (e6 : ∀ i : Nat, i < l → h 60 i = X i) (hq0 : ¬ shO X l → shAt X l ≤ l → ∀ g, shF h g → Q (aI (-20 - (shAt X l : Int))) (sT (up g 59 1 0))) (hq1 : shO X l → ∀ g, shF h g → g 63 6 = ((shB X l).2.1 : Int) → (shB X l).2.1 ≤ 3 → g 63 7 = ((shG X l).2.1 : Int) → (shG X l).2.1 ≤ 8 → (∀ j : Nat, j < (shB X l).2.1 → g 64 j = kiW (nxl X l (bq X l j)) ∧ 0 ≤ g 64 j) → (∀ j : Nat, j < (shG X l).2.1 → thQ X l (shB X l).2.2 g j ∧ tOK X l (shB X l).2.1 (thp X l (shB X l).2.2 j)) → Q (aI ((shG X l).2.1 : Int)) (sT (cSh (up g 59 1 0)))) : wp 89 (am_ju 89 0) [aP 0, aX] [] (sT h) Q := by
  rw [ju_89_0]
  simp only [r_aLD0, r_gR, cl_86, r_iST1, r_iCONST, r_pI, r_iLD1, r_IF2, cl_88, r_iRET, eq_self, Int.reduceLT, Int.reduceLE, Int.reduceEq, true_or, or_true, and_self, true_and, and_true, w8_0, w8_1, w8_2, w8_3, w8_4, nl_I, nl_P, nl_X, pu_I, pu_J, pu_V, kd_0, ln_0, rR_0_0, rR_0_1, rR_0_3, rR_0_4, rR_0_5, rR_0_6, rR_0_7, rR_0_8, rR_0_9, rR_0_10, kd_59, kd_63, kd_70]
  refine s_TreadShop (X := X) hl hX e1 e6 (fun hO hl2 g hg => ?_) (fun hO g hg a1 a2 a3 a4 a5 a6 => ?_)
  · simp only [r_aLD0, r_gR, cl_86, r_iST1, r_iCONST, r_pI, r_iLD1, r_IF2, cl_88, r_iRET, eq_self, Int.reduceLT, Int.reduceLE, Int.reduceEq, true_or, or_true, and_self, true_and, and_true, w8_0, w8_1, w8_2, w8_3, w8_4, nl_I, nl_P, nl_X, pu_I, pu_J, pu_V, kd_0, ln_0, rR_0_0, rR_0_1, rR_0_3, rR_0_4, rR_0_5, rR_0_6, rR_0_7, rR_0_8, rR_0_9, rR_0_10, kd_59]
    rw [if_pos (by omega), ju_89_21]
    simp only [r_aLD0, r_gR, cl_86, r_iST1, r_iCONST, r_pI, r_iLD1, r_IF2, cl_88, r_iRET, eq_self, Int.reduceLT, Int.reduceLE, Int.reduceEq, true_or, or_true, and_self, true_and, and_true, w8_0, w8_1, w8_2, w8_3, w8_4, nl_I, nl_P, nl_X, pu_I, pu_J, pu_V]
    exact hq0 hO hl2 g hg
  · simp only [r_aLD0, r_gR, cl_86, r_iST1, r_iCONST, r_pI, r_iLD1, r_IF2, cl_88, r_iRET, eq_self, Int.reduceLT, Int.reduceLE, Int.reduceEq, true_or, or_true, and_self, true_and, and_true, w8_0, w8_1, w8_2, w8_3, w8_4, nl_I, nl_P, nl_X, pu_I, pu_J, pu_V, kd_0, ln_0, rR_0_0, rR_0_1, rR_0_3, rR_0_4, rR_0_5, rR_0_6, rR_0_7, rR_0_8, rR_0_9, rR_0_10, kd_59]
    rw [if_neg (by omega)]
    simp only [kd_80, kd_63, kd_70, r_aLD0, r_gR, cl_86, r_iST1, r_iCONST, r_pI, r_iLD1, r_IF2, cl_88, r_iRET, eq_self, Int.reduceLT, Int.reduceLE, Int.reduceEq, true_or, or_true, and_self, true_and, and_true, w8_0, w8_1, w8_2, w8_3, w8_4, nl_I, nl_P, nl_X, pu_I, pu_J, pu_V, s_goWith]
    rw [ju_89_21]
    simp only [r_aLD0, r_gR, cl_86, r_iST1, r_iCONST, r_pI, r_iLD1, r_IF2, cl_88, r_iRET, eq_self, Int.reduceLT, Int.reduceLE, Int.reduceEq, true_or, or_true, and_self, true_and, and_true, w8_0, w8_1, w8_2, w8_3, w8_4, nl_I, nl_P, nl_X, pu_I, pu_J, pu_V]
    exact hq1 hO g hg a1 a2 a3 a4 a5 a6
end SR6
