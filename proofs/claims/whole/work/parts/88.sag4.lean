section SJ
variable {g h h' h1 h2 u : am_F} {Q : am_V → am_S → Prop} {so j bj x y z i o c w r v : Int} {n nb L s K nx b m k a q B S gg : Nat} {f P : Nat → Bool}
theorem lp_Rsag (hP : Rp h 0 150 n nb L s) (hS : SH h) (hb : b < nb) (hm : s + m ≤ L) (hq4 : q < 4) (hi : 0 ≤ i) (hiL : i + (m : Int) ≤ 24) {v3 v7 : Int} : ∀ (k a : Nat) (g : am_F) (C F : Int) (v : am_V), a + k = 100 → am_nl v = true → FR h g → 0 ≤ C ∧ C ≤ a → (∀ h', FR h h' → Q (aI (if z = 0 then C + cnt (sP h n s b q m i) a k else if C = 0 then lst (sP h n s b q m i) a k else F)) (sT h')) → (C = 0 → F = -4) → wp 214 (am_ju 214 50) [aP 149, aI (b : Int), aI (q : Int), aI v3, aI i, aI (m : Int), aI z, aI v7, aI C, aI F, aI (a : Int), v] [] (sT g) Q := by
  intro k
  induction k with
  | zero =>
    intro a g C F v ha hv hg hC hq hF
    have ha : a = 100 := by omega
    subst ha
    have := hq g hg
    rw [cnt, lst, Int.add_zero] at this
    rw [ju_214_50]
    simp only [ju_214_82, ju_214_86, ju_214_87, r_aLD0, r_iLD1, cl_33, r_IF0, r_iLD2, cl_210, r_iLD3, cl_211, r_iLD5, r_iCONST, r_bPUSH, cl_17, r_gR, r_iALD, r_iALDs, r_iSUB, r_IC4, r_iLD6, r_IF1, r_iRET, r_iLD4, cl_212, r_iST7, r_iLD7, r_iST8, r_iST9, r_iST10, r_iLD10, r_IC3, r_iMUL, r_iADD, cl_213, r_iST11, r_iLD11, r_iLD8, r_GOTO, r_iLD9, r_IINC10, eq_self, Int.reduceLT, Int.reduceLE, Int.reduceEq, true_or, or_true, and_self, true_and, and_true, w8_0, w8_1, w8_2, w8_3, w8_4, nl_I, nl_P, nl_X, pu_I, pu_J, pu_V]
    rw [if_pos (by decide)]
    by_cases e : z = 0
    · simp only [e, not_true_eq_false, if_false]
      rw [if_pos e] at this
      exact this
    · simp only [e, not_false_eq_true, if_true]
      rw [if_neg e] at this
      by_cases f : C = 0
      · rw [if_pos f] at this
        rw [hF f]; exact this
      · rw [if_neg f] at this
        exact this
  | succ k ih =>
    intro a g C F v ha hv hg hC hq hF
    have hw : w3 ((a : Int) + 1) = ((a + 1 : Nat) : Int) := w3_id (by omega) (by omega)
    have hw2 : w3 (C + 1) = C + 1 := w3_id (by omega) (by omega)
    have hw0 : w3 (C + 0) = C := by rw [Int.add_zero]; exact w3_id (by omega) (by omega)
    have q0 : (0 : Int) ≤ (q : Int) := by omega
    have hwi : w3 (w3 (24 * (q : Int)) + i) = 24 * (q : Int) + i := by rw [w3_id (x := 24 * (q : Int)) (by omega) (by omega), w3_id (by omega) (by omega)]
    rw [ju_214_50]
    simp only [r_aLD0, r_iLD1, cl_33, r_IF0, r_iLD2, cl_210, r_iLD3, cl_211, r_iLD5, r_iCONST, r_bPUSH, cl_17, r_gR, r_iALD, r_iALDs, r_iSUB, r_IC4, r_iLD6, r_IF1, r_iRET, r_iLD4, cl_212, r_iST7, r_iLD7, r_iST8, r_iST9, r_iST10, r_iLD10, r_IC3, r_iMUL, r_iADD, cl_213, r_iST11, r_iLD11, r_iLD8, r_GOTO, r_iLD9, r_IINC10, eq_self, Int.reduceLT, Int.reduceLE, Int.reduceEq, true_or, or_true, and_self, true_and, and_true, w8_0, w8_1, w8_2, w8_3, w8_4, nl_I, nl_P, nl_X, pu_I, pu_J, pu_V, kd_149, ln_149, rR_149_0, rR_149_1, rR_149_2, rR_149_3, rR_149_5, rR_149_7, rR_149_8, rR_149_9, rR_149_10, rR_149_16, rR_149_17, rR_149_18, hwi]
    rw [if_neg (by omega)]
    refine s_Rsags hP hS hg hb hm ⟨by omega, by omega⟩ hq4 hi hiL (fun g' hg' => ?_)
    rw [show al (sgf h (fun k => h (73 + 2 * (q : Int)) (i + k)) (cS h b n) s (a : Int) (h 92 b)) m = sP h n s b q m i a from rfl]
    simp only [r_aLD0, r_iLD1, cl_33, r_IF0, r_iLD2, cl_210, r_iLD3, cl_211, r_iLD5, r_iCONST, r_bPUSH, cl_17, r_gR, r_iALD, r_iALDs, r_iSUB, r_IC4, r_iLD6, r_IF1, r_iRET, r_iLD4, cl_212, r_iST7, r_iLD7, r_iST8, r_iST9, r_iST10, r_iLD10, r_IC3, r_iMUL, r_iADD, cl_213, r_iST11, r_iLD11, r_iLD8, r_GOTO, r_iLD9, r_IINC10, eq_self, Int.reduceLT, Int.reduceLE, Int.reduceEq, true_or, or_true, and_self, true_and, and_true, w8_0, w8_1, w8_2, w8_3, w8_4, nl_I, nl_P, nl_X, pu_I, pu_J, pu_V]
    by_cases e : sP h n s b q m i a = true
    · have hq' : ∀ h', FR h h' → Q (aI (if z = 0 then C + 1 + cnt (sP h n s b q m i) (a + 1) k else if C + 1 = 0 then lst (sP h n s b q m i) (a + 1) k else (if C = 0 then (a : Int) else F))) (sT h') := fun h' ht => by
        have := hq h' ht
        rw [cnt, lst, if_pos e, if_pos e, ← Int.add_assoc] at this
        rw [if_neg (show ¬ (C + 1 = 0) by omega)]
        exact this
      have ih := ih (a + 1) g' (C + 1) (if C = 0 then (a : Int) else F) (aI 1) (by omega) rfl hg' (by omega) hq' (fun z => by omega)
      simp only [e, if_true, Int.reduceEq, if_false]
      by_cases f : C = 0
      · rw [if_pos f] at ih
        simp only [f, not_true_eq_false, if_false, ju_214_71, ju_214_78, r_aLD0, r_iLD1, cl_33, r_IF0, r_iLD2, cl_210, r_iLD3, cl_211, r_iLD5, r_iCONST, r_bPUSH, cl_17, r_gR, r_iALD, r_iALDs, r_iSUB, r_IC4, r_iLD6, r_IF1, r_iRET, r_iLD4, cl_212, r_iST7, r_iLD7, r_iST8, r_iST9, r_iST10, r_iLD10, r_IC3, r_iMUL, r_iADD, cl_213, r_iST11, r_iLD11, r_iLD8, r_GOTO, r_iLD9, r_IINC10, eq_self, Int.reduceLT, Int.reduceLE, Int.reduceEq, true_or, or_true, and_self, true_and, and_true, w8_0, w8_1, w8_2, w8_3, w8_4, nl_I, nl_P, nl_X, pu_I, pu_J, pu_V, Int.reduceEq, hw]
        rw [f] at ih hw2
        rw [hw2]
        exact ih
      · rw [if_neg f] at ih
        simp only [f, not_false_eq_true, if_true, ju_214_70, ju_214_71, ju_214_78, r_aLD0, r_iLD1, cl_33, r_IF0, r_iLD2, cl_210, r_iLD3, cl_211, r_iLD5, r_iCONST, r_bPUSH, cl_17, r_gR, r_iALD, r_iALDs, r_iSUB, r_IC4, r_iLD6, r_IF1, r_iRET, r_iLD4, cl_212, r_iST7, r_iLD7, r_iST8, r_iST9, r_iST10, r_iLD10, r_IC3, r_iMUL, r_iADD, cl_213, r_iST11, r_iLD11, r_iLD8, r_GOTO, r_iLD9, r_IINC10, eq_self, Int.reduceLT, Int.reduceLE, Int.reduceEq, true_or, or_true, and_self, true_and, and_true, w8_0, w8_1, w8_2, w8_3, w8_4, nl_I, nl_P, nl_X, pu_I, pu_J, pu_V, Int.reduceEq, if_false, hw, hw2]
        exact ih
    · have hq' : ∀ h', FR h h' → Q (aI (if z = 0 then C + cnt (sP h n s b q m i) (a + 1) k else if C = 0 then lst (sP h n s b q m i) (a + 1) k else F)) (sT h') := fun h' ht => by
        have := hq h' ht
        rw [cnt, lst, if_neg e, if_neg e, Int.zero_add] at this
        exact this
      have ih := ih (a + 1) g' C F (aI 0) (by omega) rfl hg' (by omega) hq' hF
      simp only [e, if_false, if_true, ju_214_70, ju_214_71, ju_214_77, ju_214_78, r_aLD0, r_iLD1, cl_33, r_IF0, r_iLD2, cl_210, r_iLD3, cl_211, r_iLD5, r_iCONST, r_bPUSH, cl_17, r_gR, r_iALD, r_iALDs, r_iSUB, r_IC4, r_iLD6, r_IF1, r_iRET, r_iLD4, cl_212, r_iST7, r_iLD7, r_iST8, r_iST9, r_iST10, r_iLD10, r_IC3, r_iMUL, r_iADD, cl_213, r_iST11, r_iLD11, r_iLD8, r_GOTO, r_iLD9, r_IINC10, eq_self, Int.reduceLT, Int.reduceLE, Int.reduceEq, true_or, or_true, and_self, true_and, and_true, w8_0, w8_1, w8_2, w8_3, w8_4, nl_I, nl_P, nl_X, pu_I, pu_J, pu_V, hw, hw0]
      exact ih
theorem s_Rsagged (hP : Rp h 0 150 n nb L s) (hS : SH h) {bb mm : Int} (hq : ∀ h', FR h h' → okS n nb L s bb x y mm z → lack h x y i mm = 0 → Q (aI (sAns (sP h n s bb.toNat x.toNat mm.toNat i) z)) (sT h')) (hq1 : okS n nb L s bb x y mm z → lack h x y i mm ≠ 0 → Q (aI (lack h x y i mm)) (sT h)) (hq0 : ¬ okS n nb L s bb x y mm z → Q (aI (-1)) (sT h)) : wp 214 (am_ju 214 0) [aP 149, aI bb, aI x, aI y, aI i, aI mm, aI z, aX, aX, aX, aX, aX] [] (sT h) Q := by
  have l1 := ln_150
  have k1 := kd_150
  obtain ⟨r0, r1, r2, r3, r4, r5, r6, r7⟩ := id hP.1
  have p5 := hP.2.2.2.2.2.1
  have p6 := hP.2.2.2.2.2.2.1
  have eL : w3 ((L : Int) - (s : Int)) = ((L - s : Nat) : Int) := by rw [w3_id (by omega) (by omega)]; omega
  simp only [ju_214_0, ju_214_31, r_aLD0, r_iLD1, cl_33, r_IF0, r_iLD2, cl_210, r_iLD3, cl_211, r_iLD5, r_iCONST, r_bPUSH, cl_17, r_gR, r_iALD, r_iALDs, r_iSUB, r_IC4, r_iLD6, r_IF1, r_iRET, r_iLD4, cl_212, r_iST7, r_iLD7, r_iST8, r_iST9, r_iST10, r_iLD10, r_IC3, r_iMUL, r_iADD, cl_213, r_iST11, r_iLD11, r_iLD8, r_GOTO, r_iLD9, r_IINC10, eq_self, Int.reduceLT, Int.reduceLE, Int.reduceEq, true_or, or_true, and_self, true_and, and_true, w8_0, w8_1, w8_2, w8_3, w8_4, nl_I, nl_P, nl_X, pu_I, pu_J, pu_V, kd_149, ln_149, rR_149_0, rR_149_1, rR_149_2, rR_149_3, rR_149_5, rR_149_7, rR_149_8, rR_149_9, rR_149_10, rR_149_16, rR_149_17, rR_149_18, kd_150, ln_150, s_isBag r1 r0, s_isSheet, s_isLane, s_in, r4, p5, eL, true_and]
  by_cases e1 : 0 ≤ bb ∧ bb < nb
  · rw [if_neg (by simp [e1])]
    by_cases e2 : 0 ≤ x ∧ x < 4
    · rw [if_neg (by simp [e2])]
      by_cases e3 : 0 ≤ y ∧ y < 4
      · rw [if_neg (by simp [e3])]
        by_cases e4 : 1 ≤ mm ∧ mm ≤ 8
        · rw [if_neg (by simp [e4])]
          by_cases e5 : mm ≤ ((L - s : Nat) : Int)
          · rw [if_neg (show ¬ ((L - s : Nat) : Int) < mm by omega)]
            by_cases e6 : 0 ≤ z ∧ z ≤ 1
            · have ok : okS n nb L s bb x y mm z := ⟨e1, ⟨e2, e3⟩, ⟨e6.1, by omega⟩, e4, e5⟩
              obtain ⟨q, rfl⟩ := Int.eq_ofNat_of_zero_le e2.1
              obtain ⟨b, rfl⟩ := Int.eq_ofNat_of_zero_le e1.1
              obtain ⟨m, rfl⟩ := Int.eq_ofNat_of_zero_le (show 0 ≤ mm by omega)
              have hq4 : q < 4 := by omega
              have s2 := (hS q hq4).2.1
              rw [if_pos (by simp [e6]), ju_214_33]
              simp only [r_aLD0, r_iLD1, cl_33, r_IF0, r_iLD2, cl_210, r_iLD3, cl_211, r_iLD5, r_iCONST, r_bPUSH, cl_17, r_gR, r_iALD, r_iALDs, r_iSUB, r_IC4, r_iLD6, r_IF1, r_iRET, r_iLD4, cl_212, r_iST7, r_iLD7, r_iST8, r_iST9, r_iST10, r_iLD10, r_IC3, r_iMUL, r_iADD, cl_213, r_iST11, r_iLD11, r_iLD8, r_GOTO, r_iLD9, r_IINC10, eq_self, Int.reduceLT, Int.reduceLE, Int.reduceEq, true_or, or_true, and_self, true_and, and_true, w8_0, w8_1, w8_2, w8_3, w8_4, nl_I, nl_P, nl_X, pu_I, pu_J, pu_V, kd_149, ln_149, rR_149_0, rR_149_1, rR_149_2, rR_149_3, rR_149_5, rR_149_7, rR_149_8, rR_149_9, rR_149_10, rR_149_16, rR_149_17, rR_149_18, s_lacks e2 s2]
              by_cases z0 : lack h q y i (m : Int) = 0
              · have z1 := lack_0 z0
                rw [if_pos z0, ju_214_44]
                simp only [r_aLD0, r_iLD1, cl_33, r_IF0, r_iLD2, cl_210, r_iLD3, cl_211, r_iLD5, r_iCONST, r_bPUSH, cl_17, r_gR, r_iALD, r_iALDs, r_iSUB, r_IC4, r_iLD6, r_IF1, r_iRET, r_iLD4, cl_212, r_iST7, r_iLD7, r_iST8, r_iST9, r_iST10, r_iLD10, r_IC3, r_iMUL, r_iADD, cl_213, r_iST11, r_iLD11, r_iLD8, r_GOTO, r_iLD9, r_IINC10, eq_self, Int.reduceLT, Int.reduceLE, Int.reduceEq, true_or, or_true, and_self, true_and, and_true, w8_0, w8_1, w8_2, w8_3, w8_4, nl_I, nl_P, nl_X, pu_I, pu_J, pu_V]
                refine lp_Rsag hP hS (show b < nb by omega) (show s + m ≤ L by omega) hq4 z1.1 (by omega) 100 0 h 0 (-4) aX rfl rfl (FR_r h) ⟨Int.le_refl _, Int.le_refl _⟩ (fun h' ht => ?_) (fun _ => rfl)
                have := hq h' ht ok z0
                rw [Int.zero_add, if_pos (show (0 : Int) = 0 from rfl)]
                exact this
              · rw [if_neg z0]
                exact hq1 ok z0
            · rw [if_neg (by simp [e6])]; exact hq0 (fun o => e6 ⟨o.2.2.1.1, by omega⟩)
          · rw [if_pos (show ((L - s : Nat) : Int) < mm by omega)]; exact hq0 (fun o => e5 o.2.2.2.2)
        · rw [if_pos (by simp [e4])]; exact hq0 (fun o => e4 o.2.2.2.1)
      · rw [if_pos (by simp [e3])]; exact hq0 (fun o => e3 o.2.1.2)
    · rw [if_pos (by simp [e2])]; exact hq0 (fun o => e2 o.2.1.1)
  · rw [if_pos (by simp [e1])]; exact hq0 (fun o => e1 o.1)
theorem sgf_c (hF : FR h u) (it : Int → Int) (S s : Nat) (w r : Int) : sgf u it S s w r = sgf h it S s w r := by
  have f : ∀ a, 80 ≤ a → a ≤ 136 → u a = h a := fun a q1 q2 => funext fun k => hF a k (by unfold scr; omega)
  have e : ∀ k, sgS u S s w r k = sgS h S s w r k := by
    intro k
    induction k with
    | zero => rfl
    | succ k ih =>
      rw [sgS, sgS, ih]
      unfold aW aR sortI
      rw [f 84 (by decide) (by decide), f 85 (by decide) (by decide), f 88 (by decide) (by decide), f 89 (by decide) (by decide)]
  funext k
  unfold sgf sgV
  rw [e]
theorem sP_c (hF : FR h u) (hq4 : q < 4) : sP u n s b q m i = sP h n s b q m i := by
  have f : ∀ a, 80 ≤ a → a ≤ 136 → u a = h a := fun a q1 q2 => funext fun k => hF a k (by unfold scr; omega)
  funext w
  unfold sP cS
  rw [sgf_c hF, f 92 (by decide) (by decide), f 94 (by decide) (by decide), show u (73 + 2 * (q : Int)) = h (73 + 2 * (q : Int)) from funext fun k => hF _ k (by unfold scr; omega)]
theorem b_sagged (hI : INV h) {bb mm : Int} : Both 209 214 [aP 0, aI bb, aI x, aI y, aI i, aI mm, aI z, aX, aX, aX, aX] [aP 149, aI bb, aI x, aI y, aI i, aI mm, aI z, aX, aX, aX, aX, aX] h := by
  obtain ⟨⟨n, nb, L, s, K, nx, hW⟩, -, -, hS⟩ := id hI
  have hP := hW.1
  refine s_Tsagged (Rp_CO hP) hS (fun g t1 ok hz => ⟨_, g, rfl, rfl, FR_1 (FR_tR t1), ?_⟩) (fun ok hz => ⟨_, h, rfl, rfl, rfl, ?_⟩) (fun no => ⟨_, h, rfl, rfl, rfl, ?_⟩)
  · have hF := FR_tR t1
    have hI1 := INV_FR hI hF
    obtain ⟨q, rfl⟩ := Int.eq_ofNat_of_zero_le ok.2.1.1.1
    have hq4 : q < 4 := by omega
    have hlk : lack g q y i mm = 0 := by
      rw [q_lack hS hq4 (by omega)] at hz
      unfold lack at hz ⊢
      rw [t1 155 (by decide), t1 156 (by decide)]
      exact hz
    refine s_Rsagged (WD_FR hF hW).1 hI1.2.2.2 (fun h2 t2 _ _ => ⟨h2, ?_, rfl, ?_, INV_FR hI (FR_t hF t2)⟩) (fun _ no => absurd hlk no) (fun no => absurd ok no)
    · rw [Int.toNat_natCast, sP_c hF hq4]
    · rw [FR_1 t2, FR_1 hF]
  · obtain ⟨q, rfl⟩ := Int.eq_ofNat_of_zero_le ok.2.1.1.1
    have e := q_lack (y := y) (i := i) (m := mm) hS (show q < 4 by omega) (by omega)
    exact s_Rsagged hP hS (fun _ _ _ z => absurd (e.trans z) hz) (fun _ _ => ⟨_, by rw [e], rfl, rfl, hI⟩) (fun no => absurd ok no)
  · exact s_Rsagged hP hS (fun _ _ ok _ => absurd ok no) (fun ok _ => absurd ok no) (fun _ => ⟨_, rfl, rfl, rfl, hI⟩)
end SJ
