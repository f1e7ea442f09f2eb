/-! the law, case by case (written by gen_law.py) -/
section LW
variable {g h h' h1 h2 u : am_F} {Q : am_V → am_S → Prop} {i x y z v : Int} {m : Nat} {is : List am_I} {L S : List am_V}
theorem r_iALDsc (b0 : 0 ≤ i) (b1 : i < h (-1) (-1)) : wp m (iALD :: is) L (aI i :: aP (-1) :: S) (sT h) Q ↔ wp m is L (aI (h (-1) i) :: S) (sT h) Q := by
  rw [r_iALDs]
  exact ⟨fun z => z.2, fun z => ⟨⟨b0, b1⟩, z⟩⟩
theorem w6_lOr (a b : Int) : w6 (lOr a b) = lOr a b := by unfold lOr w6; rw [Int64.ofInt_toInt]
theorem lw_22 (hI : INV h) (i0 : 0 ≤ i) (iL : i + 7 ≤ h (-1) (-1)) (L4 : h (-1) (-1) ≤ 448) (hq : ∀ h', INV h' → h' (-1) = h (-1) → wp 231 (am_ju 231 891) [aP (-1), aP 0, aP 149, aI i] [] (sT h') Q) : wp 231 (am_ju 231 22) [aP (-1), aP 0, aP 149, aI i] [] (sT h) Q := by
  rw [ju_231_22]
  simp (disch := first | assumption | omega | exact w8_0 | exact w8_1 _ | exact w8_2 _ _ | exact w8_3 _ _ _ | exact w8_4 _ _ _ _ | exact nl_I _ | exact nl_P _ | exact nl_X | decide | exact w8_5 _ _ _ _ _) only [r_aLD0, r_aLD1, r_aLD2, r_iLD3, r_iCONST, r_bPUSH, r_iADD, r_iALDsc, w3_id, pu_I, w8_0, w8_1, kd_0, kd_149, cl_16]
  refine wp_mono (b_bag hI) ?_
  rintro _ _ ⟨v, h1, rfl, rfl, e1, hR⟩
  have e2 : h1 (-1) (-1) = h (-1) (-1) := by rw [e1]
  simp (disch := first | assumption | omega | exact w8_0 | exact w8_1 _ | exact w8_2 _ _ | exact w8_3 _ _ _ | exact w8_4 _ _ _ _ | exact nl_I _ | exact nl_P _ | exact nl_X | decide | exact w8_5 _ _ _ _ _) only [r_aLD0, r_aLD1, r_aLD2, r_iLD3, r_iCONST, r_bPUSH, r_iADD, r_iALDsc, w3_id, pu_I, w8_0, w8_1, kd_0, kd_149, cl_20, e1]
  refine wp_mono hR ?_
  rintro _ _ ⟨h2, rfl, rfl, e3, hI2⟩
  simp only [pu_I, r_IC0, if_true]
  exact hq h2 hI2 e3
theorem lw_39 (hI : INV h) (i0 : 0 ≤ i) (iL : i + 7 ≤ h (-1) (-1)) (L4 : h (-1) (-1) ≤ 448) (hq : ∀ h', INV h' → h' (-1) = h (-1) → wp 231 (am_ju 231 891) [aP (-1), aP 0, aP 149, aI i] [] (sT h') Q) : wp 231 (am_ju 231 39) [aP (-1), aP 0, aP 149, aI i] [] (sT h) Q := by
  rw [ju_231_39]
  simp (disch := first | assumption | omega | exact w8_0 | exact w8_1 _ | exact w8_2 _ _ | exact w8_3 _ _ _ | exact w8_4 _ _ _ _ | exact nl_I _ | exact nl_P _ | exact nl_X | decide | exact w8_5 _ _ _ _ _) only [r_aLD0, r_aLD1, r_aLD2, r_iLD3, r_iCONST, r_bPUSH, r_iADD, r_iALDsc, w3_id, pu_I, w8_0, w8_1, kd_0, kd_149, cl_24]
  refine wp_mono (b_thing hI) ?_
  rintro _ _ ⟨v, h1, rfl, rfl, e1, hR⟩
  have e2 : h1 (-1) (-1) = h (-1) (-1) := by rw [e1]
  simp (disch := first | assumption | omega | exact w8_0 | exact w8_1 _ | exact w8_2 _ _ | exact w8_3 _ _ _ | exact w8_4 _ _ _ _ | exact nl_I _ | exact nl_P _ | exact nl_X | decide | exact w8_5 _ _ _ _ _) only [r_aLD0, r_aLD1, r_aLD2, r_iLD3, r_iCONST, r_bPUSH, r_iADD, r_iALDsc, w3_id, pu_I, w8_0, w8_1, kd_0, kd_149, cl_26, e1]
  refine wp_mono hR ?_
  rintro _ _ ⟨h2, rfl, rfl, e3, hI2⟩
  simp only [pu_I, r_IC0, if_true]
  exact hq h2 hI2 e3
theorem lw_96 (hI : INV h) (i0 : 0 ≤ i) (iL : i + 7 ≤ h (-1) (-1)) (L4 : h (-1) (-1) ≤ 448) (hq : ∀ h', INV h' → h' (-1) = h (-1) → wp 231 (am_ju 231 891) [aP (-1), aP 0, aP 149, aI i] [] (sT h') Q) : wp 231 (am_ju 231 96) [aP (-1), aP 0, aP 149, aI i] [] (sT h) Q := by
  rw [ju_231_96]
  simp (disch := first | assumption | omega | exact w8_0 | exact w8_1 _ | exact w8_2 _ _ | exact w8_3 _ _ _ | exact w8_4 _ _ _ _ | exact nl_I _ | exact nl_P _ | exact nl_X | decide | exact w8_5 _ _ _ _ _) only [r_aLD0, r_aLD1, r_aLD2, r_iLD3, r_iCONST, r_bPUSH, r_iADD, r_iALDsc, w3_id, pu_I, w8_0, w8_1, kd_0, kd_149, cl_31]
  refine wp_mono (b_pack hI) ?_
  rintro _ _ ⟨v, h1, rfl, rfl, e1, hR⟩
  have e2 : h1 (-1) (-1) = h (-1) (-1) := by rw [e1]
  simp (disch := first | assumption | omega | exact w8_0 | exact w8_1 _ | exact w8_2 _ _ | exact w8_3 _ _ _ | exact w8_4 _ _ _ _ | exact nl_I _ | exact nl_P _ | exact nl_X | decide | exact w8_5 _ _ _ _ _) only [r_aLD0, r_aLD1, r_aLD2, r_iLD3, r_iCONST, r_bPUSH, r_iADD, r_iALDsc, w3_id, pu_I, w8_0, w8_1, kd_0, kd_149, cl_36, e1]
  refine wp_mono hR ?_
  rintro _ _ ⟨h2, rfl, rfl, e3, hI2⟩
  simp only [pu_I, r_IC0, if_true]
  exact hq h2 hI2 e3
theorem lw_123 (hI : INV h) (i0 : 0 ≤ i) (iL : i + 7 ≤ h (-1) (-1)) (L4 : h (-1) (-1) ≤ 448) (hq : ∀ h', INV h' → h' (-1) = h (-1) → wp 231 (am_ju 231 891) [aP (-1), aP 0, aP 149, aI i] [] (sT h') Q) : wp 231 (am_ju 231 123) [aP (-1), aP 0, aP 149, aI i] [] (sT h) Q := by
  rw [ju_231_123]
  simp (disch := first | assumption | omega | exact w8_0 | exact w8_1 _ | exact w8_2 _ _ | exact w8_3 _ _ _ | exact w8_4 _ _ _ _ | exact nl_I _ | exact nl_P _ | exact nl_X | decide | exact w8_5 _ _ _ _ _) only [r_aLD0, r_aLD1, r_aLD2, r_iLD3, r_iCONST, r_bPUSH, r_iADD, r_iALDsc, w3_id, pu_I, w8_0, w8_1, kd_0, kd_149, cl_37]
  refine wp_mono (b_give hI) ?_
  rintro _ _ ⟨v, h1, rfl, rfl, e1, hR⟩
  have e2 : h1 (-1) (-1) = h (-1) (-1) := by rw [e1]
  simp (disch := first | assumption | omega | exact w8_0 | exact w8_1 _ | exact w8_2 _ _ | exact w8_3 _ _ _ | exact w8_4 _ _ _ _ | exact nl_I _ | exact nl_P _ | exact nl_X | decide | exact w8_5 _ _ _ _ _) only [r_aLD0, r_aLD1, r_aLD2, r_iLD3, r_iCONST, r_bPUSH, r_iADD, r_iALDsc, w3_id, pu_I, w8_0, w8_1, kd_0, kd_149, cl_38, e1]
  refine wp_mono hR ?_
  rintro _ _ ⟨h2, rfl, rfl, e3, hI2⟩
  simp only [pu_I, r_IC0, if_true]
  exact hq h2 hI2 e3
theorem lw_140 (hI : INV h) (i0 : 0 ≤ i) (iL : i + 7 ≤ h (-1) (-1)) (L4 : h (-1) (-1) ≤ 448) (hq : ∀ h', INV h' → h' (-1) = h (-1) → wp 231 (am_ju 231 891) [aP (-1), aP 0, aP 149, aI i] [] (sT h') Q) : wp 231 (am_ju 231 140) [aP (-1), aP 0, aP 149, aI i] [] (sT h) Q := by
  rw [ju_231_140]
  simp (disch := first | assumption | omega | exact w8_0 | exact w8_1 _ | exact w8_2 _ _ | exact w8_3 _ _ _ | exact w8_4 _ _ _ _ | exact nl_I _ | exact nl_P _ | exact nl_X | decide | exact w8_5 _ _ _ _ _) only [r_aLD0, r_aLD1, r_aLD2, r_iLD3, r_iCONST, r_bPUSH, r_iADD, r_iALDsc, w3_id, pu_I, w8_0, w8_1, kd_0, kd_149, cl_44]
  refine wp_mono (b_of hI) ?_
  rintro _ _ ⟨v, h1, rfl, rfl, e1, hR⟩
  have e2 : h1 (-1) (-1) = h (-1) (-1) := by rw [e1]
  simp (disch := first | assumption | omega | exact w8_0 | exact w8_1 _ | exact w8_2 _ _ | exact w8_3 _ _ _ | exact w8_4 _ _ _ _ | exact nl_I _ | exact nl_P _ | exact nl_X | decide | exact w8_5 _ _ _ _ _) only [r_aLD0, r_aLD1, r_aLD2, r_iLD3, r_iCONST, r_bPUSH, r_iADD, r_iALDsc, w3_id, pu_I, w8_0, w8_1, kd_0, kd_149, cl_48, e1]
  refine wp_mono hR ?_
  rintro _ _ ⟨h2, rfl, rfl, e3, hI2⟩
  simp only [pu_I, r_IC0, if_true]
  exact hq h2 hI2 e3
theorem lw_167 (hI : INV h) (i0 : 0 ≤ i) (iL : i + 7 ≤ h (-1) (-1)) (L4 : h (-1) (-1) ≤ 448) (hq : ∀ h', INV h' → h' (-1) = h (-1) → wp 231 (am_ju 231 891) [aP (-1), aP 0, aP 149, aI i] [] (sT h') Q) : wp 231 (am_ju 231 167) [aP (-1), aP 0, aP 149, aI i] [] (sT h) Q := by
  rw [ju_231_167]
  simp (disch := first | assumption | omega | exact w8_0 | exact w8_1 _ | exact w8_2 _ _ | exact w8_3 _ _ _ | exact w8_4 _ _ _ _ | exact nl_I _ | exact nl_P _ | exact nl_X | decide | exact w8_5 _ _ _ _ _) only [r_aLD0, r_aLD1, r_aLD2, r_iLD3, r_iCONST, r_bPUSH, r_iADD, r_iALDsc, w3_id, pu_I, w8_0, w8_1, kd_0, kd_149, cl_52]
  refine wp_mono (b_strength hI) ?_
  rintro _ _ ⟨v, h1, rfl, rfl, e1, hR⟩
  have e2 : h1 (-1) (-1) = h (-1) (-1) := by rw [e1]
  simp (disch := first | assumption | omega | exact w8_0 | exact w8_1 _ | exact w8_2 _ _ | exact w8_3 _ _ _ | exact w8_4 _ _ _ _ | exact nl_I _ | exact nl_P _ | exact nl_X | decide | exact w8_5 _ _ _ _ _) only [r_aLD0, r_aLD1, r_aLD2, r_iLD3, r_iCONST, r_bPUSH, r_iADD, r_iALDsc, w3_id, pu_I, w8_0, w8_1, kd_0, kd_149, cl_54, e1]
  refine wp_mono hR ?_
  rintro _ _ ⟨h2, rfl, rfl, e3, hI2⟩
  simp only [pu_I, r_IC0, if_true]
  exact hq h2 hI2 e3
theorem lw_194 (hI : INV h) (i0 : 0 ≤ i) (iL : i + 7 ≤ h (-1) (-1)) (L4 : h (-1) (-1) ≤ 448) (hq : ∀ h', INV h' → h' (-1) = h (-1) → wp 231 (am_ju 231 891) [aP (-1), aP 0, aP 149, aI i] [] (sT h') Q) : wp 231 (am_ju 231 194) [aP (-1), aP 0, aP 149, aI i] [] (sT h) Q := by
  rw [ju_231_194]
  simp (disch := first | assumption | omega | exact w8_0 | exact w8_1 _ | exact w8_2 _ _ | exact w8_3 _ _ _ | exact w8_4 _ _ _ _ | exact nl_I _ | exact nl_P _ | exact nl_X | decide | exact w8_5 _ _ _ _ _) only [r_aLD0, r_aLD1, r_aLD2, r_iLD3, r_iCONST, r_bPUSH, r_iADD, r_iALDsc, w3_id, pu_I, w8_0, w8_1, kd_0, kd_149, cl_57]
  refine wp_mono (b_force hI) ?_
  rintro _ _ ⟨v, h1, rfl, rfl, e1, hR⟩
  have e2 : h1 (-1) (-1) = h (-1) (-1) := by rw [e1]
  simp (disch := first | assumption | omega | exact w8_0 | exact w8_1 _ | exact w8_2 _ _ | exact w8_3 _ _ _ | exact w8_4 _ _ _ _ | exact nl_I _ | exact nl_P _ | exact nl_X | decide | exact w8_5 _ _ _ _ _) only [r_aLD0, r_aLD1, r_aLD2, r_iLD3, r_iCONST, r_bPUSH, r_iADD, r_iALDsc, w3_id, pu_I, w8_0, w8_1, kd_0, kd_149, cl_59, e1]
  refine wp_mono hR ?_
  rintro _ _ ⟨h2, rfl, rfl, e3, hI2⟩
  simp only [pu_I, r_IC0, if_true]
  exact hq h2 hI2 e3
theorem lw_231 (hI : INV h) (i0 : 0 ≤ i) (iL : i + 7 ≤ h (-1) (-1)) (L4 : h (-1) (-1) ≤ 448) (hq : ∀ h', INV h' → h' (-1) = h (-1) → wp 231 (am_ju 231 891) [aP (-1), aP 0, aP 149, aI i] [] (sT h') Q) : wp 231 (am_ju 231 231) [aP (-1), aP 0, aP 149, aI i] [] (sT h) Q := by
  rw [ju_231_231]
  simp (disch := first | assumption | omega | exact w8_0 | exact w8_1 _ | exact w8_2 _ _ | exact w8_3 _ _ _ | exact w8_4 _ _ _ _ | exact nl_I _ | exact nl_P _ | exact nl_X | decide | exact w8_5 _ _ _ _ _) only [r_aLD0, r_aLD1, r_aLD2, r_iLD3, r_iCONST, r_bPUSH, r_iADD, r_iALDsc, w3_id, pu_I, w8_0, w8_1, kd_0, kd_149, cl_60]
  refine wp_mono (b_told hI) ?_
  rintro _ _ ⟨v, h1, rfl, rfl, e1, hR⟩
  have e2 : h1 (-1) (-1) = h (-1) (-1) := by rw [e1]
  simp (disch := first | assumption | omega | exact w8_0 | exact w8_1 _ | exact w8_2 _ _ | exact w8_3 _ _ _ | exact w8_4 _ _ _ _ | exact nl_I _ | exact nl_P _ | exact nl_X | decide | exact w8_5 _ _ _ _ _) only [r_aLD0, r_aLD1, r_aLD2, r_iLD3, r_iCONST, r_bPUSH, r_iADD, r_iALDsc, w3_id, pu_I, w8_0, w8_1, kd_0, kd_149, cl_61, e1]
  refine wp_mono hR ?_
  rintro _ _ ⟨h2, rfl, rfl, e3, hI2⟩
  simp only [pu_I, r_IC0, if_true]
  exact hq h2 hI2 e3
theorem lw_258 (hI : INV h) (i0 : 0 ≤ i) (iL : i + 7 ≤ h (-1) (-1)) (L4 : h (-1) (-1) ≤ 448) (hq : ∀ h', INV h' → h' (-1) = h (-1) → wp 231 (am_ju 231 891) [aP (-1), aP 0, aP 149, aI i] [] (sT h') Q) : wp 231 (am_ju 231 258) [aP (-1), aP 0, aP 149, aI i] [] (sT h) Q := by
  rw [ju_231_258]
  simp (disch := first | assumption | omega | exact w8_0 | exact w8_1 _ | exact w8_2 _ _ | exact w8_3 _ _ _ | exact w8_4 _ _ _ _ | exact nl_I _ | exact nl_P _ | exact nl_X | decide | exact w8_5 _ _ _ _ _) only [r_aLD0, r_aLD1, r_aLD2, r_iLD3, r_iCONST, r_bPUSH, r_iADD, r_iALDsc, w3_id, pu_I, w8_0, w8_1, kd_0, kd_149, cl_62]
  refine wp_mono (b_set hI) ?_
  rintro _ _ ⟨v, h1, rfl, rfl, e1, hR⟩
  have e2 : h1 (-1) (-1) = h (-1) (-1) := by rw [e1]
  simp (disch := first | assumption | omega | exact w8_0 | exact w8_1 _ | exact w8_2 _ _ | exact w8_3 _ _ _ | exact w8_4 _ _ _ _ | exact nl_I _ | exact nl_P _ | exact nl_X | decide | exact w8_5 _ _ _ _ _) only [r_aLD0, r_aLD1, r_aLD2, r_iLD3, r_iCONST, r_bPUSH, r_iADD, r_iALDsc, w3_id, pu_I, w8_0, w8_1, kd_0, kd_149, cl_63, e1]
  refine wp_mono hR ?_
  rintro _ _ ⟨h2, rfl, rfl, e3, hI2⟩
  simp only [pu_I, r_IC0, if_true]
  exact hq h2 hI2 e3
theorem lw_295 (hI : INV h) (i0 : 0 ≤ i) (iL : i + 7 ≤ h (-1) (-1)) (L4 : h (-1) (-1) ≤ 448) (hq : ∀ h', INV h' → h' (-1) = h (-1) → wp 231 (am_ju 231 891) [aP (-1), aP 0, aP 149, aI i] [] (sT h') Q) : wp 231 (am_ju 231 295) [aP (-1), aP 0, aP 149, aI i] [] (sT h) Q := by
  rw [ju_231_295]
  simp (disch := first | assumption | omega | exact w8_0 | exact w8_1 _ | exact w8_2 _ _ | exact w8_3 _ _ _ | exact w8_4 _ _ _ _ | exact nl_I _ | exact nl_P _ | exact nl_X | decide | exact w8_5 _ _ _ _ _) only [r_aLD0, r_aLD1, r_aLD2, r_iLD3, r_iCONST, r_bPUSH, r_iADD, r_iALDsc, w3_id, pu_I, w8_0, w8_1, kd_0, kd_149, cl_65]
  refine wp_mono (b_type hI) ?_
  rintro _ _ ⟨v, h1, rfl, rfl, e1, hR⟩
  have e2 : h1 (-1) (-1) = h (-1) (-1) := by rw [e1]
  simp (disch := first | assumption | omega | exact w8_0 | exact w8_1 _ | exact w8_2 _ _ | exact w8_3 _ _ _ | exact w8_4 _ _ _ _ | exact nl_I _ | exact nl_P _ | exact nl_X | decide | exact w8_5 _ _ _ _ _) only [r_aLD0, r_aLD1, r_aLD2, r_iLD3, r_iCONST, r_bPUSH, r_iADD, r_iALDsc, w3_id, pu_I, w8_0, w8_1, kd_0, kd_149, cl_66, e1]
  refine wp_mono hR ?_
  rintro _ _ ⟨h2, rfl, rfl, e3, hI2⟩
  simp only [pu_I, r_IC0, if_true]
  exact hq h2 hI2 e3
theorem lw_312 (hI : INV h) (i0 : 0 ≤ i) (iL : i + 7 ≤ h (-1) (-1)) (L4 : h (-1) (-1) ≤ 448) (hq : ∀ h', INV h' → h' (-1) = h (-1) → wp 231 (am_ju 231 891) [aP (-1), aP 0, aP 149, aI i] [] (sT h') Q) : wp 231 (am_ju 231 312) [aP (-1), aP 0, aP 149, aI i] [] (sT h) Q := by
  rw [ju_231_312]
  simp (disch := first | assumption | omega | exact w8_0 | exact w8_1 _ | exact w8_2 _ _ | exact w8_3 _ _ _ | exact w8_4 _ _ _ _ | exact nl_I _ | exact nl_P _ | exact nl_X | decide | exact w8_5 _ _ _ _ _) only [r_aLD0, r_aLD1, r_aLD2, r_iLD3, r_iCONST, r_bPUSH, r_iADD, r_iALDsc, w3_id, pu_I, w8_0, w8_1, kd_0, kd_149, cl_74]
  refine wp_mono (b_way hI) ?_
  rintro _ _ ⟨v, h1, rfl, rfl, e1, hR⟩
  have e2 : h1 (-1) (-1) = h (-1) (-1) := by rw [e1]
  simp (disch := first | assumption | omega | exact w8_0 | exact w8_1 _ | exact w8_2 _ _ | exact w8_3 _ _ _ | exact w8_4 _ _ _ _ | exact nl_I _ | exact nl_P _ | exact nl_X | decide | exact w8_5 _ _ _ _ _) only [r_aLD0, r_aLD1, r_aLD2, r_iLD3, r_iCONST, r_bPUSH, r_iADD, r_iALDsc, w3_id, pu_I, w8_0, w8_1, kd_0, kd_149, cl_78, e1]
  refine wp_mono hR ?_
  rintro _ _ ⟨h2, rfl, rfl, e3, hI2⟩
  simp only [pu_I, r_IC0, if_true]
  exact hq h2 hI2 e3
theorem lw_319 (hI : INV h) (i0 : 0 ≤ i) (iL : i + 7 ≤ h (-1) (-1)) (L4 : h (-1) (-1) ≤ 448) (hq : ∀ h', INV h' → h' (-1) = h (-1) → wp 231 (am_ju 231 891) [aP (-1), aP 0, aP 149, aI i] [] (sT h') Q) : wp 231 (am_ju 231 319) [aP (-1), aP 0, aP 149, aI i] [] (sT h) Q := by
  rw [ju_231_319]
  simp (disch := first | assumption | omega | exact w8_0 | exact w8_1 _ | exact w8_2 _ _ | exact w8_3 _ _ _ | exact w8_4 _ _ _ _ | exact nl_I _ | exact nl_P _ | exact nl_X | decide | exact w8_5 _ _ _ _ _) only [r_aLD0, r_aLD1, r_aLD2, r_iLD3, r_iCONST, r_bPUSH, r_iADD, r_iALDsc, w3_id, pu_I, w8_0, w8_1, kd_0, kd_149, cl_89]
  refine wp_mono (b_shop hI) ?_
  rintro _ _ ⟨v, h1, rfl, rfl, e1, hR⟩
  have e2 : h1 (-1) (-1) = h (-1) (-1) := by rw [e1]
  simp (disch := first | assumption | omega | exact w8_0 | exact w8_1 _ | exact w8_2 _ _ | exact w8_3 _ _ _ | exact w8_4 _ _ _ _ | exact nl_I _ | exact nl_P _ | exact nl_X | decide | exact w8_5 _ _ _ _ _) only [r_aLD0, r_aLD1, r_aLD2, r_iLD3, r_iCONST, r_bPUSH, r_iADD, r_iALDsc, w3_id, pu_I, w8_0, w8_1, kd_0, kd_149, cl_99, e1]
  refine wp_mono hR ?_
  rintro _ _ ⟨h2, rfl, rfl, e3, hI2⟩
  simp only [pu_I, r_IC0, if_true]
  exact hq h2 hI2 e3
theorem lw_326 (hI : INV h) (i0 : 0 ≤ i) (iL : i + 7 ≤ h (-1) (-1)) (L4 : h (-1) (-1) ≤ 448) (hq : ∀ h', INV h' → h' (-1) = h (-1) → wp 231 (am_ju 231 891) [aP (-1), aP 0, aP 149, aI i] [] (sT h') Q) : wp 231 (am_ju 231 326) [aP (-1), aP 0, aP 149, aI i] [] (sT h) Q := by
  rw [ju_231_326]
  simp (disch := first | assumption | omega | exact w8_0 | exact w8_1 _ | exact w8_2 _ _ | exact w8_3 _ _ _ | exact w8_4 _ _ _ _ | exact nl_I _ | exact nl_P _ | exact nl_X | decide | exact w8_5 _ _ _ _ _) only [r_aLD0, r_aLD1, r_aLD2, r_iLD3, r_iCONST, r_bPUSH, r_iADD, r_iALDsc, w3_id, pu_I, w8_0, w8_1, kd_0, kd_149, cl_101]
  refine wp_mono (b_sort hI) ?_
  rintro _ _ ⟨v, h1, rfl, rfl, e1, hR⟩
  have e2 : h1 (-1) (-1) = h (-1) (-1) := by rw [e1]
  simp (disch := first | assumption | omega | exact w8_0 | exact w8_1 _ | exact w8_2 _ _ | exact w8_3 _ _ _ | exact w8_4 _ _ _ _ | exact nl_I _ | exact nl_P _ | exact nl_X | decide | exact w8_5 _ _ _ _ _) only [r_aLD0, r_aLD1, r_aLD2, r_iLD3, r_iCONST, r_bPUSH, r_iADD, r_iALDsc, w3_id, pu_I, w8_0, w8_1, kd_0, kd_149, cl_102, e1]
  refine wp_mono hR ?_
  rintro _ _ ⟨h2, rfl, rfl, e3, hI2⟩
  simp only [pu_I, r_IC0, if_true]
  exact hq h2 hI2 e3
theorem lw_343 (hI : INV h) (i0 : 0 ≤ i) (iL : i + 7 ≤ h (-1) (-1)) (L4 : h (-1) (-1) ≤ 448) (hq : ∀ h', INV h' → h' (-1) = h (-1) → wp 231 (am_ju 231 891) [aP (-1), aP 0, aP 149, aI i] [] (sT h') Q) : wp 231 (am_ju 231 343) [aP (-1), aP 0, aP 149, aI i] [] (sT h) Q := by
  rw [ju_231_343]
  simp (disch := first | assumption | omega | exact w8_0 | exact w8_1 _ | exact w8_2 _ _ | exact w8_3 _ _ _ | exact w8_4 _ _ _ _ | exact nl_I _ | exact nl_P _ | exact nl_X | decide | exact w8_5 _ _ _ _ _) only [r_aLD0, r_aLD1, r_aLD2, r_iLD3, r_iCONST, r_bPUSH, r_iADD, r_iALDsc, w3_id, pu_I, w8_0, w8_1, kd_0, kd_149, cl_105]
  refine wp_mono (b_count hI) ?_
  rintro _ _ ⟨v, h1, rfl, rfl, e1, hR⟩
  have e2 : h1 (-1) (-1) = h (-1) (-1) := by rw [e1]
  simp (disch := first | assumption | omega | exact w8_0 | exact w8_1 _ | exact w8_2 _ _ | exact w8_3 _ _ _ | exact w8_4 _ _ _ _ | exact nl_I _ | exact nl_P _ | exact nl_X | decide | exact w8_5 _ _ _ _ _) only [r_aLD0, r_aLD1, r_aLD2, r_iLD3, r_iCONST, r_bPUSH, r_iADD, r_iALDsc, w3_id, pu_I, w8_0, w8_1, kd_0, kd_149, cl_108, e1]
  refine wp_mono hR ?_
  rintro _ _ ⟨h2, rfl, rfl, e3, hI2⟩
  simp only [pu_I, r_IC0, if_true]
  exact hq h2 hI2 e3
theorem lw_360 (hI : INV h) (i0 : 0 ≤ i) (iL : i + 7 ≤ h (-1) (-1)) (L4 : h (-1) (-1) ≤ 448) (hq : ∀ h', INV h' → h' (-1) = h (-1) → wp 231 (am_ju 231 891) [aP (-1), aP 0, aP 149, aI i] [] (sT h') Q) : wp 231 (am_ju 231 360) [aP (-1), aP 0, aP 149, aI i] [] (sT h) Q := by
  rw [ju_231_360]
  simp (disch := first | assumption | omega | exact w8_0 | exact w8_1 _ | exact w8_2 _ _ | exact w8_3 _ _ _ | exact w8_4 _ _ _ _ | exact nl_I _ | exact nl_P _ | exact nl_X | decide | exact w8_5 _ _ _ _ _) only [r_aLD0, r_aLD1, r_aLD2, r_iLD3, r_iCONST, r_bPUSH, r_iADD, r_iALDsc, w3_id, pu_I, w8_0, w8_1, kd_0, kd_149, cl_119]
  refine wp_mono (b_step hI) ?_
  rintro _ _ ⟨v, h1, rfl, rfl, e1, hR⟩
  have e2 : h1 (-1) (-1) = h (-1) (-1) := by rw [e1]
  simp (disch := first | assumption | omega | exact w8_0 | exact w8_1 _ | exact w8_2 _ _ | exact w8_3 _ _ _ | exact w8_4 _ _ _ _ | exact nl_I _ | exact nl_P _ | exact nl_X | decide | exact w8_5 _ _ _ _ _) only [r_aLD0, r_aLD1, r_aLD2, r_iLD3, r_iCONST, r_bPUSH, r_iADD, r_iALDsc, w3_id, pu_I, w8_0, w8_1, kd_0, kd_149, cl_126, e1]
  refine wp_mono hR ?_
  rintro _ _ ⟨h2, rfl, rfl, e3, hI2⟩
  simp only [pu_I, r_IC0, if_true]
  exact hq h2 hI2 e3
theorem lw_367 (hI : INV h) (i0 : 0 ≤ i) (iL : i + 7 ≤ h (-1) (-1)) (L4 : h (-1) (-1) ≤ 448) (hq : ∀ h', INV h' → h' (-1) = h (-1) → wp 231 (am_ju 231 891) [aP (-1), aP 0, aP 149, aI i] [] (sT h') Q) : wp 231 (am_ju 231 367) [aP (-1), aP 0, aP 149, aI i] [] (sT h) Q := by
  rw [ju_231_367]
  simp (disch := first | assumption | omega | exact w8_0 | exact w8_1 _ | exact w8_2 _ _ | exact w8_3 _ _ _ | exact w8_4 _ _ _ _ | exact nl_I _ | exact nl_P _ | exact nl_X | decide | exact w8_5 _ _ _ _ _) only [r_aLD0, r_aLD1, r_aLD2, r_iLD3, r_iCONST, r_bPUSH, r_iADD, r_iALDsc, w3_id, pu_I, w8_0, w8_1, kd_0, kd_149, cl_128]
  refine wp_mono (b_undo hI) ?_
  rintro _ _ ⟨v, h1, rfl, rfl, e1, hR⟩
  have e2 : h1 (-1) (-1) = h (-1) (-1) := by rw [e1]
  simp (disch := first | assumption | omega | exact w8_0 | exact w8_1 _ | exact w8_2 _ _ | exact w8_3 _ _ _ | exact w8_4 _ _ _ _ | exact nl_I _ | exact nl_P _ | exact nl_X | decide | exact w8_5 _ _ _ _ _) only [r_aLD0, r_aLD1, r_aLD2, r_iLD3, r_iCONST, r_bPUSH, r_iADD, r_iALDsc, w3_id, pu_I, w8_0, w8_1, kd_0, kd_149, cl_129, e1]
  refine wp_mono hR ?_
  rintro _ _ ⟨h2, rfl, rfl, e3, hI2⟩
  simp only [pu_I, r_IC0, if_true]
  exact hq h2 hI2 e3
theorem lw_374 (hI : INV h) (i0 : 0 ≤ i) (iL : i + 7 ≤ h (-1) (-1)) (L4 : h (-1) (-1) ≤ 448) (hq : ∀ h', INV h' → h' (-1) = h (-1) → wp 231 (am_ju 231 891) [aP (-1), aP 0, aP 149, aI i] [] (sT h') Q) : wp 231 (am_ju 231 374) [aP (-1), aP 0, aP 149, aI i] [] (sT h) Q := by
  rw [ju_231_374]
  simp (disch := first | assumption | omega | exact w8_0 | exact w8_1 _ | exact w8_2 _ _ | exact w8_3 _ _ _ | exact w8_4 _ _ _ _ | exact nl_I _ | exact nl_P _ | exact nl_X | decide | exact w8_5 _ _ _ _ _) only [r_aLD0, r_aLD1, r_aLD2, r_iLD3, r_iCONST, r_bPUSH, r_iADD, r_iALDsc, w3_id, pu_I, w8_0, w8_1, kd_0, kd_149, cl_130]
  refine wp_mono (b_again hI) ?_
  rintro _ _ ⟨v, h1, rfl, rfl, e1, hR⟩
  have e2 : h1 (-1) (-1) = h (-1) (-1) := by rw [e1]
  simp (disch := first | assumption | omega | exact w8_0 | exact w8_1 _ | exact w8_2 _ _ | exact w8_3 _ _ _ | exact w8_4 _ _ _ _ | exact nl_I _ | exact nl_P _ | exact nl_X | decide | exact w8_5 _ _ _ _ _) only [r_aLD0, r_aLD1, r_aLD2, r_iLD3, r_iCONST, r_bPUSH, r_iADD, r_iALDsc, w3_id, pu_I, w8_0, w8_1, kd_0, kd_149, cl_131, e1]
  refine wp_mono hR ?_
  rintro _ _ ⟨h2, rfl, rfl, e3, hI2⟩
  simp only [pu_I, r_IC0, if_true]
  exact hq h2 hI2 e3
theorem lw_381 (hI : INV h) (i0 : 0 ≤ i) (iL : i + 7 ≤ h (-1) (-1)) (L4 : h (-1) (-1) ≤ 448) (hr : ∀ k, h (-1) k < 2147483648) (hq : ∀ h', INV h' → h' (-1) = h (-1) → wp 231 (am_ju 231 891) [aP (-1), aP 0, aP 149, aI i] [] (sT h') Q) : wp 231 (am_ju 231 381) [aP (-1), aP 0, aP 149, aI i] [] (sT h) Q := by
  rw [ju_231_381]
  simp (disch := first | assumption | omega | exact w8_0 | exact w8_1 _ | exact w8_2 _ _ | exact w8_3 _ _ _ | exact w8_4 _ _ _ _ | exact nl_I _ | exact nl_P _ | exact nl_X | decide | exact w8_5 _ _ _ _ _) only [r_aLD0, r_aLD1, r_aLD2, r_iLD3, r_iCONST, r_bPUSH, r_iADD, r_iALDsc, w3_id, pu_I, w8_0, w8_1, kd_0, kd_149, cl_132]
  refine wp_mono (b_seed hI (hr _)) ?_
  rintro _ _ ⟨v, h1, rfl, rfl, e1, hR⟩
  have e2 : h1 (-1) (-1) = h (-1) (-1) := by rw [e1]
  simp (disch := first | assumption | omega | exact w8_0 | exact w8_1 _ | exact w8_2 _ _ | exact w8_3 _ _ _ | exact w8_4 _ _ _ _ | exact nl_I _ | exact nl_P _ | exact nl_X | decide | exact w8_5 _ _ _ _ _) only [r_aLD0, r_aLD1, r_aLD2, r_iLD3, r_iCONST, r_bPUSH, r_iADD, r_iALDsc, w3_id, pu_I, w8_0, w8_1, kd_0, kd_149, cl_133, e1]
  refine wp_mono hR ?_
  rintro _ _ ⟨h2, rfl, rfl, e3, hI2⟩
  simp only [pu_I, r_IC0, if_true]
  exact hq h2 hI2 e3
theorem lw_398 (hI : INV h) (i0 : 0 ≤ i) (iL : i + 7 ≤ h (-1) (-1)) (L4 : h (-1) (-1) ≤ 448) (hq : ∀ h', INV h' → h' (-1) = h (-1) → wp 231 (am_ju 231 891) [aP (-1), aP 0, aP 149, aI i] [] (sT h') Q) : wp 231 (am_ju 231 398) [aP (-1), aP 0, aP 149, aI i] [] (sT h) Q := by
  rw [ju_231_398]
  simp (disch := first | assumption | omega | exact w8_0 | exact w8_1 _ | exact w8_2 _ _ | exact w8_3 _ _ _ | exact w8_4 _ _ _ _ | exact nl_I _ | exact nl_P _ | exact nl_X | decide | exact w8_5 _ _ _ _ _) only [r_aLD0, r_aLD1, r_aLD2, r_iLD3, r_iCONST, r_bPUSH, r_iADD, r_iALDsc, w3_id, pu_I, w8_0, w8_1, kd_0, kd_149, cl_137]
  refine wp_mono (b_holds hI) ?_
  rintro _ _ ⟨v, h1, rfl, rfl, e1, hR⟩
  have e2 : h1 (-1) (-1) = h (-1) (-1) := by rw [e1]
  simp (disch := first | assumption | omega | exact w8_0 | exact w8_1 _ | exact w8_2 _ _ | exact w8_3 _ _ _ | exact w8_4 _ _ _ _ | exact nl_I _ | exact nl_P _ | exact nl_X | decide | exact w8_5 _ _ _ _ _) only [r_aLD0, r_aLD1, r_aLD2, r_iLD3, r_iCONST, r_bPUSH, r_iADD, r_iALDsc, w3_id, pu_I, w8_0, w8_1, kd_0, kd_149, cl_140, e1]
  refine wp_mono hR ?_
  rintro _ _ ⟨h2, rfl, rfl, e3, hI2⟩
  simp only [pu_I, r_IC0, if_true]
  exact hq h2 hI2 e3
theorem lw_415 (hI : INV h) (i0 : 0 ≤ i) (iL : i + 7 ≤ h (-1) (-1)) (L4 : h (-1) (-1) ≤ 448) (hq : ∀ h', INV h' → h' (-1) = h (-1) → wp 231 (am_ju 231 891) [aP (-1), aP 0, aP 149, aI i] [] (sT h') Q) : wp 231 (am_ju 231 415) [aP (-1), aP 0, aP 149, aI i] [] (sT h) Q := by
  rw [ju_231_415]
  simp (disch := first | assumption | omega | exact w8_0 | exact w8_1 _ | exact w8_2 _ _ | exact w8_3 _ _ _ | exact w8_4 _ _ _ _ | exact nl_I _ | exact nl_P _ | exact nl_X | decide | exact w8_5 _ _ _ _ _) only [r_aLD0, r_aLD1, r_aLD2, r_iLD3, r_iCONST, r_bPUSH, r_iADD, r_iALDsc, w3_id, pu_I, w8_0, w8_1, kd_0, kd_149, cl_144]
  refine wp_mono (b_odds hI) ?_
  rintro _ _ ⟨v, h1, rfl, rfl, e1, hR⟩
  have e2 : h1 (-1) (-1) = h (-1) (-1) := by rw [e1]
  simp (disch := first | assumption | omega | exact w8_0 | exact w8_1 _ | exact w8_2 _ _ | exact w8_3 _ _ _ | exact w8_4 _ _ _ _ | exact nl_I _ | exact nl_P _ | exact nl_X | decide | exact w8_5 _ _ _ _ _) only [r_aLD0, r_aLD1, r_aLD2, r_iLD3, r_iCONST, r_bPUSH, r_iADD, r_iALDsc, w3_id, pu_I, w8_0, w8_1, kd_0, kd_149, cl_146, e1]
  refine wp_mono hR ?_
  rintro _ _ ⟨h2, rfl, rfl, e3, hI2⟩
  simp only [pu_I, r_IC0, if_true]
  exact hq h2 hI2 e3
theorem lw_432 (hI : INV h) (i0 : 0 ≤ i) (iL : i + 7 ≤ h (-1) (-1)) (L4 : h (-1) (-1) ≤ 448) (hq : ∀ h', INV h' → h' (-1) = h (-1) → wp 231 (am_ju 231 891) [aP (-1), aP 0, aP 149, aI i] [] (sT h') Q) : wp 231 (am_ju 231 432) [aP (-1), aP 0, aP 149, aI i] [] (sT h) Q := by
  rw [ju_231_432]
  simp (disch := first | assumption | omega | exact w8_0 | exact w8_1 _ | exact w8_2 _ _ | exact w8_3 _ _ _ | exact w8_4 _ _ _ _ | exact nl_I _ | exact nl_P _ | exact nl_X | decide | exact w8_5 _ _ _ _ _) only [r_aLD0, r_aLD1, r_aLD2, r_iLD3, r_iCONST, r_bPUSH, r_iADD, r_iALDsc, w3_id, pu_I, w8_0, w8_1, kd_0, kd_149, cl_156]
  refine wp_mono (b_packing hI) ?_
  rintro _ _ ⟨v, h1, rfl, rfl, e1, hR⟩
  have e2 : h1 (-1) (-1) = h (-1) (-1) := by rw [e1]
  simp (disch := first | assumption | omega | exact w8_0 | exact w8_1 _ | exact w8_2 _ _ | exact w8_3 _ _ _ | exact w8_4 _ _ _ _ | exact nl_I _ | exact nl_P _ | exact nl_X | decide | exact w8_5 _ _ _ _ _) only [r_aLD0, r_aLD1, r_aLD2, r_iLD3, r_iCONST, r_bPUSH, r_iADD, r_iALDsc, w3_id, pu_I, w8_0, w8_1, kd_0, kd_149, cl_160, e1]
  refine wp_mono hR ?_
  rintro _ _ ⟨h2, rfl, rfl, e3, hI2⟩
  simp only [pu_I, r_IC0, if_true]
  exact hq h2 hI2 e3
theorem lw_449 (hI : INV h) (i0 : 0 ≤ i) (iL : i + 7 ≤ h (-1) (-1)) (L4 : h (-1) (-1) ≤ 448) (hq : ∀ h', INV h' → h' (-1) = h (-1) → wp 231 (am_ju 231 891) [aP (-1), aP 0, aP 149, aI i] [] (sT h') Q) : wp 231 (am_ju 231 449) [aP (-1), aP 0, aP 149, aI i] [] (sT h) Q := by
  rw [ju_231_449]
  simp (disch := first | assumption | omega | exact w8_0 | exact w8_1 _ | exact w8_2 _ _ | exact w8_3 _ _ _ | exact w8_4 _ _ _ _ | exact nl_I _ | exact nl_P _ | exact nl_X | decide | exact w8_5 _ _ _ _ _) only [r_aLD0, r_aLD1, r_aLD2, r_iLD3, r_iCONST, r_bPUSH, r_iADD, r_iALDsc, w3_id, pu_I, w8_0, w8_1, kd_0, kd_149, cl_162]
  refine wp_mono (b_doubled hI) ?_
  rintro _ _ ⟨v, h1, rfl, rfl, e1, hR⟩
  have e2 : h1 (-1) (-1) = h (-1) (-1) := by rw [e1]
  simp (disch := first | assumption | omega | exact w8_0 | exact w8_1 _ | exact w8_2 _ _ | exact w8_3 _ _ _ | exact w8_4 _ _ _ _ | exact nl_I _ | exact nl_P _ | exact nl_X | decide | exact w8_5 _ _ _ _ _) only [r_aLD0, r_aLD1, r_aLD2, r_iLD3, r_iCONST, r_bPUSH, r_iADD, r_iALDsc, w3_id, pu_I, w8_0, w8_1, kd_0, kd_149, cl_163, e1]
  refine wp_mono hR ?_
  rintro _ _ ⟨h2, rfl, rfl, e3, hI2⟩
  simp only [pu_I, r_IC0, if_true]
  exact hq h2 hI2 e3
theorem lw_456 (hI : INV h) (i0 : 0 ≤ i) (iL : i + 7 ≤ h (-1) (-1)) (L4 : h (-1) (-1) ≤ 448) (hq : ∀ h', INV h' → h' (-1) = h (-1) → wp 231 (am_ju 231 891) [aP (-1), aP 0, aP 149, aI i] [] (sT h') Q) : wp 231 (am_ju 231 456) [aP (-1), aP 0, aP 149, aI i] [] (sT h) Q := by
  rw [ju_231_456]
  simp (disch := first | assumption | omega | exact w8_0 | exact w8_1 _ | exact w8_2 _ _ | exact w8_3 _ _ _ | exact w8_4 _ _ _ _ | exact nl_I _ | exact nl_P _ | exact nl_X | decide | exact w8_5 _ _ _ _ _) only [r_aLD0, r_aLD1, r_aLD2, r_iLD3, r_iCONST, r_bPUSH, r_iADD, r_iALDsc, w3_id, pu_I, w8_0, w8_1, kd_0, kd_149, cl_167]
  refine wp_mono (b_leave hI) ?_
  rintro _ _ ⟨v, h1, rfl, rfl, e1, hR⟩
  have e2 : h1 (-1) (-1) = h (-1) (-1) := by rw [e1]
  simp (disch := first | assumption | omega | exact w8_0 | exact w8_1 _ | exact w8_2 _ _ | exact w8_3 _ _ _ | exact w8_4 _ _ _ _ | exact nl_I _ | exact nl_P _ | exact nl_X | decide | exact w8_5 _ _ _ _ _) only [r_aLD0, r_aLD1, r_aLD2, r_iLD3, r_iCONST, r_bPUSH, r_iADD, r_iALDsc, w3_id, pu_I, w8_0, w8_1, kd_0, kd_149, cl_170, e1]
  refine wp_mono hR ?_
  rintro _ _ ⟨h2, rfl, rfl, e3, hI2⟩
  simp only [pu_I, r_IC0, if_true]
  exact hq h2 hI2 e3
theorem lw_473 (hI : INV h) (i0 : 0 ≤ i) (iL : i + 7 ≤ h (-1) (-1)) (L4 : h (-1) (-1) ≤ 448) (hq : ∀ h', INV h' → h' (-1) = h (-1) → wp 231 (am_ju 231 891) [aP (-1), aP 0, aP 149, aI i] [] (sT h') Q) : wp 231 (am_ju 231 473) [aP (-1), aP 0, aP 149, aI i] [] (sT h) Q := by
  rw [ju_231_473]
  simp (disch := first | assumption | omega | exact w8_0 | exact w8_1 _ | exact w8_2 _ _ | exact w8_3 _ _ _ | exact w8_4 _ _ _ _ | exact nl_I _ | exact nl_P _ | exact nl_X | decide | exact w8_5 _ _ _ _ _) only [r_aLD0, r_aLD1, r_aLD2, r_iLD3, r_iCONST, r_bPUSH, r_iADD, r_iALDsc, w3_id, pu_I, w8_0, w8_1, kd_0, kd_149, cl_174]
  refine wp_mono (b_rolls hI) ?_
  rintro _ _ ⟨v, h1, rfl, rfl, e1, hR⟩
  have e2 : h1 (-1) (-1) = h (-1) (-1) := by rw [e1]
  simp (disch := first | assumption | omega | exact w8_0 | exact w8_1 _ | exact w8_2 _ _ | exact w8_3 _ _ _ | exact w8_4 _ _ _ _ | exact nl_I _ | exact nl_P _ | exact nl_X | decide | exact w8_5 _ _ _ _ _) only [r_aLD0, r_aLD1, r_aLD2, r_iLD3, r_iCONST, r_bPUSH, r_iADD, r_iALDsc, w3_id, pu_I, w8_0, w8_1, kd_0, kd_149, cl_177, e1]
  refine wp_mono hR ?_
  rintro _ _ ⟨h2, rfl, rfl, e3, hI2⟩
  simp only [pu_I, r_IC0, if_true]
  exact hq h2 hI2 e3
theorem lw_490 (hI : INV h) (i0 : 0 ≤ i) (iL : i + 7 ≤ h (-1) (-1)) (L4 : h (-1) (-1) ≤ 448) (hq : ∀ h', INV h' → h' (-1) = h (-1) → wp 231 (am_ju 231 891) [aP (-1), aP 0, aP 149, aI i] [] (sT h') Q) : wp 231 (am_ju 231 490) [aP (-1), aP 0, aP 149, aI i] [] (sT h) Q := by
  rw [ju_231_490]
  simp (disch := first | assumption | omega | exact w8_0 | exact w8_1 _ | exact w8_2 _ _ | exact w8_3 _ _ _ | exact w8_4 _ _ _ _ | exact nl_I _ | exact nl_P _ | exact nl_X | decide | exact w8_5 _ _ _ _ _) only [r_aLD0, r_aLD1, r_aLD2, r_iLD3, r_iCONST, r_bPUSH, r_iADD, r_iALDsc, w3_id, pu_I, w8_0, w8_1, kd_0, kd_149, cl_185]
  refine wp_mono (b_run hI) ?_
  rintro _ _ ⟨v, h1, rfl, rfl, e1, hR⟩
  have e2 : h1 (-1) (-1) = h (-1) (-1) := by rw [e1]
  simp (disch := first | assumption | omega | exact w8_0 | exact w8_1 _ | exact w8_2 _ _ | exact w8_3 _ _ _ | exact w8_4 _ _ _ _ | exact nl_I _ | exact nl_P _ | exact nl_X | decide | exact w8_5 _ _ _ _ _) only [r_aLD0, r_aLD1, r_aLD2, r_iLD3, r_iCONST, r_bPUSH, r_iADD, r_iALDsc, w3_id, pu_I, w8_0, w8_1, kd_0, kd_149, cl_188, e1]
  refine wp_mono hR ?_
  rintro _ _ ⟨h2, rfl, rfl, e3, hI2⟩
  simp only [pu_I, r_IC0, if_true]
  exact hq h2 hI2 e3
theorem lw_507 (hI : INV h) (i0 : 0 ≤ i) (iL : i + 7 ≤ h (-1) (-1)) (L4 : h (-1) (-1) ≤ 448) (hq : ∀ h', INV h' → h' (-1) = h (-1) → wp 231 (am_ju 231 891) [aP (-1), aP 0, aP 149, aI i] [] (sT h') Q) : wp 231 (am_ju 231 507) [aP (-1), aP 0, aP 149, aI i] [] (sT h) Q := by
  rw [ju_231_507]
  simp (disch := first | assumption | omega | exact w8_0 | exact w8_1 _ | exact w8_2 _ _ | exact w8_3 _ _ _ | exact w8_4 _ _ _ _ | exact nl_I _ | exact nl_P _ | exact nl_X | decide | exact w8_5 _ _ _ _ _) only [r_aLD0, r_aLD1, r_aLD2, r_iLD3, r_iCONST, r_bPUSH, r_iADD, r_iALDsc, w3_id, pu_I, w8_0, w8_1, kd_0, kd_149, cl_190]
  refine wp_mono (b_hands hI) ?_
  rintro _ _ ⟨v, h1, rfl, rfl, e1, hR⟩
  have e2 : h1 (-1) (-1) = h (-1) (-1) := by rw [e1]
  simp (disch := first | assumption | omega | exact w8_0 | exact w8_1 _ | exact w8_2 _ _ | exact w8_3 _ _ _ | exact w8_4 _ _ _ _ | exact nl_I _ | exact nl_P _ | exact nl_X | decide | exact w8_5 _ _ _ _ _) only [r_aLD0, r_aLD1, r_aLD2, r_iLD3, r_iCONST, r_bPUSH, r_iADD, r_iALDsc, w3_id, pu_I, w8_0, w8_1, kd_0, kd_149, cl_192, e1]
  refine wp_mono hR ?_
  rintro _ _ ⟨h2, rfl, rfl, e3, hI2⟩
  simp only [pu_I, r_IC0, if_true]
  exact hq h2 hI2 e3
theorem lw_544 (hI : INV h) (i0 : 0 ≤ i) (iL : i + 7 ≤ h (-1) (-1)) (L4 : h (-1) (-1) ≤ 448) (hq : ∀ h', INV h' → h' (-1) = h (-1) → wp 231 (am_ju 231 891) [aP (-1), aP 0, aP 149, aI i] [] (sT h') Q) : wp 231 (am_ju 231 544) [aP (-1), aP 0, aP 149, aI i] [] (sT h) Q := by
  rw [ju_231_544]
  simp (disch := first | assumption | omega | exact w8_0 | exact w8_1 _ | exact w8_2 _ _ | exact w8_3 _ _ _ | exact w8_4 _ _ _ _ | exact nl_I _ | exact nl_P _ | exact nl_X | decide | exact w8_5 _ _ _ _ _) only [r_aLD0, r_aLD1, r_aLD2, r_iLD3, r_iCONST, r_bPUSH, r_iADD, r_iALDsc, w3_id, pu_I, w8_0, w8_1, kd_0, kd_149, cl_195]
  refine wp_mono (b_torn hI) ?_
  rintro _ _ ⟨v, h1, rfl, rfl, e1, hR⟩
  have e2 : h1 (-1) (-1) = h (-1) (-1) := by rw [e1]
  simp (disch := first | assumption | omega | exact w8_0 | exact w8_1 _ | exact w8_2 _ _ | exact w8_3 _ _ _ | exact w8_4 _ _ _ _ | exact nl_I _ | exact nl_P _ | exact nl_X | decide | exact w8_5 _ _ _ _ _) only [r_aLD0, r_aLD1, r_aLD2, r_iLD3, r_iCONST, r_bPUSH, r_iADD, r_iALDsc, w3_id, pu_I, w8_0, w8_1, kd_0, kd_149, cl_197, e1]
  refine wp_mono hR ?_
  rintro _ _ ⟨h2, rfl, rfl, e3, hI2⟩
  simp only [pu_I, r_IC0, if_true]
  exact hq h2 hI2 e3
theorem lw_581 (hI : INV h) (i0 : 0 ≤ i) (iL : i + 7 ≤ h (-1) (-1)) (L4 : h (-1) (-1) ≤ 448) (hq : ∀ h', INV h' → h' (-1) = h (-1) → wp 231 (am_ju 231 891) [aP (-1), aP 0, aP 149, aI i] [] (sT h') Q) : wp 231 (am_ju 231 581) [aP (-1), aP 0, aP 149, aI i] [] (sT h) Q := by
  rw [ju_231_581]
  simp (disch := first | assumption | omega | exact w8_0 | exact w8_1 _ | exact w8_2 _ _ | exact w8_3 _ _ _ | exact w8_4 _ _ _ _ | exact nl_I _ | exact nl_P _ | exact nl_X | decide | exact w8_5 _ _ _ _ _) only [r_aLD0, r_aLD1, r_aLD2, r_iLD3, r_iCONST, r_bPUSH, r_iADD, r_iALDsc, w3_id, pu_I, w8_0, w8_1, kd_0, kd_149, cl_200]
  refine wp_mono (b_image hI) ?_
  rintro _ _ ⟨v, h1, rfl, rfl, e1, hR⟩
  have e2 : h1 (-1) (-1) = h (-1) (-1) := by rw [e1]
  simp (disch := first | assumption | omega | exact w8_0 | exact w8_1 _ | exact w8_2 _ _ | exact w8_3 _ _ _ | exact w8_4 _ _ _ _ | exact nl_I _ | exact nl_P _ | exact nl_X | decide | exact w8_5 _ _ _ _ _) only [r_aLD0, r_aLD1, r_aLD2, r_iLD3, r_iCONST, r_bPUSH, r_iADD, r_iALDsc, w3_id, pu_I, w8_0, w8_1, kd_0, kd_149, cl_201, e1]
  refine wp_mono hR ?_
  rintro _ _ ⟨h2, rfl, rfl, e3, hI2⟩
  simp only [pu_I, r_IC0, if_true]
  exact hq h2 hI2 e3
theorem lw_588 (hI : INV h) (i0 : 0 ≤ i) (iL : i + 7 ≤ h (-1) (-1)) (L4 : h (-1) (-1) ≤ 448) (hq : ∀ h', INV h' → h' (-1) = h (-1) → wp 231 (am_ju 231 891) [aP (-1), aP 0, aP 149, aI i] [] (sT h') Q) : wp 231 (am_ju 231 588) [aP (-1), aP 0, aP 149, aI i] [] (sT h) Q := by
  rw [ju_231_588]
  simp (disch := first | assumption | omega | exact w8_0 | exact w8_1 _ | exact w8_2 _ _ | exact w8_3 _ _ _ | exact w8_4 _ _ _ _ | exact nl_I _ | exact nl_P _ | exact nl_X | decide | exact w8_5 _ _ _ _ _) only [r_aLD0, r_aLD1, r_aLD2, r_iLD3, r_iCONST, r_bPUSH, r_iADD, r_iALDsc, w3_id, pu_I, w8_0, w8_1, kd_0, kd_149, cl_202]
  refine wp_mono (b_restore hI) ?_
  rintro _ _ ⟨v, h1, rfl, rfl, e1, hR⟩
  have e2 : h1 (-1) (-1) = h (-1) (-1) := by rw [e1]
  simp (disch := first | assumption | omega | exact w8_0 | exact w8_1 _ | exact w8_2 _ _ | exact w8_3 _ _ _ | exact w8_4 _ _ _ _ | exact nl_I _ | exact nl_P _ | exact nl_X | decide | exact w8_5 _ _ _ _ _) only [r_aLD0, r_aLD1, r_aLD2, r_iLD3, r_iCONST, r_bPUSH, r_iADD, r_iALDsc, w3_id, pu_I, w8_0, w8_1, kd_0, kd_149, cl_203, e1]
  refine wp_mono hR ?_
  rintro _ _ ⟨h2, rfl, rfl, e3, hI2⟩
  simp only [pu_I, r_IC0, if_true]
  exact hq h2 hI2 e3
theorem lw_595 (hI : INV h) (i0 : 0 ≤ i) (iL : i + 7 ≤ h (-1) (-1)) (L4 : h (-1) (-1) ≤ 448) (hq : ∀ h', INV h' → h' (-1) = h (-1) → wp 231 (am_ju 231 891) [aP (-1), aP 0, aP 149, aI i] [] (sT h') Q) : wp 231 (am_ju 231 595) [aP (-1), aP 0, aP 149, aI i] [] (sT h) Q := by
  rw [ju_231_595]
  simp (disch := first | assumption | omega | exact w8_0 | exact w8_1 _ | exact w8_2 _ _ | exact w8_3 _ _ _ | exact w8_4 _ _ _ _ | exact nl_I _ | exact nl_P _ | exact nl_X | decide | exact w8_5 _ _ _ _ _) only [r_aLD0, r_aLD1, r_aLD2, r_iLD3, r_iCONST, r_bPUSH, r_iADD, r_iALDsc, w3_id, pu_I, w8_0, w8_1, kd_0, kd_149, cl_209]
  refine wp_mono (b_sagged hI) ?_
  rintro _ _ ⟨v, h1, rfl, rfl, e1, hR⟩
  have e2 : h1 (-1) (-1) = h (-1) (-1) := by rw [e1]
  simp (disch := first | assumption | omega | exact w8_0 | exact w8_1 _ | exact w8_2 _ _ | exact w8_3 _ _ _ | exact w8_4 _ _ _ _ | exact nl_I _ | exact nl_P _ | exact nl_X | decide | exact w8_5 _ _ _ _ _) only [r_aLD0, r_aLD1, r_aLD2, r_iLD3, r_iCONST, r_bPUSH, r_iADD, r_iALDsc, w3_id, pu_I, w8_0, w8_1, kd_0, kd_149, cl_214, e1]
  refine wp_mono hR ?_
  rintro _ _ ⟨h2, rfl, rfl, e3, hI2⟩
  simp only [pu_I, r_IC0, if_true]
  exact hq h2 hI2 e3
theorem lw_662 (hI : INV h) (i0 : 0 ≤ i) (iL : i + 7 ≤ h (-1) (-1)) (L4 : h (-1) (-1) ≤ 448) (hq : ∀ h', INV h' → h' (-1) = h (-1) → wp 231 (am_ju 231 891) [aP (-1), aP 0, aP 149, aI i] [] (sT h') Q) : wp 231 (am_ju 231 662) [aP (-1), aP 0, aP 149, aI i] [] (sT h) Q := by
  rw [ju_231_662]
  simp (disch := first | assumption | omega | exact w8_0 | exact w8_1 _ | exact w8_2 _ _ | exact w8_3 _ _ _ | exact w8_4 _ _ _ _ | exact nl_I _ | exact nl_P _ | exact nl_X | decide | exact w8_5 _ _ _ _ _) only [r_aLD0, r_aLD1, r_aLD2, r_iLD3, r_iCONST, r_bPUSH, r_iADD, r_iALDsc, w3_id, pu_I, w8_0, w8_1, kd_0, kd_149, cl_218]
  refine wp_mono (b_film hI) ?_
  rintro _ _ ⟨v, h1, rfl, rfl, e1, hR⟩
  have e2 : h1 (-1) (-1) = h (-1) (-1) := by rw [e1]
  simp (disch := first | assumption | omega | exact w8_0 | exact w8_1 _ | exact w8_2 _ _ | exact w8_3 _ _ _ | exact w8_4 _ _ _ _ | exact nl_I _ | exact nl_P _ | exact nl_X | decide | exact w8_5 _ _ _ _ _) only [r_aLD0, r_aLD1, r_aLD2, r_iLD3, r_iCONST, r_bPUSH, r_iADD, r_iALDsc, w3_id, pu_I, w8_0, w8_1, kd_0, kd_149, cl_220, e1]
  refine wp_mono hR ?_
  rintro _ _ ⟨h2, rfl, rfl, e3, hI2⟩
  simp only [pu_I, r_IC0, if_true]
  exact hq h2 hI2 e3
theorem lw_709 (hI : INV h) (i0 : 0 ≤ i) (iL : i + 7 ≤ h (-1) (-1)) (L4 : h (-1) (-1) ≤ 448) (hq : ∀ h', INV h' → h' (-1) = h (-1) → wp 231 (am_ju 231 891) [aP (-1), aP 0, aP 149, aI i] [] (sT h') Q) : wp 231 (am_ju 231 709) [aP (-1), aP 0, aP 149, aI i] [] (sT h) Q := by
  rw [ju_231_709]
  simp (disch := first | assumption | omega | exact w8_0 | exact w8_1 _ | exact w8_2 _ _ | exact w8_3 _ _ _ | exact w8_4 _ _ _ _ | exact nl_I _ | exact nl_P _ | exact nl_X | decide | exact w8_5 _ _ _ _ _) only [r_aLD0, r_aLD1, r_aLD2, r_iLD3, r_iCONST, r_bPUSH, r_iADD, r_iALDsc, w3_id, pu_I, w8_0, w8_1, kd_0, kd_149, cl_223]
  refine wp_mono (b_sheet hI) ?_
  rintro _ _ ⟨v, h1, rfl, rfl, e1, hR⟩
  have e2 : h1 (-1) (-1) = h (-1) (-1) := by rw [e1]
  simp (disch := first | assumption | omega | exact w8_0 | exact w8_1 _ | exact w8_2 _ _ | exact w8_3 _ _ _ | exact w8_4 _ _ _ _ | exact nl_I _ | exact nl_P _ | exact nl_X | decide | exact w8_5 _ _ _ _ _) only [r_aLD0, r_aLD1, r_aLD2, r_iLD3, r_iCONST, r_bPUSH, r_iADD, r_iALDsc, w3_id, pu_I, w8_0, w8_1, kd_0, kd_149, cl_224, e1]
  refine wp_mono hR ?_
  rintro _ _ ⟨h2, rfl, rfl, e3, hI2⟩
  simp only [pu_I, r_IC0, if_true]
  exact hq h2 hI2 e3
theorem lw_746 (hI : INV h) (i0 : 0 ≤ i) (iL : i + 7 ≤ h (-1) (-1)) (L4 : h (-1) (-1) ≤ 448) (hq : ∀ h', INV h' → h' (-1) = h (-1) → wp 231 (am_ju 231 891) [aP (-1), aP 0, aP 149, aI i] [] (sT h') Q) : wp 231 (am_ju 231 746) [aP (-1), aP 0, aP 149, aI i] [] (sT h) Q := by
  rw [ju_231_746]
  simp (disch := first | assumption | omega | exact w8_0 | exact w8_1 _ | exact w8_2 _ _ | exact w8_3 _ _ _ | exact w8_4 _ _ _ _ | exact nl_I _ | exact nl_P _ | exact nl_X | decide | exact w8_5 _ _ _ _ _) only [r_aLD0, r_aLD1, r_aLD2, r_iLD3, r_iCONST, r_bPUSH, r_iADD, r_iALDsc, w3_id, pu_I, w8_0, w8_1, kd_0, kd_149, cl_225]
  refine wp_mono (b_drop hI) ?_
  rintro _ _ ⟨v, h1, rfl, rfl, e1, hR⟩
  have e2 : h1 (-1) (-1) = h (-1) (-1) := by rw [e1]
  simp (disch := first | assumption | omega | exact w8_0 | exact w8_1 _ | exact w8_2 _ _ | exact w8_3 _ _ _ | exact w8_4 _ _ _ _ | exact nl_I _ | exact nl_P _ | exact nl_X | decide | exact w8_5 _ _ _ _ _) only [r_aLD0, r_aLD1, r_aLD2, r_iLD3, r_iCONST, r_bPUSH, r_iADD, r_iALDsc, w3_id, pu_I, w8_0, w8_1, kd_0, kd_149, cl_226, e1]
  refine wp_mono hR ?_
  rintro _ _ ⟨h2, rfl, rfl, e3, hI2⟩
  simp only [pu_I, r_IC0, if_true]
  exact hq h2 hI2 e3
theorem lw_763 (hI : INV h) (i0 : 0 ≤ i) (iL : i + 7 ≤ h (-1) (-1)) (L4 : h (-1) (-1) ≤ 448) (hq : ∀ h', INV h' → h' (-1) = h (-1) → wp 231 (am_ju 231 891) [aP (-1), aP 0, aP 149, aI i] [] (sT h') Q) : wp 231 (am_ju 231 763) [aP (-1), aP 0, aP 149, aI i] [] (sT h) Q := by
  rw [ju_231_763]
  simp (disch := first | assumption | omega | exact w8_0 | exact w8_1 _ | exact w8_2 _ _ | exact w8_3 _ _ _ | exact w8_4 _ _ _ _ | exact nl_I _ | exact nl_P _ | exact nl_X | decide | exact w8_5 _ _ _ _ _) only [r_aLD0, r_aLD1, r_aLD2, r_iLD3, r_iCONST, r_bPUSH, r_iADD, r_iALDsc, w3_id, pu_I, w8_0, w8_1, kd_0, kd_149, r_ITL, r_lSHL, r_LDC2, r_lAND, r_lOR, cl_227]
  refine wp_mono (b_item hI (w6_lOr _ _)) ?_
  rintro _ _ ⟨v, h1, rfl, rfl, e1, hR⟩
  have e2 : h1 (-1) (-1) = h (-1) (-1) := by rw [e1]
  simp (disch := first | assumption | omega | exact w8_0 | exact w8_1 _ | exact w8_2 _ _ | exact w8_3 _ _ _ | exact w8_4 _ _ _ _ | exact nl_I _ | exact nl_P _ | exact nl_X | decide | exact w8_5 _ _ _ _ _) only [r_aLD0, r_aLD1, r_aLD2, r_iLD3, r_iCONST, r_bPUSH, r_iADD, r_iALDsc, w3_id, pu_I, w8_0, w8_1, kd_0, kd_149, r_ITL, r_lSHL, r_LDC2, r_lAND, r_lOR, cl_228, e1]
  refine wp_mono hR ?_
  rintro _ _ ⟨h2, rfl, rfl, e3, hI2⟩
  simp only [pu_I, r_IC0, if_true]
  exact hq h2 hI2 e3
theorem lw_834 (hI : INV h) (i0 : 0 ≤ i) (iL : i + 7 ≤ h (-1) (-1)) (L4 : h (-1) (-1) ≤ 448) (hq : ∀ h', INV h' → h' (-1) = h (-1) → wp 231 (am_ju 231 891) [aP (-1), aP 0, aP 149, aI i] [] (sT h') Q) : wp 231 (am_ju 231 834) [aP (-1), aP 0, aP 149, aI i] [] (sT h) Q := by
  rw [ju_231_834]
  simp (disch := first | assumption | omega | exact w8_0 | exact w8_1 _ | exact w8_2 _ _ | exact w8_3 _ _ _ | exact w8_4 _ _ _ _ | exact nl_I _ | exact nl_P _ | exact nl_X | decide | exact w8_5 _ _ _ _ _) only [r_aLD0, r_aLD1, r_aLD2, r_iLD3, r_iCONST, r_bPUSH, r_iADD, r_iALDsc, w3_id, pu_I, w8_0, w8_1, kd_0, kd_149, cl_229]
  refine wp_mono (b_copy hI) ?_
  rintro _ _ ⟨v, h1, rfl, rfl, e1, hR⟩
  have e2 : h1 (-1) (-1) = h (-1) (-1) := by rw [e1]
  simp (disch := first | assumption | omega | exact w8_0 | exact w8_1 _ | exact w8_2 _ _ | exact w8_3 _ _ _ | exact w8_4 _ _ _ _ | exact nl_I _ | exact nl_P _ | exact nl_X | decide | exact w8_5 _ _ _ _ _) only [r_aLD0, r_aLD1, r_aLD2, r_iLD3, r_iCONST, r_bPUSH, r_iADD, r_iALDsc, w3_id, pu_I, w8_0, w8_1, kd_0, kd_149, cl_230, e1]
  refine wp_mono hR ?_
  rintro _ _ ⟨h2, rfl, rfl, e3, hI2⟩
  simp only [pu_I, r_IC0, if_true]
  exact hq h2 hI2 e3
end LW
