/-! the law, case by case (written by gen_law.py) -/
section LW
variable {g h h' h1 h2 u : am_F} {Q : am_V → am_S → Prop} {i x y z v : Int} {m : Nat} {is : List am_I} {L S : List am_V}
theorem r_iALDsc (b0 : 0 ≤ i) (b1 : i < h (-1) (-1)) : wp m (iALD :: is) L (aI i :: aP (-1) :: S) (sT h) Q ↔ wp m is L (aI (h (-1) i) :: S) (sT h) Q := by
  rw [r_iALDs]
  exact ⟨fun z => z.2, fun z => ⟨⟨b0, b1⟩, z⟩⟩
theorem w6_lOr (a b : Int) : w6 (lOr a b) = lOr a b := by unfold lOr w6; rw [Int64.ofInt_toInt]
theorem lw_22 (hI : INV h) (i0 : 0 ≤ i) (iL : i + 7 ≤ h (-1) (-1)) (L4 : h (-1) (-1) ≤ 448) (hq : ∀ h', INV h' → h' (-1) = h (-1) → wp 232 (am_ju 232 891) [aP (-1), aP 0, aP 149, aI i] [] (sT h') Q) : wp 232 (am_ju 232 22) [aP (-1), aP 0, aP 149, aI i] [] (sT h) Q := by
  rw [ju_232_22]
  simp (disch := first | assumption | omega | exact w8_0 | exact w8_1 _ | exact w8_2 _ _ | exact w8_3 _ _ _ | exact w8_4 _ _ _ _ | exact nl_I _ | exact nl_P _ | exact nl_X | decide | exact w8_5 _ _ _ _ _) only [r_aLD0, r_aLD1, r_aLD2, r_iLD3, r_iCONST, r_bPUSH, r_iADD, r_iALDsc, w3_id, pu_I, w8_0, w8_1, kd_0, kd_149, cl_16]
  refine wp_mono (b_bag hI) ?_
  rintro _ _ ⟨v, h1, rfl, rfl, e1, hR⟩
  have e2 : h1 (-1) (-1) = h (-1) (-1) := by rw [e1]
  simp (disch := first | assumption | omega | exact w8_0 | exact w8_1 _ | exact w8_2 _ _ | exact w8_3 _ _ _ | exact w8_4 _ _ _ _ | exact nl_I _ | exact nl_P _ | exact nl_X | decide | exact w8_5 _ _ _ _ _) only [r_aLD0, r_aLD1, r_aLD2, r_iLD3, r_iCONST, r_bPUSH, r_iADD, r_iALDsc, w3_id, pu_I, w8_0, w8_1, kd_0, kd_149, cl_20, e1]
  refine wp_mono hR ?_
  rintro _ _ ⟨h2, rfl, rfl, e3, hI2⟩
  simp only [pu_I, r_IC0, if_true]
  exact hq h2 hI2 e3
theorem lw_39 (hI : INV h) (i0 : 0 ≤ i) (iL : i + 7 ≤ h (-1) (-1)) (L4 : h (-1) (-1) ≤ 448) (hq : ∀ h', INV h' → h' (-1) = h (-1) → wp 232 (am_ju 232 891) [aP (-1), aP 0, aP 149, aI i] [] (sT h') Q) : wp 232 (am_ju 232 39) [aP (-1), aP 0, aP 149, aI i] [] (sT h) Q := by
  rw [ju_232_39]
  simp (disch := first | assumption | omega | exact w8_0 | exact w8_1 _ | exact w8_2 _ _ | exact w8_3 _ _ _ | exact w8_4 _ _ _ _ | exact nl_I _ | exact nl_P _ | exact nl_X | decide | exact w8_5 _ _ _ _ _) only [r_aLD0, r_aLD1, r_aLD2, r_iLD3, r_iCONST, r_bPUSH, r_iADD, r_iALDsc, w3_id, pu_I, w8_0, w8_1, kd_0, kd_149, cl_24]
  refine wp_mono (b_thing hI) ?_
  rintro _ _ ⟨v, h1, rfl, rfl, e1, hR⟩
  have e2 : h1 (-1) (-1) = h (-1) (-1) := by rw [e1]
  simp (disch := first | assumption | omega | exact w8_0 | exact w8_1 _ | exact w8_2 _ _ | exact w8_3 _ _ _ | exact w8_4 _ _ _ _ | exact nl_I _ | exact nl_P _ | exact nl_X | decide | exact w8_5 _ _ _ _ _) only [r_aLD0, r_aLD1, r_aLD2, r_iLD3, r_iCONST, r_bPUSH, r_iADD, r_iALDsc, w3_id, pu_I, w8_0, w8_1, kd_0, kd_149, cl_26, e1]
  refine wp_mono hR ?_
  rintro _ _ ⟨h2, rfl, rfl, e3, hI2⟩
  simp only [pu_I, r_IC0, if_true]
  exact hq h2 hI2 e3
theorem lw_96 (hI : INV h) (i0 : 0 ≤ i) (iL : i + 7 ≤ h (-1) (-1)) (L4 : h (-1) (-1) ≤ 448) (hq : ∀ h', INV h' → h' (-1) = h (-1) → wp 232 (am_ju 232 891) [aP (-1), aP 0, aP 149, aI i] [] (sT h') Q) : wp 232 (am_ju 232 96) [aP (-1), aP 0, aP 149, aI i] [] (sT h) Q := by
  rw [ju_232_96]
  simp (disch := first | assumption | omega | exact w8_0 | exact w8_1 _ | exact w8_2 _ _ | exact w8_3 _ _ _ | exact w8_4 _ _ _ _ | exact nl_I _ | exact nl_P _ | exact nl_X | decide | exact w8_5 _ _ _ _ _) only [r_aLD0, r_aLD1, r_aLD2, r_iLD3, r_iCONST, r_bPUSH, r_iADD, r_iALDsc, w3_id, pu_I, w8_0, w8_1, kd_0, kd_149, cl_31]
  refine wp_mono (b_pack hI) ?_
  rintro _ _ ⟨v, h1, rfl, rfl, e1, hR⟩
  have e2 : h1 (-1) (-1) = h (-1) (-1) := by rw [e1]
  simp (disch := first | assumption | omega | exact w8_0 | exact w8_1 _ | exact w8_2 _ _ | exact w8_3 _ _ _ | exact w8_4 _ _ _ _ | exact nl_I _ | exact nl_P _ | exact nl_X | decide | exact w8_5 _ _ _ _ _) only [r_aLD0, r_aLD1, r_aLD2, r_iLD3, r_iCONST, r_bPUSH, r_iADD, r_iALDsc, w3_id, pu_I, w8_0, w8_1, kd_0, kd_149, cl_36, e1]
  refine wp_mono hR ?_
  rintro _ _ ⟨h2, rfl, rfl, e3, hI2⟩
  simp only [pu_I, r_IC0, if_true]
  exact hq h2 hI2 e3
theorem lw_123 (hI : INV h) (i0 : 0 ≤ i) (iL : i + 7 ≤ h (-1) (-1)) (L4 : h (-1) (-1) ≤ 448) (hq : ∀ h', INV h' → h' (-1) = h (-1) → wp 232 (am_ju 232 891) [aP (-1), aP 0, aP 149, aI i] [] (sT h') Q) : wp 232 (am_ju 232 123) [aP (-1), aP 0, aP 149, aI i] [] (sT h) Q := by
  rw [ju_232_123]
  simp (disch := first | assumption | omega | exact w8_0 | exact w8_1 _ | exact w8_2 _ _ | exact w8_3 _ _ _ | exact w8_4 _ _ _ _ | exact nl_I _ | exact nl_P _ | exact nl_X | decide | exact w8_5 _ _ _ _ _) only [r_aLD0, r_aLD1, r_aLD2, r_iLD3, r_iCONST, r_bPUSH, r_iADD, r_iALDsc, w3_id, pu_I, w8_0, w8_1, kd_0, kd_149, cl_37]
  refine wp_mono (b_give hI) ?_
  rintro _ _ ⟨v, h1, rfl, rfl, e1, hR⟩
  have e2 : h1 (-1) (-1) = h (-1) (-1) := by rw [e1]
  simp (disch := first | assumption | omega | exact w8_0 | exact w8_1 _ | exact w8_2 _ _ | exact w8_3 _ _ _ | exact w8_4 _ _ _ _ | exact nl_I _ | exact nl_P _ | exact nl_X | decide | exact w8_5 _ _ _ _ _) only [r_aLD0, r_aLD1, r_aLD2, r_iLD3, r_iCONST, r_bPUSH, r_iADD, r_iALDsc, w3_id, pu_I, w8_0, w8_1, kd_0, kd_149, cl_38, e1]
  refine wp_mono hR ?_
  rintro _ _ ⟨h2, rfl, rfl, e3, hI2⟩
  simp only [pu_I, r_IC0, if_true]
  exact hq h2 hI2 e3
theorem lw_140 (hI : INV h) (i0 : 0 ≤ i) (iL : i + 7 ≤ h (-1) (-1)) (L4 : h (-1) (-1) ≤ 448) (hq : ∀ h', INV h' → h' (-1) = h (-1) → wp 232 (am_ju 232 891) [aP (-1), aP 0, aP 149, aI i] [] (sT h') Q) : wp 232 (am_ju 232 140) [aP (-1), aP 0, aP 149, aI i] [] (sT h) Q := by
  rw [ju_232_140]
  simp (disch := first | assumption | omega | exact w8_0 | exact w8_1 _ | exact w8_2 _ _ | exact w8_3 _ _ _ | exact w8_4 _ _ _ _ | exact nl_I _ | exact nl_P _ | exact nl_X | decide | exact w8_5 _ _ _ _ _) only [r_aLD0, r_aLD1, r_aLD2, r_iLD3, r_iCONST, r_bPUSH, r_iADD, r_iALDsc, w3_id, pu_I, w8_0, w8_1, kd_0, kd_149, cl_44]
  refine wp_mono (b_of hI) ?_
  rintro _ _ ⟨v, h1, rfl, rfl, e1, hR⟩
  have e2 : h1 (-1) (-1) = h (-1) (-1) := by rw [e1]
  simp (disch := first | assumption | omega | exact w8_0 | exact w8_1 _ | exact w8_2 _ _ | exact w8_3 _ _ _ | exact w8_4 _ _ _ _ | exact nl_I _ | exact nl_P _ | exact nl_X | decide | exact w8_5 _ _ _ _ _) only [r_aLD0, r_aLD1, r_aLD2, r_iLD3, r_iCONST, r_bPUSH, r_iADD, r_iALDsc, w3_id, pu_I, w8_0, w8_1, kd_0, kd_149, cl_48, e1]
  refine wp_mono hR ?_
  rintro _ _ ⟨h2, rfl, rfl, e3, hI2⟩
  simp only [pu_I, r_IC0, if_true]
  exact hq h2 hI2 e3
theorem lw_167 (hI : INV h) (i0 : 0 ≤ i) (iL : i + 7 ≤ h (-1) (-1)) (L4 : h (-1) (-1) ≤ 448) (hq : ∀ h', INV h' → h' (-1) = h (-1) → wp 232 (am_ju 232 891) [aP (-1), aP 0, aP 149, aI i] [] (sT h') Q) : wp 232 (am_ju 232 167) [aP (-1), aP 0, aP 149, aI i] [] (sT h) Q := by
  rw [ju_232_167]
  simp (disch := first | assumption | omega | exact w8_0 | exact w8_1 _ | exact w8_2 _ _ | exact w8_3 _ _ _ | exact w8_4 _ _ _ _ | exact nl_I _ | exact nl_P _ | exact nl_X | decide | exact w8_5 _ _ _ _ _) only [r_aLD0, r_aLD1, r_aLD2, r_iLD3, r_iCONST, r_bPUSH, r_iADD, r_iALDsc, w3_id, pu_I, w8_0, w8_1, kd_0, kd_149, cl_52]
  refine wp_mono (b_strength hI) ?_
  rintro _ _ ⟨v, h1, rfl, rfl, e1, hR⟩
  have e2 : h1 (-1) (-1) = h (-1) (-1) := by rw [e1]
  simp (disch := first | assumption | omega | exact w8_0 | exact w8_1 _ | exact w8_2 _ _ | exact w8_3 _ _ _ | exact w8_4 _ _ _ _ | exact nl_I _ | exact nl_P _ | exact nl_X | decide | exact w8_5 _ _ _ _ _) only [r_aLD0, r_aLD1, r_aLD2, r_iLD3, r_iCONST, r_bPUSH, r_iADD, r_iALDsc, w3_id, pu_I, w8_0, w8_1, kd_0, kd_149, cl_54, e1]
  refine wp_mono hR ?_
  rintro _ _ ⟨h2, rfl, rfl, e3, hI2⟩
  simp only [pu_I, r_IC0, if_true]
  exact hq h2 hI2 e3
theorem lw_194 (hI : INV h) (i0 : 0 ≤ i) (iL : i + 7 ≤ h (-1) (-1)) (L4 : h (-1) (-1) ≤ 448) (hq : ∀ h', INV h' → h' (-1) = h (-1) → wp 232 (am_ju 232 891) [aP (-1), aP 0, aP 149, aI i] [] (sT h') Q) : wp 232 (am_ju 232 194) [aP (-1), aP 0, aP 149, aI i] [] (sT h) Q := by
  rw [ju_232_194]
  simp (disch := first | assumption | omega | exact w8_0 | exact w8_1 _ | exact w8_2 _ _ | exact w8_3 _ _ _ | exact w8_4 _ _ _ _ | exact nl_I _ | exact nl_P _ | exact nl_X | decide | exact w8_5 _ _ _ _ _) only [r_aLD0, r_aLD1, r_aLD2, r_iLD3, r_iCONST, r_bPUSH, r_iADD, r_iALDsc, w3_id, pu_I, w8_0, w8_1, kd_0, kd_149, cl_57]
  refine wp_mono (b_force hI) ?_
  rintro _ _ ⟨v, h1, rfl, rfl, e1, hR⟩
  have e2 : h1 (-1) (-1) = h (-1) (-1) := by rw [e1]
  simp (disch := first | assumption | omega | exact w8_0 | exact w8_1 _ | exact w8_2 _ _ | exact w8_3 _ _ _ | exact w8_4 _ _ _ _ | exact nl_I _ | exact nl_P _ | exact nl_X | decide | exact w8_5 _ _ _ _ _) only [r_aLD0, r_aLD1, r_aLD2, r_iLD3, r_iCONST, r_bPUSH, r_iADD, r_iALDsc, w3_id, pu_I, w8_0, w8_1, kd_0, kd_149, cl_59, e1]
  refine wp_mono hR ?_
  rintro _ _ ⟨h2, rfl, rfl, e3, hI2⟩
  simp only [pu_I, r_IC0, if_true]
  exact hq h2 hI2 e3
theorem lw_231 (hI : INV h) (i0 : 0 ≤ i) (iL : i + 7 ≤ h (-1) (-1)) (L4 : h (-1) (-1) ≤ 448) (hq : ∀ h', INV h' → h' (-1) = h (-1) → wp 232 (am_ju 232 891) [aP (-1), aP 0, aP 149, aI i] [] (sT h') Q) : wp 232 (am_ju 232 231) [aP (-1), aP 0, aP 149, aI i] [] (sT h) Q := by
  rw [ju_232_231]
  simp (disch := first | assumption | omega | exact w8_0 | exact w8_1 _ | exact w8_2 _ _ | exact w8_3 _ _ _ | exact w8_4 _ _ _ _ | exact nl_I _ | exact nl_P _ | exact nl_X | decide | exact w8_5 _ _ _ _ _) only [r_aLD0, r_aLD1, r_aLD2, r_iLD3, r_iCONST, r_bPUSH, r_iADD, r_iALDsc, w3_id, pu_I, w8_0, w8_1, kd_0, kd_149, cl_60]
  refine wp_mono (b_told hI) ?_
  rintro _ _ ⟨v, h1, rfl, rfl, e1, hR⟩
  have e2 : h1 (-1) (-1) = h (-1) (-1) := by rw [e1]
  simp (disch := first | assumption | omega | exact w8_0 | exact w8_1 _ | exact w8_2 _ _ | exact w8_3 _ _ _ | exact w8_4 _ _ _ _ | exact nl_I _ | exact nl_P _ | exact nl_X | decide | exact w8_5 _ _ _ _ _) only [r_aLD0, r_aLD1, r_aLD2, r_iLD3, r_iCONST, r_bPUSH, r_iADD, r_iALDsc, w3_id, pu_I, w8_0, w8_1, kd_0, kd_149, cl_61, e1]
  refine wp_mono hR ?_
  rintro _ _ ⟨h2, rfl, rfl, e3, hI2⟩
  simp only [pu_I, r_IC0, if_true]
  exact hq h2 hI2 e3
theorem lw_258 (hI : INV h) (i0 : 0 ≤ i) (iL : i + 7 ≤ h (-1) (-1)) (L4 : h (-1) (-1) ≤ 448) (hq : ∀ h', INV h' → h' (-1) = h (-1) → wp 232 (am_ju 232 891) [aP (-1), aP 0, aP 149, aI i] [] (sT h') Q) : wp 232 (am_ju 232 258) [aP (-1), aP 0, aP 149, aI i] [] (sT h) Q := by
  rw [ju_232_258]
  simp (disch := first | assumption | omega | exact w8_0 | exact w8_1 _ | exact w8_2 _ _ | exact w8_3 _ _ _ | exact w8_4 _ _ _ _ | exact nl_I _ | exact nl_P _ | exact nl_X | decide | exact w8_5 _ _ _ _ _) only [r_aLD0, r_aLD1, r_aLD2, r_iLD3, r_iCONST, r_bPUSH, r_iADD, r_iALDsc, w3_id, pu_I, w8_0, w8_1, kd_0, kd_149, cl_62]
  refine wp_mono (b_set hI) ?_
  rintro _ _ ⟨v, h1, rfl, rfl, e1, hR⟩
  have e2 : h1 (-1) (-1) = h (-1) (-1) := by rw [e1]
  simp (disch := first | assumption | omega | exact w8_0 | exact w8_1 _ | exact w8_2 _ _ | exact w8_3 _ _ _ | exact w8_4 _ _ _ _ | exact nl_I _ | exact nl_P _ | exact nl_X | decide | exact w8_5 _ _ _ _ _) only [r_aLD0, r_aLD1, r_aLD2, r_iLD3, r_iCONST, r_bPUSH, r_iADD, r_iALDsc, w3_id, pu_I, w8_0, w8_1, kd_0, kd_149, cl_63, e1]
  refine wp_mono hR ?_
  rintro _ _ ⟨h2, rfl, rfl, e3, hI2⟩
  simp only [pu_I, r_IC0, if_true]
  exact hq h2 hI2 e3
theorem lw_295 (hI : INV h) (i0 : 0 ≤ i) (iL : i + 7 ≤ h (-1) (-1)) (L4 : h (-1) (-1) ≤ 448) (hq : ∀ h', INV h' → h' (-1) = h (-1) → wp 232 (am_ju 232 891) [aP (-1), aP 0, aP 149, aI i] [] (sT h') Q) : wp 232 (am_ju 232 295) [aP (-1), aP 0, aP 149, aI i] [] (sT h) Q := by
  rw [ju_232_295]
  simp (disch := first | assumption | omega | exact w8_0 | exact w8_1 _ | exact w8_2 _ _ | exact w8_3 _ _ _ | exact w8_4 _ _ _ _ | exact nl_I _ | exact nl_P _ | exact nl_X | decide | exact w8_5 _ _ _ _ _) only [r_aLD0, r_aLD1, r_aLD2, r_iLD3, r_iCONST, r_bPUSH, r_iADD, r_iALDsc, w3_id, pu_I, w8_0, w8_1, kd_0, kd_149, cl_65]
  refine wp_mono (b_type hI) ?_
  rintro _ _ ⟨v, h1, rfl, rfl, e1, hR⟩
  have e2 : h1 (-1) (-1) = h (-1) (-1) := by rw [e1]
  simp (disch := first | assumption | omega | exact w8_0 | exact w8_1 _ | exact w8_2 _ _ | exact w8_3 _ _ _ | exact w8_4 _ _ _ _ | exact nl_I _ | exact nl_P _ | exact nl_X | decide | exact w8_5 _ _ _ _ _) only [r_aLD0, r_aLD1, r_aLD2, r_iLD3, r_iCONST, r_bPUSH, r_iADD, r_iALDsc, w3_id, pu_I, w8_0, w8_1, kd_0, kd_149, cl_66, e1]
  refine wp_mono hR ?_
  rintro _ _ ⟨h2, rfl, rfl, e3, hI2⟩
  simp only [pu_I, r_IC0, if_true]
  exact hq h2 hI2 e3
theorem lw_312 (hI : INV h) (i0 : 0 ≤ i) (iL : i + 7 ≤ h (-1) (-1)) (L4 : h (-1) (-1) ≤ 448) (hq : ∀ h', INV h' → h' (-1) = h (-1) → wp 232 (am_ju 232 891) [aP (-1), aP 0, aP 149, aI i] [] (sT h') Q) : wp 232 (am_ju 232 312) [aP (-1), aP 0, aP 149, aI i] [] (sT h) Q := by
  rw [ju_232_312]
  simp (disch := first | assumption | omega | exact w8_0 | exact w8_1 _ | exact w8_2 _ _ | exact w8_3 _ _ _ | exact w8_4 _ _ _ _ | exact nl_I _ | exact nl_P _ | exact nl_X | decide | exact w8_5 _ _ _ _ _) only [r_aLD0, r_aLD1, r_aLD2, r_iLD3, r_iCONST, r_bPUSH, r_iADD, r_iALDsc, w3_id, pu_I, w8_0, w8_1, kd_0, kd_149, cl_74]
  refine wp_mono (b_way hI) ?_
  rintro _ _ ⟨v, h1, rfl, rfl, e1, hR⟩
  have e2 : h1 (-1) (-1) = h (-1) (-1) := by rw [e1]
  simp (disch := first | assumption | omega | exact w8_0 | exact w8_1 _ | exact w8_2 _ _ | exact w8_3 _ _ _ | exact w8_4 _ _ _ _ | exact nl_I _ | exact nl_P _ | exact nl_X | decide | exact w8_5 _ _ _ _ _) only [r_aLD0, r_aLD1, r_aLD2, r_iLD3, r_iCONST, r_bPUSH, r_iADD, r_iALDsc, w3_id, pu_I, w8_0, w8_1, kd_0, kd_149, cl_78, e1]
  refine wp_mono hR ?_
  rintro _ _ ⟨h2, rfl, rfl, e3, hI2⟩
  simp only [pu_I, r_IC0, if_true]
  exact hq h2 hI2 e3
theorem lw_319 (hI : INV h) (i0 : 0 ≤ i) (iL : i + 7 ≤ h (-1) (-1)) (L4 : h (-1) (-1) ≤ 448) (hq : ∀ h', INV h' → h' (-1) = h (-1) → wp 232 (am_ju 232 891) [aP (-1), aP 0, aP 149, aI i] [] (sT h') Q) : wp 232 (am_ju 232 319) [aP (-1), aP 0, aP 149, aI i] [] (sT h) Q := by
  rw [ju_232_319]
  simp (disch := first | assumption | omega | exact w8_0 | exact w8_1 _ | exact w8_2 _ _ | exact w8_3 _ _ _ | exact w8_4 _ _ _ _ | exact nl_I _ | exact nl_P _ | exact nl_X | decide | exact w8_5 _ _ _ _ _) only [r_aLD0, r_aLD1, r_aLD2, r_iLD3, r_iCONST, r_bPUSH, r_iADD, r_iALDsc, w3_id, pu_I, w8_0, w8_1, kd_0, kd_149, cl_89]
  refine wp_mono (b_shop hI) ?_
  rintro _ _ ⟨v, h1, rfl, rfl, e1, hR⟩
  have e2 : h1 (-1) (-1) = h (-1) (-1) := by rw [e1]
  simp (disch := first | assumption | omega | exact w8_0 | exact w8_1 _ | exact w8_2 _ _ | exact w8_3 _ _ _ | exact w8_4 _ _ _ _ | exact nl_I _ | exact nl_P _ | exact nl_X | decide | exact w8_5 _ _ _ _ _) only [r_aLD0, r_aLD1, r_aLD2, r_iLD3, r_iCONST, r_bPUSH, r_iADD, r_iALDsc, w3_id, pu_I, w8_0, w8_1, kd_0, kd_149, cl_99, e1]
  refine wp_mono hR ?_
  rintro _ _ ⟨h2, rfl, rfl, e3, hI2⟩
  simp only [pu_I, r_IC0, if_true]
  exact hq h2 hI2 e3
theorem lw_326 (hI : INV h) (i0 : 0 ≤ i) (iL : i + 7 ≤ h (-1) (-1)) (L4 : h (-1) (-1) ≤ 448) (hq : ∀ h', INV h' → h' (-1) = h (-1) → wp 232 (am_ju 232 891) [aP (-1), aP 0, aP 149, aI i] [] (sT h') Q) : wp 232 (am_ju 232 326) [aP (-1), aP 0, aP 149, aI i] [] (sT h) Q := by
  rw [ju_232_326]
  simp (disch := first | assumption | omega | exact w8_0 | exact w8_1 _ | exact w8_2 _ _ | exact w8_3 _ _ _ | exact w8_4 _ _ _ _ | exact nl_I _ | exact nl_P _ | exact nl_X | decide | exact w8_5 _ _ _ _ _) only [r_aLD0, r_aLD1, r_aLD2, r_iLD3, r_iCONST, r_bPUSH, r_iADD, r_iALDsc, w3_id, pu_I, w8_0, w8_1, kd_0, kd_149, cl_101]
  refine wp_mono (b_sort hI) ?_
  rintro _ _ ⟨v, h1, rfl, rfl, e1, hR⟩
  have e2 : h1 (-1) (-1) = h (-1) (-1) := by rw [e1]
  simp (disch := first | assumption | omega | exact w8_0 | exact w8_1 _ | exact w8_2 _ _ | exact w8_3 _ _ _ | exact w8_4 _ _ _ _ | exact nl_I _ | exact nl_P _ | exact nl_X | decide | exact w8_5 _ _ _ _ _) only [r_aLD0, r_aLD1, r_aLD2, r_iLD3, r_iCONST, r_bPUSH, r_iADD, r_iALDsc, w3_id, pu_I, w8_0, w8_1, kd_0, kd_149, cl_102, e1]
  refine wp_mono hR ?_
  rintro _ _ ⟨h2, rfl, rfl, e3, hI2⟩
  simp only [pu_I, r_IC0, if_true]
  exact hq h2 hI2 e3
theorem lw_343 (hI : INV h) (i0 : 0 ≤ i) (iL : i + 7 ≤ h (-1) (-1)) (L4 : h (-1) (-1) ≤ 448) (hq : ∀ h', INV h' → h' (-1) = h (-1) → wp 232 (am_ju 232 891) [aP (-1), aP 0, aP 149, aI i] [] (sT h') Q) : wp 232 (am_ju 232 343) [aP (-1), aP 0, aP 149, aI i] [] (sT h) Q := by
  rw [ju_232_343]
  simp (disch := first | assumption | omega | exact w8_0 | exact w8_1 _ | exact w8_2 _ _ | exact w8_3 _ _ _ | exact w8_4 _ _ _ _ | exact nl_I _ | exact nl_P _ | exact nl_X | decide | exact w8_5 _ _ _ _ _) only [r_aLD0, r_aLD1, r_aLD2, r_iLD3, r_iCONST, r_bPUSH, r_iADD, r_iALDsc, w3_id, pu_I, w8_0, w8_1, kd_0, kd_149, cl_105]
  refine wp_mono (b_count hI) ?_
  rintro _ _ ⟨v, h1, rfl, rfl, e1, hR⟩
  have e2 : h1 (-1) (-1) = h (-1) (-1) := by rw [e1]
  simp (disch := first | assumption | omega | exact w8_0 | exact w8_1 _ | exact w8_2 _ _ | exact w8_3 _ _ _ | exact w8_4 _ _ _ _ | exact nl_I _ | exact nl_P _ | exact nl_X | decide | exact w8_5 _ _ _ _ _) only [r_aLD0, r_aLD1, r_aLD2, r_iLD3, r_iCONST, r_bPUSH, r_iADD, r_iALDsc, w3_id, pu_I, w8_0, w8_1, kd_0, kd_149, cl_108, e1]
  refine wp_mono hR ?_
  rintro _ _ ⟨h2, rfl, rfl, e3, hI2⟩
  simp only [pu_I, r_IC0, if_true]
  exact hq h2 hI2 e3
theorem lw_360 (hI : INV h) (i0 : 0 ≤ i) (iL : i + 7 ≤ h (-1) (-1)) (L4 : h (-1) (-1) ≤ 448) (hq : ∀ h', INV h' → h' (-1) = h (-1) → wp 232 (am_ju 232 891) [aP (-1), aP 0, aP 149, aI i] [] (sT h') Q) : wp 232 (am_ju 232 360) [aP (-1), aP 0, aP 149, aI i] [] (sT h) Q := by
  rw [ju_232_360]
  simp (disch := first | assumption | omega | exact w8_0 | exact w8_1 _ | exact w8_2 _ _ | exact w8_3 _ _ _ | exact w8_4 _ _ _ _ | exact nl_I _ | exact nl_P _ | exact nl_X | decide | exact w8_5 _ _ _ _ _) only [r_aLD0, r_aLD1, r_aLD2, r_iLD3, r_iCONST, r_bPUSH, r_iADD, r_iALDsc, w3_id, pu_I, w8_0, w8_1, kd_0, kd_149, cl_120]
  refine wp_mono (b_step hI) ?_
  rintro _ _ ⟨v, h1, rfl, rfl, e1, hR⟩
  have e2 : h1 (-1) (-1) = h (-1) (-1) := by rw [e1]
  simp (disch := first | assumption | omega | exact w8_0 | exact w8_1 _ | exact w8_2 _ _ | exact w8_3 _ _ _ | exact w8_4 _ _ _ _ | exact nl_I _ | exact nl_P _ | exact nl_X | decide | exact w8_5 _ _ _ _ _) only [r_aLD0, r_aLD1, r_aLD2, r_iLD3, r_iCONST, r_bPUSH, r_iADD, r_iALDsc, w3_id, pu_I, w8_0, w8_1, kd_0, kd_149, cl_127, e1]
  refine wp_mono hR ?_
  rintro _ _ ⟨h2, rfl, rfl, e3, hI2⟩
  simp only [pu_I, r_IC0, if_true]
  exact hq h2 hI2 e3
theorem lw_367 (hI : INV h) (i0 : 0 ≤ i) (iL : i + 7 ≤ h (-1) (-1)) (L4 : h (-1) (-1) ≤ 448) (hq : ∀ h', INV h' → h' (-1) = h (-1) → wp 232 (am_ju 232 891) [aP (-1), aP 0, aP 149, aI i] [] (sT h') Q) : wp 232 (am_ju 232 367) [aP (-1), aP 0, aP 149, aI i] [] (sT h) Q := by
  rw [ju_232_367]
  simp (disch := first | assumption | omega | exact w8_0 | exact w8_1 _ | exact w8_2 _ _ | exact w8_3 _ _ _ | exact w8_4 _ _ _ _ | exact nl_I _ | exact nl_P _ | exact nl_X | decide | exact w8_5 _ _ _ _ _) only [r_aLD0, r_aLD1, r_aLD2, r_iLD3, r_iCONST, r_bPUSH, r_iADD, r_iALDsc, w3_id, pu_I, w8_0, w8_1, kd_0, kd_149, cl_129]
  refine wp_mono (b_undo hI) ?_
  rintro _ _ ⟨v, h1, rfl, rfl, e1, hR⟩
  have e2 : h1 (-1) (-1) = h (-1) (-1) := by rw [e1]
  simp (disch := first | assumption | omega | exact w8_0 | exact w8_1 _ | exact w8_2 _ _ | exact w8_3 _ _ _ | exact w8_4 _ _ _ _ | exact nl_I _ | exact nl_P _ | exact nl_X | decide | exact w8_5 _ _ _ _ _) only [r_aLD0, r_aLD1, r_aLD2, r_iLD3, r_iCONST, r_bPUSH, r_iADD, r_iALDsc, w3_id, pu_I, w8_0, w8_1, kd_0, kd_149, cl_130, e1]
  refine wp_mono hR ?_
  rintro _ _ ⟨h2, rfl, rfl, e3, hI2⟩
  simp only [pu_I, r_IC0, if_true]
  exact hq h2 hI2 e3
theorem lw_374 (hI : INV h) (i0 : 0 ≤ i) (iL : i + 7 ≤ h (-1) (-1)) (L4 : h (-1) (-1) ≤ 448) (hq : ∀ h', INV h' → h' (-1) = h (-1) → wp 232 (am_ju 232 891) [aP (-1), aP 0, aP 149, aI i] [] (sT h') Q) : wp 232 (am_ju 232 374) [aP (-1), aP 0, aP 149, aI i] [] (sT h) Q := by
  rw [ju_232_374]
  simp (disch := first | assumption | omega | exact w8_0 | exact w8_1 _ | exact w8_2 _ _ | exact w8_3 _ _ _ | exact w8_4 _ _ _ _ | exact nl_I _ | exact nl_P _ | exact nl_X | decide | exact w8_5 _ _ _ _ _) only [r_aLD0, r_aLD1, r_aLD2, r_iLD3, r_iCONST, r_bPUSH, r_iADD, r_iALDsc, w3_id, pu_I, w8_0, w8_1, kd_0, kd_149, cl_131]
  refine wp_mono (b_again hI) ?_
  rintro _ _ ⟨v, h1, rfl, rfl, e1, hR⟩
  have e2 : h1 (-1) (-1) = h (-1) (-1) := by rw [e1]
  simp (disch := first | assumption | omega | exact w8_0 | exact w8_1 _ | exact w8_2 _ _ | exact w8_3 _ _ _ | exact w8_4 _ _ _ _ | exact nl_I _ | exact nl_P _ | exact nl_X | decide | exact w8_5 _ _ _ _ _) only [r_aLD0, r_aLD1, r_aLD2, r_iLD3, r_iCONST, r_bPUSH, r_iADD, r_iALDsc, w3_id, pu_I, w8_0, w8_1, kd_0, kd_149, cl_132, e1]
  refine wp_mono hR ?_
  rintro _ _ ⟨h2, rfl, rfl, e3, hI2⟩
  simp only [pu_I, r_IC0, if_true]
  exact hq h2 hI2 e3
theorem lw_381 (hI : INV h) (i0 : 0 ≤ i) (iL : i + 7 ≤ h (-1) (-1)) (L4 : h (-1) (-1) ≤ 448) (hr : ∀ k, h (-1) k < 2147483648) (hq : ∀ h', INV h' → h' (-1) = h (-1) → wp 232 (am_ju 232 891) [aP (-1), aP 0, aP 149, aI i] [] (sT h') Q) : wp 232 (am_ju 232 381) [aP (-1), aP 0, aP 149, aI i] [] (sT h) Q := by
  rw [ju_232_381]
  simp (disch := first | assumption | omega | exact w8_0 | exact w8_1 _ | exact w8_2 _ _ | exact w8_3 _ _ _ | exact w8_4 _ _ _ _ | exact nl_I _ | exact nl_P _ | exact nl_X | decide | exact w8_5 _ _ _ _ _) only [r_aLD0, r_aLD1, r_aLD2, r_iLD3, r_iCONST, r_bPUSH, r_iADD, r_iALDsc, w3_id, pu_I, w8_0, w8_1, kd_0, kd_149, cl_133]
  refine wp_mono (b_seed hI (hr _)) ?_
  rintro _ _ ⟨v, h1, rfl, rfl, e1, hR⟩
  have e2 : h1 (-1) (-1) = h (-1) (-1) := by rw [e1]
  simp (disch := first | assumption | omega | exact w8_0 | exact w8_1 _ | exact w8_2 _ _ | exact w8_3 _ _ _ | exact w8_4 _ _ _ _ | exact nl_I _ | exact nl_P _ | exact nl_X | decide | exact w8_5 _ _ _ _ _) only [r_aLD0, r_aLD1, r_aLD2, r_iLD3, r_iCONST, r_bPUSH, r_iADD, r_iALDsc, w3_id, pu_I, w8_0, w8_1, kd_0, kd_149, cl_134, e1]
  refine wp_mono hR ?_
  rintro _ _ ⟨h2, rfl, rfl, e3, hI2⟩
  simp only [pu_I, r_IC0, if_true]
  exact hq h2 hI2 e3
theorem lw_398 (hI : INV h) (i0 : 0 ≤ i) (iL : i + 7 ≤ h (-1) (-1)) (L4 : h (-1) (-1) ≤ 448) (hq : ∀ h', INV h' → h' (-1) = h (-1) → wp 232 (am_ju 232 891) [aP (-1), aP 0, aP 149, aI i] [] (sT h') Q) : wp 232 (am_ju 232 398) [aP (-1), aP 0, aP 149, aI i] [] (sT h) Q := by
  rw [ju_232_398]
  simp (disch := first | assumption | omega | exact w8_0 | exact w8_1 _ | exact w8_2 _ _ | exact w8_3 _ _ _ | exact w8_4 _ _ _ _ | exact nl_I _ | exact nl_P _ | exact nl_X | decide | exact w8_5 _ _ _ _ _) only [r_aLD0, r_aLD1, r_aLD2, r_iLD3, r_iCONST, r_bPUSH, r_iADD, r_iALDsc, w3_id, pu_I, w8_0, w8_1, kd_0, kd_149, cl_138]
  refine wp_mono (b_holds hI) ?_
  rintro _ _ ⟨v, h1, rfl, rfl, e1, hR⟩
  have e2 : h1 (-1) (-1) = h (-1) (-1) := by rw [e1]
  simp (disch := first | assumption | omega | exact w8_0 | exact w8_1 _ | exact w8_2 _ _ | exact w8_3 _ _ _ | exact w8_4 _ _ _ _ | exact nl_I _ | exact nl_P _ | exact nl_X | decide | exact w8_5 _ _ _ _ _) only [r_aLD0, r_aLD1, r_aLD2, r_iLD3, r_iCONST, r_bPUSH, r_iADD, r_iALDsc, w3_id, pu_I, w8_0, w8_1, kd_0, kd_149, cl_141, e1]
  refine wp_mono hR ?_
  rintro _ _ ⟨h2, rfl, rfl, e3, hI2⟩
  simp only [pu_I, r_IC0, if_true]
  exact hq h2 hI2 e3
theorem lw_415 (hI : INV h) (i0 : 0 ≤ i) (iL : i + 7 ≤ h (-1) (-1)) (L4 : h (-1) (-1) ≤ 448) (hq : ∀ h', INV h' → h' (-1) = h (-1) → wp 232 (am_ju 232 891) [aP (-1), aP 0, aP 149, aI i] [] (sT h') Q) : wp 232 (am_ju 232 415) [aP (-1), aP 0, aP 149, aI i] [] (sT h) Q := by
  rw [ju_232_415]
  simp (disch := first | assumption | omega | exact w8_0 | exact w8_1 _ | exact w8_2 _ _ | exact w8_3 _ _ _ | exact w8_4 _ _ _ _ | exact nl_I _ | exact nl_P _ | exact nl_X | decide | exact w8_5 _ _ _ _ _) only [r_aLD0, r_aLD1, r_aLD2, r_iLD3, r_iCONST, r_bPUSH, r_iADD, r_iALDsc, w3_id, pu_I, w8_0, w8_1, kd_0, kd_149, cl_145]
  refine wp_mono (b_odds hI) ?_
  rintro _ _ ⟨v, h1, rfl, rfl, e1, hR⟩
  have e2 : h1 (-1) (-1) = h (-1) (-1) := by rw [e1]
  simp (disch := first | assumption | omega | exact w8_0 | exact w8_1 _ | exact w8_2 _ _ | exact w8_3 _ _ _ | exact w8_4 _ _ _ _ | exact nl_I _ | exact nl_P _ | exact nl_X | decide | exact w8_5 _ _ _ _ _) only [r_aLD0, r_aLD1, r_aLD2, r_iLD3, r_iCONST, r_bPUSH, r_iADD, r_iALDsc, w3_id, pu_I, w8_0, w8_1, kd_0, kd_149, cl_147, e1]
  refine wp_mono hR ?_
  rintro _ _ ⟨h2, rfl, rfl, e3, hI2⟩
  simp only [pu_I, r_IC0, if_true]
  exact hq h2 hI2 e3
theorem lw_432 (hI : INV h) (i0 : 0 ≤ i) (iL : i + 7 ≤ h (-1) (-1)) (L4 : h (-1) (-1) ≤ 448) (hq : ∀ h', INV h' → h' (-1) = h (-1) → wp 232 (am_ju 232 891) [aP (-1), aP 0, aP 149, aI i] [] (sT h') Q) : wp 232 (am_ju 232 432) [aP (-1), aP 0, aP 149, aI i] [] (sT h) Q := by
  rw [ju_232_432]
  simp (disch := first | assumption | omega | exact w8_0 | exact w8_1 _ | exact w8_2 _ _ | exact w8_3 _ _ _ | exact w8_4 _ _ _ _ | exact nl_I _ | exact nl_P _ | exact nl_X | decide | exact w8_5 _ _ _ _ _) only [r_aLD0, r_aLD1, r_aLD2, r_iLD3, r_iCONST, r_bPUSH, r_iADD, r_iALDsc, w3_id, pu_I, w8_0, w8_1, kd_0, kd_149, cl_157]
  refine wp_mono (b_packing hI) ?_
  rintro _ _ ⟨v, h1, rfl, rfl, e1, hR⟩
  have e2 : h1 (-1) (-1) = h (-1) (-1) := by rw [e1]
  simp (disch := first | assumption | omega | exact w8_0 | exact w8_1 _ | exact w8_2 _ _ | exact w8_3 _ _ _ | exact w8_4 _ _ _ _ | exact nl_I _ | exact nl_P _ | exact nl_X | decide | exact w8_5 _ _ _ _ _) only [r_aLD0, r_aLD1, r_aLD2, r_iLD3, r_iCONST, r_bPUSH, r_iADD, r_iALDsc, w3_id, pu_I, w8_0, w8_1, kd_0, kd_149, cl_161, e1]
  refine wp_mono hR ?_
  rintro _ _ ⟨h2, rfl, rfl, e3, hI2⟩
  simp only [pu_I, r_IC0, if_true]
  exact hq h2 hI2 e3
theorem lw_449 (hI : INV h) (i0 : 0 ≤ i) (iL : i + 7 ≤ h (-1) (-1)) (L4 : h (-1) (-1) ≤ 448) (hq : ∀ h', INV h' → h' (-1) = h (-1) → wp 232 (am_ju 232 891) [aP (-1), aP 0, aP 149, aI i] [] (sT h') Q) : wp 232 (am_ju 232 449) [aP (-1), aP 0, aP 149, aI i] [] (sT h) Q := by
  rw [ju_232_449]
  simp (disch := first | assumption | omega | exact w8_0 | exact w8_1 _ | exact w8_2 _ _ | exact w8_3 _ _ _ | exact w8_4 _ _ _ _ | exact nl_I _ | exact nl_P _ | exact nl_X | decide | exact w8_5 _ _ _ _ _) only [r_aLD0, r_aLD1, r_aLD2, r_iLD3, r_iCONST, r_bPUSH, r_iADD, r_iALDsc, w3_id, pu_I, w8_0, w8_1, kd_0, kd_149, cl_163]
  refine wp_mono (b_doubled hI) ?_
  rintro _ _ ⟨v, h1, rfl, rfl, e1, hR⟩
  have e2 : h1 (-1) (-1) = h (-1) (-1) := by rw [e1]
  simp (disch := first | assumption | omega | exact w8_0 | exact w8_1 _ | exact w8_2 _ _ | exact w8_3 _ _ _ | exact w8_4 _ _ _ _ | exact nl_I _ | exact nl_P _ | exact nl_X | decide | exact w8_5 _ _ _ _ _) only [r_aLD0, r_aLD1, r_aLD2, r_iLD3, r_iCONST, r_bPUSH, r_iADD, r_iALDsc, w3_id, pu_I, w8_0, w8_1, kd_0, kd_149, cl_164, e1]
  refine wp_mono hR ?_
  rintro _ _ ⟨h2, rfl, rfl, e3, hI2⟩
  simp only [pu_I, r_IC0, if_true]
  exact hq h2 hI2 e3
theorem lw_456 (hI : INV h) (i0 : 0 ≤ i) (iL : i + 7 ≤ h (-1) (-1)) (L4 : h (-1) (-1) ≤ 448) (hq : ∀ h', INV h' → h' (-1) = h (-1) → wp 232 (am_ju 232 891) [aP (-1), aP 0, aP 149, aI i] [] (sT h') Q) : wp 232 (am_ju 232 456) [aP (-1), aP 0, aP 149, aI i] [] (sT h) Q := by
  rw [ju_232_456]
  simp (disch := first | assumption | omega | exact w8_0 | exact w8_1 _ | exact w8_2 _ _ | exact w8_3 _ _ _ | exact w8_4 _ _ _ _ | exact nl_I _ | exact nl_P _ | exact nl_X | decide | exact w8_5 _ _ _ _ _) only [r_aLD0, r_aLD1, r_aLD2, r_iLD3, r_iCONST, r_bPUSH, r_iADD, r_iALDsc, w3_id, pu_I, w8_0, w8_1, kd_0, kd_149, cl_168]
  refine wp_mono (b_leave hI) ?_
  rintro _ _ ⟨v, h1, rfl, rfl, e1, hR⟩
  have e2 : h1 (-1) (-1) = h (-1) (-1) := by rw [e1]
  simp (disch := first | assumption | omega | exact w8_0 | exact w8_1 _ | exact w8_2 _ _ | exact w8_3 _ _ _ | exact w8_4 _ _ _ _ | exact nl_I _ | exact nl_P _ | exact nl_X | decide | exact w8_5 _ _ _ _ _) only [r_aLD0, r_aLD1, r_aLD2, r_iLD3, r_iCONST, r_bPUSH, r_iADD, r_iALDsc, w3_id, pu_I, w8_0, w8_1, kd_0, kd_149, cl_171, e1]
  refine wp_mono hR ?_
  rintro _ _ ⟨h2, rfl, rfl, e3, hI2⟩
  simp only [pu_I, r_IC0, if_true]
  exact hq h2 hI2 e3
theorem lw_473 (hI : INV h) (i0 : 0 ≤ i) (iL : i + 7 ≤ h (-1) (-1)) (L4 : h (-1) (-1) ≤ 448) (hq : ∀ h', INV h' → h' (-1) = h (-1) → wp 232 (am_ju 232 891) [aP (-1), aP 0, aP 149, aI i] [] (sT h') Q) : wp 232 (am_ju 232 473) [aP (-1), aP 0, aP 149, aI i] [] (sT h) Q := by
  rw [ju_232_473]
  simp (disch := first | assumption | omega | exact w8_0 | exact w8_1 _ | exact w8_2 _ _ | exact w8_3 _ _ _ | exact w8_4 _ _ _ _ | exact nl_I _ | exact nl_P _ | exact nl_X | decide | exact w8_5 _ _ _ _ _) only [r_aLD0, r_aLD1, r_aLD2, r_iLD3, r_iCONST, r_bPUSH, r_iADD, r_iALDsc, w3_id, pu_I, w8_0, w8_1, kd_0, kd_149, cl_175]
  refine wp_mono (b_rolls hI) ?_
  rintro _ _ ⟨v, h1, rfl, rfl, e1, hR⟩
  have e2 : h1 (-1) (-1) = h (-1) (-1) := by rw [e1]
  simp (disch := first | assumption | omega | exact w8_0 | exact w8_1 _ | exact w8_2 _ _ | exact w8_3 _ _ _ | exact w8_4 _ _ _ _ | exact nl_I _ | exact nl_P _ | exact nl_X | decide | exact w8_5 _ _ _ _ _) only [r_aLD0, r_aLD1, r_aLD2, r_iLD3, r_iCONST, r_bPUSH, r_iADD, r_iALDsc, w3_id, pu_I, w8_0, w8_1, kd_0, kd_149, cl_178, e1]
  refine wp_mono hR ?_
  rintro _ _ ⟨h2, rfl, rfl, e3, hI2⟩
  simp only [pu_I, r_IC0, if_true]
  exact hq h2 hI2 e3
theorem lw_490 (hI : INV h) (i0 : 0 ≤ i) (iL : i + 7 ≤ h (-1) (-1)) (L4 : h (-1) (-1) ≤ 448) (hq : ∀ h', INV h' → h' (-1) = h (-1) → wp 232 (am_ju 232 891) [aP (-1), aP 0, aP 149, aI i] [] (sT h') Q) : wp 232 (am_ju 232 490) [aP (-1), aP 0, aP 149, aI i] [] (sT h) Q := by
  rw [ju_232_490]
  simp (disch := first | assumption | omega | exact w8_0 | exact w8_1 _ | exact w8_2 _ _ | exact w8_3 _ _ _ | exact w8_4 _ _ _ _ | exact nl_I _ | exact nl_P _ | exact nl_X | decide | exact w8_5 _ _ _ _ _) only [r_aLD0, r_aLD1, r_aLD2, r_iLD3, r_iCONST, r_bPUSH, r_iADD, r_iALDsc, w3_id, pu_I, w8_0, w8_1, kd_0, kd_149, cl_186]
  refine wp_mono (b_run hI) ?_
  rintro _ _ ⟨v, h1, rfl, rfl, e1, hR⟩
  have e2 : h1 (-1) (-1) = h (-1) (-1) := by rw [e1]
  simp (disch := first | assumption | omega | exact w8_0 | exact w8_1 _ | exact w8_2 _ _ | exact w8_3 _ _ _ | exact w8_4 _ _ _ _ | exact nl_I _ | exact nl_P _ | exact nl_X | decide | exact w8_5 _ _ _ _ _) only [r_aLD0, r_aLD1, r_aLD2, r_iLD3, r_iCONST, r_bPUSH, r_iADD, r_iALDsc, w3_id, pu_I, w8_0, w8_1, kd_0, kd_149, cl_189, e1]
  refine wp_mono hR ?_
  rintro _ _ ⟨h2, rfl, rfl, e3, hI2⟩
  simp only [pu_I, r_IC0, if_true]
  exact hq h2 hI2 e3
theorem lw_507 (hI : INV h) (i0 : 0 ≤ i) (iL : i + 7 ≤ h (-1) (-1)) (L4 : h (-1) (-1) ≤ 448) (hq : ∀ h', INV h' → h' (-1) = h (-1) → wp 232 (am_ju 232 891) [aP (-1), aP 0, aP 149, aI i] [] (sT h') Q) : wp 232 (am_ju 232 507) [aP (-1), aP 0, aP 149, aI i] [] (sT h) Q := by
  rw [ju_232_507]
  simp (disch := first | assumption | omega | exact w8_0 | exact w8_1 _ | exact w8_2 _ _ | exact w8_3 _ _ _ | exact w8_4 _ _ _ _ | exact nl_I _ | exact nl_P _ | exact nl_X | decide | exact w8_5 _ _ _ _ _) only [r_aLD0, r_aLD1, r_aLD2, r_iLD3, r_iCONST, r_bPUSH, r_iADD, r_iALDsc, w3_id, pu_I, w8_0, w8_1, kd_0, kd_149, cl_191]
  refine wp_mono (b_hands hI) ?_
  rintro _ _ ⟨v, h1, rfl, rfl, e1, hR⟩
  have e2 : h1 (-1) (-1) = h (-1) (-1) := by rw [e1]
  simp (disch := first | assumption | omega | exact w8_0 | exact w8_1 _ | exact w8_2 _ _ | exact w8_3 _ _ _ | exact w8_4 _ _ _ _ | exact nl_I _ | exact nl_P _ | exact nl_X | decide | exact w8_5 _ _ _ _ _) only [r_aLD0, r_aLD1, r_aLD2, r_iLD3, r_iCONST, r_bPUSH, r_iADD, r_iALDsc, w3_id, pu_I, w8_0, w8_1, kd_0, kd_149, cl_193, e1]
  refine wp_mono hR ?_
  rintro _ _ ⟨h2, rfl, rfl, e3, hI2⟩
  simp only [pu_I, r_IC0, if_true]
  exact hq h2 hI2 e3
theorem lw_544 (hI : INV h) (i0 : 0 ≤ i) (iL : i + 7 ≤ h (-1) (-1)) (L4 : h (-1) (-1) ≤ 448) (hq : ∀ h', INV h' → h' (-1) = h (-1) → wp 232 (am_ju 232 891) [aP (-1), aP 0, aP 149, aI i] [] (sT h') Q) : wp 232 (am_ju 232 544) [aP (-1), aP 0, aP 149, aI i] [] (sT h) Q := by
  rw [ju_232_544]
  simp (disch := first | assumption | omega | exact w8_0 | exact w8_1 _ | exact w8_2 _ _ | exact w8_3 _ _ _ | exact w8_4 _ _ _ _ | exact nl_I _ | exact nl_P _ | exact nl_X | decide | exact w8_5 _ _ _ _ _) only [r_aLD0, r_aLD1, r_aLD2, r_iLD3, r_iCONST, r_bPUSH, r_iADD, r_iALDsc, w3_id, pu_I, w8_0, w8_1, kd_0, kd_149, cl_196]
  refine wp_mono (b_torn hI) ?_
  rintro _ _ ⟨v, h1, rfl, rfl, e1, hR⟩
  have e2 : h1 (-1) (-1) = h (-1) (-1) := by rw [e1]
  simp (disch := first | assumption | omega | exact w8_0 | exact w8_1 _ | exact w8_2 _ _ | exact w8_3 _ _ _ | exact w8_4 _ _ _ _ | exact nl_I _ | exact nl_P _ | exact nl_X | decide | exact w8_5 _ _ _ _ _) only [r_aLD0, r_aLD1, r_aLD2, r_iLD3, r_iCONST, r_bPUSH, r_iADD, r_iALDsc, w3_id, pu_I, w8_0, w8_1, kd_0, kd_149, cl_198, e1]
  refine wp_mono hR ?_
  rintro _ _ ⟨h2, rfl, rfl, e3, hI2⟩
  simp only [pu_I, r_IC0, if_true]
  exact hq h2 hI2 e3
theorem lw_581 (hI : INV h) (i0 : 0 ≤ i) (iL : i + 7 ≤ h (-1) (-1)) (L4 : h (-1) (-1) ≤ 448) (hq : ∀ h', INV h' → h' (-1) = h (-1) → wp 232 (am_ju 232 891) [aP (-1), aP 0, aP 149, aI i] [] (sT h') Q) : wp 232 (am_ju 232 581) [aP (-1), aP 0, aP 149, aI i] [] (sT h) Q := by
  rw [ju_232_581]
  simp (disch := first | assumption | omega | exact w8_0 | exact w8_1 _ | exact w8_2 _ _ | exact w8_3 _ _ _ | exact w8_4 _ _ _ _ | exact nl_I _ | exact nl_P _ | exact nl_X | decide | exact w8_5 _ _ _ _ _) only [r_aLD0, r_aLD1, r_aLD2, r_iLD3, r_iCONST, r_bPUSH, r_iADD, r_iALDsc, w3_id, pu_I, w8_0, w8_1, kd_0, kd_149, cl_201]
  refine wp_mono (b_image hI) ?_
  rintro _ _ ⟨v, h1, rfl, rfl, e1, hR⟩
  have e2 : h1 (-1) (-1) = h (-1) (-1) := by rw [e1]
  simp (disch := first | assumption | omega | exact w8_0 | exact w8_1 _ | exact w8_2 _ _ | exact w8_3 _ _ _ | exact w8_4 _ _ _ _ | exact nl_I _ | exact nl_P _ | exact nl_X | decide | exact w8_5 _ _ _ _ _) only [r_aLD0, r_aLD1, r_aLD2, r_iLD3, r_iCONST, r_bPUSH, r_iADD, r_iALDsc, w3_id, pu_I, w8_0, w8_1, kd_0, kd_149, cl_202, e1]
  refine wp_mono hR ?_
  rintro _ _ ⟨h2, rfl, rfl, e3, hI2⟩
  simp only [pu_I, r_IC0, if_true]
  exact hq h2 hI2 e3
theorem lw_588 (hI : INV h) (i0 : 0 ≤ i) (iL : i + 7 ≤ h (-1) (-1)) (L4 : h (-1) (-1) ≤ 448) (hq : ∀ h', INV h' → h' (-1) = h (-1) → wp 232 (am_ju 232 891) [aP (-1), aP 0, aP 149, aI i] [] (sT h') Q) : wp 232 (am_ju 232 588) [aP (-1), aP 0, aP 149, aI i] [] (sT h) Q := by
  rw [ju_232_588]
  simp (disch := first | assumption | omega | exact w8_0 | exact w8_1 _ | exact w8_2 _ _ | exact w8_3 _ _ _ | exact w8_4 _ _ _ _ | exact nl_I _ | exact nl_P _ | exact nl_X | decide | exact w8_5 _ _ _ _ _) only [r_aLD0, r_aLD1, r_aLD2, r_iLD3, r_iCONST, r_bPUSH, r_iADD, r_iALDsc, w3_id, pu_I, w8_0, w8_1, kd_0, kd_149, cl_203]
  refine wp_mono (b_restore hI) ?_
  rintro _ _ ⟨v, h1, rfl, rfl, e1, hR⟩
  have e2 : h1 (-1) (-1) = h (-1) (-1) := by rw [e1]
  simp (disch := first | assumption | omega | exact w8_0 | exact w8_1 _ | exact w8_2 _ _ | exact w8_3 _ _ _ | exact w8_4 _ _ _ _ | exact nl_I _ | exact nl_P _ | exact nl_X | decide | exact w8_5 _ _ _ _ _) only [r_aLD0, r_aLD1, r_aLD2, r_iLD3, r_iCONST, r_bPUSH, r_iADD, r_iALDsc, w3_id, pu_I, w8_0, w8_1, kd_0, kd_149, cl_204, e1]
  refine wp_mono hR ?_
  rintro _ _ ⟨h2, rfl, rfl, e3, hI2⟩
  simp only [pu_I, r_IC0, if_true]
  exact hq h2 hI2 e3
theorem lw_595 (hI : INV h) (i0 : 0 ≤ i) (iL : i + 7 ≤ h (-1) (-1)) (L4 : h (-1) (-1) ≤ 448) (hq : ∀ h', INV h' → h' (-1) = h (-1) → wp 232 (am_ju 232 891) [aP (-1), aP 0, aP 149, aI i] [] (sT h') Q) : wp 232 (am_ju 232 595) [aP (-1), aP 0, aP 149, aI i] [] (sT h) Q := by
  rw [ju_232_595]
  simp (disch := first | assumption | omega | exact w8_0 | exact w8_1 _ | exact w8_2 _ _ | exact w8_3 _ _ _ | exact w8_4 _ _ _ _ | exact nl_I _ | exact nl_P _ | exact nl_X | decide | exact w8_5 _ _ _ _ _) only [r_aLD0, r_aLD1, r_aLD2, r_iLD3, r_iCONST, r_bPUSH, r_iADD, r_iALDsc, w3_id, pu_I, w8_0, w8_1, kd_0, kd_149, cl_210]
  refine wp_mono (b_sagged hI) ?_
  rintro _ _ ⟨v, h1, rfl, rfl, e1, hR⟩
  have e2 : h1 (-1) (-1) = h (-1) (-1) := by rw [e1]
  simp (disch := first | assumption | omega | exact w8_0 | exact w8_1 _ | exact w8_2 _ _ | exact w8_3 _ _ _ | exact w8_4 _ _ _ _ | exact nl_I _ | exact nl_P _ | exact nl_X | decide | exact w8_5 _ _ _ _ _) only [r_aLD0, r_aLD1, r_aLD2, r_iLD3, r_iCONST, r_bPUSH, r_iADD, r_iALDsc, w3_id, pu_I, w8_0, w8_1, kd_0, kd_149, cl_215, e1]
  refine wp_mono hR ?_
  rintro _ _ ⟨h2, rfl, rfl, e3, hI2⟩
  simp only [pu_I, r_IC0, if_true]
  exact hq h2 hI2 e3
theorem lw_662 (hI : INV h) (i0 : 0 ≤ i) (iL : i + 7 ≤ h (-1) (-1)) (L4 : h (-1) (-1) ≤ 448) (hq : ∀ h', INV h' → h' (-1) = h (-1) → wp 232 (am_ju 232 891) [aP (-1), aP 0, aP 149, aI i] [] (sT h') Q) : wp 232 (am_ju 232 662) [aP (-1), aP 0, aP 149, aI i] [] (sT h) Q := by
  rw [ju_232_662]
  simp (disch := first | assumption | omega | exact w8_0 | exact w8_1 _ | exact w8_2 _ _ | exact w8_3 _ _ _ | exact w8_4 _ _ _ _ | exact nl_I _ | exact nl_P _ | exact nl_X | decide | exact w8_5 _ _ _ _ _) only [r_aLD0, r_aLD1, r_aLD2, r_iLD3, r_iCONST, r_bPUSH, r_iADD, r_iALDsc, w3_id, pu_I, w8_0, w8_1, kd_0, kd_149, cl_219]
  refine wp_mono (b_film hI) ?_
  rintro _ _ ⟨v, h1, rfl, rfl, e1, hR⟩
  have e2 : h1 (-1) (-1) = h (-1) (-1) := by rw [e1]
  simp (disch := first | assumption | omega | exact w8_0 | exact w8_1 _ | exact w8_2 _ _ | exact w8_3 _ _ _ | exact w8_4 _ _ _ _ | exact nl_I _ | exact nl_P _ | exact nl_X | decide | exact w8_5 _ _ _ _ _) only [r_aLD0, r_aLD1, r_aLD2, r_iLD3, r_iCONST, r_bPUSH, r_iADD, r_iALDsc, w3_id, pu_I, w8_0, w8_1, kd_0, kd_149, cl_221, e1]
  refine wp_mono hR ?_
  rintro _ _ ⟨h2, rfl, rfl, e3, hI2⟩
  simp only [pu_I, r_IC0, if_true]
  exact hq h2 hI2 e3
theorem lw_709 (hI : INV h) (i0 : 0 ≤ i) (iL : i + 7 ≤ h (-1) (-1)) (L4 : h (-1) (-1) ≤ 448) (hq : ∀ h', INV h' → h' (-1) = h (-1) → wp 232 (am_ju 232 891) [aP (-1), aP 0, aP 149, aI i] [] (sT h') Q) : wp 232 (am_ju 232 709) [aP (-1), aP 0, aP 149, aI i] [] (sT h) Q := by
  rw [ju_232_709]
  simp (disch := first | assumption | omega | exact w8_0 | exact w8_1 _ | exact w8_2 _ _ | exact w8_3 _ _ _ | exact w8_4 _ _ _ _ | exact nl_I _ | exact nl_P _ | exact nl_X | decide | exact w8_5 _ _ _ _ _) only [r_aLD0, r_aLD1, r_aLD2, r_iLD3, r_iCONST, r_bPUSH, r_iADD, r_iALDsc, w3_id, pu_I, w8_0, w8_1, kd_0, kd_149, cl_224]
  refine wp_mono (b_sheet hI) ?_
  rintro _ _ ⟨v, h1, rfl, rfl, e1, hR⟩
  have e2 : h1 (-1) (-1) = h (-1) (-1) := by rw [e1]
  simp (disch := first | assumption | omega | exact w8_0 | exact w8_1 _ | exact w8_2 _ _ | exact w8_3 _ _ _ | exact w8_4 _ _ _ _ | exact nl_I _ | exact nl_P _ | exact nl_X | decide | exact w8_5 _ _ _ _ _) only [r_aLD0, r_aLD1, r_aLD2, r_iLD3, r_iCONST, r_bPUSH, r_iADD, r_iALDsc, w3_id, pu_I, w8_0, w8_1, kd_0, kd_149, cl_225, e1]
  refine wp_mono hR ?_
  rintro _ _ ⟨h2, rfl, rfl, e3, hI2⟩
  simp only [pu_I, r_IC0, if_true]
  exact hq h2 hI2 e3
theorem lw_746 (hI : INV h) (i0 : 0 ≤ i) (iL : i + 7 ≤ h (-1) (-1)) (L4 : h (-1) (-1) ≤ 448) (hq : ∀ h', INV h' → h' (-1) = h (-1) → wp 232 (am_ju 232 891) [aP (-1), aP 0, aP 149, aI i] [] (sT h') Q) : wp 232 (am_ju 232 746) [aP (-1), aP 0, aP 149, aI i] [] (sT h) Q := by
  rw [ju_232_746]
  simp (disch := first | assumption | omega | exact w8_0 | exact w8_1 _ | exact w8_2 _ _ | exact w8_3 _ _ _ | exact w8_4 _ _ _ _ | exact nl_I _ | exact nl_P _ | exact nl_X | decide | exact w8_5 _ _ _ _ _) only [r_aLD0, r_aLD1, r_aLD2, r_iLD3, r_iCONST, r_bPUSH, r_iADD, r_iALDsc, w3_id, pu_I, w8_0, w8_1, kd_0, kd_149, cl_226]
  refine wp_mono (b_drop hI) ?_
  rintro _ _ ⟨v, h1, rfl, rfl, e1, hR⟩
  have e2 : h1 (-1) (-1) = h (-1) (-1) := by rw [e1]
  simp (disch := first | assumption | omega | exact w8_0 | exact w8_1 _ | exact w8_2 _ _ | exact w8_3 _ _ _ | exact w8_4 _ _ _ _ | exact nl_I _ | exact nl_P _ | exact nl_X | decide | exact w8_5 _ _ _ _ _) only [r_aLD0, r_aLD1, r_aLD2, r_iLD3, r_iCONST, r_bPUSH, r_iADD, r_iALDsc, w3_id, pu_I, w8_0, w8_1, kd_0, kd_149, cl_227, e1]
  refine wp_mono hR ?_
  rintro _ _ ⟨h2, rfl, rfl, e3, hI2⟩
  simp only [pu_I, r_IC0, if_true]
  exact hq h2 hI2 e3
theorem lw_763 (hI : INV h) (i0 : 0 ≤ i) (iL : i + 7 ≤ h (-1) (-1)) (L4 : h (-1) (-1) ≤ 448) (hq : ∀ h', INV h' → h' (-1) = h (-1) → wp 232 (am_ju 232 891) [aP (-1), aP 0, aP 149, aI i] [] (sT h') Q) : wp 232 (am_ju 232 763) [aP (-1), aP 0, aP 149, aI i] [] (sT h) Q := by
  rw [ju_232_763]
  simp (disch := first | assumption | omega | exact w8_0 | exact w8_1 _ | exact w8_2 _ _ | exact w8_3 _ _ _ | exact w8_4 _ _ _ _ | exact nl_I _ | exact nl_P _ | exact nl_X | decide | exact w8_5 _ _ _ _ _) only [r_aLD0, r_aLD1, r_aLD2, r_iLD3, r_iCONST, r_bPUSH, r_iADD, r_iALDsc, w3_id, pu_I, w8_0, w8_1, kd_0, kd_149, r_ITL, r_lSHL, r_LDC2, r_lAND, r_lOR, cl_228]
  refine wp_mono (b_item hI (w6_lOr _ _)) ?_
  rintro _ _ ⟨v, h1, rfl, rfl, e1, hR⟩
  have e2 : h1 (-1) (-1) = h (-1) (-1) := by rw [e1]
  simp (disch := first | assumption | omega | exact w8_0 | exact w8_1 _ | exact w8_2 _ _ | exact w8_3 _ _ _ | exact w8_4 _ _ _ _ | exact nl_I _ | exact nl_P _ | exact nl_X | decide | exact w8_5 _ _ _ _ _) only [r_aLD0, r_aLD1, r_aLD2, r_iLD3, r_iCONST, r_bPUSH, r_iADD, r_iALDsc, w3_id, pu_I, w8_0, w8_1, kd_0, kd_149, r_ITL, r_lSHL, r_LDC2, r_lAND, r_lOR, cl_229, e1]
  refine wp_mono hR ?_
  rintro _ _ ⟨h2, rfl, rfl, e3, hI2⟩
  simp only [pu_I, r_IC0, if_true]
  exact hq h2 hI2 e3
theorem lw_834 (hI : INV h) (i0 : 0 ≤ i) (iL : i + 7 ≤ h (-1) (-1)) (L4 : h (-1) (-1) ≤ 448) (hq : ∀ h', INV h' → h' (-1) = h (-1) → wp 232 (am_ju 232 891) [aP (-1), aP 0, aP 149, aI i] [] (sT h') Q) : wp 232 (am_ju 232 834) [aP (-1), aP 0, aP 149, aI i] [] (sT h) Q := by
  rw [ju_232_834]
  simp (disch := first | assumption | omega | exact w8_0 | exact w8_1 _ | exact w8_2 _ _ | exact w8_3 _ _ _ | exact w8_4 _ _ _ _ | exact nl_I _ | exact nl_P _ | exact nl_X | decide | exact w8_5 _ _ _ _ _) only [r_aLD0, r_aLD1, r_aLD2, r_iLD3, r_iCONST, r_bPUSH, r_iADD, r_iALDsc, w3_id, pu_I, w8_0, w8_1, kd_0, kd_149, cl_230]
  refine wp_mono (b_copy hI) ?_
  rintro _ _ ⟨v, h1, rfl, rfl, e1, hR⟩
  have e2 : h1 (-1) (-1) = h (-1) (-1) := by rw [e1]
  simp (disch := first | assumption | omega | exact w8_0 | exact w8_1 _ | exact w8_2 _ _ | exact w8_3 _ _ _ | exact w8_4 _ _ _ _ | exact nl_I _ | exact nl_P _ | exact nl_X | decide | exact w8_5 _ _ _ _ _) only [r_aLD0, r_aLD1, r_aLD2, r_iLD3, r_iCONST, r_bPUSH, r_iADD, r_iALDsc, w3_id, pu_I, w8_0, w8_1, kd_0, kd_149, cl_231, e1]
  refine wp_mono hR ?_
  rintro _ _ ⟨h2, rfl, rfl, e3, hI2⟩
  simp only [pu_I, r_IC0, if_true]
  exact hq h2 hI2 e3
end LW
