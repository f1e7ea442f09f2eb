section PN
variable {g h h' h1 h2 u : am_F} {Q : am_V → am_S → Prop} {so j bj x y z o c w r k t : Int} {n nb L s K nx b m a q B S T i gg l M Z v ch : Nat}
/-- the bag of a thing, by the best row -/
def pbA (Z M nb v : Nat) (t : Int) : Int := if 0 ≤ t ∧ Z.testBit t.toNat = true then (dgt nb M v (cb Z t.toNat) : Int) else -4
theorem lp_pb (hZ : Z < 256) (hM : popc Z ≤ 6) (h5 : u 137 5 = (popc Z : Int)) (h41 : ∀ k : Nat, k < popc Z → u 141 k = (mvN Z k : Int)) (h44 : ∀ k : Nat, k < popc Z → u 144 k = (dgt nb (popc Z) v k : Int)) : ∀ (d k : Nat), k + d = popc Z → (∀ i, i < k → (mvN Z i : Int) ≠ t) → (wp 155 (am_ju 155 2) [aP 137, aI t, aI (k : Int)] [] (sT u) Q ↔ Q (aI (pbA Z (popc Z) nb v t)) (sT u)) := by
  intro d
  have l1 := ln_141
  have k1 := kd_141
  have l2 := ln_144
  have k2 := kd_144
  induction d with
  | zero =>
    intro k hk hno
    have hk : k = popc Z := by omega
    subst hk
    have e : pbA Z (popc Z) nb v t = -4 := by
      unfold pbA
      rw [if_neg]
      rintro ⟨t0, hb⟩
      obtain ⟨t', rfl⟩ := Int.eq_ofNat_of_zero_le t0
      rw [Int.toNat_natCast] at hb
      have t8 : t' < 8 := by
        by_cases q : t' < 8
        · exact q
        · rw [Nat.testBit_lt_two_pow (Nat.lt_of_lt_of_le hZ (Nat.pow_le_pow_right (n := 2) (i := 8) (by decide) (by omega)))] at hb
          cases hb
      obtain ⟨m1, m2⟩ := (mv_ok Z hZ t' t8).2 hb
      exact hno _ m2 (by rw [m1])
    rw [ju_155_2]
    simp only [ju_155_19, r_iCONST, r_iST2, r_iLD2, r_aLD0, r_gI, r_IC3, r_gR, r_iALD, r_iALDs, r_iLD1, r_IC1, r_iRET, r_IINC2, r_GOTO, r_bPUSH, eq_self, Int.reduceLT, Int.reduceLE, Int.reduceEq, true_or, or_true, and_self, true_and, and_true, w8_0, w8_1, w8_2, w8_3, w8_4, nl_I, nl_P, nl_X, pu_I, pu_J, pu_V, kd_137, h5]
    rw [if_pos (by omega), e]
  | succ d ih =>
    intro k hk hno
    have hw : w3 ((k : Int) + 1) = ((k + 1 : Nat) : Int) := w3_id (by omega) (by omega)
    have k0 : (0 : Int) ≤ k := by omega
    have k6 : (k : Int) < 6 := by omega
    obtain ⟨m1, m2, m3⟩ := (mv_ok Z hZ k (by omega)).1 (by omega)
    rw [ju_155_2]
    simp (disch := first | assumption | omega | exact w8_0 | exact w8_1 _ | exact w8_2 _ _ | exact w8_3 _ _ _ | exact w8_4 _ _ _ _ | exact nl_I _ | exact nl_P _ | exact nl_X | decide | exact w8_5 _ _ _ _ _) only [ju_155_17, r_iCONST, r_iST2, r_iLD2, r_aLD0, r_gI, r_IC3, r_gR, r_iALDc, r_iALDs, r_iLD1, r_IC1, r_iRET, r_IINC2, r_GOTO, r_bPUSH, eq_self, Int.reduceLT, Int.reduceLE, Int.reduceEq, true_or, or_true, and_self, true_and, and_true, w8_0, w8_1, w8_2, w8_3, w8_4, nl_I, nl_P, nl_X, pu_I, pu_J, pu_V, w3_id, Int.add_zero, kd_137, rR_137_4, rR_137_8, h5, h41 k (by omega), h44 k (by omega), hw]
    rw [if_neg (by omega)]
    by_cases e : (mvN Z k : Int) = t
    · rw [if_neg (by simpa using e)]
      have e2 : pbA Z (popc Z) nb v t = (dgt nb (popc Z) v k : Int) := by
        unfold pbA
        rw [← e, Int.toNat_natCast, if_pos ⟨by omega, m1⟩, m3]
      rw [e2]
    · rw [if_pos e]
      exact ih (k + 1) (by omega) (fun i hi => by
        by_cases z : i = k
        · subst z; exact e
        · exact hno i (by omega))
abbrev okP (h : am_F) (n nb : Nat) (t : Int) : Prop := (t = -1 ∨ (0 ≤ t ∧ t < n)) ∧ nb ≠ 0 ∧ tnB h nb = false
def pkA (h : am_F) (n nb L s : Nat) (t : Int) : Int := if t = -1 then told (bp (FV h n nb L s) (nb ^ popc (zL h n))).2 else pbA (zL h n) (popc (zL h n)) nb (bp (FV h n nb L s) (nb ^ popc (zL h n))).1 t
theorem s_Tpacking (hC : CO h n nb L s) (hq : ∀ g, wR2 h g → Q (aI (if okP h n nb t then (if popc (zL h n) ≤ 6 then pkA h n nb L s t else -3) else -1)) (sT g)) : wp 156 (am_ju 156 0) [aP 0, aI t] [] (sT h) Q := by
  obtain ⟨c1, c2, c3, c4, c5, c6, c7, c8, c9, c10⟩ := id hC
  have hq0 := hq h (fun _ _ => rfl)
  have key : (t = -1 ∨ (0 ≤ t ∧ t < n)) → wp 156 (am_ju 156 11) [aP 0, aI t] [] (sT h) Q := by
    intro ht
    rw [ju_156_11]
    simp only [ju_156_20, r_iLD1, r_iCONST, r_IC0, r_aLD0, r_gR, cl_27, r_IF1, r_iRET, r_gI, r_IF0, cl_147, cl_148, cl_55, r_bPUSH, r_IC5, cl_154, r_IC1, cl_136, r_GOTO, cl_155, eq_self, Int.reduceLT, Int.reduceLE, Int.reduceEq, true_or, or_true, and_self, true_and, and_true, w8_0, w8_1, w8_2, w8_3, w8_4, nl_I, nl_P, nl_X, pu_I, pu_J, pu_V, kd_0, ln_0, rR_0_0, rR_0_1, rR_0_3, rR_0_4, rR_0_5, rR_0_6, rR_0_7, rR_0_8, rR_0_9, rR_0_10, kd_80, ln_80, rR_80_0, rR_80_1, rR_80_2, rR_80_3, kd_81, ln_81, rR_81_0, rR_81_1, rR_81_2, rR_81_3, rR_81_4, rR_81_5, c1, s_tornB hC]
    by_cases e1 : nb = 0
    · rw [if_pos (by omega)]
      rw [if_neg (fun z => z.2.1 e1)] at hq0
      exact hq0
    · rw [if_neg (by omega)]
      by_cases e2 : tnB h nb = true
      · rw [if_neg (by simp [e2])]
        rw [if_neg (fun z => by rw [z.2.2] at e2; cases e2)] at hq0
        exact hq0
      · have e2' : tnB h nb = false := by simpa using e2
        have ok : okP h n nb t := ⟨ht, e1, e2'⟩
        simp only [if_pos ok] at hq hq0
        rw [if_pos (by simp [e2]), ju_156_22]
        simp only [r_iLD1, r_iCONST, r_IC0, r_aLD0, r_gR, cl_27, r_IF1, r_iRET, r_gI, r_IF0, cl_147, cl_148, cl_55, r_bPUSH, r_IC5, cl_154, r_IC1, cl_136, r_GOTO, cl_155, eq_self, Int.reduceLT, Int.reduceLE, Int.reduceEq, true_or, or_true, and_self, true_and, and_true, w8_0, w8_1, w8_2, w8_3, w8_4, nl_I, nl_P, nl_X, pu_I, pu_J, pu_V, kd_0, ln_0, rR_0_0, rR_0_1, rR_0_3, rR_0_4, rR_0_5, rR_0_6, rR_0_7, rR_0_8, rR_0_9, rR_0_10, kd_80, ln_80, rR_80_0, rR_80_1, rR_80_2, rR_80_3, s_toPack c4 c3, s_bitCount (zL_lt c4)]
        by_cases e3 : popc (zL h n) ≤ 6
        · simp only [if_pos e3] at hq
          rw [if_pos (by omega), ju_156_30]
          simp only [r_iLD1, r_iCONST, r_IC0, r_aLD0, r_gR, cl_27, r_IF1, r_iRET, r_gI, r_IF0, cl_147, cl_148, cl_55, r_bPUSH, r_IC5, cl_154, r_IC1, cl_136, r_GOTO, cl_155, eq_self, Int.reduceLT, Int.reduceLE, Int.reduceEq, true_or, or_true, and_self, true_and, and_true, w8_0, w8_1, w8_2, w8_3, w8_4, nl_I, nl_P, nl_X, pu_I, pu_J, pu_V, kd_0, ln_0, rR_0_0, rR_0_1, rR_0_3, rR_0_4, rR_0_5, rR_0_6, rR_0_7, rR_0_8, rR_0_9, rR_0_10, kd_137, ln_137, rR_137_0, rR_137_1, rR_137_2, rR_137_3, rR_137_4, rR_137_6, rR_137_7, rR_137_8]
          refine s_fp hC e3 (by omega) (fun g hI => ?_)
          obtain ⟨i1, i2, i3, i4, i5, i6⟩ := hI
          have i6 := i6 (Nat.pow_pos (by omega))
          have := hq g i1
          unfold pkA at this
          by_cases e4 : t = -1
          · rw [if_pos e4] at this
            simp only [r_iLD1, r_iCONST, r_IC0, r_aLD0, r_gR, cl_27, r_IF1, r_iRET, r_gI, r_IF0, cl_147, cl_148, cl_55, r_bPUSH, r_IC5, cl_154, r_IC1, cl_136, r_GOTO, cl_155, eq_self, Int.reduceLT, Int.reduceLE, Int.reduceEq, true_or, or_true, and_self, true_and, and_true, w8_0, w8_1, w8_2, w8_3, w8_4, nl_I, nl_P, nl_X, pu_I, pu_J, pu_V, kd_0, ln_0, rR_0_0, rR_0_1, rR_0_3, rR_0_4, rR_0_5, rR_0_6, rR_0_7, rR_0_8, rR_0_9, rR_0_10, kd_137, ln_137, rR_137_0, rR_137_1, rR_137_2, rR_137_3, rR_137_4, rR_137_6, rR_137_7, rR_137_8, i5, s_toldStep, e4, not_true_eq_false, if_false, ju_156_45]
            exact this
          · rw [if_neg e4] at this
            simp only [r_iLD1, r_iCONST, r_IC0, r_aLD0, r_gR, cl_27, r_IF1, r_iRET, r_gI, r_IF0, cl_147, cl_148, cl_55, r_bPUSH, r_IC5, cl_154, r_IC1, cl_136, r_GOTO, cl_155, eq_self, Int.reduceLT, Int.reduceLE, Int.reduceEq, true_or, or_true, and_self, true_and, and_true, w8_0, w8_1, w8_2, w8_3, w8_4, nl_I, nl_P, nl_X, pu_I, pu_J, pu_V, kd_0, ln_0, rR_0_0, rR_0_1, rR_0_3, rR_0_4, rR_0_5, rR_0_6, rR_0_7, rR_0_8, rR_0_9, rR_0_10, kd_137, ln_137, rR_137_0, rR_137_1, rR_137_2, rR_137_3, rR_137_4, rR_137_6, rR_137_7, rR_137_8, i5, s_toldStep, e4, not_false_eq_true, if_true]
            rw [ju_156_41]
            simp only [r_iLD1, r_iCONST, r_IC0, r_aLD0, r_gR, cl_27, r_IF1, r_iRET, r_gI, r_IF0, cl_147, cl_148, cl_55, r_bPUSH, r_IC5, cl_154, r_IC1, cl_136, r_GOTO, cl_155, eq_self, Int.reduceLT, Int.reduceLE, Int.reduceEq, true_or, or_true, and_self, true_and, and_true, w8_0, w8_1, w8_2, w8_3, w8_4, nl_I, nl_P, nl_X, pu_I, pu_J, pu_V, kd_0, ln_0, rR_0_0, rR_0_1, rR_0_3, rR_0_4, rR_0_5, rR_0_6, rR_0_7, rR_0_8, rR_0_9, rR_0_10, kd_137, ln_137, rR_137_0, rR_137_1, rR_137_2, rR_137_3, rR_137_4, rR_137_6, rR_137_7, rR_137_8]
            rw [ju_155_0]
            simp only [r_iCONST, r_iST2, r_iLD2, r_aLD0, r_gI, r_IC3, r_gR, r_iALD, r_iALDs, r_iLD1, r_IC1, r_iRET, r_IINC2, r_GOTO, r_bPUSH, eq_self, Int.reduceLT, Int.reduceLE, Int.reduceEq, true_or, or_true, and_self, true_and, and_true, w8_0, w8_1, w8_2, w8_3, w8_4, nl_I, nl_P, nl_X, pu_I, pu_J, pu_V]
            refine (lp_pb (zL_lt c4) e3 i2.1 i2.2 i6 (popc (zL h n)) 0 (Nat.zero_add _) (fun i hi => absurd hi (by omega))).mpr ?_
            simp only [ju_156_45, r_iLD1, r_iCONST, r_IC0, r_aLD0, r_gR, cl_27, r_IF1, r_iRET, r_gI, r_IF0, cl_147, cl_148, cl_55, r_bPUSH, r_IC5, cl_154, r_IC1, cl_136, r_GOTO, cl_155, eq_self, Int.reduceLT, Int.reduceLE, Int.reduceEq, true_or, or_true, and_self, true_and, and_true, w8_0, w8_1, w8_2, w8_3, w8_4, nl_I, nl_P, nl_X, pu_I, pu_J, pu_V]
            exact this
        · rw [if_neg e3] at hq0
          rw [if_neg (by omega)]
          exact hq0
  simp only [ju_156_0, r_iLD1, r_iCONST, r_IC0, r_aLD0, r_gR, cl_27, r_IF1, r_iRET, r_gI, r_IF0, cl_147, cl_148, cl_55, r_bPUSH, r_IC5, cl_154, r_IC1, cl_136, r_GOTO, cl_155, eq_self, Int.reduceLT, Int.reduceLE, Int.reduceEq, true_or, or_true, and_self, true_and, and_true, w8_0, w8_1, w8_2, w8_3, w8_4, nl_I, nl_P, nl_X, pu_I, pu_J, pu_V, kd_0, ln_0, rR_0_0, rR_0_1, rR_0_3, rR_0_4, rR_0_5, rR_0_6, rR_0_7, rR_0_8, rR_0_9, rR_0_10, kd_80, ln_80, rR_80_0, rR_80_1, rR_80_2, rR_80_3, kd_81, ln_81, rR_81_0, rR_81_1, rR_81_2, rR_81_3, rR_81_4, rR_81_5, s_hasThing kd_81, c3]
  by_cases e : t = -1
  · rw [if_pos e]
    exact key (Or.inl e)
  · rw [if_neg e]
    by_cases f : 0 ≤ t ∧ t < n
    · rw [if_pos (by simp [f])]
      exact key (Or.inr f)
    · rw [if_neg (by simp [f])]
      rw [if_neg (fun z => by rcases z.1 with q | q; exact e q; exact f q)] at hq0
      exact hq0
end PN
