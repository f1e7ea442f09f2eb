section AE
variable {h h' : am_F} {Q : am_V → am_S → Prop} {v1 v2 v3 v4 v5 : Int} {n nb L s : Nat}
/-- what a thing may be -/
abbrev okT (v1 v2 v3 v4 v5 : Int) : Prop := (1 ≤ v1 ∧ v1 ≤ 30) ∧ (0 ≤ v2 ∧ v2 < 6) ∧ (0 ≤ v3 ∧ v3 < 6) ∧ (0 ≤ v4 ∧ v4 < 100) ∧ 0 ≤ v5 ∧ v5 < 2
theorem s_Tthing (hn : h 81 7 = (n : Int)) (h8 : n ≤ 8) : wp 24 (am_ju 24 0) [aP 0, aI v1, aI v2, aI v3, aI v4, aI v5] [] (sT h) Q ↔ Q (aI (if okT v1 v2 v3 v4 v5 then (if n = 8 then -3 else (n : Int)) else -1)) (sT (if okT v1 v2 v3 v4 v5 ∧ n ≠ 8 then up (gAT (up h 94 n 3) n v1 v2 v3 v4 v5) 95 2 0 else h)) := by
  simp only [ju_24_0, ju_24_14, ju_24_16, ju_24_24, r_iLD1, r_iCONST, r_IC2, r_bPUSH, r_IC4, r_iLD2, cl_12, r_IF0, r_iLD3, r_IF1, r_iRET, r_iLD4, r_iLD5, r_aLD0, r_gR, r_gI, cl_23, r_iSUB, eq_self, Int.reduceLT, Int.reduceLE, Int.reduceEq, true_or, or_true, and_self, true_and, and_true, w8_0, w8_1, w8_2, w8_3, w8_4, nl_I, nl_P, nl_X, pu_I, pu_J, pu_V, s_isBelow]
  by_cases f1 : 1 ≤ v1
  · by_cases f1' : v1 ≤ 30
    · by_cases f2 : 0 ≤ v2 ∧ v2 < 6
      · by_cases f3 : 0 ≤ v3 ∧ v3 < 6
        · by_cases f4 : 0 ≤ v4 ∧ v4 < 100
          · by_cases f5 : 0 ≤ v5 ∧ v5 < 2
            · have ok : okT v1 v2 v3 v4 v5 := ⟨⟨f1, f1'⟩, f2, f3, f4, f5⟩
              rw [if_neg (show ¬ v1 < 1 by omega), if_neg (show ¬ 30 < v1 by omega), if_pos ok]
              by_cases e : n = 8
              · rw [if_pos e, if_neg (show ¬ (okT v1 v2 v3 v4 v5 ∧ n ≠ 8) from fun z => z.2 e)]
                simp only [f2, f3, f4, f5, and_self, true_and, if_true, Int.reduceEq, not_false_eq_true, not_true_eq_false, if_false, ju_24_26, r_iLD1, r_iCONST, r_IC2, r_bPUSH, r_IC4, r_iLD2, cl_12, r_IF0, r_iLD3, r_IF1, r_iRET, r_iLD4, r_iLD5, r_aLD0, r_gR, r_gI, cl_23, r_iSUB, eq_self, Int.reduceLT, Int.reduceLE, Int.reduceEq, true_or, or_true, and_self, true_and, and_true, w8_0, w8_1, w8_2, w8_3, w8_4, nl_I, nl_P, nl_X, pu_I, pu_J, pu_V, kd_0, ln_0, rR_0_0, rR_0_1, rR_0_3, rR_0_4, rR_0_5, rR_0_6, rR_0_7, rR_0_8, rR_0_9, rR_0_10, kd_80, ln_80, rR_80_0, rR_80_1, rR_80_2, rR_80_3, kd_81, ln_81, rR_81_0, rR_81_1, rR_81_2, rR_81_3, rR_81_4, rR_81_5, hn]
                rw [if_neg (by omega)]
              · have e6 : up (gAT (up h 94 n 3) n v1 v2 v3 v4 v5) 95 2 0 81 7 = (n : Int) + 1 := by unfold gAT; rw [up_ne (by decide), up_s]
                rw [if_neg e, if_pos (show okT v1 v2 v3 v4 v5 ∧ n ≠ 8 from ⟨ok, e⟩)]
                simp only [f2, f3, f4, f5, and_self, true_and, if_true, Int.reduceEq, not_false_eq_true, not_true_eq_false, if_false, ju_24_26, r_iLD1, r_iCONST, r_IC2, r_bPUSH, r_IC4, r_iLD2, cl_12, r_IF0, r_iLD3, r_IF1, r_iRET, r_iLD4, r_iLD5, r_aLD0, r_gR, r_gI, cl_23, r_iSUB, eq_self, Int.reduceLT, Int.reduceLE, Int.reduceEq, true_or, or_true, and_self, true_and, and_true, w8_0, w8_1, w8_2, w8_3, w8_4, nl_I, nl_P, nl_X, pu_I, pu_J, pu_V, kd_0, ln_0, rR_0_0, rR_0_1, rR_0_3, rR_0_4, rR_0_5, rR_0_6, rR_0_7, rR_0_8, rR_0_9, rR_0_10, kd_80, ln_80, rR_80_0, rR_80_1, rR_80_2, rR_80_3, kd_81, ln_81, rR_81_0, rR_81_1, rR_81_2, rR_81_3, rR_81_4, rR_81_5, hn]
                rw [if_pos (by omega)]
                simp only [ju_24_34, r_iLD1, r_iCONST, r_IC2, r_bPUSH, r_IC4, r_iLD2, cl_12, r_IF0, r_iLD3, r_IF1, r_iRET, r_iLD4, r_iLD5, r_aLD0, r_gR, r_gI, cl_23, r_iSUB, eq_self, Int.reduceLT, Int.reduceLE, Int.reduceEq, true_or, or_true, and_self, true_and, and_true, w8_0, w8_1, w8_2, w8_3, w8_4, nl_I, nl_P, nl_X, pu_I, pu_J, pu_V, kd_0, ln_0, rR_0_0, rR_0_1, rR_0_3, rR_0_4, rR_0_5, rR_0_6, rR_0_7, rR_0_8, rR_0_9, rR_0_10, kd_80, ln_80, rR_80_0, rR_80_1, rR_80_2, rR_80_3, kd_81, ln_81, rR_81_0, rR_81_1, rR_81_2, rR_81_3, rR_81_4, rR_81_5, s_waddThing hn (show n < 8 by omega), e6]
                rw [w3_id (by omega) (by omega), show (n : Int) + 1 - 1 = n by omega]
            · have ok : ¬ okT v1 v2 v3 v4 v5 := fun z => f5 z.2.2.2.2
              rw [if_neg ok, if_neg (show ¬ (okT v1 v2 v3 v4 v5 ∧ n ≠ 8) from fun z => ok z.1)]
              simp [f2, f3, f4, f5]
          · have ok : ¬ okT v1 v2 v3 v4 v5 := fun z => f4 z.2.2.2.1
            rw [if_neg ok, if_neg (show ¬ (okT v1 v2 v3 v4 v5 ∧ n ≠ 8) from fun z => ok z.1)]
            simp [f2, f3, f4]
        · have ok : ¬ okT v1 v2 v3 v4 v5 := fun z => f3 z.2.2.1
          rw [if_neg ok, if_neg (show ¬ (okT v1 v2 v3 v4 v5 ∧ n ≠ 8) from fun z => ok z.1)]
          simp [f2, f3]
      · have ok : ¬ okT v1 v2 v3 v4 v5 := fun z => f2 z.2.1
        rw [if_neg ok, if_neg (show ¬ (okT v1 v2 v3 v4 v5 ∧ n ≠ 8) from fun z => ok z.1)]
        simp [f2]
    · have ok : ¬ okT v1 v2 v3 v4 v5 := fun z => f1' z.1.2
      rw [if_neg ok, if_neg (show ¬ (okT v1 v2 v3 v4 v5 ∧ n ≠ 8) from fun z => ok z.1)]
      simp [show 30 < v1 by omega]
  · have ok : ¬ okT v1 v2 v3 v4 v5 := fun z => f1 z.1.1
    rw [if_neg ok, if_neg (show ¬ (okT v1 v2 v3 v4 v5 ∧ n ≠ 8) from fun z => ok z.1)]
    simp [show v1 < 1 by omega]
/-- the row after a thing was added -/
def rAT (h : am_F) (n : Nat) (v1 v2 v3 v4 v5 : Int) : am_F := up (up (up (up (up (up (up (up h 150 (18 + 6 * n + 0) v1) 150 (18 + 6 * n + 1) v2) 150 (18 + 6 * n + 2) v3) 150 (18 + 6 * n + 3) v4) 150 (18 + 6 * n + 4) v5) 150 (18 + 6 * n + 5) 3) 150 1 (n + 1)) 150 5 0
theorem s_Rthing (hn : h 150 1 = (n : Int)) (h8 : n ≤ 8) : wp 26 (am_ju 26 0) [aP 149, aI v1, aI v2, aI v3, aI v4, aI v5, aX] [] (sT h) Q ↔ Q (aI (if okT v1 v2 v3 v4 v5 then (if n = 8 then -3 else (n : Int)) else -1)) (sT (if okT v1 v2 v3 v4 v5 ∧ n ≠ 8 then rAT h n v1 v2 v3 v4 v5 else h)) := by
  have l1 := ln_150
  have k1 := kd_150
  simp only [ju_26_0, ju_26_25, r_iLD1, r_iCONST, r_bPUSH, cl_17, r_IF0, r_iLD2, r_iLD3, r_iLD4, r_iLD5, r_IF1, r_iRET, r_aLD0, r_gR, r_iALD, r_iALDs, r_IC1, cl_25, r_iST6, r_iLD6, r_iADD, r_iAST, r_DUP2, r_iSUB, eq_self, Int.reduceLT, Int.reduceLE, Int.reduceEq, true_or, or_true, and_self, true_and, and_true, w8_0, w8_1, w8_2, w8_3, w8_4, nl_I, nl_P, nl_X, pu_I, pu_J, pu_V, s_in]
  by_cases f1 : 1 ≤ v1 ∧ v1 ≤ 30
  · by_cases f2 : 0 ≤ v2 ∧ v2 ≤ 5
    · by_cases f3 : 0 ≤ v3 ∧ v3 ≤ 5
      · by_cases f4 : 0 ≤ v4 ∧ v4 ≤ 99
        · by_cases f5 : 0 ≤ v5 ∧ v5 ≤ 1
          · have ok : okT v1 v2 v3 v4 v5 := ⟨f1, ⟨f2.1, by omega⟩, ⟨f3.1, by omega⟩, ⟨f4.1, by omega⟩, f5.1, by omega⟩
            rw [if_pos ok]
            by_cases e : n = 8
            · rw [if_pos e, if_neg (show ¬ (okT v1 v2 v3 v4 v5 ∧ n ≠ 8) from fun z => z.2 e)]
              simp only [f1, f2, f3, f4, f5, and_self, if_true, Int.reduceEq, not_false_eq_true, not_true_eq_false, if_false, ju_26_27, r_iLD1, r_iCONST, r_bPUSH, cl_17, r_IF0, r_iLD2, r_iLD3, r_iLD4, r_iLD5, r_IF1, r_iRET, r_aLD0, r_gR, r_iALD, r_iALDs, r_IC1, cl_25, r_iST6, r_iLD6, r_iADD, r_iAST, r_DUP2, r_iSUB, eq_self, Int.reduceLT, Int.reduceLE, Int.reduceEq, true_or, or_true, and_self, true_and, and_true, w8_0, w8_1, w8_2, w8_3, w8_4, nl_I, nl_P, nl_X, pu_I, pu_J, pu_V, kd_149, ln_149, rR_149_0, rR_149_1, rR_149_2, rR_149_3, rR_149_5, rR_149_7, rR_149_8, rR_149_9, rR_149_10, rR_149_16, rR_149_17, rR_149_18, kd_150, ln_150, hn]
              rw [if_neg (by omega)]
            · have hb : (n : Int) < 8 := by omega
              have e0 : w3 (18 + 6 * (n : Int) + 0) = 18 + 6 * (n : Int) + 0 := w3_id (by omega) (by omega)
              have e1 : up (up (up (up (up (up h 150 (18 + 6 * n + 0) v1) 150 (18 + 6 * n + 1) v2) 150 (18 + 6 * n + 2) v3) 150 (18 + 6 * n + 3) v4) 150 (18 + 6 * n + 4) v5) 150 (18 + 6 * n + 5) 3 150 1 = (n : Int) := by
                rw [up_k (by omega), up_k (by omega), up_k (by omega), up_k (by omega), up_k (by omega), up_k (by omega), hn]
              have e1' : up (up (up (up (up (up h 150 (18 + 6 * n) v1) 150 (18 + 6 * n + 1) v2) 150 (18 + 6 * n + 2) v3) 150 (18 + 6 * n + 3) v4) 150 (18 + 6 * n + 4) v5) 150 (18 + 6 * n + 5) 3 150 1 = (n : Int) := by
                rw [up_k (by omega), up_k (by omega), up_k (by omega), up_k (by omega), up_k (by omega), up_k (by omega), hn]
              have e2 : rAT h n v1 v2 v3 v4 v5 150 1 = (n : Int) + 1 := by unfold rAT; rw [up_k (by decide), up_s]
              unfold rAT at e2
              simp only [Int.add_zero] at e2
              rw [if_neg e, if_pos (show okT v1 v2 v3 v4 v5 ∧ n ≠ 8 from ⟨ok, e⟩)]
              simp only [f1, f2, f3, f4, f5, and_self, if_true, Int.reduceEq, not_false_eq_true, not_true_eq_false, if_false, ju_26_27, r_iLD1, r_iCONST, r_bPUSH, cl_17, r_IF0, r_iLD2, r_iLD3, r_iLD4, r_iLD5, r_IF1, r_iRET, r_aLD0, r_gR, r_iALD, r_iALDs, r_IC1, cl_25, r_iST6, r_iLD6, r_iADD, r_iAST, r_DUP2, r_iSUB, eq_self, Int.reduceLT, Int.reduceLE, Int.reduceEq, true_or, or_true, and_self, true_and, and_true, w8_0, w8_1, w8_2, w8_3, w8_4, nl_I, nl_P, nl_X, pu_I, pu_J, pu_V, kd_149, ln_149, rR_149_0, rR_149_1, rR_149_2, rR_149_3, rR_149_5, rR_149_7, rR_149_8, rR_149_9, rR_149_10, rR_149_16, rR_149_17, rR_149_18, kd_150, ln_150, hn]
              rw [if_pos (by omega)]
              simp (disch := first | assumption | omega | exact w8_0 | exact w8_1 _ | exact w8_2 _ _ | exact w8_3 _ _ _ | exact w8_4 _ _ _ _ | exact nl_I _ | exact nl_P _ | exact nl_X | decide | exact w8_5 _ _ _ _ _) only [ju_26_35, r_iLD1, r_iCONST, r_bPUSH, cl_17, r_IF0, r_iLD2, r_iLD3, r_iLD4, r_iLD5, r_IF1, r_iRET, r_aLD0, r_gR, r_iALDc, r_iALDs, r_IC1, cl_25, r_iST6, r_iLD6, r_iADD, r_iASTc, r_DUP2, r_iSUB, eq_self, Int.reduceLT, Int.reduceLE, Int.reduceEq, true_or, or_true, and_self, true_and, and_true, w8_0, w8_1, w8_2, w8_3, w8_4, nl_I, nl_P, nl_X, pu_I, pu_J, pu_V, w3_id, Int.add_zero, r_DUP2, kd_149, rR_149_0, s_thingAt (h := h) (b := (n : Int)) ⟨by omega, by omega⟩, hn, e1, e1', e2]
              rw [show (n : Int) + 1 - 1 = n by omega]
              unfold rAT
              simp only [Int.add_zero, true_and]
          · have ok : ¬ okT v1 v2 v3 v4 v5 := fun z => f5 ⟨z.2.2.2.2.1, by have := z.2.2.2.2.2; omega⟩
            rw [if_neg ok, if_neg (show ¬ (okT v1 v2 v3 v4 v5 ∧ n ≠ 8) from fun z => ok z.1)]
            simp [f1, f2, f3, f4, f5]
        · have ok : ¬ okT v1 v2 v3 v4 v5 := fun z => f4 ⟨z.2.2.2.1.1, by have := z.2.2.2.1.2; omega⟩
          rw [if_neg ok, if_neg (show ¬ (okT v1 v2 v3 v4 v5 ∧ n ≠ 8) from fun z => ok z.1)]
          simp [f1, f2, f3, f4]
      · have ok : ¬ okT v1 v2 v3 v4 v5 := fun z => f3 ⟨z.2.2.1.1, by have := z.2.2.1.2; omega⟩
        rw [if_neg ok, if_neg (show ¬ (okT v1 v2 v3 v4 v5 ∧ n ≠ 8) from fun z => ok z.1)]
        simp [f1, f2, f3]
    · have ok : ¬ okT v1 v2 v3 v4 v5 := fun z => f2 ⟨z.2.1.1, by have := z.2.1.2; omega⟩
      rw [if_neg ok, if_neg (show ¬ (okT v1 v2 v3 v4 v5 ∧ n ≠ 8) from fun z => ok z.1)]
      simp [f1, f2]
  · have ok : ¬ okT v1 v2 v3 v4 v5 := fun z => f1 z.1
    rw [if_neg ok, if_neg (show ¬ (okT v1 v2 v3 v4 v5 ∧ n ≠ 8) from fun z => ok z.1)]
    simp [f1]
end AE
