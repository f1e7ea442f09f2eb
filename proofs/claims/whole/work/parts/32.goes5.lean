section GT
variable {h h' : am_F} {Q : am_V → am_S → Prop} {c bj so j st : Int} {n nb : Nat}
theorem fL_lt (h8 : n ≤ 8) : ∀ B : Nat, fL h c n so j B < 256 := by
  intro B
  induction B with
  | zero => simp [fL]
  | succ B ih =>
    rw [fL]
    refine Nat.or_lt_two_pow (n := 8) ih ?_
    have : (mC h c B n so j).2.2.2.2 < 256 := by
      unfold mC core
      split
      · simp
      · split
        · simp
        · exact fallN_lt (mS_lt h8)
    exact this
theorem GI_tk (h8 : n ≤ 8) {B : Nat} (hB : B ≤ 3) (ht : tk h c n) (hG : GI h h' c n so j st B) : tk h' c n := by
  intro t h1
  have e : ∀ wh : Int, 0 ≤ wh → wh ≤ 4 → h' c (18 + 6 * t + wh) = h c (18 + 6 * t + wh) := by
    intro wh w0 w1
    rcases hG.2.1 (18 + 6 * t + wh) with q | ⟨u, q1, q2⟩ | q
    · omega
    · omega
    · exact q
  rw [e 0 (by decide) (by decide), e 1 (by decide) (by decide), e 2 (by decide) (by decide)]
  exact ht t h1
theorem lp_goes (hk : kd c = 20) (hc : c ≠ 149) (hl : ln c = 238) (h8 : n ≤ 8) (hn : h c 1 = (n : Int)) (hnb : h c 0 = (nb : Int)) (hnb3 : nb ≤ 3) (ht : tk h c n) (hbk : ∀ b : Nat, b < nb → bk h c b) (hj : 0 ≤ j ∧ j ≤ 7) (hst : h c 3 = st) (hs2 : 0 ≤ st ∧ st ≤ 100)
    (hq : ∀ h', GI h h' c n so j st nb → Q (aI (fL h c n so j nb : Int)) (sT (up h' c 3 (st + 1)))) : ∀ (k B : Nat) (h' : am_F) (v7 v8 v9 : am_V), B + k = nb → GI h h' c n so j st B → wp 125 (am_ju 125 35) [aP 149, aP c, aI bj, aI so, aI j, aI (fL h c n so j B : Int), aI (B : Int), v7, v8, v9] [] (sT h') Q := by
  intro k
  induction k with
  | zero =>
    intro B h' v7 v8 v9 hB hG
    have hB : B = nb := by omega
    subst hB
    have lo : ∀ k : Int, k < 6 → h' c k = h c k := fun k q => by
      rcases hG.2.1 k with z | ⟨u, z1, z2⟩ | z
      · omega
      · omega
      · exact z
    rw [ju_125_35]
    simp (disch := first | assumption | omega | exact w8_0 | exact w8_1 _ | exact w8_2 _ _ | exact w8_3 _ _ _ | exact w8_4 _ _ _ _ | exact nl_I _ | exact nl_P _ | exact nl_X | decide | exact w8_5 _ _ _ _ _) only [r_aLD1, r_bPUSH, r_iCONST, r_iALDc, r_iALDs, r_iADD, r_iST3, r_iLD3, r_IC1, r_GOTO, r_iLD2, r_iST4, r_aLD0, r_pZ, r_pI, r_iST5, r_iST6, r_iLD6, r_IC3, cl_45, r_IF0, cl_122, r_iLD4, cl_123, r_iST7, r_iLD7, r_IF2, cl_18, r_DUP2, r_iSHL, r_iOR, r_iASTc, cl_124, r_iST8, r_gI, r_iLD8, r_iLD5, r_iST9, r_iLD9, cl_25, cl_34, r_IINC9, r_IINC6, r_iRET, eq_self, Int.reduceLT, Int.reduceLE, Int.reduceEq, true_or, or_true, and_self, true_and, and_true, w8_0, w8_1, w8_2, w8_3, w8_4, nl_I, nl_P, nl_X, pu_I, pu_J, pu_V, w3_id, Int.add_zero, lo 0 (by decide), hnb]
    rw [if_pos (by omega), ju_125_127]
    simp (disch := first | assumption | omega | exact w8_0 | exact w8_1 _ | exact w8_2 _ _ | exact w8_3 _ _ _ | exact w8_4 _ _ _ _ | exact nl_I _ | exact nl_P _ | exact nl_X | decide | exact w8_5 _ _ _ _ _) only [r_aLD1, r_bPUSH, r_iCONST, r_iALDc, r_iALDs, r_iADD, r_iST3, r_iLD3, r_IC1, r_GOTO, r_iLD2, r_iST4, r_aLD0, r_pZ, r_pI, r_iST5, r_iST6, r_iLD6, r_IC3, cl_45, r_IF0, cl_122, r_iLD4, cl_123, r_iST7, r_iLD7, r_IF2, cl_18, r_DUP2, r_iSHL, r_iOR, r_iASTc, cl_124, r_iST8, r_gI, r_iLD8, r_iLD5, r_iST9, r_iLD9, cl_25, cl_34, r_IINC9, r_IINC6, r_iRET, eq_self, Int.reduceLT, Int.reduceLE, Int.reduceEq, true_or, or_true, and_self, true_and, and_true, w8_0, w8_1, w8_2, w8_3, w8_4, nl_I, nl_P, nl_X, pu_I, pu_J, pu_V, w3_id, Int.add_zero, r_DUP2, lo 3 (by decide), hst]
    exact hq h' hG
  | succ k ih =>
    intro B h' v7 v8 v9 hB hG
    have lo : ∀ k : Int, k < 6 → h' c k = h c k := fun k q => by
      rcases hG.2.1 k with z | ⟨u, z1, z2⟩ | z
      · omega
      · omega
      · exact z
    have rd := (GI_read h8 hs2.1 (by omega) hG).1
    have hbB := hbk B (by omega)
    have hb' : bk h' c B := by
      unfold bk
      rw [rd _ (by omega) (by omega), rd _ (by omega) (by omega), rd _ (by omega) (by omega), rd _ (by omega) (by omega)]
      exact hbB
    have hN := GI_step hc h8 hs2.1 (by omega) hbB hG
    have eC := (GI_mC h8 hs2.1 (by omega) hG).1
    refine st_bag hk hc hl h8 (by rw [lo 1 (by decide)]; exact hn) (nb := nb) (by rw [lo 0 (by decide)]; exact hnb) hnb3 (GI_tk h8 (by omega) ht hG) ⟨by omega, by omega⟩ hb' hj (by rw [lo 3 (by decide)]; exact hst) hs2 (fL_lt h8 B) (fun v7 v8 v9 => ?_)
    rw [eC]
    have := ih (B + 1) _ v7 v8 v9 (by omega) hN
    rw [fL] at this
    exact this
def h00 (h : am_F) : am_F := up (up h 149 13 0) 149 15 0
set_option maxHeartbeats 1000000 in
theorem s_goes (hk : kd c = 20) (hc : c ≠ 149) (hl : ln c = 238) (h8 : n ≤ 8) (hn : h c 1 = (n : Int)) (hnb : h c 0 = (nb : Int)) (hnb3 : nb ≤ 3) (ht : tk h c n) (hbk : ∀ b : Nat, b < nb → bk h c b) (hbj : 0 ≤ bj ∧ bj ≤ 7) (hst : h c 3 = st) (hs2 : 0 ≤ st ∧ st < 20) (hso : h c (66 + st) = so)
    (hq : ∀ h', GI (h00 h) h' c n so (jl so bj) st nb → Q (aI (fL (h00 h) c n so (jl so bj) nb : Int)) (sT (up h' c 3 (st + 1)))) : wp 125 (am_ju 125 0) [aP 149, aP c, aI bj, aX, aX, aX, aX, aX, aX, aX] [] (sT h) Q := by
  have e : h00 h c = h c := by unfold h00; rw [up_ne hc, up_ne hc]
  have key : ∀ j, j = jl so bj → wp 125 (am_ju 125 24) [aP 149, aP c, aI bj, aI so, aX, aX, aX, aX, aX, aX] [aI j] (sT h) Q := by
    intro j ej
    rw [ju_125_24]
    simp (disch := first | assumption | omega | exact w8_0 | exact w8_1 _ | exact w8_2 _ _ | exact w8_3 _ _ _ | exact w8_4 _ _ _ _ | exact nl_I _ | exact nl_P _ | exact nl_X | decide | exact w8_5 _ _ _ _ _) only [r_aLD1, r_bPUSH, r_iCONST, r_iALDc, r_iALDs, r_iADD, r_iST3, r_iLD3, r_IC1, r_GOTO, r_iLD2, r_iST4, r_aLD0, r_pZ, r_pI, r_iST5, r_iST6, r_iLD6, r_IC3, cl_45, r_IF0, cl_122, r_iLD4, cl_123, r_iST7, r_iLD7, r_IF2, cl_18, r_DUP2, r_iSHL, r_iOR, r_iASTc, cl_124, r_iST8, r_gI, r_iLD8, r_iLD5, r_iST9, r_iLD9, cl_25, cl_34, r_IINC9, r_IINC6, r_iRET, eq_self, Int.reduceLT, Int.reduceLE, Int.reduceEq, true_or, or_true, and_self, true_and, and_true, w8_0, w8_1, w8_2, w8_3, w8_4, nl_I, nl_P, nl_X, pu_I, pu_J, pu_V, w3_id, Int.add_zero, kd_149, r_pZ]
    subst ej
    refine lp_goes (h := h00 h) hk hc hl h8 (by rw [e]; exact hn) (by rw [e]; exact hnb) hnb3 ?_ ?_ (jl_r hbj) (by rw [e]; exact hst) ⟨hs2.1, by omega⟩ hq nb 0 (h00 h) aX aX aX (Nat.zero_add nb) GI_0
    · intro t h1; rw [e]; exact ht t h1
    · intro b h1
      have := hbk b h1
      unfold bk at this ⊢
      rw [e]; exact this
  rw [ju_125_0]
  simp (disch := first | assumption | omega | exact w8_0 | exact w8_1 _ | exact w8_2 _ _ | exact w8_3 _ _ _ | exact w8_4 _ _ _ _ | exact nl_I _ | exact nl_P _ | exact nl_X | decide | exact w8_5 _ _ _ _ _) only [r_aLD1, r_bPUSH, r_iCONST, r_iALDc, r_iALDs, r_iADD, r_iST3, r_iLD3, r_IC1, r_GOTO, r_iLD2, r_iST4, r_aLD0, r_pZ, r_pI, r_iST5, r_iST6, r_iLD6, r_IC3, cl_45, r_IF0, cl_122, r_iLD4, cl_123, r_iST7, r_iLD7, r_IF2, cl_18, r_DUP2, r_iSHL, r_iOR, r_iASTc, cl_124, r_iST8, r_gI, r_iLD8, r_iLD5, r_iST9, r_iLD9, cl_25, cl_34, r_IINC9, r_IINC6, r_iRET, eq_self, Int.reduceLT, Int.reduceLE, Int.reduceEq, true_or, or_true, and_self, true_and, and_true, w8_0, w8_1, w8_2, w8_3, w8_4, nl_I, nl_P, nl_X, pu_I, pu_J, pu_V, w3_id, Int.add_zero, hst, hso]
  by_cases h1 : so = 1
  · rw [if_neg (by simpa using h1)]
    exact key 2 (by simp [jl, h1])
  · rw [if_pos h1, ju_125_13]
    simp only [r_aLD1, r_bPUSH, r_iCONST, r_iALD, r_iALDs, r_iADD, r_iST3, r_iLD3, r_IC1, r_GOTO, r_iLD2, r_iST4, r_aLD0, r_pZ, r_pI, r_iST5, r_iST6, r_iLD6, r_IC3, cl_45, r_IF0, cl_122, r_iLD4, cl_123, r_iST7, r_iLD7, r_IF2, cl_18, r_DUP2, r_iSHL, r_iOR, r_iAST, cl_124, r_iST8, r_gI, r_iLD8, r_iLD5, r_iST9, r_iLD9, cl_25, cl_34, r_IINC9, r_IINC6, r_iRET, eq_self, Int.reduceLT, Int.reduceLE, Int.reduceEq, true_or, or_true, and_self, true_and, and_true, w8_0, w8_1, w8_2, w8_3, w8_4, nl_I, nl_P, nl_X, pu_I, pu_J, pu_V]
    by_cases h2 : so = 2
    · rw [if_neg (by simpa using h2)]
      exact key 3 (by simp [jl, h2])
    · rw [if_pos h2, ju_125_18]
      simp only [r_aLD1, r_bPUSH, r_iCONST, r_iALD, r_iALDs, r_iADD, r_iST3, r_iLD3, r_IC1, r_GOTO, r_iLD2, r_iST4, r_aLD0, r_pZ, r_pI, r_iST5, r_iST6, r_iLD6, r_IC3, cl_45, r_IF0, cl_122, r_iLD4, cl_123, r_iST7, r_iLD7, r_IF2, cl_18, r_DUP2, r_iSHL, r_iOR, r_iAST, cl_124, r_iST8, r_gI, r_iLD8, r_iLD5, r_iST9, r_iLD9, cl_25, cl_34, r_IINC9, r_IINC6, r_iRET, eq_self, Int.reduceLT, Int.reduceLE, Int.reduceEq, true_or, or_true, and_self, true_and, and_true, w8_0, w8_1, w8_2, w8_3, w8_4, nl_I, nl_P, nl_X, pu_I, pu_J, pu_V]
      by_cases h3 : so = 3
      · rw [if_neg (by simpa using h3)]
        exact key bj (by simp [jl, h3])
      · rw [if_pos h3, ju_125_23]
        simp only [r_aLD1, r_bPUSH, r_iCONST, r_iALD, r_iALDs, r_iADD, r_iST3, r_iLD3, r_IC1, r_GOTO, r_iLD2, r_iST4, r_aLD0, r_pZ, r_pI, r_iST5, r_iST6, r_iLD6, r_IC3, cl_45, r_IF0, cl_122, r_iLD4, cl_123, r_iST7, r_iLD7, r_IF2, cl_18, r_DUP2, r_iSHL, r_iOR, r_iAST, cl_124, r_iST8, r_gI, r_iLD8, r_iLD5, r_iST9, r_iLD9, cl_25, cl_34, r_IINC9, r_IINC6, r_iRET, eq_self, Int.reduceLT, Int.reduceLE, Int.reduceEq, true_or, or_true, and_self, true_and, and_true, w8_0, w8_1, w8_2, w8_3, w8_4, nl_I, nl_P, nl_X, pu_I, pu_J, pu_V]
        exact key 0 (by simp [jl, h1, h2, h3])
end GT
