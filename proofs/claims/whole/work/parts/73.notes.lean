/-! the draw, and what is noted ahead of a step -/
def dr (d : Int) : Int := (d * 1103515245 + 12345) % 2147483648
def dj (d : Int) : Int := dr d / 65536 % 8
theorem w3_m31 (y : Int) : w3 y % 2147483648 = y % 2147483648 := by
  unfold w3
  rw [Int32.toInt_ofInt]
  show (y.bmod 4294967296) % 2147483648 = _
  rw [Int.bmod_def]; split <;> omega
theorem bAnd_m31 (x : Int) : bAnd x 2147483647 = x % 2147483648 := by
  unfold bAnd
  show (Int32.ofInt x &&& Int32.ofInt 2147483647).toBitVec.toInt = _
  rw [Int32.toBitVec_and]
  have e1 : (Int32.ofInt 2147483647).toBitVec = 2147483647#32 := by decide
  have e2 : (Int32.ofInt x).toBitVec = BitVec.ofInt 32 x := rfl
  have e3 : ((BitVec.ofInt 32 x) &&& 2147483647#32).toNat = (BitVec.ofInt 32 x).toNat % 2147483648 := by
    rw [BitVec.toNat_and]
    exact Nat.and_two_pow_sub_one_eq_mod _ 31
  have e4 : ((BitVec.ofInt 32 x).toNat : Int) = x % 4294967296 := by
    rw [BitVec.toNat_ofInt]
    have : 0 ≤ x % ((2 ^ 32 : Nat) : Int) := Int.emod_nonneg _ (by decide)
    rw [Int.toNat_of_nonneg this]
    rfl
  rw [e1, e2, BitVec.toInt_eq_toNat_of_lt (by rw [e3]; omega), e3]
  omega
theorem lAnd_m31 (x : Int) : lAnd x 2147483647 = x % 2147483648 := by
  unfold lAnd
  show (Int64.ofInt x &&& Int64.ofInt 2147483647).toBitVec.toInt = _
  rw [Int64.toBitVec_and]
  have e1 : (Int64.ofInt 2147483647).toBitVec = 2147483647#64 := by decide
  have e2 : (Int64.ofInt x).toBitVec = BitVec.ofInt 64 x := rfl
  have e3 : ((BitVec.ofInt 64 x) &&& 2147483647#64).toNat = (BitVec.ofInt 64 x).toNat % 2147483648 := by
    rw [BitVec.toNat_and]
    exact Nat.and_two_pow_sub_one_eq_mod _ 31
  have e4 : ((BitVec.ofInt 64 x).toNat : Int) = x % 18446744073709551616 := by
    rw [BitVec.toNat_ofInt]
    have : 0 ≤ x % ((2 ^ 64 : Nat) : Int) := Int.emod_nonneg _ (by decide)
    rw [Int.toNat_of_nonneg this]
    rfl
  rw [e1, e2, BitVec.toInt_eq_toNat_of_lt (by rw [e3]; omega), e3]
  omega
theorem dr_r (d : Int) : 0 ≤ dr d ∧ dr d < 2147483648 := by unfold dr; omega
theorem dj_r (d : Int) : 0 ≤ dj d ∧ dj d ≤ 7 := by unfold dj; omega
theorem dr_c (d : Int) : bAnd (w3 (w3 (d * 1103515245) + 12345)) 2147483647 = dr d := by
  rw [bAnd_m31, w3_m31]
  have := w3_m31 (d * 1103515245)
  unfold dr
  omega
theorem dr_l {d : Int} (h0 : 0 ≤ d) (h1 : d < 2147483648) : (Int64.ofInt (lAnd (w6 (w6 (w3 d * 1103515245) + 12345)) 2147483647)).toInt32.toInt = dr d := by
  have hr := dr_r d
  rw [w3_id (by omega) (by omega), w6_id (x := d * 1103515245) (by omega) (by omega), w6_id (by omega) (by omega), lAnd_m31]
  show (Int64.ofInt (dr d)).toInt32.toInt = _
  rw [lti_ok (w6_id (by omega) (by omega)), Int.bmod_def]
  split <;> omega
theorem dj_c (d : Int) : iRm (iDv (dr d) 65536) 8 = dj d := by
  have hr := dr_r d
  rw [iDv_n (by omega) (by omega) (by omega) (by omega), iRm_n (by omega) (by omega) (by omega) (by omega)]
  rfl
def nSh (h : am_F) (j : Nat) : am_F := fun a k => if a = 150 ∧ 86 ≤ k ∧ k < (j : Int) then h 150 (k + 19) else h a k
def nB (h : am_F) (e : Int) (b : Nat) : am_F := fun a k => if a = 150 ∧ e + 2 ≤ k ∧ k < e + 2 + 3 * (b : Int) then h 150 (6 + 4 * ((k - e - 2) / 3) + 1 + (k - e - 2) % 3) else h a k
def nW (h : am_F) (e : Int) (t : Nat) : am_F := fun a k => if a = 150 ∧ e + 11 ≤ k ∧ k < e + 11 + (t : Int) then h 150 (18 + 6 * (k - e - 11) + 5) else h a k
section NT
variable {g h h' h1 h2 : am_F} {Q : am_V → am_S → Prop} {e v1 v2 v3 : Int} {n nb L s K nx b t j : Nat}
theorem nSh_ne {a : Int} (ha : a ≠ 150) : nSh h j a = h a := by funext k; unfold nSh; rw [if_neg (fun z => ha z.1)]
theorem nB_ne {a : Int} (ha : a ≠ 150) : nB h e b a = h a := by funext k; unfold nB; rw [if_neg (fun z => ha z.1)]
theorem nW_ne {a : Int} (ha : a ≠ 150) : nW h e t a = h a := by funext k; unfold nW; rw [if_neg (fun z => ha z.1)]
theorem nSh_k {k : Int} : nSh h j 150 k = if 86 ≤ k ∧ k < (j : Int) then h 150 (k + 19) else h 150 k := by
  unfold nSh
  by_cases z : 86 ≤ k ∧ k < (j : Int)
  · rw [if_pos ⟨rfl, z⟩, if_pos z]
  · rw [if_neg (fun q => z q.2), if_neg z]
theorem nB_out {k : Int} (hk : k < e + 2 ∨ e + 2 + 3 * (b : Int) ≤ k) : nB h e b 150 k = h 150 k := by unfold nB; rw [if_neg (by omega)]
theorem nW_out {k : Int} (hk : k < e + 11 ∨ e + 11 + (t : Int) ≤ k) : nW h e t 150 k = h 150 k := by unfold nW; rw [if_neg (by omega)]
theorem nB_at {c : Nat} {m : Int} (hm : 0 ≤ m ∧ m ≤ 2) (hc : c < b) : nB h e b 150 (e + 2 + m + 3 * c) = h 150 (6 + 4 * c + 1 + m) := by
  unfold nB
  have e1 : (e + 2 + m + 3 * (c : Int) - e - 2) % 3 = m := by omega
  have e2 : (e + 2 + m + 3 * (c : Int) - e - 2) / 3 = c := by omega
  rw [e1, e2, if_pos ⟨rfl, by omega, by omega⟩]
theorem nW_at {c : Nat} (hc : c < t) : nW h e t 150 (e + 11 + c) = h 150 (18 + 6 * c + 5) := by
  unfold nW
  rw [if_pos ⟨rfl, by omega, by omega⟩]
  congr 1; omega
theorem nSh_s (hj : 86 ≤ j) : up (nSh h j) 150 j (nSh h j 150 ((j : Int) + 19)) = nSh h (j + 1) := by
  funext a k
  by_cases ha : a = 150
  · subst ha
    by_cases q : k = (j : Int)
    · subst q
      rw [up_s, nSh_k, if_neg (by omega), nSh_k, if_pos (by omega)]
    · rw [up_k q, nSh_k, nSh_k]
      by_cases z : 86 ≤ k ∧ k < (j : Int)
      · rw [if_pos z, if_pos (by omega)]
      · rw [if_neg z, if_neg (by omega)]
  · rw [up_ne ha, nSh_ne ha, nSh_ne ha]
theorem nB_s (w1 : v1 = h 150 (6 + 4 * b + 1)) (w2 : v2 = h 150 (6 + 4 * b + 2)) (w3' : v3 = h 150 (6 + 4 * b + 3)) : up (up (up (nB h e b) 150 (e + 2 + 3 * b) v1) 150 (e + 3 + 3 * b) v2) 150 (e + 4 + 3 * b) v3 = nB h e (b + 1) := by
  have a0 := nB_at (h := h) (e := e) (b := b + 1) (c := b) (m := 0) (by omega) (by omega)
  have a1 := nB_at (h := h) (e := e) (b := b + 1) (c := b) (m := 1) (by omega) (by omega)
  have a2 := nB_at (h := h) (e := e) (b := b + 1) (c := b) (m := 2) (by omega) (by omega)
  rw [show e + 2 + 0 + 3 * (b : Int) = e + 2 + 3 * b by omega, show 6 + 4 * (b : Int) + 1 + 0 = 6 + 4 * b + 1 by omega] at a0
  rw [show e + 2 + 1 + 3 * (b : Int) = e + 3 + 3 * b by omega, show 6 + 4 * (b : Int) + 1 + 1 = 6 + 4 * b + 2 by omega] at a1
  rw [show e + 2 + 2 + 3 * (b : Int) = e + 4 + 3 * b by omega, show 6 + 4 * (b : Int) + 1 + 2 = 6 + 4 * b + 3 by omega] at a2
  funext a k
  by_cases ha : a = 150
  · subst ha
    by_cases q3 : k = e + 4 + 3 * b
    · subst q3; rw [up_s, w3', a2]
    · rw [up_k q3]
      by_cases q2 : k = e + 3 + 3 * b
      · subst q2; rw [up_s, w2, a1]
      · rw [up_k q2]
        by_cases q1 : k = e + 2 + 3 * b
        · subst q1; rw [up_s, w1, a0]
        · rw [up_k q1]
          unfold nB
          by_cases z : (150 : Int) = 150 ∧ e + 2 ≤ k ∧ k < e + 2 + 3 * (b : Int)
          · rw [if_pos z, if_pos ⟨rfl, by omega, by omega⟩]
          · rw [if_neg z, if_neg (fun y => z ⟨rfl, y.2.1, by omega⟩)]
  · rw [up_ne ha, up_ne ha, up_ne ha, nB_ne ha, nB_ne ha]
theorem nW_s (w1 : v1 = h 150 (18 + 6 * t + 5)) : up (nW h e t) 150 (e + 11 + t) v1 = nW h e (t + 1) := by
  funext a k
  by_cases ha : a = 150
  · subst ha
    by_cases q3 : k = e + 11 + t
    · subst q3; rw [up_s, nW_at (by omega), w1]
    · rw [up_k q3]
      unfold nW
      by_cases z : (150 : Int) = 150 ∧ e + 11 ≤ k ∧ k < e + 11 + (t : Int)
      · rw [if_pos z, if_pos ⟨rfl, by omega, by omega⟩]
      · rw [if_neg z, if_neg (fun y => z ⟨rfl, y.2.1, by omega⟩)]
  · rw [up_ne ha, nW_ne ha, nW_ne ha]
theorem lp_nSh {v : am_V} : ∀ (k j : Nat), j + k = 219 → 86 ≤ j → (wp 120 (am_ju 120 8) [aP 149, aI (j : Int), v] [] (sT (nSh h j)) Q ↔ wp 120 (am_ju 120 23) [aP 149, aI 219, v] [] (sT (nSh h 219)) Q) := by
  intro k
  have l1 := ln_150
  have k1 := kd_150
  induction k with
  | zero =>
    intro j hj h86
    have hj : j = 219 := by omega
    subst hj
    rw [ju_120_8]
    simp only [r_aLD0, r_gR, r_iCONST, r_iALD, r_iALDs, r_bPUSH, r_IC1, r_iST1, r_iLD1, r_sPUSH, r_IC3, r_iADD, r_iAST, r_IINC1, r_GOTO, r_DUP2, r_iSUB, r_iMUL, r_iST2, r_iLD2, cl_18, r_IINC2, cl_25, r_vRET, eq_self, Int.reduceLT, Int.reduceLE, Int.reduceEq, true_or, or_true, and_self, true_and, and_true, w8_0, w8_1, w8_2, w8_3, w8_4, nl_I, nl_P, nl_X, pu_I, pu_J, pu_V]
    rw [if_pos (by decide)]
    exact Iff.rfl
  | succ k ih =>
    intro j hj h86
    have hw : w3 ((j : Int) + 1) = ((j + 1 : Nat) : Int) := w3_id (by omega) (by omega)
    rw [ju_120_8]
    simp (disch := first | assumption | omega | exact w8_0 | exact w8_1 _ | exact w8_2 _ _ | exact w8_3 _ _ _ | exact w8_4 _ _ _ _ | exact nl_I _ | exact nl_P _ | exact nl_X | decide | exact w8_5 _ _ _ _ _) only [r_aLD0, r_gR, r_iCONST, r_iALDc, r_iALDs, r_bPUSH, r_IC1, r_iST1, r_iLD1, r_sPUSH, r_IC3, r_iADD, r_iASTc, r_IINC1, r_GOTO, r_DUP2, r_iSUB, r_iMUL, r_iST2, r_iLD2, cl_18, r_IINC2, cl_25, r_vRET, eq_self, Int.reduceLT, Int.reduceLE, Int.reduceEq, true_or, or_true, and_self, true_and, and_true, w8_0, w8_1, w8_2, w8_3, w8_4, nl_I, nl_P, nl_X, pu_I, pu_J, pu_V, w3_id, Int.add_zero, kd_149, rR_149_0, hw]
    rw [if_neg (by omega), nSh_s h86]
    exact ih (j + 1) (by omega) (by omega)
theorem lp_nB (he : 86 ≤ e ∧ e ≤ 219) : ∀ (k b : Nat), b + k = 3 → (wp 120 (am_ju 120 60) [aP 149, aI e, aI (b : Int)] [] (sT (nB h e b)) Q ↔ wp 120 (am_ju 120 116) [aP 149, aI e, aI 3] [] (sT (nB h e 3)) Q) := by
  intro k
  have l1 := ln_150
  have k1 := kd_150
  obtain ⟨he1, he2⟩ := he
  induction k with
  | zero =>
    intro b hb
    have hb : b = 3 := by omega
    subst hb
    rw [ju_120_60]
    simp only [r_aLD0, r_gR, r_iCONST, r_iALD, r_iALDs, r_bPUSH, r_IC1, r_iST1, r_iLD1, r_sPUSH, r_IC3, r_iADD, r_iAST, r_IINC1, r_GOTO, r_DUP2, r_iSUB, r_iMUL, r_iST2, r_iLD2, cl_18, r_IINC2, cl_25, r_vRET, eq_self, Int.reduceLT, Int.reduceLE, Int.reduceEq, true_or, or_true, and_self, true_and, and_true, w8_0, w8_1, w8_2, w8_3, w8_4, nl_I, nl_P, nl_X, pu_I, pu_J, pu_V]
    rw [if_pos (by decide)]
    exact Iff.rfl
  | succ k ih =>
    intro b hb
    have b2 : (b : Int) < 3 := by omega
    have hw : w3 ((b : Int) + 1) = ((b + 1 : Nat) : Int) := w3_id (by omega) (by omega)
    rw [ju_120_60]
    simp (disch := first | assumption | omega | exact w8_0 | exact w8_1 _ | exact w8_2 _ _ | exact w8_3 _ _ _ | exact w8_4 _ _ _ _ | exact nl_I _ | exact nl_P _ | exact nl_X | decide | exact w8_5 _ _ _ _ _) only [r_aLD0, r_gR, r_iCONST, r_iALDc, r_iALDs, r_bPUSH, r_IC1, r_iST1, r_iLD1, r_sPUSH, r_IC3, r_iADD, r_iASTc, r_IINC1, r_GOTO, r_DUP2, r_iSUB, r_iMUL, r_iST2, r_iLD2, cl_18, r_IINC2, cl_25, r_vRET, eq_self, Int.reduceLT, Int.reduceLE, Int.reduceEq, true_or, or_true, and_self, true_and, and_true, w8_0, w8_1, w8_2, w8_3, w8_4, nl_I, nl_P, nl_X, pu_I, pu_J, pu_V, w3_id, Int.add_zero, kd_149, rR_149_0, s_bagAt (b := (b : Int)) ⟨by omega, by omega⟩, hw]
    rw [if_neg (by omega), nB_s]
    · exact ih (b + 1) (by omega)
    · rw [nB_out (by omega)]
    · rw [up_k (by omega), nB_out (by omega)]
    · rw [up_k (by omega), up_k (by omega), nB_out (by omega)]
theorem lp_nW (he : 86 ≤ e ∧ e ≤ 219) : ∀ (k t : Nat), t + k = 8 → (wp 120 (am_ju 120 118) [aP 149, aI e, aI (t : Int)] [] (sT (nW h e t)) Q ↔ wp 120 (am_ju 120 138) [aP 149, aI e, aI 8] [] (sT (nW h e 8)) Q) := by
  intro k
  have l1 := ln_150
  have k1 := kd_150
  obtain ⟨he1, he2⟩ := he
  induction k with
  | zero =>
    intro t ht
    have ht : t = 8 := by omega
    subst ht
    rw [ju_120_118]
    simp only [r_aLD0, r_gR, r_iCONST, r_iALD, r_iALDs, r_bPUSH, r_IC1, r_iST1, r_iLD1, r_sPUSH, r_IC3, r_iADD, r_iAST, r_IINC1, r_GOTO, r_DUP2, r_iSUB, r_iMUL, r_iST2, r_iLD2, cl_18, r_IINC2, cl_25, r_vRET, eq_self, Int.reduceLT, Int.reduceLE, Int.reduceEq, true_or, or_true, and_self, true_and, and_true, w8_0, w8_1, w8_2, w8_3, w8_4, nl_I, nl_P, nl_X, pu_I, pu_J, pu_V]
    rw [if_pos (by decide)]
    exact Iff.rfl
  | succ k ih =>
    intro t ht
    have t2 : (t : Int) < 8 := by omega
    have hw : w3 ((t : Int) + 1) = ((t + 1 : Nat) : Int) := w3_id (by omega) (by omega)
    rw [ju_120_118]
    simp (disch := first | assumption | omega | exact w8_0 | exact w8_1 _ | exact w8_2 _ _ | exact w8_3 _ _ _ | exact w8_4 _ _ _ _ | exact nl_I _ | exact nl_P _ | exact nl_X | decide | exact w8_5 _ _ _ _ _) only [r_aLD0, r_gR, r_iCONST, r_iALDc, r_iALDs, r_bPUSH, r_IC1, r_iST1, r_iLD1, r_sPUSH, r_IC3, r_iADD, r_iASTc, r_IINC1, r_GOTO, r_DUP2, r_iSUB, r_iMUL, r_iST2, r_iLD2, cl_18, r_IINC2, cl_25, r_vRET, eq_self, Int.reduceLT, Int.reduceLE, Int.reduceEq, true_or, or_true, and_self, true_and, and_true, w8_0, w8_1, w8_2, w8_3, w8_4, nl_I, nl_P, nl_X, pu_I, pu_J, pu_V, w3_id, Int.add_zero, kd_149, rR_149_0, s_thingAt (b := (t : Int)) ⟨by omega, by omega⟩, hw]
    rw [if_neg (by omega), nW_s]
    · exact ih (t + 1) (by omega)
    · rw [nW_out (by omega)]
/-- the entry is written at e, by K before it -/
def nE (h : am_F) (K : Nat) : am_F := up (nW (nB (up (up h 150 (86 + 19 * (K : Int)) (h 150 3)) 150 (86 + 19 * (K : Int) + 1) (h 150 4)) (86 + 19 * (K : Int)) 3) (86 + 19 * (K : Int)) 8) 150 5 ((K + 1 : Nat) : Int)
theorem notes31 (hK : h 150 5 = (K : Int)) (hK7 : K ≤ 7) {v1 v2 : am_V} (hv : am_nl v1 = true) : wp 120 (am_ju 120 31) [aP 149, v1, v2] [] (sT h) Q ↔ Q aV (sT (nE h K)) := by
  have l1 := ln_150
  have k1 := kd_150
  have hK7' : (K : Int) ≤ 7 := by omega
  have a1 : up h 150 (86 + 19 * (K : Int)) (h 150 3) 150 4 = h 150 4 := up_k (by omega)
  rw [ju_120_31]
  simp (disch := first | assumption | omega | exact w8_0 | exact w8_1 _ | exact w8_2 _ _ | exact w8_3 _ _ _ | exact w8_4 _ _ _ _ | exact nl_I _ | exact nl_P _ | exact nl_X | decide | exact w8_5 _ _ _ _ _) only [r_aLD0, r_gR, r_iCONST, r_iALDc, r_iALDs, r_bPUSH, r_IC1, r_iST1, r_iLD1, r_sPUSH, r_IC3, r_iADD, r_iASTc, r_IINC1, r_GOTO, r_DUP2, r_iSUB, r_iMUL, r_iST2, r_iLD2, cl_18, r_IINC2, cl_25, r_vRET, eq_self, Int.reduceLT, Int.reduceLE, Int.reduceEq, true_or, or_true, and_self, true_and, and_true, w8_0, w8_1, w8_2, w8_3, w8_4, nl_I, nl_P, nl_X, pu_I, pu_J, pu_V, w3_id, Int.add_zero, kd_149, rR_149_0, hK, a1]
  unfold nE
  generalize hg : up (up h 150 (86 + 19 * (K : Int)) (h 150 3)) 150 (86 + 19 * (K : Int) + 1) (h 150 4) = g
  have g5 : g 150 5 = (K : Int) := by rw [← hg, up_k (by omega), up_k (by omega), hK]
  have q1 := lp_nB (h := g) (Q := Q) (e := 86 + 19 * (K : Int)) ⟨by omega, by omega⟩ 3 0 rfl
  have u0 : nB g (86 + 19 * (K : Int)) 0 = g := by funext a k; unfold nB; rw [if_neg (by omega)]
  rw [u0] at q1
  refine Iff.trans q1 ?_
  rw [ju_120_116]
  simp only [r_aLD0, r_gR, r_iCONST, r_iALD, r_iALDs, r_bPUSH, r_IC1, r_iST1, r_iLD1, r_sPUSH, r_IC3, r_iADD, r_iAST, r_IINC1, r_GOTO, r_DUP2, r_iSUB, r_iMUL, r_iST2, r_iLD2, cl_18, r_IINC2, cl_25, r_vRET, eq_self, Int.reduceLT, Int.reduceLE, Int.reduceEq, true_or, or_true, and_self, true_and, and_true, w8_0, w8_1, w8_2, w8_3, w8_4, nl_I, nl_P, nl_X, pu_I, pu_J, pu_V]
  have q2 := lp_nW (h := nB g (86 + 19 * (K : Int)) 3) (Q := Q) (e := 86 + 19 * (K : Int)) ⟨by omega, by omega⟩ 8 0 rfl
  have w0 : nW (nB g (86 + 19 * (K : Int)) 3) (86 + 19 * (K : Int)) 0 = nB g (86 + 19 * (K : Int)) 3 := by funext a k; unfold nW; rw [if_neg (by omega)]
  rw [w0] at q2
  refine Iff.trans q2 ?_
  have r5 : nW (nB g (86 + 19 * (K : Int)) 3) (86 + 19 * (K : Int)) 8 150 5 = (K : Int) := by rw [nW_out (by omega), nB_out (by omega), g5]
  have e4 : (K : Int) + 1 = ((K + 1 : Nat) : Int) := by omega
  rw [ju_120_138]
  simp (disch := first | assumption | omega | exact w8_0 | exact w8_1 _ | exact w8_2 _ _ | exact w8_3 _ _ _ | exact w8_4 _ _ _ _ | exact nl_I _ | exact nl_P _ | exact nl_X | decide | exact w8_5 _ _ _ _ _) only [r_aLD0, r_gR, r_iCONST, r_iALDc, r_iALDs, r_bPUSH, r_IC1, r_iST1, r_iLD1, r_sPUSH, r_IC3, r_iADD, r_iASTc, r_IINC1, r_GOTO, r_DUP2, r_iSUB, r_iMUL, r_iST2, r_iLD2, cl_18, r_IINC2, cl_25, r_vRET, eq_self, Int.reduceLT, Int.reduceLE, Int.reduceEq, true_or, or_true, and_self, true_and, and_true, w8_0, w8_1, w8_2, w8_3, w8_4, nl_I, nl_P, nl_X, pu_I, pu_J, pu_V, w3_id, Int.add_zero, r_DUP2, kd_149, rR_149_0, r5, e4]
/-- the row behind notes -/
def rNo (h : am_F) (K : Nat) : am_F := if K = 8 then nE (up (nSh h 219) 150 5 7) 7 else nE h K
theorem s_notes (hK : h 150 5 = (K : Int)) (hK8 : K ≤ 8) : wp 120 (am_ju 120 0) [aP 149, aX, aX] [] (sT h) Q ↔ Q aV (sT (rNo h K)) := by
  have l1 := ln_150
  have k1 := kd_150
  rw [ju_120_0]
  unfold rNo
  by_cases z : K = 8
  · subst z
    have n5 : nSh h 219 150 5 = 8 := by rw [nSh_k, if_neg (by omega), hK]; rfl
    simp (disch := first | assumption | omega | exact w8_0 | exact w8_1 _ | exact w8_2 _ _ | exact w8_3 _ _ _ | exact w8_4 _ _ _ _ | exact nl_I _ | exact nl_P _ | exact nl_X | decide | exact w8_5 _ _ _ _ _) only [r_aLD0, r_gR, r_iCONST, r_iALDc, r_iALDs, r_bPUSH, r_IC1, r_iST1, r_iLD1, r_sPUSH, r_IC3, r_iADD, r_iASTc, r_IINC1, r_GOTO, r_DUP2, r_iSUB, r_iMUL, r_iST2, r_iLD2, cl_18, r_IINC2, cl_25, r_vRET, eq_self, Int.reduceLT, Int.reduceLE, Int.reduceEq, true_or, or_true, and_self, true_and, and_true, w8_0, w8_1, w8_2, w8_3, w8_4, nl_I, nl_P, nl_X, pu_I, pu_J, pu_V, w3_id, Int.add_zero, kd_149, rR_149_0, hK, show ((8 : Nat) : Int) = 8 from rfl, not_true_eq_false, if_false, if_true]
    have q1 := lp_nSh (h := h) (Q := Q) (v := aX) 133 86 rfl (by decide)
    have u0 : nSh h 86 = h := by funext a k; unfold nSh; rw [if_neg (by omega)]
    rw [u0] at q1
    refine Iff.trans q1 ?_
    rw [ju_120_23]
    simp (disch := first | assumption | omega | exact w8_0 | exact w8_1 _ | exact w8_2 _ _ | exact w8_3 _ _ _ | exact w8_4 _ _ _ _ | exact nl_I _ | exact nl_P _ | exact nl_X | decide | exact w8_5 _ _ _ _ _) only [r_aLD0, r_gR, r_iCONST, r_iALDc, r_iALDs, r_bPUSH, r_IC1, r_iST1, r_iLD1, r_sPUSH, r_IC3, r_iADD, r_iASTc, r_IINC1, r_GOTO, r_DUP2, r_iSUB, r_iMUL, r_iST2, r_iLD2, cl_18, r_IINC2, cl_25, r_vRET, eq_self, Int.reduceLT, Int.reduceLE, Int.reduceEq, true_or, or_true, and_self, true_and, and_true, w8_0, w8_1, w8_2, w8_3, w8_4, nl_I, nl_P, nl_X, pu_I, pu_J, pu_V, w3_id, Int.add_zero, r_DUP2, kd_149, rR_149_0, n5]
    exact notes31 (K := 7) up_s (by decide) rfl
  · simp (disch := first | assumption | omega | exact w8_0 | exact w8_1 _ | exact w8_2 _ _ | exact w8_3 _ _ _ | exact w8_4 _ _ _ _ | exact nl_I _ | exact nl_P _ | exact nl_X | decide | exact w8_5 _ _ _ _ _) only [r_aLD0, r_gR, r_iCONST, r_iALDc, r_iALDs, r_bPUSH, r_IC1, r_iST1, r_iLD1, r_sPUSH, r_IC3, r_iADD, r_iASTc, r_IINC1, r_GOTO, r_DUP2, r_iSUB, r_iMUL, r_iST2, r_iLD2, cl_18, r_IINC2, cl_25, r_vRET, eq_self, Int.reduceLT, Int.reduceLE, Int.reduceEq, true_or, or_true, and_self, true_and, and_true, w8_0, w8_1, w8_2, w8_3, w8_4, nl_I, nl_P, nl_X, pu_I, pu_J, pu_V, w3_id, Int.add_zero, kd_149, rR_149_0, hK]
    rw [if_pos (by omega), if_neg z]
    exact notes31 hK (by omega) rfl
end NT
