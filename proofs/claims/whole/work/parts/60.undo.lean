/-! undo -/
def uB (h : am_F) (e : Int) (b : Nat) : am_F := fun a k => if a = 150 ∧ 6 ≤ k ∧ k < 6 + 4 * (b : Int) ∧ (k - 6) % 4 ≠ 0 then h 150 (e + 1 + (k - 6) % 4 + 3 * ((k - 6) / 4)) else h a k
def uW (h : am_F) (e : Int) (t : Nat) : am_F := fun a k => if a = 150 ∧ 23 ≤ k ∧ (k - 23) % 6 = 0 ∧ (k - 23) / 6 < (t : Int) then h 150 (e + 11 + (k - 23) / 6) else h a k
section UN
variable {h h' h1 h2 : am_F} {Q : am_V → am_S → Prop} {e v1 v2 v3 : Int} {n nb L s K nx b t : Nat}
theorem uB_ne {a : Int} (ha : a ≠ 150) : uB h e b a = h a := by funext k; unfold uB; rw [if_neg (fun z => ha z.1)]
theorem uW_ne {a : Int} (ha : a ≠ 150) : uW h e t a = h a := by funext k; unfold uW; rw [if_neg (fun z => ha z.1)]
theorem uB_hi {k : Int} (hb : b ≤ 3) (hk : k < 6 ∨ 18 ≤ k) : uB h e b 150 k = h 150 k := by unfold uB; rw [if_neg (by omega)]
theorem uW_hi {k : Int} (ht : t ≤ 8) (hk : k < 23 ∨ 66 ≤ k) : uW h e t 150 k = h 150 k := by unfold uW; rw [if_neg (by omega)]
theorem uB_at {c : Nat} {m : Int} (hm : 1 ≤ m ∧ m ≤ 3) : uB h e b 150 (6 + 4 * c + m) = if c < b then h 150 (e + 1 + m + 3 * c) else h 150 (6 + 4 * c + m) := by
  unfold uB
  have e1 : (6 + 4 * (c : Int) + m - 6) % 4 = m := by omega
  have e2 : (6 + 4 * (c : Int) + m - 6) / 4 = c := by omega
  rw [e1, e2]
  by_cases q : c < b
  · rw [if_pos q, if_pos ⟨rfl, by omega, by omega, by omega⟩]
  · rw [if_neg q, if_neg (fun z => q (by omega))]
theorem uB_k0 {c : Nat} : uB h e b 150 (6 + 4 * c) = h 150 (6 + 4 * c) := by unfold uB; rw [if_neg (by omega)]
theorem uW_at {c : Nat} : uW h e t 150 (18 + 6 * c + 5) = if c < t then h 150 (e + 11 + c) else h 150 (18 + 6 * c + 5) := by
  unfold uW
  have e1 : (18 + 6 * (c : Int) + 5 - 23) % 6 = 0 := by omega
  have e2 : (18 + 6 * (c : Int) + 5 - 23) / 6 = c := by omega
  rw [e1, e2]
  by_cases q : c < t
  · rw [if_pos q, if_pos ⟨rfl, by omega, by omega, by omega⟩]
  · rw [if_neg q, if_neg (fun z => q (by omega))]
theorem uW_off {c : Nat} {m : Int} (hm : 0 ≤ m ∧ m ≤ 4) : uW h e t 150 (18 + 6 * c + m) = h 150 (18 + 6 * c + m) := by unfold uW; rw [if_neg (by omega)]
theorem uB_s (w1 : v1 = h 150 (e + 2 + 3 * b)) (w2 : v2 = h 150 (e + 3 + 3 * b)) (w3' : v3 = h 150 (e + 4 + 3 * b)) : up (up (up (uB h e b) 150 (6 + 4 * b + 1) v1) 150 (6 + 4 * b + 2) v2) 150 (6 + 4 * b + 3) v3 = uB h e (b + 1) := by
  funext a k
  by_cases ha : a = 150
  · subst ha
    by_cases q3 : k = 6 + 4 * b + 3
    · subst q3; rw [up_s, uB_at (by omega), if_pos (by omega), w3']; congr 1; omega
    · rw [up_k q3]
      by_cases q2 : k = 6 + 4 * b + 2
      · subst q2; rw [up_s, uB_at (by omega), if_pos (by omega), w2]; congr 1; omega
      · rw [up_k q2]
        by_cases q1 : k = 6 + 4 * b + 1
        · subst q1; rw [up_s, uB_at (by omega), if_pos (by omega), w1]; congr 1; omega
        · rw [up_k q1]
          unfold uB
          by_cases z : (150 : Int) = 150 ∧ 6 ≤ k ∧ k < 6 + 4 * (b : Int) ∧ (k - 6) % 4 ≠ 0
          · rw [if_pos z, if_pos ⟨rfl, by omega, by omega, by omega⟩]
          · rw [if_neg z, if_neg (fun y => z ⟨rfl, y.2.1, by omega, y.2.2.2⟩)]
  · rw [up_ne ha, up_ne ha, up_ne ha, uB_ne ha, uB_ne ha]
theorem uW_s (w1 : v1 = h 150 (e + 11 + t)) : up (uW h e t) 150 (18 + 6 * t + 5) v1 = uW h e (t + 1) := by
  funext a k
  by_cases ha : a = 150
  · subst ha
    by_cases q3 : k = 18 + 6 * t + 5
    · subst q3; rw [up_s, uW_at, if_pos (by omega), w1]
    · rw [up_k q3]
      unfold uW
      by_cases z : (150 : Int) = 150 ∧ 23 ≤ k ∧ (k - 23) % 6 = 0 ∧ (k - 23) / 6 < (t : Int)
      · rw [if_pos z, if_pos ⟨rfl, by omega, by omega, by omega⟩]
      · rw [if_neg z, if_neg (fun y => z ⟨rfl, y.2.1, y.2.2.1, by omega⟩)]
  · rw [up_ne ha, uW_ne ha, uW_ne ha]
theorem lp_uB (he : 86 ≤ e ∧ e ≤ 219) : ∀ (k b : Nat), b + k = 3 → (wp 129 (am_ju 129 44) [aP 149, aI e, aI (b : Int)] [] (sT (uB h e b)) Q ↔ wp 129 (am_ju 129 100) [aP 149, aI e, aI 3] [] (sT (uB h e 3)) Q) := by
  intro k
  have l1 := ln_150
  have k1 := kd_150
  obtain ⟨he1, he2⟩ := he
  induction k with
  | zero =>
    intro b hb
    have hb : b = 3 := by omega
    subst hb
    rw [ju_129_44]
    simp only [r_aLD0, r_gR, r_iCONST, r_iALD, r_iALDs, r_IF1, r_bPUSH, r_iRET, r_DUP2, r_iSUB, r_iAST, r_iMUL, r_iADD, r_iST1, r_iLD1, r_iST2, r_iLD2, r_IC3, cl_18, r_IINC2, r_GOTO, cl_25, eq_self, Int.reduceLT, Int.reduceLE, Int.reduceEq, true_or, or_true, and_self, true_and, and_true, w8_0, w8_1, w8_2, w8_3, w8_4, nl_I, nl_P, nl_X, pu_I, pu_J, pu_V]
    rw [if_pos (by decide)]
    exact Iff.rfl
  | succ k ih =>
    intro b hb
    have b2 : (b : Int) < 3 := by omega
    have hw : w3 ((b : Int) + 1) = ((b + 1 : Nat) : Int) := w3_id (by omega) (by omega)
    rw [ju_129_44]
    simp (disch := first | assumption | omega | exact w8_0 | exact w8_1 _ | exact w8_2 _ _ | exact w8_3 _ _ _ | exact w8_4 _ _ _ _ | exact nl_I _ | exact nl_P _ | exact nl_X | decide | exact w8_5 _ _ _ _ _) only [r_aLD0, r_gR, r_iCONST, r_iALDc, r_iALDs, r_IF1, r_bPUSH, r_iRET, r_DUP2, r_iSUB, r_iASTc, r_iMUL, r_iADD, r_iST1, r_iLD1, r_iST2, r_iLD2, r_IC3, cl_18, r_IINC2, r_GOTO, cl_25, eq_self, Int.reduceLT, Int.reduceLE, Int.reduceEq, true_or, or_true, and_self, true_and, and_true, w8_0, w8_1, w8_2, w8_3, w8_4, nl_I, nl_P, nl_X, pu_I, pu_J, pu_V, w3_id, Int.add_zero, kd_149, rR_149_0, s_bagAt (b := (b : Int)) ⟨by omega, by omega⟩, hw]
    rw [if_neg (by omega), uB_s]
    · exact ih (b + 1) (by omega)
    · rw [uB_hi (by omega) (by omega)]
    · rw [up_k (by omega), uB_hi (by omega) (by omega)]
    · rw [up_k (by omega), up_k (by omega), uB_hi (by omega) (by omega)]
theorem lp_uW (he : 86 ≤ e ∧ e ≤ 219) : ∀ (k t : Nat), t + k = 8 → (wp 129 (am_ju 129 102) [aP 149, aI e, aI (t : Int)] [] (sT (uW h e t)) Q ↔ Q (aI (h 150 5)) (sT (uW h e 8))) := by
  intro k
  have l1 := ln_150
  have k1 := kd_150
  obtain ⟨he1, he2⟩ := he
  induction k with
  | zero =>
    intro t ht
    have ht : t = 8 := by omega
    subst ht
    rw [ju_129_102]
    simp (disch := first | assumption | omega | exact w8_0 | exact w8_1 _ | exact w8_2 _ _ | exact w8_3 _ _ _ | exact w8_4 _ _ _ _ | exact nl_I _ | exact nl_P _ | exact nl_X | decide | exact w8_5 _ _ _ _ _) only [ju_129_122, r_aLD0, r_gR, r_iCONST, r_iALDc, r_iALDs, r_IF1, r_bPUSH, r_iRET, r_DUP2, r_iSUB, r_iASTc, r_iMUL, r_iADD, r_iST1, r_iLD1, r_iST2, r_iLD2, r_IC3, cl_18, r_IINC2, r_GOTO, cl_25, eq_self, Int.reduceLT, Int.reduceLE, Int.reduceEq, true_or, or_true, and_self, true_and, and_true, w8_0, w8_1, w8_2, w8_3, w8_4, nl_I, nl_P, nl_X, pu_I, pu_J, pu_V, w3_id, Int.add_zero, kd_149, rR_149_0, uW_hi (h := h) (e := e) (t := 8) (k := 5) (by omega) (by omega)]
    rw [if_pos (by decide)]
  | succ k ih =>
    intro t ht
    have t2 : (t : Int) < 8 := by omega
    have hw : w3 ((t : Int) + 1) = ((t + 1 : Nat) : Int) := w3_id (by omega) (by omega)
    rw [ju_129_102]
    simp (disch := first | assumption | omega | exact w8_0 | exact w8_1 _ | exact w8_2 _ _ | exact w8_3 _ _ _ | exact w8_4 _ _ _ _ | exact nl_I _ | exact nl_P _ | exact nl_X | decide | exact w8_5 _ _ _ _ _) only [r_aLD0, r_gR, r_iCONST, r_iALDc, r_iALDs, r_IF1, r_bPUSH, r_iRET, r_DUP2, r_iSUB, r_iASTc, r_iMUL, r_iADD, r_iST1, r_iLD1, r_iST2, r_iLD2, r_IC3, cl_18, r_IINC2, r_GOTO, cl_25, eq_self, Int.reduceLT, Int.reduceLE, Int.reduceEq, true_or, or_true, and_self, true_and, and_true, w8_0, w8_1, w8_2, w8_3, w8_4, nl_I, nl_P, nl_X, pu_I, pu_J, pu_V, w3_id, Int.add_zero, kd_149, rR_149_0, s_thingAt (b := (t : Int)) ⟨by omega, by omega⟩, hw]
    rw [if_neg (by omega), uW_s]
    · exact ih (t + 1) (by omega)
    · rw [uW_hi (by omega) (by omega)]
/-- the row after undo -/
def rUn (h : am_F) (K : Nat) : am_F := uW (uB (up (up (up h 150 5 ((K - 1 : Nat) : Int)) 150 3 (h 150 (86 + 19 * ((K - 1 : Nat) : Int)))) 150 4 (h 150 (86 + 19 * ((K - 1 : Nat) : Int) + 1))) (86 + 19 * ((K - 1 : Nat) : Int)) 3) (86 + 19 * ((K - 1 : Nat) : Int)) 8
theorem s_Rundo (hK : h 150 5 = (K : Int)) (hK8 : K ≤ 8) : wp 129 (am_ju 129 0) [aP 149, aX, aX] [] (sT h) Q ↔ Q (aI (if K = 0 then -4 else ((K - 1 : Nat) : Int))) (sT (if K = 0 then h else rUn h K)) := by
  have l1 := ln_150
  have k1 := kd_150
  rw [ju_129_0]
  by_cases z : K = 0
  · subst z
    simp (disch := first | assumption | omega | exact w8_0 | exact w8_1 _ | exact w8_2 _ _ | exact w8_3 _ _ _ | exact w8_4 _ _ _ _ | exact nl_I _ | exact nl_P _ | exact nl_X | decide | exact w8_5 _ _ _ _ _) only [r_aLD0, r_gR, r_iCONST, r_iALDc, r_iALDs, r_IF1, r_bPUSH, r_iRET, r_DUP2, r_iSUB, r_iASTc, r_iMUL, r_iADD, r_iST1, r_iLD1, r_iST2, r_iLD2, r_IC3, cl_18, r_IINC2, r_GOTO, cl_25, eq_self, Int.reduceLT, Int.reduceLE, Int.reduceEq, true_or, or_true, and_self, true_and, and_true, w8_0, w8_1, w8_2, w8_3, w8_4, nl_I, nl_P, nl_X, pu_I, pu_J, pu_V, w3_id, Int.add_zero, kd_149, rR_149_0, hK]
    simp
  · have z' : ¬ ((K : Int) = 0) := by omega
    have e4 : (K : Int) - 1 = ((K - 1 : Nat) : Int) := by omega
    have hK7 : ((K - 1 : Nat) : Int) ≤ 7 := by omega
    rw [if_neg z, if_neg z]
    unfold rUn
    generalize hp : ((K - 1 : Nat) : Int) = p at *
    have p0 : 0 ≤ p := by omega
    have a1 : up h 150 5 p 150 5 = p := up_s
    have a2 : up h 150 5 p 150 (86 + 19 * p) = h 150 (86 + 19 * p) := up_k (by omega)
    have a3 : ∀ v, up (up h 150 5 p) 150 3 v 150 (86 + 19 * p + 1) = h 150 (86 + 19 * p + 1) := fun v => by rw [up_k (by omega), up_k (by omega)]
    simp (disch := first | assumption | omega | exact w8_0 | exact w8_1 _ | exact w8_2 _ _ | exact w8_3 _ _ _ | exact w8_4 _ _ _ _ | exact nl_I _ | exact nl_P _ | exact nl_X | decide | exact w8_5 _ _ _ _ _) only [r_aLD0, r_gR, r_iCONST, r_iALDc, r_iALDs, r_IF1, r_bPUSH, r_iRET, r_DUP2, r_iSUB, r_iASTc, r_iMUL, r_iADD, r_iST1, r_iLD1, r_iST2, r_iLD2, r_IC3, cl_18, r_IINC2, r_GOTO, cl_25, eq_self, Int.reduceLT, Int.reduceLE, Int.reduceEq, true_or, or_true, and_self, true_and, and_true, w8_0, w8_1, w8_2, w8_3, w8_4, nl_I, nl_P, nl_X, pu_I, pu_J, pu_V, w3_id, Int.add_zero, kd_149, rR_149_0, hK, z', if_true, not_false_eq_true, ju_129_7, r_DUP2, e4, a1, a2, a3]
    generalize hg : up (up (up h 150 5 p) 150 3 (h 150 (86 + 19 * p))) 150 4 (h 150 (86 + 19 * p + 1)) = g
    have g5 : g 150 5 = p := by rw [← hg, up_k (by decide), up_k (by decide), up_s]
    have q1 := lp_uB (h := g) (Q := Q) (e := 86 + 19 * p) ⟨by omega, by omega⟩ 3 0 rfl
    have u0 : uB g (86 + 19 * p) 0 = g := by funext a k; unfold uB; rw [if_neg (by omega)]
    rw [u0] at q1
    refine Iff.trans q1 ?_
    rw [ju_129_100]
    simp only [r_aLD0, r_gR, r_iCONST, r_iALD, r_iALDs, r_IF1, r_bPUSH, r_iRET, r_DUP2, r_iSUB, r_iAST, r_iMUL, r_iADD, r_iST1, r_iLD1, r_iST2, r_iLD2, r_IC3, cl_18, r_IINC2, r_GOTO, cl_25, eq_self, Int.reduceLT, Int.reduceLE, Int.reduceEq, true_or, or_true, and_self, true_and, and_true, w8_0, w8_1, w8_2, w8_3, w8_4, nl_I, nl_P, nl_X, pu_I, pu_J, pu_V]
    have q2 := lp_uW (h := uB g (86 + 19 * p) 3) (Q := Q) (e := 86 + 19 * p) ⟨by omega, by omega⟩ 8 0 rfl
    have w0 : uW (uB g (86 + 19 * p) 3) (86 + 19 * p) 0 = uB g (86 + 19 * p) 3 := by funext a k; unfold uW; rw [if_neg (by omega)]
    rw [w0, uB_hi (by omega) (by omega), g5] at q2
    exact q2
theorem s_Tundo (hn : h 95 1 = (nx : Int)) (h8 : nx < 8) (hK : h 95 2 = (K : Int)) (hK8 : K ≤ 8) : wp 128 (am_ju 128 0) [aP 0] [] (sT h) Q ↔ Q (aI (if K = 0 then -4 else ((K - 1 : Nat) : Int))) (sT (if K = 0 then h else mTk (up (up h 95 1 (((nx + 7) % 8 : Nat) : Int)) 95 2 ((K - 1 : Nat) : Int)) 90 (97 + 5 * (((nx + 7) % 8 : Nat) : Int)))) := by
  by_cases z : K = 0
  · subst z
    simp only [ju_128_0, ju_128_7, r_aLD0, r_gR, r_gI, r_IF1, r_bPUSH, r_iRET, cl_127, eq_self, Int.reduceLT, Int.reduceLE, Int.reduceEq, true_or, or_true, and_self, true_and, and_true, w8_0, w8_1, w8_2, w8_3, w8_4, nl_I, nl_P, nl_X, pu_I, pu_J, pu_V, kd_0, ln_0, rR_0_0, rR_0_1, rR_0_3, rR_0_4, rR_0_5, rR_0_6, rR_0_7, rR_0_8, rR_0_9, rR_0_10, kd_80, ln_80, rR_80_0, rR_80_1, rR_80_2, rR_80_3, kd_95, ln_95, rR_95_0, hK]
    simp
  · have z' : ¬ ((K : Int) = 0) := by omega
    rw [if_neg z, if_neg z]
    simp only [ju_128_0, ju_128_7, r_aLD0, r_gR, r_gI, r_IF1, r_bPUSH, r_iRET, cl_127, eq_self, Int.reduceLT, Int.reduceLE, Int.reduceEq, true_or, or_true, and_self, true_and, and_true, w8_0, w8_1, w8_2, w8_3, w8_4, nl_I, nl_P, nl_X, pu_I, pu_J, pu_V, kd_0, ln_0, rR_0_0, rR_0_1, rR_0_3, rR_0_4, rR_0_5, rR_0_6, rR_0_7, rR_0_8, rR_0_9, rR_0_10, kd_80, ln_80, rR_80_0, rR_80_1, rR_80_2, rR_80_3, kd_95, ln_95, rR_95_0, kd_90, ln_90, rR_90_0, rR_90_1, rR_90_2, rR_90_3, hK, z', if_true, not_false_eq_true, s_back hn h8 hK hK8 z]
    have hp : (nx + 7) % 8 < 8 := Nat.mod_lt _ (by decide)
    rw [(mTk_o (by omega)).2.2.2.2 95 (by omega), up_s]
end UN
