/-! shop: what is read is put down -/
section SR1
variable {h h' : am_F} {Q : am_V → am_S → Prop} {x y t b i pl j c d k v1 v2 v3 v4 v5 : Int} {n nb L s : Nat}
theorem s_rgBag (hb : h 63 6 = (nb : Int)) (h3 : nb < 3) : wp 14 (am_ju 14 0) [aP 63, aI k] [] (sT h) Q ↔ Q aV (sT (up (up h 64 nb k) 63 6 (nb + 1))) := by
  have l1 := ln_64
  have k1 := kd_64
  have b2 : (nb : Int) < 3 := by omega
  have e : up h 64 nb k 63 6 = (nb : Int) := by rw [up_ne (by decide), hb]
  simp (disch := first | assumption | omega | exact w8_0 | exact w8_1 _ | exact w8_2 _ _ | exact w8_3 _ _ _ | exact w8_4 _ _ _ _ | exact nl_I _ | exact nl_P _ | exact nl_X | decide | exact w8_5 _ _ _ _ _) only [ju_14_0, ju_14_5, r_aLD0, r_gI, r_iCONST, r_IC2, r_vRET, r_gR, r_iLD1, r_iASTc, r_DUPI, r_DUPP, r_iADD, r_pI, eq_self, Int.reduceLT, Int.reduceLE, Int.reduceEq, true_or, or_true, and_self, true_and, and_true, w8_0, w8_1, w8_2, w8_3, w8_4, nl_I, nl_P, nl_X, pu_I, pu_J, pu_V, w3_id, Int.add_zero, kd_63, rR_63_0, hb, b2, if_true, e]
/-- the row after a bag was added -/
def rDB (h : am_F) (nb : Nat) (k : Int) : am_F := up (up (up (up (up (up h 152 (6 + 4 * nb + 0) k) 152 (6 + 4 * nb + 1) 0) 152 (6 + 4 * nb + 2) 0) 152 (6 + 4 * nb + 3) 0) 152 0 (nb + 1)) 152 5 0
theorem s_RdBag (hb : h 152 0 = (nb : Int)) (h3 : nb < 3) : wp 19 (am_ju 19 0) [aP 152, aI k, aX] [] (sT h) Q ↔ Q aV (sT (rDB h nb k)) := by
  have l1 := ln_152
  have k1 := kd_152
  have b2 : (nb : Int) < 3 := by omega
  have e0 : w3 (6 + 4 * (nb : Int) + 0) = 6 + 4 * (nb : Int) + 0 := w3_id (by omega) (by omega)
  have e : up (up (up (up h 152 (6 + 4 * nb + 0) k) 152 (6 + 4 * nb + 1) 0) 152 (6 + 4 * nb + 2) 0) 152 (6 + 4 * nb + 3) 0 152 0 = (nb : Int) := by
    rw [up_k (by omega), up_k (by omega), up_k (by omega), up_k (by omega), hb]
  have e' : up (up (up (up h 152 (6 + 4 * nb) k) 152 (6 + 4 * nb + 1) 0) 152 (6 + 4 * nb + 2) 0) 152 (6 + 4 * nb + 3) 0 152 0 = (nb : Int) := by
    rw [up_k (by omega), up_k (by omega), up_k (by omega), up_k (by omega), hb]
  simp (disch := first | assumption | omega | exact w8_0 | exact w8_1 _ | exact w8_2 _ _ | exact w8_3 _ _ _ | exact w8_4 _ _ _ _ | exact nl_I _ | exact nl_P _ | exact nl_X | decide | exact w8_5 _ _ _ _ _) only [ju_19_0, r_aLD0, r_iCONST, r_iALDc, r_iALDs, cl_18, r_iST2, r_iLD2, r_iADD, r_iLD1, r_iASTc, r_DUP2, r_vRET, eq_self, Int.reduceLT, Int.reduceLE, Int.reduceEq, true_or, or_true, and_self, true_and, and_true, w8_0, w8_1, w8_2, w8_3, w8_4, nl_I, nl_P, nl_X, pu_I, pu_J, pu_V, w3_id, Int.add_zero, s_bagAt (h := h) (b := (nb : Int)) ⟨by omega, by omega⟩, hb, e, e']
  unfold rDB
  simp only [Int.add_zero]
/-- the goods after a thing was added -/
def rgT (h : am_F) (n : Nat) (v1 v2 v3 v4 v5 : Int) : am_F := up (up (up (up (up (up h 65 n v1) 66 n v2) 67 n v3) 68 n v4) 69 n v5) 63 7 (n + 1)
theorem s_rgThing (hn : h 63 7 = (n : Int)) (h8 : n < 8) : wp 22 (am_ju 22 0) [aP 63, aI v1, aI v2, aI v3, aI v4, aI v5] [] (sT h) Q ↔ Q aV (sT (rgT h n v1 v2 v3 v4 v5)) := by
  have l1 := ln_65
  have l2 := ln_66
  have l3 := ln_67
  have l4 := ln_68
  have l5 := ln_69
  have k1 := kd_65
  have k2 := kd_66
  have k3 := kd_67
  have k4 := kd_68
  have k5 := kd_69
  have b2 : (n : Int) < 8 := by omega
  have e1 : up h 65 n v1 63 7 = (n : Int) := by rw [up_ne (by decide), hn]
  have e2 : up (up h 65 n v1) 66 n v2 63 7 = (n : Int) := by rw [up_ne (by decide), e1]
  have e3 : up (up (up h 65 n v1) 66 n v2) 67 n v3 63 7 = (n : Int) := by rw [up_ne (by decide), e2]
  have e4 : up (up (up (up h 65 n v1) 66 n v2) 67 n v3) 68 n v4 63 7 = (n : Int) := by rw [up_ne (by decide), e3]
  have e5 : up (up (up (up (up h 65 n v1) 66 n v2) 67 n v3) 68 n v4) 69 n v5 63 7 = (n : Int) := by rw [up_ne (by decide), e4]
  simp (disch := first | assumption | omega | exact w8_0 | exact w8_1 _ | exact w8_2 _ _ | exact w8_3 _ _ _ | exact w8_4 _ _ _ _ | exact nl_I _ | exact nl_P _ | exact nl_X | decide | exact w8_5 _ _ _ _ _) only [ju_22_0, ju_22_5, r_aLD0, r_gI, r_bPUSH, r_IC2, r_vRET, r_gR, r_iLD1, r_iASTc, r_iLD2, r_iLD3, r_iLD4, r_iLD5, r_DUPI, r_DUPP, r_iCONST, r_iADD, r_pI, eq_self, Int.reduceLT, Int.reduceLE, Int.reduceEq, true_or, or_true, and_self, true_and, and_true, w8_0, w8_1, w8_2, w8_3, w8_4, nl_I, nl_P, nl_X, pu_I, pu_J, pu_V, w3_id, Int.add_zero, kd_63, rR_63_1, rR_63_2, rR_63_3, rR_63_4, rR_63_5, hn, b2, if_true, e1, e2, e3, e4, e5]
  rfl
end SR1
/-- the places of the bags' letters and what follows each -/
def bq (X : Nat → Int) (l : Nat) : Nat → Nat
  | 0 => sk X l 0
  | k + 1 => sk X l (sk X l (bq X l k + 1) + 1)
def bsp (X : Nat → Int) (l k : Nat) : Nat := sk X l (bq X l k + 1)
/-- the bags from the k-th on: whether they are right, how many, and the place behind them or of the fault -/
def bgF (X : Nat → Int) (l : Nat) : Nat → Nat → Bool × Nat × Nat
  | 0, k => (false, k, 0)
  | f + 1, k => if 0 ≤ kiW (nxl X l (bq X l k)) then (if nxl X l (bsp X l k) = 59 then (true, k + 1, bsp X l k + 1) else if nxl X l (bsp X l k) = 44 ∧ k ≠ 2 then bgF X l f (k + 1) else (false, k + 1, bsp X l k)) else (false, k, bq X l k)
