/-- the step at which bag b, of kind k, gives first with the set S of things in it; 99: never -/
def gW (h : am_F) (L s : Nat) (bj k : Int) (b S : Nat) : Int := if S = 0 then 99 else fgv h k (h 93 b).toNat S bj (L - s) s (h 91 b) (h 92 b)
def mL (L : Nat) (x : Int) : Int := if x = 99 then (L : Int) else x
def okm (L : Nat) (x : Int) : Prop := x = 99 ∨ (0 ≤ x ∧ x < L)
theorem mL_lt {L : Nat} {x y : Int} (hL : L ≤ 20) (hx : okm L x) (hy : okm L y) : mL L x < mL L y ↔ x < y := by
  unfold okm at hx hy
  unfold mL
  by_cases e : x = 99 <;> by_cases f : y = 99 <;> simp only [e, f, if_true, if_false] <;> omega
theorem mL_told {L : Nat} {x : Int} (hL : L ≤ 20) (hx : okm L x) : (if mL L x = (L : Int) then (-4 : Int) else mL L x) = told x := by
  unfold okm at hx
  unfold mL told
  by_cases e : x = 99
  · rw [if_pos e, if_pos rfl, if_pos e]
  · rw [if_neg e, if_neg (by omega), if_neg e]
theorem mL_99 {L : Nat} {x : Int} (hL : L ≤ 20) (hx : okm L x) : mL L x = (L : Int) ↔ x = 99 := by
  unfold okm at hx
  unfold mL
  by_cases e : x = 99
  · simp [e]
  · rw [if_neg e]; omega
section DB
variable {g h h' h1 h2 : am_F} {Q : am_V → am_S → Prop} {c d v x y i j m o p k bj dbl : Int} {n nb L s K nx b S : Nat}
theorem okm_min {f : Nat → Int} : ∀ B, (∀ b, b < B → okm L (f b)) → okm L (minB f B) := by
  intro B hB
  rcases minB_at f B with q | ⟨b, q1, q2⟩
  · exact Or.inl q
  · rw [q2]; exact hB b q1
theorem okm_bR (hs : s ≤ L) (hL : L ≤ 20) : okm L (bR g c n bj (L - s) s b) := by
  have h1 := bR_ge (h := g) (c := c) (n := n) (bj := bj) (m := L - s) (s := s) (b := b) (by omega)
  rcases bR_lt (h := g) (c := c) (n := n) (bj := bj) (m := L - s) (s := s) (b := b) with q | q
  · exact Or.inl q
  · right; omega
theorem okm_gW (hs : s ≤ L) (hL : L ≤ 20) : okm L (gW h L s bj k b S) := by
  unfold gW
  split
  · exact Or.inl rfl
  · rw [fgv_fg0]
    have h1 := fg0_ge (so := fun s => sortI h s) (k := k) (bj := bj) (W := sumS (h 83) S 8) (D := sumS (h 84) S 8) (E := sumS (h 85) S 8) (g := (h 93 b).toNat) (L - s) s (h 91 b) (h 92 b) (by omega)
    rcases fg0_lt (so := fun s => sortI h s) (k := k) (bj := bj) (W := sumS (h 83) S 8) (D := sumS (h 84) S 8) (E := sumS (h 85) S 8) (g := (h 93 b).toNat) (L - s) s (h 91 b) (h 92 b) with q | q
    · exact Or.inl q
    · right; omega
/-- a tried row's bag, by the class's cells -/
theorem bR_g (h8 : n ≤ 8) (hL : h 88 1 = (L : Int)) (hL2 : L ≤ 20) (hs : s ≤ L) (ht : ∀ t : Nat, t < n → g c (18 + 6 * t + 0) = h 83 t ∧ g c (18 + 6 * t + 1) = h 84 t ∧ g c (18 + 6 * t + 2) = h 85 t) (hw : ∀ i : Nat, i < L → g c (66 + i) = h 89 i) (hk : g c (6 + 4 * b) = k) (hb : g c (6 + 4 * b + 1) = h 91 b ∧ g c (6 + 4 * b + 2) = h 92 b ∧ g c (6 + 4 * b + 3) = h 93 b) (hS : mS g c b n = S) : bR g c n bj (L - s) s b = gW h L s bj k b S := by
  have key : ∀ (wh a : Int), (∀ t : Nat, t < n → g c (18 + 6 * t + wh) = h a t) → sumF (rW g c b wh) n = sumS (h a) S 8 := by
    intro wh a he
    unfold sumS
    rw [sumF_z h8]
    · refine sumF_c (fun t q => ?_)
      unfold rW
      rw [← hS, mS_bit, he t q]
      by_cases z : g c (18 + 6 * t + 5) = b
      · simp [z, q]
      · simp [z]
    · intro t q
      rw [← hS, mS_bit]
      simp [show ¬ t < n by omega]
  unfold bR gW
  rw [hS]
  split
  · rfl
  · rw [fgv_fg0, key 0 83 (fun t q => (ht t q).1), key 1 84 (fun t q => (ht t q).2.1), key 2 85 (fun t q => (ht t q).2.2), hk, hb.1, hb.2.1, hb.2.2]
    refine fg0_c (L - s) s _ _ (fun i hi => ?_)
    rw [hw i (by omega)]
    unfold sortI
    rw [if_pos ⟨by omega, by omega, by omega⟩]
theorem cR_gW {bd : Int} : cR h n L s bj bd b = gW h L s bj (if (b : Int) = bd then 1 else h 82 b) b (cS h b n) := rfl
/-- the last of the bags that makes it farther -/
def bdp (p : Nat → Prop) [DecidablePred p] (f : Nat → Int) (x0 : Int) : Nat → Int × Int
  | 0 => (-4, x0)
  | b + 1 => if p b ∧ (bdp p f x0 b).2 < f b then ((b : Int), f b) else bdp p f x0 b
theorem lp_bd (hC : CO h n nb L s) (hq : ∀ h', tR h h' → Q (aI (bdp (fun b => h 82 b = 0) (fun b => minB (cR h n L s 7 b) nb) (minB (cR h n L s 7 (-4)) nb) nb).1) (sT h')) : ∀ (k b : Nat) (g : am_F) (v : am_V), b + k = nb → tR h g → wp 161 (am_ju 161 9) [aP 137, aI (bdp (fun b => h 82 b = 0) (fun b => minB (cR h n L s 7 b) nb) (minB (cR h n L s 7 (-4)) nb) b).1, aI (bdp (fun b => h 82 b = 0) (fun b => minB (cR h n L s 7 b) nb) (minB (cR h n L s 7 (-4)) nb) b).2, aI (b : Int), v] [] (sT g) Q := by
  intro k
  have l1 := ln_82
  have k1 := kd_82
  obtain ⟨c1, c2, -⟩ := id hC
  induction k with
  | zero =>
    intro b g v hb ht
    have hb : b = nb := by omega
    subst hb
    have e : g 81 6 = (b : Int) := by rw [ht 81 (by decide)]; exact c1
    rw [ju_161_9]
    simp only [ju_161_37, r_bPUSH, r_iST1, r_aLD0, cl_135, r_iST2, r_iCONST, r_iST3, r_iLD3, r_gR, r_gI, r_IC3, r_iALD, r_iALDs, r_IF0, r_GOTO, r_iST4, r_iLD4, r_iLD2, r_IC5, r_IINC3, r_iLD1, r_iRET, eq_self, Int.reduceLT, Int.reduceLE, Int.reduceEq, true_or, or_true, and_self, true_and, and_true, w8_0, w8_1, w8_2, w8_3, w8_4, nl_I, nl_P, nl_X, pu_I, pu_J, pu_V, kd_137, ln_137, rR_137_0, rR_137_1, rR_137_2, rR_137_3, rR_137_4, rR_137_6, rR_137_7, rR_137_8, kd_80, ln_80, rR_80_0, rR_80_1, rR_80_2, rR_80_3, kd_81, ln_81, rR_81_0, rR_81_1, rR_81_2, rR_81_3, rR_81_4, rR_81_5, e]
    rw [if_pos (by omega)]
    exact hq g ht
  | succ k ih =>
    intro b g v hb ht
    have e : g 81 6 = (nb : Int) := by rw [ht 81 (by decide)]; exact c1
    have b0 : (0 : Int) ≤ b := by omega
    have b3 : (b : Int) < 3 := by omega
    have hw : w3 ((b : Int) + 1) = ((b + 1 : Nat) : Int) := w3_id (by omega) (by omega)
    have hd : bdp (fun b => h 82 b = 0) (fun b => minB (cR h n L s 7 b) nb) (minB (cR h n L s 7 (-4)) nb) (b + 1) = if h 82 b = 0 ∧ (bdp (fun b => h 82 b = 0) (fun b => minB (cR h n L s 7 b) nb) (minB (cR h n L s 7 (-4)) nb) b).2 < minB (cR h n L s 7 b) nb then ((b : Int), minB (cR h n L s 7 b) nb) else bdp (fun b => h 82 b = 0) (fun b => minB (cR h n L s 7 b) nb) (minB (cR h n L s 7 (-4)) nb) b := rfl
    have ih := fun g v => ih (b + 1) g v (by omega)
    rw [hd] at ih
    generalize bdp (fun b => h 82 b = 0) (fun b => minB (cR h n L s 7 b) nb) (minB (cR h n L s 7 (-4)) nb) b = z at ih ⊢
    rw [ju_161_9]
    simp (disch := first | assumption | omega | exact w8_0 | exact w8_1 _ | exact w8_2 _ _ | exact w8_3 _ _ _ | exact w8_4 _ _ _ _ | exact nl_I _ | exact nl_P _ | exact nl_X | decide | exact w8_5 _ _ _ _ _) only [r_bPUSH, r_iST1, r_aLD0, cl_135, r_iST2, r_iCONST, r_iST3, r_iLD3, r_gR, r_gI, r_IC3, r_iALDc, r_iALDs, r_IF0, r_GOTO, r_iST4, r_iLD4, r_iLD2, r_IC5, r_IINC3, r_iLD1, r_iRET, eq_self, Int.reduceLT, Int.reduceLE, Int.reduceEq, true_or, or_true, and_self, true_and, and_true, w8_0, w8_1, w8_2, w8_3, w8_4, nl_I, nl_P, nl_X, pu_I, pu_J, pu_V, w3_id, Int.add_zero, kd_137, kd_80, kd_81, rR_137_0, rR_80_0, rR_81_0, e, ht 82 (by decide)]
    rw [if_neg (by omega)]
    by_cases p : h 82 b = 0
    · rw [if_pos p, ju_161_23]
      simp only [r_bPUSH, r_iST1, r_aLD0, cl_135, r_iST2, r_iCONST, r_iST3, r_iLD3, r_gR, r_gI, r_IC3, r_iALD, r_iALDs, r_IF0, r_GOTO, r_iST4, r_iLD4, r_iLD2, r_IC5, r_IINC3, r_iLD1, r_iRET, eq_self, Int.reduceLT, Int.reduceLE, Int.reduceEq, true_or, or_true, and_self, true_and, and_true, w8_0, w8_1, w8_2, w8_3, w8_4, nl_I, nl_P, nl_X, pu_I, pu_J, pu_V, kd_137, ln_137, rR_137_0, rR_137_1, rR_137_2, rR_137_3, rR_137_4, rR_137_6, rR_137_7, rR_137_8]
      refine s_oFG (CO_t hC ht) ⟨by decide, by decide⟩ (fun g2 t2 => ?_)
      have t3 : tR h g2 := fun a ha => by rw [t2 a ha, ht a ha]
      have em : minB (cR g n L s 7 (b : Int)) nb = minB (cR h n L s 7 (b : Int)) nb := minB_eq (fun b' _ => by unfold cR; rw [cS_t ht, fgv_t ht, ht 82 (by decide), ht 91 (by decide), ht 92 (by decide), ht 93 (by decide)])
      rw [em]
      simp only [r_bPUSH, r_iST1, r_aLD0, cl_135, r_iST2, r_iCONST, r_iST3, r_iLD3, r_gR, r_gI, r_IC3, r_iALD, r_iALDs, r_IF0, r_GOTO, r_iST4, r_iLD4, r_iLD2, r_IC5, r_IINC3, r_iLD1, r_iRET, eq_self, Int.reduceLT, Int.reduceLE, Int.reduceEq, true_or, or_true, and_self, true_and, and_true, w8_0, w8_1, w8_2, w8_3, w8_4, nl_I, nl_P, nl_X, pu_I, pu_J, pu_V]
      by_cases q : minB (cR h n L s 7 (b : Int)) nb ≤ z.2
      · rw [if_pos q, ju_161_35]
        simp only [r_bPUSH, r_iST1, r_aLD0, cl_135, r_iST2, r_iCONST, r_iST3, r_iLD3, r_gR, r_gI, r_IC3, r_iALD, r_iALDs, r_IF0, r_GOTO, r_iST4, r_iLD4, r_iLD2, r_IC5, r_IINC3, r_iLD1, r_iRET, eq_self, Int.reduceLT, Int.reduceLE, Int.reduceEq, true_or, or_true, and_self, true_and, and_true, w8_0, w8_1, w8_2, w8_3, w8_4, nl_I, nl_P, nl_X, pu_I, pu_J, pu_V, hw]
        have := ih g2 (aI (minB (cR h n L s 7 (b : Int)) nb)) t3
        rw [if_neg (by omega)] at this
        exact this
      · rw [if_neg q, ju_161_35]
        simp only [r_bPUSH, r_iST1, r_aLD0, cl_135, r_iST2, r_iCONST, r_iST3, r_iLD3, r_gR, r_gI, r_IC3, r_iALD, r_iALDs, r_IF0, r_GOTO, r_iST4, r_iLD4, r_iLD2, r_IC5, r_IINC3, r_iLD1, r_iRET, eq_self, Int.reduceLT, Int.reduceLE, Int.reduceEq, true_or, or_true, and_self, true_and, and_true, w8_0, w8_1, w8_2, w8_3, w8_4, nl_I, nl_P, nl_X, pu_I, pu_J, pu_V, hw]
        have := ih g2 (aI (minB (cR h n L s 7 (b : Int)) nb)) t3
        rw [if_pos ⟨p, by omega⟩] at this
        exact this
    · rw [if_neg p, ju_161_35]
      simp only [r_bPUSH, r_iST1, r_aLD0, cl_135, r_iST2, r_iCONST, r_iST3, r_iLD3, r_gR, r_gI, r_IC3, r_iALD, r_iALDs, r_IF0, r_GOTO, r_iST4, r_iLD4, r_iLD2, r_IC5, r_IINC3, r_iLD1, r_iRET, eq_self, Int.reduceLT, Int.reduceLE, Int.reduceEq, true_or, or_true, and_self, true_and, and_true, w8_0, w8_1, w8_2, w8_3, w8_4, nl_I, nl_P, nl_X, pu_I, pu_J, pu_V, hw]
      have := ih g v ht
      rw [if_neg (fun y => p y.1)] at this
      exact this
theorem s_Tdoubled (hC : CO h n nb L s) (hq : ∀ h', tR h h' → Q (aI (bdp (fun b => h 82 b = 0) (fun b => minB (cR h n L s 7 b) nb) (minB (cR h n L s 7 (-4)) nb) nb).1) (sT h')) : wp 162 (am_ju 162 0) [aP 0] [] (sT h) Q := by
  simp only [ju_162_0, r_aLD0, r_gR, cl_161, r_iRET, eq_self, Int.reduceLT, Int.reduceLE, Int.reduceEq, true_or, or_true, and_self, true_and, and_true, w8_0, w8_1, w8_2, w8_3, w8_4, nl_I, nl_P, nl_X, pu_I, pu_J, pu_V, kd_0, ln_0, rR_0_0, rR_0_1, rR_0_3, rR_0_4, rR_0_5, rR_0_6, rR_0_7, rR_0_8, rR_0_9, rR_0_10, kd_137, ln_137, rR_137_0, rR_137_1, rR_137_2, rR_137_3, rR_137_4, rR_137_6, rR_137_7, rR_137_8]
  rw [ju_161_0]
  simp only [r_bPUSH, r_iST1, r_aLD0, cl_135, r_iST2, r_iCONST, r_iST3, r_iLD3, r_gR, r_gI, r_IC3, r_iALD, r_iALDs, r_IF0, r_GOTO, r_iST4, r_iLD4, r_iLD2, r_IC5, r_IINC3, r_iLD1, r_iRET, eq_self, Int.reduceLT, Int.reduceLE, Int.reduceEq, true_or, or_true, and_self, true_and, and_true, w8_0, w8_1, w8_2, w8_3, w8_4, nl_I, nl_P, nl_X, pu_I, pu_J, pu_V, kd_137]
  refine s_oFG hC ⟨by decide, by decide⟩ (fun g t => ?_)
  simp only [r_bPUSH, r_iST1, r_aLD0, cl_135, r_iST2, r_iCONST, r_iST3, r_iLD3, r_gR, r_gI, r_IC3, r_iALD, r_iALDs, r_IF0, r_GOTO, r_iST4, r_iLD4, r_iLD2, r_IC5, r_IINC3, r_iLD1, r_iRET, eq_self, Int.reduceLT, Int.reduceLE, Int.reduceEq, true_or, or_true, and_self, true_and, and_true, w8_0, w8_1, w8_2, w8_3, w8_4, nl_I, nl_P, nl_X, pu_I, pu_J, pu_V]
  refine lp_bd (Q := fun r st => wp 162 [iRET] [aP 0] (am_pu r []) st Q) hC (fun h' t' => ?_) nb 0 g aX (Nat.zero_add nb) t
  simp only [r_aLD0, r_gR, cl_161, r_iRET, eq_self, Int.reduceLT, Int.reduceLE, Int.reduceEq, true_or, or_true, and_self, true_and, and_true, w8_0, w8_1, w8_2, w8_3, w8_4, nl_I, nl_P, nl_X, pu_I, pu_J, pu_V]
  exact hq h' t'
end DB
