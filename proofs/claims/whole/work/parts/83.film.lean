/-! film -/
def FU (h : am_F) (n : Nat) (bj : Int) (s L B k : Nat) : Nat := if s ≤ k ∧ k < L then eU h n bj s (k - s) B else 0
/-- items from o on are what falls, cut to the lane -/
def itF (h g : am_F) (n nb s : Nat) (bj y c o : Int) (m : Nat) : am_F := fun a k => if a = c ∧ o ≤ k ∧ k < o + (m : Int) then ctL y (eU h n bj s (k - o).toNat nb : Int) else g a k
section FM
variable {g h h' h1 h2 u : am_F} {Q : am_V → am_S → Prop} {so j bj x y z i o c : Int} {n nb L s K nx b m k a q B : Nat}
theorem itF_ne {a : Int} (ha : a ≠ c) : itF h g n nb s bj y c o m a = g a := by funext k; unfold itF; rw [if_neg (fun z => ha z.1)]
theorem itF_0 : itF h g n nb s bj y c o 0 = g := by funext a k; unfold itF; rw [if_neg (by omega)]
theorem itF_k {k : Int} : itF h g n nb s bj y c o m c k = if o ≤ k ∧ k < o + (m : Int) then ctL y (eU h n bj s (k - o).toNat nb : Int) else g c k := by
  unfold itF
  by_cases e : o ≤ k ∧ k < o + (m : Int)
  · rw [if_pos e, if_pos ⟨rfl, e⟩]
  · rw [if_neg e, if_neg (fun z => e z.2)]
theorem itF_s : up (itF h g n nb s bj y c o m) c (o + m) (ctL y (eU h n bj s m nb : Int)) = itF h g n nb s bj y c o (m + 1) := by
  funext a k
  by_cases ha : a = c
  · subst ha
    by_cases q : k = o + m
    · subst q
      rw [up_s, itF_k, if_pos (by omega), show (o + (m : Int) - o).toNat = m by omega]
    · rw [up_k q, itF_k, itF_k]
      by_cases z : o ≤ k ∧ k < o + (m : Int)
      · rw [if_pos z, if_pos (by omega)]
      · rw [if_neg z, if_neg (by omega)]
  · rw [up_ne ha, itF_ne ha, itF_ne ha]
theorem eU_lt (hC : CO h n nb L s) : ∀ B, B ≤ nb → eU h n bj s m B < 256 := by
  intro B
  induction B with
  | zero => intro _; simp [eU]
  | succ B ih => intro hB; rw [eU]; exact Nat.or_lt_two_pow (n := 8) (ih (by omega)) (eF_lt hC (by omega))
theorem FU_lt (hC : CO h n nb L s) (hB : B ≤ nb) : ∀ k, FU h n bj s L B k < 256 := fun k => by
  unfold FU
  split
  · exact eU_lt hC B hB
  · decide
theorem fa_FU (hs : s ≤ L) : fa h n bj s B (FU h n bj s L B) (L - s) k = FU h n bj s L (B + 1) k := by
  unfold fa FU
  by_cases e : s ≤ k ∧ k < L
  · rw [if_pos (by omega), if_pos e, if_pos e, eU]
  · rw [if_neg (by omega), if_neg e, if_neg e]
theorem lp_findF (hC : CO h n nb L s) (hbj : 0 ≤ bj ∧ bj ≤ 7) (hq : ∀ g, oR h g → (∀ k : Nat, k < 20 → g 139 k = (FU h n bj s L nb k : Int)) → Q aV (sT g)) : ∀ (m B : Nat) (g : am_F), B + m = nb → oR h g → (∀ k : Nat, k < 20 → g 139 k = (FU h n bj s L B k : Int)) → wp 215 (am_ju 215 6) [aP 137, aI bj, aI (B : Int)] [] (sT g) Q := by
  intro m
  have hs := hC.2.2.2.2.2.2.2.1
  induction m with
  | zero =>
    intro B g hB hg hr
    have hB : B = nb := by omega
    subst hB
    have e : g 81 6 = (B : Int) := by rw [hg 81 (by decide) (by decide)]; exact hC.1
    rw [ju_215_6]
    simp only [ju_215_18, r_aLD0, r_gR, r_iCONST, cl_79, r_iST2, r_iLD2, r_gI, r_IC3, r_iLD1, cl_193, r_IINC2, r_GOTO, r_vRET, eq_self, Int.reduceLT, Int.reduceLE, Int.reduceEq, true_or, or_true, and_self, true_and, and_true, w8_0, w8_1, w8_2, w8_3, w8_4, nl_I, nl_P, nl_X, pu_I, pu_J, pu_V, kd_137, ln_137, rR_137_0, rR_137_1, rR_137_2, rR_137_3, rR_137_4, rR_137_6, rR_137_7, rR_137_8, kd_80, ln_80, rR_80_0, rR_80_1, rR_80_2, rR_80_3, kd_81, ln_81, rR_81_0, rR_81_1, rR_81_2, rR_81_3, rR_81_4, rR_81_5, e]
    rw [if_pos (by omega)]
    exact hq g hg hr
  | succ m ih =>
    intro B g hB hg hr
    have e : g 81 6 = (nb : Int) := by rw [hg 81 (by decide) (by decide)]; exact hC.1
    have hn3 := hC.2.1
    have hw : w3 ((B : Int) + 1) = ((B + 1 : Nat) : Int) := w3_id (by omega) (by omega)
    rw [ju_215_6]
    simp only [r_aLD0, r_gR, r_iCONST, cl_79, r_iST2, r_iLD2, r_gI, r_IC3, r_iLD1, cl_193, r_IINC2, r_GOTO, r_vRET, eq_self, Int.reduceLT, Int.reduceLE, Int.reduceEq, true_or, or_true, and_self, true_and, and_true, w8_0, w8_1, w8_2, w8_3, w8_4, nl_I, nl_P, nl_X, pu_I, pu_J, pu_V, kd_137, ln_137, rR_137_0, rR_137_1, rR_137_2, rR_137_3, rR_137_4, rR_137_6, rR_137_7, rR_137_8, kd_80, ln_80, rR_80_0, rR_80_1, rR_80_2, rR_80_3, kd_81, ln_81, rR_81_0, rR_81_1, rR_81_2, rR_81_3, rR_81_4, rR_81_5, e]
    rw [if_neg (by omega)]
    refine s_addFalls hC (show B < nb by omega) hbj (FU_lt hC (by omega)) hg hr (fun g' hg' hr' => ?_)
    simp only [r_aLD0, r_gR, r_iCONST, cl_79, r_iST2, r_iLD2, r_gI, r_IC3, r_iLD1, cl_193, r_IINC2, r_GOTO, r_vRET, eq_self, Int.reduceLT, Int.reduceLE, Int.reduceEq, true_or, or_true, and_self, true_and, and_true, w8_0, w8_1, w8_2, w8_3, w8_4, nl_I, nl_P, nl_X, pu_I, pu_J, pu_V, hw]
    exact ih (B + 1) g' (by omega) hg' (fun k hk => by rw [hr' k hk, fa_FU hs])
theorem s_findF (hC : CO h n nb L s) (hbj : 0 ≤ bj ∧ bj ≤ 7) (hq : ∀ g, oR h g → (∀ k : Nat, k < 20 → g 139 k = (FU h n bj s L nb k : Int)) → Q aV (sT g)) : wp 215 (am_ju 215 0) [aP 137, aI bj, aX] [] (sT h) Q := by
  rw [ju_215_0]
  simp only [r_aLD0, r_gR, r_iCONST, cl_79, r_iST2, r_iLD2, r_gI, r_IC3, r_iLD1, cl_193, r_IINC2, r_GOTO, r_vRET, eq_self, Int.reduceLT, Int.reduceLE, Int.reduceEq, true_or, or_true, and_self, true_and, and_true, w8_0, w8_1, w8_2, w8_3, w8_4, nl_I, nl_P, nl_X, pu_I, pu_J, pu_V, kd_137, ln_137, rR_137_0, rR_137_1, rR_137_2, rR_137_3, rR_137_4, rR_137_6, rR_137_7, rR_137_8, s_fillI (l := 20) kd_139 ln_139 (by decide)]
  exact lp_findF hC hbj hq nb 0 _ (Nat.zero_add nb) (fun a q1 q2 => by rw [fil_ne q2]) (fun k hk => by rw [fil_at (by omega) (by omega)]; unfold FU; split <;> rfl)
theorem lp_Tfilm (hC : CO h n nb L s) (hq4 : q < 4) (hi : 0 ≤ i) (hiL : i + ((L - s : Nat) : Int) ≤ 24) (hy : 0 ≤ y ∧ y ≤ 3) (hg : oR h g) (hgy : h (72 + 2 * (q : Int)) 2 = y) (hr : ∀ k : Nat, k < 20 → g 139 k = (FU h n bj s L nb k : Int)) {v6 : Int} : ∀ (m k : Nat), k + m = L - s → (wp 218 (am_ju 218 33) [aP 0, aI bj, aI (q : Int), aI y, aI i, aI ((L - s : Nat) : Int), aI v6, aI (k : Int)] [] (sT (itF h g n nb s bj y (73 + 2 * (q : Int)) i k)) Q ↔ Q (aI ((L - s : Nat) : Int)) (sT (itF h g n nb s bj y (73 + 2 * (q : Int)) i (L - s)))) := by
  intro m
  have l1 := ln_139
  have k1 := kd_139
  obtain ⟨c1, c2, c3, c4, c5, c6, c7, c8, c9, c10⟩ := id hC
  obtain ⟨kq, r1, r2, k2, l2⟩ := sh_q q hq4
  have kk : kd 71 = 22 ∨ kd 71 = 23 := Or.inr kd_71
  have q0 : (0 : Int) ≤ (q : Int) := by omega
  have q4 : (q : Int) < 4 := by omega
  have rr0 : (0 : Int) ≤ rR 71 q := by rw [r1]; omega
  induction m with
  | zero =>
    intro k hk
    have hk : k = L - s := by omega
    subst hk
    rw [ju_218_33]
    simp only [ju_218_57, r_iLD1, r_bPUSH, cl_12, r_IF0, r_iLD2, r_iLD3, cl_204, r_IF1, r_iCONST, r_iRET, r_aLD0, r_gR, cl_109, r_iST5, r_aALD, r_iLD4, r_iLD5, cl_206, r_iST6, r_iLD6, cl_215, r_iST7, r_iLD7, r_IC3, r_iADD, r_gI, r_iALD, r_iALDs, r_ITL, cl_217, r_IINC7, r_GOTO, eq_self, Int.reduceLT, Int.reduceLE, Int.reduceEq, true_or, or_true, and_self, true_and, and_true, w8_0, w8_1, w8_2, w8_3, w8_4, nl_I, nl_P, nl_X, pu_I, pu_J, pu_V]
    rw [if_pos (by omega)]
  | succ m ih =>
    intro k hk
    have ih := ih (k + 1) (by omega)
    have hw : w3 ((k : Int) + 1) = ((k + 1 : Nat) : Int) := w3_id (by omega) (by omega)
    have hU := eU_lt (bj := bj) (m := k) hC nb (Nat.le_refl _)
    have u90 : itF h g n nb s bj y (73 + 2 * (q : Int)) i k 90 4 = (s : Int) := by rw [itF_ne (by omega), hg 90 (by decide) (by decide), c7]
    have u139 : itF h g n nb s bj y (73 + 2 * (q : Int)) i k 139 ((s : Int) + k) = (eU h n bj s k nb : Int) := by
      rw [itF_ne (by omega), show (s : Int) + k = ((s + k : Nat) : Int) by omega, hr (s + k) (by omega)]
      unfold FU
      rw [if_pos (by omega), show s + k - s = k by omega]
    have uy : itF h g n nb s bj y (73 + 2 * (q : Int)) i k (72 + 2 * (q : Int)) 2 = y := by rw [itF_ne (by omega), hg _ (by omega) (by omega), hgy]
    have e1 : 72 + 2 * (q : Int) + 1 = 73 + 2 * (q : Int) := by omega
    have hp := fun Q' => s_put (h := itF h g n nb s bj y (73 + 2 * (q : Int)) i k) (Q := Q') (c := 72 + 2 * (q : Int)) (i := i + k) (v := (eU h n bj s k nb : Int)) kq (by rw [e1]; exact r2) (by omega) (by rw [e1]; exact k2) (by rw [e1]; exact l2) (by rw [uy]; exact hy) (w6_id (by omega) (by omega)) ⟨by omega, by omega⟩
    rw [e1, uy, itF_s] at hp
    rw [ju_218_33]
    simp (disch := first | assumption | omega | exact w8_0 | exact w8_1 _ | exact w8_2 _ _ | exact w8_3 _ _ _ | exact w8_4 _ _ _ _ | exact nl_I _ | exact nl_P _ | exact nl_X | decide | exact w8_5 _ _ _ _ _) only [r_iLD1, r_bPUSH, cl_12, r_IF0, r_iLD2, r_iLD3, cl_204, r_IF1, r_iCONST, r_iRET, r_aLD0, r_gR, cl_109, r_iST5, r_aALD, r_iLD4, r_iLD5, cl_206, r_iST6, r_iLD6, cl_215, r_iST7, r_iLD7, r_IC3, r_iADD, r_gI, r_iALDc, r_iALDs, r_ITL, cl_217, r_IINC7, r_GOTO, eq_self, Int.reduceLT, Int.reduceLE, Int.reduceEq, true_or, or_true, and_self, true_and, and_true, w8_0, w8_1, w8_2, w8_3, w8_4, nl_I, nl_P, nl_X, pu_I, pu_J, pu_V, w3_id, Int.add_zero, kd_0, kd_137, kd_80, kd_90, rR_0_0, rR_0_3, rR_0_10, rR_80_2, rR_137_2, kk, rr0, r1, ln_71, q0, q4, and_self, true_and, u90, u139, hp, hw]
    rw [if_neg (by omega)]
    exact ih
/-- the row's side: goes on the tried row, item by item -/
def fmR (h g : am_F) (n nb s : Nat) (bj y o : Int) (k : Nat) : Prop := (∀ a j, ¬ scr a j → a ≠ 157 → g a j = h a j) ∧ ∀ j, g 157 j = if o ≤ j ∧ j < o + (k : Int) then ctL y (eU h n bj s (j - o).toNat nb : Int) else h 157 j
theorem lp_Rfilm (hC : CO h n nb L s) (hq4 : q < 4) (hi : 0 ≤ i) (hiL : i + ((L - s : Nat) : Int) ≤ 24) (hy : 0 ≤ y ∧ y ≤ 3) (hbj : 0 ≤ bj ∧ bj ≤ 7) {v6 : Int} (hq : ∀ g, fmR h g n nb s bj y (24 * (q : Int) + i) (L - s) → Q (aI ((L - s : Nat) : Int)) (sT g)) : ∀ (m k : Nat) (g : am_F), k + m = L - s → TR h g n nb L s bj k → fmR h g n nb s bj y (24 * (q : Int) + i) k → wp 220 (am_ju 220 41) [aP 149, aI bj, aI (q : Int), aI y, aI i, aI ((L - s : Nat) : Int), aI v6, aI (k : Int)] [] (sT g) Q := by
  intro m
  have l1 := ln_157
  have k1 := kd_157
  have q0 : (0 : Int) ≤ (q : Int) := by omega
  have q4 : (q : Int) < 4 := by omega
  induction m with
  | zero =>
    intro k g hk hT hm
    have hk : k = L - s := by omega
    subst hk
    rw [ju_220_41]
    simp only [ju_220_64, r_iLD1, r_iCONST, r_bPUSH, cl_17, r_IF0, r_iLD2, cl_210, r_iLD3, cl_211, r_IF1, r_iRET, r_aLD0, r_gR, r_iALD, r_iALDs, r_iSUB, r_iST5, r_iLD4, r_iLD5, cl_212, r_iST6, r_iLD6, cl_90, r_iST7, r_iLD7, r_IC3, r_iMUL, r_iADD, cl_125, r_ITL, cl_219, r_lAST, r_IINC7, r_GOTO, eq_self, Int.reduceLT, Int.reduceLE, Int.reduceEq, true_or, or_true, and_self, true_and, and_true, w8_0, w8_1, w8_2, w8_3, w8_4, nl_I, nl_P, nl_X, pu_I, pu_J, pu_V]
    rw [if_pos (by omega)]
    exact hq g hm
  | succ m ih =>
    intro k g hk hT hm
    have hw : w3 ((k : Int) + 1) = ((k + 1 : Nat) : Int) := w3_id (by omega) (by omega)
    have hU := eU_lt (bj := bj) (m := k) hC nb (Nat.le_refl _)
    rw [ju_220_41]
    simp (disch := first | assumption | omega | exact w8_0 | exact w8_1 _ | exact w8_2 _ _ | exact w8_3 _ _ _ | exact w8_4 _ _ _ _ | exact nl_I _ | exact nl_P _ | exact nl_X | decide | exact w8_5 _ _ _ _ _) only [r_iLD1, r_iCONST, r_bPUSH, cl_17, r_IF0, r_iLD2, cl_210, r_iLD3, cl_211, r_IF1, r_iRET, r_aLD0, r_gR, r_iALDc, r_iALDs, r_iSUB, r_iST5, r_iLD4, r_iLD5, cl_212, r_iST6, r_iLD6, cl_90, r_iST7, r_iLD7, r_IC3, r_iMUL, r_iADD, cl_125, r_ITL, cl_219, r_lASTc, r_IINC7, r_GOTO, eq_self, Int.reduceLT, Int.reduceLE, Int.reduceEq, true_or, or_true, and_self, true_and, and_true, w8_0, w8_1, w8_2, w8_3, w8_4, nl_I, nl_P, nl_X, pu_I, pu_J, pu_V, w3_id, Int.add_zero, kd_149, rR_149_1, rR_149_9]
    rw [if_neg (by omega)]
    refine s_goT hC hbj (by omega) hT (fun g' hsc hT' _ => ?_)
    have w6e : w6 (eU h n bj s k nb : Int) = (eU h n bj s k nb : Int) := w6_id (by omega) (by omega)
    simp (disch := first | assumption | omega | exact w8_0 | exact w8_1 _ | exact w8_2 _ _ | exact w8_3 _ _ _ | exact w8_4 _ _ _ _ | exact nl_I _ | exact nl_P _ | exact nl_X | decide | exact w8_5 _ _ _ _ _) only [r_iLD1, r_iCONST, r_bPUSH, cl_17, r_IF0, r_iLD2, cl_210, r_iLD3, cl_211, r_IF1, r_iRET, r_aLD0, r_gR, r_iALDc, r_iALDs, r_iSUB, r_iST5, r_iLD4, r_iLD5, cl_212, r_iST6, r_iLD6, cl_90, r_iST7, r_iLD7, r_IC3, r_iMUL, r_iADD, cl_125, r_ITL, cl_219, r_lASTc, r_IINC7, r_GOTO, eq_self, Int.reduceLT, Int.reduceLE, Int.reduceEq, true_or, or_true, and_self, true_and, and_true, w8_0, w8_1, w8_2, w8_3, w8_4, nl_I, nl_P, nl_X, pu_I, pu_J, pu_V, w3_id, Int.add_zero, s_cut hy w6e, hw]
    refine ih (k + 1) _ (by omega) (TR_c (u := g') (up_ne (by decide) _ _) hT') ⟨fun a j q1 q2 => ?_, fun j => ?_⟩
    · rw [up_ne q2, FR_scT hsc a j q1, hm.1 a j q1 q2]
    · have e157 : g' 157 = g 157 := hsc.1 157 (by decide) (by decide)
      by_cases e : j = 24 * (q : Int) + i + k
      · subst e
        rw [up_s, if_pos (by omega), show (24 * (q : Int) + i + k - (24 * (q : Int) + i)).toNat = k by omega]
      · rw [up_k e, e157, hm.2 j]
        by_cases z : 24 * (q : Int) + i ≤ j ∧ j < 24 * (q : Int) + i + (k : Int)
        · rw [if_pos z, if_pos (by omega)]
        · rw [if_neg z, if_neg (by omega)]
end FM
