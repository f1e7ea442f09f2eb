section LS
variable {g h h' h1 h2 u : am_F} {Q : am_V → am_S → Prop} {so j bj x y z i o c w r v : Int} {n nb L s K nx b m k a q B S T : Nat}
def pkd (h : am_F) (n : Nat) (B : Nat) : Nat := orB (fun b => cS h b n) B
def pLr (h : am_F) (n nb L s S : Nat) : Bool := decide (adn S (pkd h n nb) = 0) && decide (minB (fun b => gW h L s 7 (h 82 b) b (adn (cS h b n) S)) nb = 99)
theorem minB_99 {f : Nat → Int} : ∀ B, (∀ b, b < B → f b ≤ 99) → (minB f B = 99 ↔ ∀ b, b < B → f b = 99) := by
  intro B hle
  constructor
  · intro e b hb
    have := (minB_le f B).2 b hb
    have := hle b hb
    omega
  · intro hq
    rcases minB_at f B with e | ⟨b, q1, q2⟩
    · exact e
    · rw [q2, hq b q1]
theorem gW_99 (hs : s ≤ L) (hL : L ≤ 20) {k : Int} : gW h L s bj k b S ≤ 99 := by
  have := okm_gW (h := h) (bj := bj) (k := k) (b := b) (S := S) hs hL
  unfold okm at this
  omega
theorem pkd_lt (h8 : n ≤ 8) : pkd h n B < 2 ^ n := by
  unfold pkd
  induction B with
  | zero => exact Nat.two_pow_pos n
  | succ B ih => rw [orB]; exact Nat.or_lt_two_pow ih (setF_lt _ n)
theorem pow_256 (h8 : n ≤ 8) : 2 ^ n ≤ 256 := Nat.pow_le_pow_right (n := 2) (j := 8) (by decide) h8
theorem pLr_0 (h8 : n ≤ 8) (hs : s ≤ L) (hL : L ≤ 20) : pLr h n nb L s (pkd h n nb) = true := by
  have hp := pkd_lt (h := h) (B := nb) h8
  have := pow_256 h8
  have e : adn (pkd h n nb) (pkd h n nb) = 0 := (adn_0i (by omega)).mpr (fun t q => q)
  have e2 : minB (fun b => gW h L s 7 (h 82 b) b (adn (cS h b n) (pkd h n nb))) nb = 99 := by
    rw [minB_99 nb (fun b _ => gW_99 hs hL)]
    intro b hb
    have : adn (cS h b n) (pkd h n nb) = 0 := (adn_0i (cS_lt h8)).mpr (fun t q => (orB_bit nb).mpr ⟨b, hb, q⟩)
    show gW h L s 7 (h 82 b) b (adn (cS h b n) (pkd h n nb)) = 99
    rw [this]
    unfold gW
    rw [if_pos rfl]
  unfold pLr
  rw [e, e2]
  rfl
theorem lp_pkd (hP : Rp h 0 150 n nb L s) {v4 v5 v6 : am_V} : ∀ (d b : Nat), b + d = nb → (wp 170 (am_ju 170 11) [aP 149, aI x, aI (pkd h n b : Int), aI (b : Int), v4, v5, v6] [] (sT h) Q ↔ wp 170 (am_ju 170 26) [aP 149, aI x, aI (pkd h n nb : Int), aI (nb : Int), v4, v5, v6] [] (sT h) Q) := by
  intro d
  have l1 := ln_150
  have k1 := kd_150
  obtain ⟨r0, r1, r2, r3, r4, r5, r6, r7⟩ := id hP.1
  have p256 := pow_256 r3
  induction d with
  | zero =>
    intro b hb
    have hb : b = nb := by omega
    subst hb
    rw [ju_170_11]
    simp (disch := first | assumption | omega | exact w8_0 | exact w8_1 _ | exact w8_2 _ _ | exact w8_3 _ _ _ | exact w8_4 _ _ _ _ | exact nl_I _ | exact nl_P _ | exact nl_X | decide | exact w8_5 _ _ _ _ _) only [r_iLD1, r_iCONST, cl_17, r_IF1, r_iRET, r_iST2, r_iST3, r_iLD3, r_aLD0, r_gR, r_iALDc, r_iALDs, r_IC3, r_iLD2, cl_45, r_iOR, r_IINC3, r_GOTO, r_iST4, r_iLD4, r_IC4, cl_168, r_iSUB, r_iST5, r_iLD5, r_IF4, cl_157, r_IC2, r_IC1, r_iST6, r_iXOR, r_iAND, r_iLD6, r_IF0, cl_169, r_IINC4, eq_self, Int.reduceLT, Int.reduceLE, Int.reduceEq, true_or, or_true, and_self, true_and, and_true, w8_0, w8_1, w8_2, w8_3, w8_4, nl_I, nl_P, nl_X, pu_I, pu_J, pu_V, w3_id, Int.add_zero, kd_149, rR_149_0, r0]
    rw [if_pos (by omega)]
  | succ d ih =>
    intro b hb
    have hw : w3 ((b : Int) + 1) = ((b + 1 : Nat) : Int) := w3_id (by omega) (by omega)
    have h1 := pkd_lt (h := h) (B := b) r3
    have h2 := cS_lt (h := h) (b := (b : Int)) r3
    have hth : ∀ Q', wp 45 (am_ju 45 0) [aP 150, aI (b : Int), aX, aX] [] (sT h) Q' ↔ Q' (aI (cS h b n : Int)) (sT h) := fun Q' => by
      rw [s_thingsIn kd_150 ln_150 r3 r2, cS_mS hP]; rfl
    have ih := ih (b + 1) (by omega)
    rw [show pkd h n (b + 1) = pkd h n b ||| cS h b n from rfl] at ih
    rw [ju_170_11]
    simp (disch := first | assumption | omega | exact w8_0 | exact w8_1 _ | exact w8_2 _ _ | exact w8_3 _ _ _ | exact w8_4 _ _ _ _ | exact nl_I _ | exact nl_P _ | exact nl_X | decide | exact w8_5 _ _ _ _ _) only [r_iLD1, r_iCONST, cl_17, r_IF1, r_iRET, r_iST2, r_iST3, r_iLD3, r_aLD0, r_gR, r_iALDc, r_iALDs, r_IC3, r_iLD2, cl_45, r_iOR, r_IINC3, r_GOTO, r_iST4, r_iLD4, r_IC4, cl_168, r_iSUB, r_iST5, r_iLD5, r_IF4, cl_157, r_IC2, r_IC1, r_iST6, r_iXOR, r_iAND, r_iLD6, r_IF0, cl_169, r_IINC4, eq_self, Int.reduceLT, Int.reduceLE, Int.reduceEq, true_or, or_true, and_self, true_and, and_true, w8_0, w8_1, w8_2, w8_3, w8_4, nl_I, nl_P, nl_X, pu_I, pu_J, pu_V, w3_id, Int.add_zero, kd_149, rR_149_0, r0, hth, bOr_n _ _ (show pkd h n b < 2 ^ 31 by omega) (show cS h b n < 2 ^ 31 by omega), hw]
    rw [if_neg (by omega)]
    exact ih
set_option maxHeartbeats 1000000 in
theorem lp_Rleave (hP : Rp h 0 150 n nb L s) (hX : XR h 150 n) (hq : ∀ g, scT h g → Q (aI (if x = 0 then (bst (pLr h n nb L s) (cst (h 86)) (pkd h n nb) (pkd h n nb + 1) : Int) else sumS (h 86) (bst (pLr h n nb L s) (cst (h 86)) (pkd h n nb) (pkd h n nb + 1)) 8)) (sT g)) : ∀ (d i : Nat) (g : am_F) (v5 v6 : am_V), i + d = pkd h n nb + 1 → am_nl v5 = true → am_nl v6 = true → scT h g → wp 170 (am_ju 170 30) [aP 149, aI x, aI (pkd h n nb : Int), aI (bst (pLr h n nb L s) (cst (h 86)) (pkd h n nb) i : Int), aI (i : Int), v5, v6] [] (sT g) Q := by
  intro d
  obtain ⟨r0, r1, r2, r3, r4, r5, r6, r7⟩ := id hP.1
  have p6 := hP.2.2.2.2.2.2.1
  have hpk := pkd_lt (h := h) (B := nb) r3
  have p256 := pow_256 r3
  have hx : ∀ g, scT h g → ∀ t : Nat, t < n → 0 ≤ g 150 (18 + 6 * t + 3) ∧ g 150 (18 + 6 * t + 3) ≤ 99 := fun g hg t ht => by rw [tr_150 hg]; exact (hX.2 t ht).1
  have hwo : ∀ g, scT h g → ∀ (S : Nat) (Q' : am_V → am_S → Prop), S < 2 ^ n → (wp 168 (am_ju 168 0) [aP 149, aI (S : Int), aX, aX] [] (sT g) Q' ↔ Q' (aI (sumS (h 86) S 8)) (sT g)) := fun g hg S Q' hS => by
    rw [s_worth r3 (by rw [tr_150 hg, r2]) (hx g hg) (show S < 2 ^ 31 by omega)]
    have : wR g S n = wR h S n := by unfold wR; rw [tr_150 hg]
    rw [this, wR_eq hP hS]
  have hwr : ∀ S : Nat, S < 2 ^ n → 0 ≤ sumS (h 86) S 8 ∧ sumS (h 86) S 8 ≤ 800 := fun S hS => by
    have := wR_r (h := h) (S := S) (fun t ht => (hX.2 t ht).1) n (Nat.le_refl _)
    rw [wR_eq hP hS] at this
    omega
  induction d with
  | zero =>
    intro i g v5 v6 hi hv5 hv6 hg
    have hi : i = pkd h n nb + 1 := by omega
    subst hi
    have hbl := bst_lt (p := pLr h n nb L s) (f := cst (h 86)) (N := 2 ^ n) hpk (pkd h n nb + 1) (by omega)
    have := hq g hg
    rw [ju_170_30]
    simp only [ju_170_82, ju_170_86, ju_170_89, r_iLD1, r_iCONST, cl_17, r_IF1, r_iRET, r_iST2, r_iST3, r_iLD3, r_aLD0, r_gR, r_iALD, r_iALDs, r_IC3, r_iLD2, cl_45, r_iOR, r_IINC3, r_GOTO, r_iST4, r_iLD4, r_IC4, cl_168, r_iSUB, r_iST5, r_iLD5, r_IF4, cl_157, r_IC2, r_IC1, r_iST6, r_iXOR, r_iAND, r_iLD6, r_IF0, cl_169, r_IINC4, eq_self, Int.reduceLT, Int.reduceLE, Int.reduceEq, true_or, or_true, and_self, true_and, and_true, w8_0, w8_1, w8_2, w8_3, w8_4, nl_I, nl_P, nl_X, pu_I, pu_J, pu_V, kd_149, ln_149, rR_149_0, rR_149_1, rR_149_2, rR_149_3, rR_149_5, rR_149_7, rR_149_8, rR_149_9, rR_149_10, rR_149_16, rR_149_17, rR_149_18, hwo g hg _ _ hbl]
    rw [if_pos (by omega)]
    by_cases e : x = 0
    · rw [if_pos e] at this
      simp only [e, not_true_eq_false, if_false]
      exact this
    · rw [if_neg e] at this
      simp only [e, not_false_eq_true, if_true]
      exact this
  | succ d ih =>
    intro i g v5 v6 hi hv5 hv6 hg
    have i2 : i < 2 ^ n := by omega
    have hbl := bst_lt (p := pLr h n nb L s) (f := cst (h 86)) (N := 2 ^ n) hpk i (by omega)
    have hw : w3 ((i : Int) + 1) = ((i + 1 : Nat) : Int) := w3_id (by omega) (by omega)
    have ih := fun g v5 v6 => ih (i + 1) g v5 v6 (by omega)
    rw [bst] at ih
    generalize hbe : bst (pLr h n nb L s) (cst (h 86)) (pkd h n nb) i = be at ih hbl ⊢
    have q1 := hwr i i2
    have q2 := hwr be hbl
    have p1 := popc_le i
    have p2 := popc_le be
    have hl := cst_lt (f := h 86) (show i < 256 by omega) (show be < 256 by omega)
    -- from where it is known whether it is better
    have key : ∀ mo : Int, wp 170 (am_ju 170 63) [aP 149, aI x, aI (pkd h n nb : Int), aI (be : Int), aI (i : Int), aI mo, v6] [aI (if cst (h 86) i < cst (h 86) be then 1 else 0)] (sT g) Q := by
      intro mo
      rw [ju_170_63]
      simp only [r_iLD1, r_iCONST, cl_17, r_IF1, r_iRET, r_iST2, r_iST3, r_iLD3, r_aLD0, r_gR, r_iALD, r_iALDs, r_IC3, r_iLD2, cl_45, r_iOR, r_IINC3, r_GOTO, r_iST4, r_iLD4, r_IC4, cl_168, r_iSUB, r_iST5, r_iLD5, r_IF4, cl_157, r_IC2, r_IC1, r_iST6, r_iXOR, r_iAND, r_iLD6, r_IF0, cl_169, r_IINC4, eq_self, Int.reduceLT, Int.reduceLE, Int.reduceEq, true_or, or_true, and_self, true_and, and_true, w8_0, w8_1, w8_2, w8_3, w8_4, nl_I, nl_P, nl_X, pu_I, pu_J, pu_V, adn_ok i (pkd h n nb) (show i < 256 by omega) (show pkd h n nb < 256 by omega)]
      by_cases e : adn i (pkd h n nb) = 0
      · rw [if_neg (by omega)]
        by_cases f : cst (h 86) i < cst (h 86) be
        · simp only [f, if_true, Int.reduceEq, if_false, r_iLD1, r_iCONST, cl_17, r_IF1, r_iRET, r_iST2, r_iST3, r_iLD3, r_aLD0, r_gR, r_iALD, r_iALDs, r_IC3, r_iLD2, cl_45, r_iOR, r_IINC3, r_GOTO, r_iST4, r_iLD4, r_IC4, cl_168, r_iSUB, r_iST5, r_iLD5, r_IF4, cl_157, r_IC2, r_IC1, r_iST6, r_iXOR, r_iAND, r_iLD6, r_IF0, cl_169, r_IINC4, eq_self, Int.reduceLT, Int.reduceLE, Int.reduceEq, true_or, or_true, and_self, true_and, and_true, w8_0, w8_1, w8_2, w8_3, w8_4, nl_I, nl_P, nl_X, pu_I, pu_J, pu_V, kd_149, ln_149, rR_149_0, rR_149_1, rR_149_2, rR_149_3, rR_149_5, rR_149_7, rR_149_8, rR_149_9, rR_149_10, rR_149_16, rR_149_17, rR_149_18]
          refine s_without hP hg (show i < 2 ^ 31 by omega) (fun g' hg' => ?_)
          have ih := ih g' (aI mo) (aI 1) rfl rfl hg'
          simp only [r_iLD1, r_iCONST, cl_17, r_IF1, r_iRET, r_iST2, r_iST3, r_iLD3, r_aLD0, r_gR, r_iALD, r_iALDs, r_IC3, r_iLD2, cl_45, r_iOR, r_IINC3, r_GOTO, r_iST4, r_iLD4, r_IC4, cl_168, r_iSUB, r_iST5, r_iLD5, r_IF4, cl_157, r_IC2, r_IC1, r_iST6, r_iXOR, r_iAND, r_iLD6, r_IF0, cl_169, r_IINC4, eq_self, Int.reduceLT, Int.reduceLE, Int.reduceEq, true_or, or_true, and_self, true_and, and_true, w8_0, w8_1, w8_2, w8_3, w8_4, nl_I, nl_P, nl_X, pu_I, pu_J, pu_V]
          by_cases y : minB (fun b => gW h L s 7 (h 82 b) b (adn (cS h b n) i)) nb = 99
          · have pi : pLr h n nb L s i = true := by unfold pLr; simp [e, y]
            rw [if_pos ⟨pi, f⟩] at ih
            simp only [y, if_true, Int.reduceEq, if_false, ju_170_79, r_iLD1, r_iCONST, cl_17, r_IF1, r_iRET, r_iST2, r_iST3, r_iLD3, r_aLD0, r_gR, r_iALD, r_iALDs, r_IC3, r_iLD2, cl_45, r_iOR, r_IINC3, r_GOTO, r_iST4, r_iLD4, r_IC4, cl_168, r_iSUB, r_iST5, r_iLD5, r_IF4, cl_157, r_IC2, r_IC1, r_iST6, r_iXOR, r_iAND, r_iLD6, r_IF0, cl_169, r_IINC4, eq_self, Int.reduceLT, Int.reduceLE, Int.reduceEq, true_or, or_true, and_self, true_and, and_true, w8_0, w8_1, w8_2, w8_3, w8_4, nl_I, nl_P, nl_X, pu_I, pu_J, pu_V, hw]
            exact ih
          · have pi : ¬ pLr h n nb L s i = true := by unfold pLr; simp [y]
            rw [if_neg (fun q => pi q.1)] at ih
            simp only [y, if_true, if_false, ju_170_78, ju_170_79, r_iLD1, r_iCONST, cl_17, r_IF1, r_iRET, r_iST2, r_iST3, r_iLD3, r_aLD0, r_gR, r_iALD, r_iALDs, r_IC3, r_iLD2, cl_45, r_iOR, r_IINC3, r_GOTO, r_iST4, r_iLD4, r_IC4, cl_168, r_iSUB, r_iST5, r_iLD5, r_IF4, cl_157, r_IC2, r_IC1, r_iST6, r_iXOR, r_iAND, r_iLD6, r_IF0, cl_169, r_IINC4, eq_self, Int.reduceLT, Int.reduceLE, Int.reduceEq, true_or, or_true, and_self, true_and, and_true, w8_0, w8_1, w8_2, w8_3, w8_4, nl_I, nl_P, nl_X, pu_I, pu_J, pu_V, hw]
            exact ih
        · have ih := ih g (aI mo) (aI 0) rfl rfl hg
          rw [if_neg (fun q => f q.2)] at ih
          simp only [f, if_false, if_true, ju_170_78, ju_170_79, r_iLD1, r_iCONST, cl_17, r_IF1, r_iRET, r_iST2, r_iST3, r_iLD3, r_aLD0, r_gR, r_iALD, r_iALDs, r_IC3, r_iLD2, cl_45, r_iOR, r_IINC3, r_GOTO, r_iST4, r_iLD4, r_IC4, cl_168, r_iSUB, r_iST5, r_iLD5, r_IF4, cl_157, r_IC2, r_IC1, r_iST6, r_iXOR, r_iAND, r_iLD6, r_IF0, cl_169, r_IINC4, eq_self, Int.reduceLT, Int.reduceLE, Int.reduceEq, true_or, or_true, and_self, true_and, and_true, w8_0, w8_1, w8_2, w8_3, w8_4, nl_I, nl_P, nl_X, pu_I, pu_J, pu_V, hw]
          exact ih
      · have ih := ih g (aI mo) (aI (if cst (h 86) i < cst (h 86) be then 1 else 0)) rfl rfl hg
        have pi : ¬ pLr h n nb L s i = true := by unfold pLr; simp [e]
        rw [if_neg (fun q => pi q.1)] at ih
        rw [if_pos (by omega)]
        simp only [ju_170_78, ju_170_79, r_iLD1, r_iCONST, cl_17, r_IF1, r_iRET, r_iST2, r_iST3, r_iLD3, r_aLD0, r_gR, r_iALD, r_iALDs, r_IC3, r_iLD2, cl_45, r_iOR, r_IINC3, r_GOTO, r_iST4, r_iLD4, r_IC4, cl_168, r_iSUB, r_iST5, r_iLD5, r_IF4, cl_157, r_IC2, r_IC1, r_iST6, r_iXOR, r_iAND, r_iLD6, r_IF0, cl_169, r_IINC4, eq_self, Int.reduceLT, Int.reduceLE, Int.reduceEq, true_or, or_true, and_self, true_and, and_true, w8_0, w8_1, w8_2, w8_3, w8_4, nl_I, nl_P, nl_X, pu_I, pu_J, pu_V, hw]
        exact ih
    rw [ju_170_30]
    simp only [r_iLD1, r_iCONST, cl_17, r_IF1, r_iRET, r_iST2, r_iST3, r_iLD3, r_aLD0, r_gR, r_iALD, r_iALDs, r_IC3, r_iLD2, cl_45, r_iOR, r_IINC3, r_GOTO, r_iST4, r_iLD4, r_IC4, cl_168, r_iSUB, r_iST5, r_iLD5, r_IF4, cl_157, r_IC2, r_IC1, r_iST6, r_iXOR, r_iAND, r_iLD6, r_IF0, cl_169, r_IINC4, eq_self, Int.reduceLT, Int.reduceLE, Int.reduceEq, true_or, or_true, and_self, true_and, and_true, w8_0, w8_1, w8_2, w8_3, w8_4, nl_I, nl_P, nl_X, pu_I, pu_J, pu_V, kd_149, ln_149, rR_149_0, rR_149_1, rR_149_2, rR_149_3, rR_149_5, rR_149_7, rR_149_8, rR_149_9, rR_149_10, rR_149_16, rR_149_17, rR_149_18, hwo g hg _ _ i2, hwo g hg _ _ hbl]
    rw [if_neg (by omega), w3_id (by omega) (by omega)]
    by_cases e1 : 0 < sumS (h 86) be 8 - sumS (h 86) i 8
    · have := key (sumS (h 86) be 8 - sumS (h 86) i 8)
      rw [if_pos (hl.mpr (Or.inl (by omega)))] at this
      rw [if_pos e1, ju_170_60]
      simp only [r_iLD1, r_iCONST, cl_17, r_IF1, r_iRET, r_iST2, r_iST3, r_iLD3, r_aLD0, r_gR, r_iALD, r_iALDs, r_IC3, r_iLD2, cl_45, r_iOR, r_IINC3, r_GOTO, r_iST4, r_iLD4, r_IC4, cl_168, r_iSUB, r_iST5, r_iLD5, r_IF4, cl_157, r_IC2, r_IC1, r_iST6, r_iXOR, r_iAND, r_iLD6, r_IF0, cl_169, r_IINC4, eq_self, Int.reduceLT, Int.reduceLE, Int.reduceEq, true_or, or_true, and_self, true_and, and_true, w8_0, w8_1, w8_2, w8_3, w8_4, nl_I, nl_P, nl_X, pu_I, pu_J, pu_V]
      exact this
    · rw [if_neg e1]
      by_cases e2 : sumS (h 86) be 8 - sumS (h 86) i 8 = 0
      · have ke := key 0
        rw [e2]
        simp only [not_true_eq_false, if_false, s_ones (show i < 2 ^ 31 by omega), s_ones (show be < 2 ^ 31 by omega), r_iLD1, r_iCONST, cl_17, r_IF1, r_iRET, r_iST2, r_iST3, r_iLD3, r_aLD0, r_gR, r_iALD, r_iALDs, r_IC3, r_iLD2, cl_45, r_iOR, r_IINC3, r_GOTO, r_iST4, r_iLD4, r_IC4, cl_168, r_iSUB, r_iST5, r_iLD5, r_IF4, cl_157, r_IC2, r_IC1, r_iST6, r_iXOR, r_iAND, r_iLD6, r_IF0, cl_169, r_IINC4, eq_self, Int.reduceLT, Int.reduceLE, Int.reduceEq, true_or, or_true, and_self, true_and, and_true, w8_0, w8_1, w8_2, w8_3, w8_4, nl_I, nl_P, nl_X, pu_I, pu_J, pu_V]
        by_cases e3 : popc i < popc be
        · rw [if_pos (hl.mpr (Or.inr ⟨by omega, Or.inl e3⟩))] at ke
          rw [if_pos (by omega), ju_170_60]
          simp only [r_iLD1, r_iCONST, cl_17, r_IF1, r_iRET, r_iST2, r_iST3, r_iLD3, r_aLD0, r_gR, r_iALD, r_iALDs, r_IC3, r_iLD2, cl_45, r_iOR, r_IINC3, r_GOTO, r_iST4, r_iLD4, r_IC4, cl_168, r_iSUB, r_iST5, r_iLD5, r_IF4, cl_157, r_IC2, r_IC1, r_iST6, r_iXOR, r_iAND, r_iLD6, r_IF0, cl_169, r_IINC4, eq_self, Int.reduceLT, Int.reduceLE, Int.reduceEq, true_or, or_true, and_self, true_and, and_true, w8_0, w8_1, w8_2, w8_3, w8_4, nl_I, nl_P, nl_X, pu_I, pu_J, pu_V]
          exact ke
        · rw [if_neg (by omega), ju_170_50]
          simp only [not_true_eq_false, if_false, s_ones (show i < 2 ^ 31 by omega), s_ones (show be < 2 ^ 31 by omega), r_iLD1, r_iCONST, cl_17, r_IF1, r_iRET, r_iST2, r_iST3, r_iLD3, r_aLD0, r_gR, r_iALD, r_iALDs, r_IC3, r_iLD2, cl_45, r_iOR, r_IINC3, r_GOTO, r_iST4, r_iLD4, r_IC4, cl_168, r_iSUB, r_iST5, r_iLD5, r_IF4, cl_157, r_IC2, r_IC1, r_iST6, r_iXOR, r_iAND, r_iLD6, r_IF0, cl_169, r_IINC4, eq_self, Int.reduceLT, Int.reduceLE, Int.reduceEq, true_or, or_true, and_self, true_and, and_true, w8_0, w8_1, w8_2, w8_3, w8_4, nl_I, nl_P, nl_X, pu_I, pu_J, pu_V]
          by_cases e4 : popc i = popc be
          · rw [if_neg (by omega)]
            by_cases e5 : i < be
            · rw [if_pos (hl.mpr (Or.inr ⟨by omega, Or.inr ⟨e4, e5⟩⟩))] at ke
              rw [if_neg (by omega), ju_170_60]
              simp only [r_iLD1, r_iCONST, cl_17, r_IF1, r_iRET, r_iST2, r_iST3, r_iLD3, r_aLD0, r_gR, r_iALD, r_iALDs, r_IC3, r_iLD2, cl_45, r_iOR, r_IINC3, r_GOTO, r_iST4, r_iLD4, r_IC4, cl_168, r_iSUB, r_iST5, r_iLD5, r_IF4, cl_157, r_IC2, r_IC1, r_iST6, r_iXOR, r_iAND, r_iLD6, r_IF0, cl_169, r_IINC4, eq_self, Int.reduceLT, Int.reduceLE, Int.reduceEq, true_or, or_true, and_self, true_and, and_true, w8_0, w8_1, w8_2, w8_3, w8_4, nl_I, nl_P, nl_X, pu_I, pu_J, pu_V]
              exact ke
            · rw [if_neg (fun z => by have := hl.mp z; omega)] at ke
              rw [if_pos (by omega), ju_170_62]
              simp only [r_iLD1, r_iCONST, cl_17, r_IF1, r_iRET, r_iST2, r_iST3, r_iLD3, r_aLD0, r_gR, r_iALD, r_iALDs, r_IC3, r_iLD2, cl_45, r_iOR, r_IINC3, r_GOTO, r_iST4, r_iLD4, r_IC4, cl_168, r_iSUB, r_iST5, r_iLD5, r_IF4, cl_157, r_IC2, r_IC1, r_iST6, r_iXOR, r_iAND, r_iLD6, r_IF0, cl_169, r_IINC4, eq_self, Int.reduceLT, Int.reduceLE, Int.reduceEq, true_or, or_true, and_self, true_and, and_true, w8_0, w8_1, w8_2, w8_3, w8_4, nl_I, nl_P, nl_X, pu_I, pu_J, pu_V]
              exact ke
          · rw [if_neg (fun z => by have := hl.mp z; omega)] at ke
            rw [if_pos (by omega), ju_170_62]
            simp only [r_iLD1, r_iCONST, cl_17, r_IF1, r_iRET, r_iST2, r_iST3, r_iLD3, r_aLD0, r_gR, r_iALD, r_iALDs, r_IC3, r_iLD2, cl_45, r_iOR, r_IINC3, r_GOTO, r_iST4, r_iLD4, r_IC4, cl_168, r_iSUB, r_iST5, r_iLD5, r_IF4, cl_157, r_IC2, r_IC1, r_iST6, r_iXOR, r_iAND, r_iLD6, r_IF0, cl_169, r_IINC4, eq_self, Int.reduceLT, Int.reduceLE, Int.reduceEq, true_or, or_true, and_self, true_and, and_true, w8_0, w8_1, w8_2, w8_3, w8_4, nl_I, nl_P, nl_X, pu_I, pu_J, pu_V]
            exact ke
      · have ke := key (sumS (h 86) be 8 - sumS (h 86) i 8)
        rw [if_neg (fun z => by have := hl.mp z; omega)] at ke
        rw [if_pos e2, ju_170_50]
        simp only [r_iLD1, r_iCONST, cl_17, r_IF1, r_iRET, r_iST2, r_iST3, r_iLD3, r_aLD0, r_gR, r_iALD, r_iALDs, r_IC3, r_iLD2, cl_45, r_iOR, r_IINC3, r_GOTO, r_iST4, r_iLD4, r_IC4, cl_168, r_iSUB, r_iST5, r_iLD5, r_IF4, cl_157, r_IC2, r_IC1, r_iST6, r_iXOR, r_iAND, r_iLD6, r_IF0, cl_169, r_IINC4, eq_self, Int.reduceLT, Int.reduceLE, Int.reduceEq, true_or, or_true, and_self, true_and, and_true, w8_0, w8_1, w8_2, w8_3, w8_4, nl_I, nl_P, nl_X, pu_I, pu_J, pu_V]
        rw [if_pos e2, ju_170_62]
        simp only [r_iLD1, r_iCONST, cl_17, r_IF1, r_iRET, r_iST2, r_iST3, r_iLD3, r_aLD0, r_gR, r_iALD, r_iALDs, r_IC3, r_iLD2, cl_45, r_iOR, r_IINC3, r_GOTO, r_iST4, r_iLD4, r_IC4, cl_168, r_iSUB, r_iST5, r_iLD5, r_IF4, cl_157, r_IC2, r_IC1, r_iST6, r_iXOR, r_iAND, r_iLD6, r_IF0, cl_169, r_IINC4, eq_self, Int.reduceLT, Int.reduceLE, Int.reduceEq, true_or, or_true, and_self, true_and, and_true, w8_0, w8_1, w8_2, w8_3, w8_4, nl_I, nl_P, nl_X, pu_I, pu_J, pu_V]
        exact ke
theorem s_Rleave (hP : Rp h 0 150 n nb L s) (hX : XR h 150 n) (hq : ∀ g, scT h g → Q (aI (if 0 ≤ x ∧ x < 2 then (if x = 0 then (bst (pLr h n nb L s) (cst (h 86)) (pkd h n nb) (pkd h n nb + 1) : Int) else sumS (h 86) (bst (pLr h n nb L s) (cst (h 86)) (pkd h n nb) (pkd h n nb + 1)) 8) else -1)) (sT g)) : wp 170 (am_ju 170 0) [aP 149, aI x, aX, aX, aX, aX, aX] [] (sT h) Q := by
  simp only [ju_170_0, r_iLD1, r_iCONST, cl_17, r_IF1, r_iRET, r_iST2, r_iST3, r_iLD3, r_aLD0, r_gR, r_iALD, r_iALDs, r_IC3, r_iLD2, cl_45, r_iOR, r_IINC3, r_GOTO, r_iST4, r_iLD4, r_IC4, cl_168, r_iSUB, r_iST5, r_iLD5, r_IF4, cl_157, r_IC2, r_IC1, r_iST6, r_iXOR, r_iAND, r_iLD6, r_IF0, cl_169, r_IINC4, eq_self, Int.reduceLT, Int.reduceLE, Int.reduceEq, true_or, or_true, and_self, true_and, and_true, w8_0, w8_1, w8_2, w8_3, w8_4, nl_I, nl_P, nl_X, pu_I, pu_J, pu_V, s_in]
  by_cases e : 0 ≤ x ∧ x < 2
  · have e1 : 0 ≤ x ∧ x ≤ 1 := ⟨e.1, by omega⟩
    simp only [if_pos e] at hq
    rw [if_pos (by simp [e1]), ju_170_7]
    simp only [r_iLD1, r_iCONST, cl_17, r_IF1, r_iRET, r_iST2, r_iST3, r_iLD3, r_aLD0, r_gR, r_iALD, r_iALDs, r_IC3, r_iLD2, cl_45, r_iOR, r_IINC3, r_GOTO, r_iST4, r_iLD4, r_IC4, cl_168, r_iSUB, r_iST5, r_iLD5, r_IF4, cl_157, r_IC2, r_IC1, r_iST6, r_iXOR, r_iAND, r_iLD6, r_IF0, cl_169, r_IINC4, eq_self, Int.reduceLT, Int.reduceLE, Int.reduceEq, true_or, or_true, and_self, true_and, and_true, w8_0, w8_1, w8_2, w8_3, w8_4, nl_I, nl_P, nl_X, pu_I, pu_J, pu_V]
    refine (lp_pkd hP nb 0 (Nat.zero_add nb)).mpr ?_
    rw [ju_170_26]
    simp only [r_iLD1, r_iCONST, cl_17, r_IF1, r_iRET, r_iST2, r_iST3, r_iLD3, r_aLD0, r_gR, r_iALD, r_iALDs, r_IC3, r_iLD2, cl_45, r_iOR, r_IINC3, r_GOTO, r_iST4, r_iLD4, r_IC4, cl_168, r_iSUB, r_iST5, r_iLD5, r_IF4, cl_157, r_IC2, r_IC1, r_iST6, r_iXOR, r_iAND, r_iLD6, r_IF0, cl_169, r_IINC4, eq_self, Int.reduceLT, Int.reduceLE, Int.reduceEq, true_or, or_true, and_self, true_and, and_true, w8_0, w8_1, w8_2, w8_3, w8_4, nl_I, nl_P, nl_X, pu_I, pu_J, pu_V]
    exact lp_Rleave hP hX hq (pkd h n nb + 1) 0 h aX aX (Nat.zero_add _) rfl rfl (scT_r h)
  · have e1 : ¬ (0 ≤ x ∧ x ≤ 1) := fun q => e ⟨q.1, by omega⟩
    have := hq h (scT_r h)
    rw [if_neg e] at this
    rw [if_neg (by simp [e1])]
    exact this
theorem adn_and (hT : T < 256) : adn T (S &&& T) = adn T S := by
  apply Nat.eq_of_testBit_eq
  intro t
  rw [adn_bit hT, adn_bit hT, Nat.testBit_and]
  cases T.testBit t <;> simp
theorem q_leave (h8 : n ≤ 8) (h3 : nb ≤ 3) (hs : s ≤ L) (hL : L ≤ 20) : orB (lfO h n L s) nb = bst (pLr h n nb L s) (cst (h 86)) (pkd h n nb) (pkd h n nb + 1) := by
  have hpk := pkd_lt (h := h) (B := nb) h8
  have p256 := pow_256 h8
  have hm := bst_min (p := pLr h n nb L s) (f := cst (h 86)) (pLr_0 h8 hs hL) (pkd h n nb + 1)
  have hbl := bst_lt (p := pLr h n nb L s) (f := cst (h 86)) (N := 2 ^ n) hpk (pkd h n nb + 1) (by omega)
  generalize bst (pLr h n nb L s) (cst (h 86)) (pkd h n nb) (pkd h n nb + 1) = R at *
  obtain ⟨m1, m2, m3⟩ := hm
  have sub256 : ∀ {A B : Nat}, (∀ t, A.testBit t = true → B.testBit t = true) → B < 256 → A < 256 := by
    intro A B hs hB
    apply Nat.lt_pow_two_of_testBit (n := 8)
    intro i hi
    cases e : A.testBit i with
    | false => rfl
    | true =>
      have := hs i e
      rw [Nat.testBit_lt_two_pow (Nat.lt_of_lt_of_le hB (Nat.pow_le_pow_right (n := 2) (i := 8) (by decide) hi))] at this
      cases this
  have pL : ∀ X, X < 256 → (pLr h n nb L s X = true ↔ (∀ t, X.testBit t = true → (pkd h n nb).testBit t = true) ∧ ∀ b, b < nb → gW h L s 7 (h 82 b) b (adn (cS h b n) X) = 99) := fun X hX => by
    unfold pLr
    rw [Bool.and_eq_true, decide_eq_true_eq, decide_eq_true_eq, adn_0i hX, minB_99 nb (fun b _ => gW_99 hs hL)]
  refine left_min (h 86) (T := fun b => cS h b n) (U := lfO h n L s) (ok := fun b S => gW h L s 7 (h 82 b) b (adn (cS h b n) S) = 99) (fun b _ => cS_lt h8) (fun b c t hb hc q1 q2 => ?_) (fun b hb => ?_) (fun t q => ((pL R (by omega)).mp m1).1 t q) (fun b hb => ?_) (fun X q1 q2 => ?_)
  · unfold cS at q1 q2
    rw [setF_bit, Bool.and_eq_true, decide_eq_true_eq, decide_eq_true_eq] at q1 q2
    have := q1.2.symm.trans q2.2
    omega
  · have hp := lfO_p (h := h) (n := n) (L := L) (s := s) (b := b) h8
    have hp2 := hp.2
    unfold pLf at hp2
    rw [Bool.and_eq_true, decide_eq_true_eq, decide_eq_true_eq, adn_0i hp.1] at hp2
    refine ⟨hp2.1, hp2.2, fun S q1 q2 => ?_⟩
    have hS := sub256 q1 (cS_lt h8)
    refine (bst_min (p := pLf h n L s b) (f := cst (h 86)) (pLf_0 h8) 256).2.2 S hS ?_
    unfold pLf
    rw [Bool.and_eq_true, decide_eq_true_eq, decide_eq_true_eq, adn_0i hS]
    exact ⟨q1, q2⟩
  · show gW h L s 7 (h 82 b) b (adn (cS h b n) (R &&& cS h b n)) = 99
    rw [adn_and (cS_lt h8)]
    exact ((pL R (by omega)).mp m1).2 b hb
  · have hX : X < 256 := sub256 q1 (B := pkd h n nb) (by omega)
    have hle : X ≤ pkd h n nb := by
      have : X &&& pkd h n nb = X := by
        apply Nat.eq_of_testBit_eq
        intro t
        rw [Nat.testBit_and]
        cases e : X.testBit t with
        | false => rfl
        | true => rw [show (pkd h n nb).testBit t = true from q1 t e]; rfl
      rw [← this]
      exact Nat.and_le_right
    refine m3 X (by omega) ((pL X hX).mpr ⟨q1, fun b hb => ?_⟩)
    have := q2 b hb
    rw [adn_and (cS_lt h8)] at this
    exact this
theorem b_leave (hI : INV h) : Both 167 170 [aP 0, aI x, aX] [aP 149, aI x, aX, aX, aX, aX, aX] h := by
  obtain ⟨⟨n, nb, L, s, K, nx, hW⟩, hr⟩ := id hI
  have hP := hW.1
  obtain ⟨o, o'⟩ := WD_o hW
  have hwr : ∀ t : Nat, t < n → 0 ≤ h 86 t ∧ h 86 t ≤ (99 : Nat) := fun t ht => by
    have := (hW.2.1.2 t ht).1
    rw [(Rp_t hP (t := (t : Int)) (by omega) (by omega)).2.2.2.1] at this
    exact this
  refine s_Tleave (Rp_CO hP) hwr (fun h1 t1 => ⟨_, h1, rfl, rfl, FR_1 (FR_tR t1), ?_⟩)
  have hF := FR_tR t1
  have hW1 := WD_FR hF hW
  refine s_Rleave hW1.1 hW1.2.1 (fun h2 t2 => ⟨h2, ?_, rfl, ?_, INV_FR hI (FR_t hF (FR_scT t2))⟩)
  · have ec : lfO h1 n L s = lfO h n L s := by
      funext b
      have eg : ∀ S, gW h1 L s 7 (h 82 b) b S = gW h L s 7 (h 82 b) b S := fun S => by
        unfold gW
        rw [fgv_t t1, t1 91 (by decide), t1 92 (by decide), t1 93 (by decide)]
      have ep : pLf h1 n L s b = pLf h n L s b := by
        funext S
        unfold pLf
        rw [cS_t t1, t1 82 (by decide), eg]
      unfold lfO
      rw [ep, t1 86 (by decide), cS_t t1]
    rw [← q_leave o.2.2.2.1 o.2.1 o.2.2.2.2.2.2.2.1 o.2.2.2.2.2.1, ec, t1 86 (by decide)]
  · rw [FR_1 (FR_scT t2), FR_1 hF]
end LS
