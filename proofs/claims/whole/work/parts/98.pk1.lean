/-! packing: numbers, and the class's helpers -/
def cb (Z t : Nat) : Nat := (List.range t).countP (fun i => Z.testBit i)
def mvN (Z k : Nat) : Nat := ((List.range 8).filter (fun t => Z.testBit t)).getD k 0
theorem mv_ok : ∀ Z : Nat, Z < 256 → ∀ k : Nat, k < 8 → (k < popc Z → Z.testBit (mvN Z k) = true ∧ mvN Z k < 8 ∧ cb Z (mvN Z k) = k) ∧ (Z.testBit k = true → mvN Z (cb Z k) = k ∧ cb Z k < popc Z) := by decide +kernel
theorem cb_s (Z t : Nat) : cb Z (t + 1) = cb Z t + (if Z.testBit t = true then 1 else 0) := by
  unfold cb
  rw [List.range_succ, List.countP_append, List.countP_cons, List.countP_nil]
  by_cases e : Z.testBit t = true <;> simp [e]
theorem cb_8 (Z : Nat) : cb Z 8 = popc Z := rfl
theorem cb_mono (Z : Nat) {a b : Nat} (h : a ≤ b) : cb Z a ≤ cb Z b := by
  induction b with
  | zero => have : a = 0 := by omega
            subst this; exact Nat.le_refl _
  | succ b ih =>
    by_cases e : a = b + 1
    · subst e; exact Nat.le_refl _
    · have := ih (by omega)
      rw [cb_s]; omega
def dgt (nb M v k : Nat) : Nat := v / nb ^ (M - 1 - k) % nb
theorem dm1 {q N : Nat} (hN : 1 ≤ N) (h : q % N + 1 < N) : (q + 1) % N = q % N + 1 ∧ (q + 1) / N = q / N := by
  have h2 := Nat.div_add_mod q N
  have : q + 1 = (q % N + 1) + N * (q / N) := by omega
  constructor
  · rw [this, Nat.add_mul_mod_self_left, Nat.mod_eq_of_lt h]
  · rw [this, Nat.add_mul_div_left _ _ hN, Nat.div_eq_of_lt h, Nat.zero_add]
theorem dm2 {q N : Nat} (hN : 1 ≤ N) (h : q % N + 1 = N) : (q + 1) % N = 0 ∧ (q + 1) / N = q / N + 1 := by
  have h2 := Nat.div_add_mod q N
  have : q + 1 = N * (q / N + 1) := by rw [Nat.mul_add, Nat.mul_one]; omega
  rw [this]
  exact ⟨Nat.mul_mod_right _ _, Nat.mul_div_cancel_left _ hN⟩
/-- all cells but those that a packing is tried with are as they were -/
def pR (h g : am_F) : Prop := (∀ a, a ≠ 137 → a ≠ 138 → a ≠ 141 → a ≠ 142 → a ≠ 143 → a ≠ 144 → g a = h a)
section PK
variable {g h h' h1 h2 u : am_F} {Q : am_V → am_S → Prop} {so j bj x y z o c w r k : Int} {n nb L s K nx b m a q B S T i gg l M Z v : Nat}
theorem lp_next (hM : M ≤ 6) (hnb : 1 ≤ nb) (hnb3 : nb ≤ 3) (hq : ∀ g, (∀ a, a ≠ 143 → g a = u a) → (∀ k : Nat, k < M → g 143 k = (dgt nb M (v + 1) k : Int)) → Q aV (sT g)) : ∀ (d : Nat) (g : am_F), d ≤ M → (∀ a, a ≠ 143 → g a = u a) → (∀ k : Nat, k < d → g 143 k = (dgt nb M v k : Int)) → (∀ k : Nat, d ≤ k → k < M → g 143 k = (dgt nb M (v + 1) k : Int)) → (v + 1) / nb ^ (M - d) = v / nb ^ (M - d) + 1 → wp 153 (am_ju 153 5) [aP 137, aI (nb : Int), aI ((d : Int) - 1)] [] (sT g) Q := by
  intro d
  have l1 := ln_143
  have k1 := kd_143
  induction d with
  | zero =>
    intro g hd hg h1 h2 hc
    rw [ju_153_5]
    simp only [ju_153_29, r_aLD0, r_gI, r_iCONST, r_iSUB, r_iST2, r_iLD2, r_IF2, r_gR, r_DUP2, r_iALD, r_iALDs, r_iADD, r_iAST, r_iLD1, r_IC3, r_vRET, r_IINC2, r_GOTO, eq_self, Int.reduceLT, Int.reduceLE, Int.reduceEq, true_or, or_true, and_self, true_and, and_true, w8_0, w8_1, w8_2, w8_3, w8_4, nl_I, nl_P, nl_X, pu_I, pu_J, pu_V]
    rw [if_pos (by omega)]
    exact hq g hg (fun k hk => h2 k (by omega) hk)
  | succ d ih =>
    intro g hd hg h1 h2 hc
    have e1 : ((d + 1 : Nat) : Int) - 1 = (d : Int) := by omega
    have d0 : (0 : Int) ≤ d := by omega
    have d6 : (d : Int) < 6 := by omega
    have hmd : M - 1 - d = M - (d + 1) := by omega
    have ev : g 143 d = ((v / nb ^ (M - (d + 1)) % nb : Nat) : Int) := by rw [h1 d (by omega)]; unfold dgt; rw [hmd]
    have hlt : v / nb ^ (M - (d + 1)) % nb < nb := Nat.mod_lt _ hnb
    have es : up g 143 d (((v / nb ^ (M - (d + 1)) % nb : Nat) : Int) + 1) 143 d = ((v / nb ^ (M - (d + 1)) % nb : Nat) : Int) + 1 := up_s
    have hpw : nb ^ (M - d) = nb ^ (M - (d + 1)) * nb := by rw [← Nat.pow_succ]; congr 1; omega
    rw [e1, ju_153_5]
    simp (disch := first | assumption | omega | exact w8_0 | exact w8_1 _ | exact w8_2 _ _ | exact w8_3 _ _ _ | exact w8_4 _ _ _ _ | exact nl_I _ | exact nl_P _ | exact nl_X | decide | exact w8_5 _ _ _ _ _) only [r_aLD0, r_gI, r_iCONST, r_iSUB, r_iST2, r_iLD2, r_IF2, r_gR, r_DUP2, r_iALDc, r_iALDs, r_iADD, r_iASTc, r_iLD1, r_IC3, r_vRET, r_IINC2, r_GOTO, eq_self, Int.reduceLT, Int.reduceLE, Int.reduceEq, true_or, or_true, and_self, true_and, and_true, w8_0, w8_1, w8_2, w8_3, w8_4, nl_I, nl_P, nl_X, pu_I, pu_J, pu_V, w3_id, Int.add_zero, r_DUP2, kd_137, rR_137_7, ev, es]
    rw [if_neg (by omega)]
    by_cases e : v / nb ^ (M - (d + 1)) % nb + 1 < nb
    · rw [if_neg (by omega)]
      obtain ⟨m1, m2⟩ := dm1 hnb e
      refine hq _ (fun a ha => by rw [up_ne ha, hg a ha]) (fun k hk => ?_)
      by_cases z : k = d
      · subst z
        rw [up_s]
        unfold dgt
        rw [hmd, hc, m1]
        rfl
      · rw [up_k (by omega)]
        by_cases y : k < d
        · rw [h1 k (by omega)]
          unfold dgt
          have hx : nb ^ (M - 1 - k) = nb ^ (M - (d + 1)) * nb * nb ^ (d - 1 - k) := by rw [← Nat.pow_succ, ← Nat.pow_add]; congr 1; omega
          rw [hx, ← Nat.div_div_eq_div_mul, ← Nat.div_div_eq_div_mul, ← Nat.div_div_eq_div_mul, ← Nat.div_div_eq_div_mul, hc, m2]
        · exact h2 k (by omega) hk
    · have e' : v / nb ^ (M - (d + 1)) % nb + 1 = nb := by omega
      obtain ⟨m1, m2⟩ := dm2 hnb e'
      rw [if_pos (by omega), ju_153_22]
      have hw : w3 ((d : Int) + -1) = (d : Int) - 1 := by rw [w3_id (by omega) (by omega)]; omega
      simp (disch := first | assumption | omega | exact w8_0 | exact w8_1 _ | exact w8_2 _ _ | exact w8_3 _ _ _ | exact w8_4 _ _ _ _ | exact nl_I _ | exact nl_P _ | exact nl_X | decide | exact w8_5 _ _ _ _ _) only [r_aLD0, r_gI, r_iCONST, r_iSUB, r_iST2, r_iLD2, r_IF2, r_gR, r_DUP2, r_iALDc, r_iALDs, r_iADD, r_iASTc, r_iLD1, r_IC3, r_vRET, r_IINC2, r_GOTO, eq_self, Int.reduceLT, Int.reduceLE, Int.reduceEq, true_or, or_true, and_self, true_and, and_true, w8_0, w8_1, w8_2, w8_3, w8_4, nl_I, nl_P, nl_X, pu_I, pu_J, pu_V, w3_id, Int.add_zero, kd_137, rR_137_7, hw]
      refine ih _ (by omega) (fun a ha => by rw [up_ne ha, up_ne ha, hg a ha]) (fun k hk => by rw [up_k (by omega), up_k (by omega)]; exact h1 k (by omega)) (fun k q1 q2 => ?_) (by rw [hpw, ← Nat.div_div_eq_div_mul, ← Nat.div_div_eq_div_mul, hc, m2])
      by_cases z : k = d
      · subst z
        rw [up_s]
        unfold dgt
        rw [hmd, hc, m1]
        rfl
      · rw [up_k (by omega), up_k (by omega)]
        exact h2 k (by omega) q2
theorem s_next (hM : M ≤ 6) (hnb : 1 ≤ nb) (hnb3 : nb ≤ 3) (hm : u 137 5 = (M : Int)) (hr : ∀ k : Nat, k < M → u 143 k = (dgt nb M v k : Int)) (hq : ∀ g, (∀ a, a ≠ 143 → g a = u a) → (∀ k : Nat, k < M → g 143 k = (dgt nb M (v + 1) k : Int)) → Q aV (sT g)) : wp 153 (am_ju 153 0) [aP 137, aI (nb : Int), aX] [] (sT u) Q := by
  have hw : w3 ((M : Int) - 1) = (M : Int) - 1 := w3_id (by omega) (by omega)
  rw [ju_153_0]
  simp only [r_aLD0, r_gI, r_iCONST, r_iSUB, r_iST2, r_iLD2, r_IF2, r_gR, r_DUP2, r_iALD, r_iALDs, r_iADD, r_iAST, r_iLD1, r_IC3, r_vRET, r_IINC2, r_GOTO, eq_self, Int.reduceLT, Int.reduceLE, Int.reduceEq, true_or, or_true, and_self, true_and, and_true, w8_0, w8_1, w8_2, w8_3, w8_4, nl_I, nl_P, nl_X, pu_I, pu_J, pu_V, kd_137, hm, hw]
  exact lp_next hM hnb hnb3 hq M u (Nat.le_refl _) (fun _ _ => rfl) hr (fun k q1 q2 => absurd q2 (by omega)) (by rw [Nat.sub_self, Nat.pow_zero, Nat.div_one, Nat.div_one])
/-- no bag is torn -/
def tnB (h : am_F) : Nat → Bool
  | 0 => false
  | b + 1 => tnB h b || tornB (h 93 b).toNat
theorem tnB_mono (h : am_F) {a : Nat} (ha : tnB h a = true) : ∀ b, a ≤ b → tnB h b = true := by
  intro b
  induction b with
  | zero => intro hb; have : a = 0 := by omega
            subst this; exact ha
  | succ b ih =>
    intro hb
    by_cases e : a = b + 1
    · subst e; exact ha
    · rw [tnB, ih (by omega)]; rfl
theorem lp_torn (hC : CO h n nb L s) : ∀ (d b : Nat), b + d = nb → tnB h b = false → (wp 147 (am_ju 147 2) [aP 80, aI (b : Int)] [] (sT h) Q ↔ Q (aI (if tnB h nb = true then 1 else 0)) (sT h)) := by
  intro d
  have l1 := ln_93
  have k1 := kd_93
  obtain ⟨c1, c2, c3, c4, c5, c6, c7, c8, c9, c10⟩ := id hC
  induction d with
  | zero =>
    intro b hb ht
    have hb : b = nb := by omega
    subst hb
    rw [ju_147_2]
    simp only [ju_147_18, r_iCONST, r_iST1, r_iLD1, r_aLD0, r_gR, r_gI, r_IC3, r_iALD, r_iALDs, cl_30, r_IF0, r_zRET, r_IINC1, r_GOTO, eq_self, Int.reduceLT, Int.reduceLE, Int.reduceEq, true_or, or_true, and_self, true_and, and_true, w8_0, w8_1, w8_2, w8_3, w8_4, nl_I, nl_P, nl_X, pu_I, pu_J, pu_V, kd_80, ln_80, rR_80_0, rR_80_1, rR_80_2, rR_80_3, kd_81, ln_81, rR_81_0, rR_81_1, rR_81_2, rR_81_3, rR_81_4, rR_81_5, c1, r_zRET0]
    rw [if_pos (by omega), if_neg (by simp [ht])]
  | succ d ih =>
    intro b hb ht
    obtain ⟨d1, d2, d3, d4⟩ := c10 b (by omega)
    obtain ⟨gg, eg⟩ := Int.eq_ofNat_of_zero_le d4.1
    have b0 : (0 : Int) ≤ b := by omega
    have b3 : (b : Int) < 3 := by omega
    have hw : w3 ((b : Int) + 1) = ((b + 1 : Nat) : Int) := w3_id (by omega) (by omega)
    have et : tnB h (b + 1) = (tnB h b || tornB gg) := by rw [tnB, eg, Int.toNat_natCast]
    rw [ju_147_2]
    simp (disch := first | assumption | omega | exact w8_0 | exact w8_1 _ | exact w8_2 _ _ | exact w8_3 _ _ _ | exact w8_4 _ _ _ _ | exact nl_I _ | exact nl_P _ | exact nl_X | decide | exact w8_5 _ _ _ _ _) only [ju_147_16, r_iCONST, r_iST1, r_iLD1, r_aLD0, r_gR, r_gI, r_IC3, r_iALDc, r_iALDs, cl_30, r_IF0, r_zRET, r_IINC1, r_GOTO, eq_self, Int.reduceLT, Int.reduceLE, Int.reduceEq, true_or, or_true, and_self, true_and, and_true, w8_0, w8_1, w8_2, w8_3, w8_4, nl_I, nl_P, nl_X, pu_I, pu_J, pu_V, w3_id, Int.add_zero, kd_80, kd_81, kd_90, rR_80_0, rR_80_2, rR_90_2, c1, eg, s_isTorn (show gg < 16 by omega), b01, r_zRET1, hw]
    rw [if_neg (by omega)]
    by_cases e : tornB gg = true
    · have := tnB_mono h (a := b + 1) (by rw [et, e, Bool.or_true]) nb (by omega)
      rw [if_neg (by simpa using e), if_pos this]
    · have e' : tornB gg = false := by simpa using e
      rw [if_pos e]
      exact ih (b + 1) (by omega) (by rw [et, ht, e']; rfl)
theorem s_tornB (hC : CO h n nb L s) : wp 147 (am_ju 147 0) [aP 80, aX] [] (sT h) Q ↔ Q (aI (if tnB h nb = true then 1 else 0)) (sT h) := by
  rw [ju_147_0]
  simp only [r_iCONST, r_iST1, r_iLD1, r_aLD0, r_gR, r_gI, r_IC3, r_iALD, r_iALDs, cl_30, r_IF0, r_zRET, r_IINC1, r_GOTO, eq_self, Int.reduceLT, Int.reduceLE, Int.reduceEq, true_or, or_true, and_self, true_and, and_true, w8_0, w8_1, w8_2, w8_3, w8_4, nl_I, nl_P, nl_X, pu_I, pu_J, pu_V]
  exact lp_torn hC nb 0 (Nat.zero_add nb) rfl
/-- things in bags or nowhere -/
def zL (h : am_F) (n : Nat) : Nat := setF (fun t => decide (h 94 t < 10)) n
theorem zL_lt (h8 : n ≤ 8) : zL h n < 256 := Nat.lt_of_lt_of_le (setF_lt _ n) (Nat.pow_le_pow_right (n := 2) (j := 8) (by decide) h8)
theorem s_toPack (h8 : n ≤ 8) (hn : h 81 7 = (n : Int)) : wp 148 (am_ju 148 0) [aP 80] [] (sT h) Q ↔ Q (aI (zL h n : Int)) (sT h) := by
  obtain ⟨pn, pn2⟩ := pow_n h8
  have p256 : 2 ^ n ≤ 256 := Nat.pow_le_pow_right (n := 2) (j := 8) (by decide) h8
  have hp : 0 < 2 ^ n := Nat.two_pow_pos n
  have hg : setF (fun t => decide (10 ≤ h 94 t)) n < 256 := Nat.lt_of_lt_of_le (setF_lt _ n) p256
  have e1 : w3 ((2 : Int) ^ n - 1) = ((2 ^ n - 1 : Nat) : Int) := by
    have : (2 : Int) ^ n = ((2 ^ n : Nat) : Int) := by rw [Int.natCast_pow]; rfl
    rw [this, w3_id (by omega) (by omega)]; omega
  have e2 : adn (2 ^ n - 1) (setF (fun t => decide (10 ≤ h 94 t)) n) = zL h n := by
    apply Nat.eq_of_testBit_eq
    intro t
    rw [adn_bit (by omega), Nat.testBit_two_pow_sub_one]
    unfold zL
    rw [setF_bit, setF_bit]
    by_cases a : t < n
    · simp only [a, decide_true, Bool.true_and]
      by_cases b : 10 ≤ h 94 t
      · simp [b, show ¬ h 94 t < 10 by omega]
      · simp [b, show h 94 t < 10 by omega]
    · simp [a]
  simp only [ju_148_0, r_iCONST, r_aLD0, r_gR, r_gI, r_iSHL, r_iSUB, cl_103, r_iXOR, r_iAND, r_iRET, eq_self, Int.reduceLT, Int.reduceLE, Int.reduceEq, true_or, or_true, and_self, true_and, and_true, w8_0, w8_1, w8_2, w8_3, w8_4, nl_I, nl_P, nl_X, pu_I, pu_J, pu_V, kd_80, ln_80, rR_80_0, rR_80_1, rR_80_2, rR_80_3, kd_81, ln_81, rR_81_0, rR_81_1, rR_81_2, rR_81_3, rR_81_4, rR_81_5, hn, pn, e1, s_ground h8 hn, adn_ok (2 ^ n - 1) _ (show 2 ^ n - 1 < 256 by omega) hg, e2]
end PK
