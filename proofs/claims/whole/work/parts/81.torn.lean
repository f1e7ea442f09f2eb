/-! torn -/
def ft (G : Nat → Nat) (x : Int) : Nat → Nat → Int
  | 0, _ => 99
  | m + 1, k => if G k = 0 then ft G x m (k + 1) else if (G k : Int) = x then (k : Int) else 99
def Gf (h : am_F) (n : Nat) (bj : Int) (s L b k : Nat) : Nat := if s ≤ k ∧ k < L then eF h n bj s b (k - s) else 0
def mN (v : Int) : Int := if v = 99 then -1 else v
section TN
variable {g h h' h1 h2 u : am_F} {Q : am_V → am_S → Prop} {so j bj x y z : Int} {n nb L s K nx b i m k a : Nat} {G : Nat → Nat}
theorem ft_r : ∀ (m k : Nat), k + m ≤ 99 → ft G x m k = 99 ∨ (0 ≤ ft G x m k ∧ ft G x m k < ((k + m : Nat) : Int)) := by
  intro m
  induction m with
  | zero => intro k _; left; rfl
  | succ m ih =>
    intro k hk
    rw [ft]
    split
    · have := ih (k + 1) (by omega); omega
    · split
      · right; omega
      · left; rfl
theorem ft_skip : ∀ (a m k : Nat), (∀ i, k ≤ i → i < k + a → G i = 0) → ft G x (a + m) k = ft G x m (k + a) := by
  intro a
  induction a with
  | zero => intro m k _; rw [Nat.zero_add, Nat.add_zero]
  | succ a ih =>
    intro m k hz
    rw [show a + 1 + m = (a + m) + 1 by omega, ft, if_pos (hz k (by omega) (by omega)), ih m (k + 1) (fun i q1 q2 => hz i (by omega) (by omega)), show k + 1 + a = k + (a + 1) by omega]
theorem ft_end : ∀ (m k : Nat), (∀ i, k ≤ i → i < k + m → G i = 0) → ft G x m k = 99 := by
  intro m k hz
  have := ft_skip (x := x) m 0 k hz
  rw [Nat.add_zero] at this
  rw [this]; rfl
theorem ft_tr : ∀ (m a k : Nat), (∀ i, k + m ≤ i → i < k + m + a → G i = 0) → ft G x (m + a) k = ft G x m k := by
  intro m
  induction m with
  | zero => intro a k hz; rw [Nat.zero_add]; exact ft_end a k (fun i q1 q2 => hz i (by omega) (by omega))
  | succ m ih =>
    intro a k hz
    rw [show m + 1 + a = (m + a) + 1 by omega, ft, ft, ih a (k + 1) (fun i q1 q2 => hz i (by omega) (by omega))]
theorem ft_G (hs : s ≤ L) (hL : L ≤ 20) : ft (Gf h n bj s L b) x 20 0 = ft (Gf h n bj s L b) x (L - s) s := by
  have e1 := ft_skip (G := Gf h n bj s L b) (x := x) s (20 - s) 0 (fun i _ q => by unfold Gf; rw [if_neg (by omega)])
  have e2 := ft_tr (G := Gf h n bj s L b) (x := x) (L - s) (20 - L) s (fun i q _ => by unfold Gf; rw [if_neg (by omega)])
  rw [show s + (20 - s) = 20 by omega, Nat.zero_add] at e1
  rw [show L - s + (20 - L) = 20 - s by omega] at e2
  rw [e1, e2]
theorem lp_ff (hr : ∀ k : Nat, k < 20 → g 139 k = (G k : Int)) : ∀ (m k : Nat), k + m = 20 → (wp 194 (am_ju 194 10) [aP 137, aI y, aI bj, aI x, aI (k : Int)] [] (sT g) Q ↔ Q (aI (ft G x m k)) (sT g)) := by
  intro m
  have l1 := ln_139
  have k1 := kd_139
  induction m with
  | zero =>
    intro k hk
    have hk : k = 20 := by omega
    subst hk
    rw [ju_194_10]
    simp only [ju_194_30, r_aLD0, r_gR, r_iCONST, cl_79, r_iLD1, r_iLD2, cl_193, r_iST4, r_iLD4, r_bPUSH, r_IC3, r_iALD, r_iALDs, r_IF0, r_iLD3, r_IC1, r_GOTO, r_iRET, r_IINC4, eq_self, Int.reduceLT, Int.reduceLE, Int.reduceEq, true_or, or_true, and_self, true_and, and_true, w8_0, w8_1, w8_2, w8_3, w8_4, nl_I, nl_P, nl_X, pu_I, pu_J, pu_V, ft]
    rw [if_pos (by decide)]
  | succ m ih =>
    intro k hk
    have k0 : (0 : Int) ≤ k := by omega
    have k20 : (k : Int) < 20 := by omega
    have hw : w3 ((k : Int) + 1) = ((k + 1 : Nat) : Int) := w3_id (by omega) (by omega)
    have ih := ih (k + 1) (by omega)
    rw [ft, ju_194_10]
    simp (disch := first | assumption | omega | exact w8_0 | exact w8_1 _ | exact w8_2 _ _ | exact w8_3 _ _ _ | exact w8_4 _ _ _ _ | exact nl_I _ | exact nl_P _ | exact nl_X | decide | exact w8_5 _ _ _ _ _) only [ju_194_26, ju_194_27, ju_194_28, r_aLD0, r_gR, r_iCONST, cl_79, r_iLD1, r_iLD2, cl_193, r_iST4, r_iLD4, r_bPUSH, r_IC3, r_iALDc, r_iALDs, r_IF0, r_iLD3, r_IC1, r_GOTO, r_iRET, r_IINC4, eq_self, Int.reduceLT, Int.reduceLE, Int.reduceEq, true_or, or_true, and_self, true_and, and_true, w8_0, w8_1, w8_2, w8_3, w8_4, nl_I, nl_P, nl_X, pu_I, pu_J, pu_V, w3_id, Int.add_zero, kd_137, rR_137_2, hr k (by omega), hw]
    rw [if_neg (by omega)]
    by_cases e : G k = 0
    · rw [if_pos (by omega), if_pos e]
      exact ih
    · rw [if_neg (by omega), if_neg e]
      by_cases f : (G k : Int) = x
      · rw [if_neg (by simpa using f), if_pos f]
      · rw [if_pos f, if_neg f]
theorem s_firstFall (hC : CO h n nb L s) (hb : b < nb) (hbj : 0 ≤ bj ∧ bj ≤ 7) (hg : oR h g) (hq : ∀ g', oR h g' → Q (aI (ft (Gf h n bj s L b) x (L - s) s)) (sT g')) : wp 194 (am_ju 194 0) [aP 137, aI (b : Int), aI bj, aI x, aX] [] (sT g) Q := by
  have hL := hC.2.2.2.2.2.1
  have hs := hC.2.2.2.2.2.2.2.1
  rw [ju_194_0]
  simp only [r_aLD0, r_gR, r_iCONST, cl_79, r_iLD1, r_iLD2, cl_193, r_iST4, r_iLD4, r_bPUSH, r_IC3, r_iALD, r_iALDs, r_IF0, r_iLD3, r_IC1, r_GOTO, r_iRET, r_IINC4, eq_self, Int.reduceLT, Int.reduceLE, Int.reduceEq, true_or, or_true, and_self, true_and, and_true, w8_0, w8_1, w8_2, w8_3, w8_4, nl_I, nl_P, nl_X, pu_I, pu_J, pu_V, kd_137, ln_137, rR_137_0, rR_137_1, rR_137_2, rR_137_3, rR_137_4, rR_137_6, rR_137_7, rR_137_8, s_fillI (l := 20) kd_139 ln_139 (by decide)]
  refine s_addFalls (F := fun _ => 0) hC hb hbj (fun _ => by decide) (fun a q1 q2 => by rw [fil_ne q2, hg a q1 q2]) (fun k hk => by rw [fil_at (by omega) (by omega)]; rfl) (fun g' hg' hr => ?_)
  simp only [r_aLD0, r_gR, r_iCONST, cl_79, r_iLD1, r_iLD2, cl_193, r_iST4, r_iLD4, r_bPUSH, r_IC3, r_iALD, r_iALDs, r_IF0, r_iLD3, r_IC1, r_GOTO, r_iRET, r_IINC4, eq_self, Int.reduceLT, Int.reduceLE, Int.reduceEq, true_or, or_true, and_self, true_and, and_true, w8_0, w8_1, w8_2, w8_3, w8_4, nl_I, nl_P, nl_X, pu_I, pu_J, pu_V]
  have hr2 : ∀ k : Nat, k < 20 → g' 139 k = (Gf h n bj s L b k : Int) := fun k hk => by
    rw [hr k hk]
    unfold fa Gf
    by_cases z : s ≤ k ∧ k < L
    · rw [if_pos (by omega), if_pos z, Nat.zero_or]
    · rw [if_neg (by omega), if_neg z]
  have := hq g' hg'
  rw [← ft_G hs hL] at this
  exact (lp_ff hr2 20 0 rfl).mpr this
theorem TR_c (e : g 151 = u 151) (hT : TR h u n nb L s bj i) : TR h g n nb L s bj i := by
  unfold TR mS at hT ⊢
  rw [e]; exact hT
theorem lp_tornAt (hC : CO h n nb L s) (hb : b < nb) (hbj : 0 ≤ bj ∧ bj ≤ 7) (hq : ∀ g', FR h g' → Q (aI (mN (ft (Gf h n bj s L b) x (L - s) s))) (sT g')) : ∀ (m i : Nat) (g : am_F), s + i + m = L → FR h g → TR h g n nb L s bj i → ft (Gf h n bj s L b) x (L - s) s = ft (Gf h n bj s L b) x m (s + i) → wp 196 (am_ju 196 5) [aP 149, aI (b : Int), aI x, aI bj] [] (sT g) Q := by
  intro m
  have l1 := ln_151
  have k1 := kd_151
  have hL := hC.2.2.2.2.2.1
  induction m with
  | zero =>
    intro i g hi hF hT he
    obtain ⟨⟨t0, t1, t2, t3⟩, -⟩ := id hT
    rw [ju_196_5]
    simp (disch := first | assumption | omega | exact w8_0 | exact w8_1 _ | exact w8_2 _ _ | exact w8_3 _ _ _ | exact w8_4 _ _ _ _ | exact nl_I _ | exact nl_P _ | exact nl_X | decide | exact w8_5 _ _ _ _ _) only [ju_196_39, r_aLD0, r_gR, cl_90, r_iCONST, r_iALDc, r_iALDs, r_IC3, r_iLD1, r_pI, r_iLD3, cl_125, r_POP, r_gI, r_IF0, r_iLD2, r_IC1, r_iSUB, r_GOTO, r_iRET, eq_self, Int.reduceLT, Int.reduceLE, Int.reduceEq, true_or, or_true, and_self, true_and, and_true, w8_0, w8_1, w8_2, w8_3, w8_4, nl_I, nl_P, nl_X, pu_I, pu_J, pu_V, w3_id, Int.add_zero, kd_149, rR_149_1, t2, t3]
    rw [if_pos (by omega)]
    have := hq g hF
    rw [he] at this
    exact this
  | succ m ih =>
    intro i g hi hF hT he
    obtain ⟨⟨t0, t1, t2, t3⟩, -⟩ := id hT
    rw [ju_196_5]
    simp (disch := first | assumption | omega | exact w8_0 | exact w8_1 _ | exact w8_2 _ _ | exact w8_3 _ _ _ | exact w8_4 _ _ _ _ | exact nl_I _ | exact nl_P _ | exact nl_X | decide | exact w8_5 _ _ _ _ _) only [r_aLD0, r_gR, cl_90, r_iCONST, r_iALDc, r_iALDs, r_IC3, r_iLD1, r_pI, r_iLD3, cl_125, r_POP, r_gI, r_IF0, r_iLD2, r_IC1, r_iSUB, r_GOTO, r_iRET, eq_self, Int.reduceLT, Int.reduceLE, Int.reduceEq, true_or, or_true, and_self, true_and, and_true, w8_0, w8_1, w8_2, w8_3, w8_4, nl_I, nl_P, nl_X, pu_I, pu_J, pu_V, w3_id, Int.add_zero, kd_149, kd_151, rR_149_1, t2, t3]
    rw [if_neg (by omega)]
    refine s_goT hC hbj (by omega) (TR_c (u := g) (up_ne (by decide) _ _) hT) (fun g' hsc hT' hw => ?_)
    have hw' := hw b hb up_s
    have hF' : FR h g' := FR_t hF (FR_t (fun a k q => by
      by_cases z : a = 149
      · subst z; rw [up_k (fun e => q (by unfold scr; omega))]
      · rw [up_ne z]) (FR_scT hsc))
    obtain ⟨⟨t0', t1', t2', t3'⟩, -⟩ := id hT'
    have eG : Gf h n bj s L b (s + i) = eF h n bj s b i := by
      unfold Gf
      rw [if_pos (by omega), show s + i - s = i by omega]
    rw [ft, eG] at he
    simp (disch := first | assumption | omega | exact w8_0 | exact w8_1 _ | exact w8_2 _ _ | exact w8_3 _ _ _ | exact w8_4 _ _ _ _ | exact nl_I _ | exact nl_P _ | exact nl_X | decide | exact w8_5 _ _ _ _ _) only [pu_I, r_POP, r_aLD0, r_gR, cl_90, r_iCONST, r_iALDc, r_iALDs, r_IC3, r_iLD1, r_pI, r_iLD3, cl_125, r_POP, r_gI, r_IF0, r_iLD2, r_IC1, r_iSUB, r_GOTO, r_iRET, eq_self, Int.reduceLT, Int.reduceLE, Int.reduceEq, true_or, or_true, and_self, true_and, and_true, w8_0, w8_1, w8_2, w8_3, w8_4, nl_I, nl_P, nl_X, pu_I, pu_J, pu_V, w3_id, Int.add_zero, kd_149, rR_149_1, hw', t3']
    by_cases e : eF h n bj s b i = 0
    · rw [if_pos (by omega)]
      rw [if_pos e] at he
      exact ih (i + 1) g' (by omega) hF' hT' he
    · rw [if_neg e] at he
      rw [if_neg (by omega)]
      have := hq g' hF'
      by_cases f : (eF h n bj s b i : Int) = x
      · rw [if_pos f] at he
        rw [he] at this
        rw [if_neg (by simpa using f), ju_196_38]
        simp only [r_aLD0, r_gR, cl_90, r_iCONST, r_iALD, r_iALDs, r_IC3, r_iLD1, r_pI, r_iLD3, cl_125, r_POP, r_gI, r_IF0, r_iLD2, r_IC1, r_iSUB, r_GOTO, r_iRET, eq_self, Int.reduceLT, Int.reduceLE, Int.reduceEq, true_or, or_true, and_self, true_and, and_true, w8_0, w8_1, w8_2, w8_3, w8_4, nl_I, nl_P, nl_X, pu_I, pu_J, pu_V]
        unfold mN at this
        rw [if_neg (by omega)] at this
        rw [show ((s + (i + 1) : Nat) : Int) - 1 = ((s + i : Nat) : Int) by omega]
        exact this
      · rw [if_neg f] at he
        rw [he] at this
        rw [if_pos f, ju_196_37]
        simp only [ju_196_38, r_aLD0, r_gR, cl_90, r_iCONST, r_iALD, r_iALDs, r_IC3, r_iLD1, r_pI, r_iLD3, cl_125, r_POP, r_gI, r_IF0, r_iLD2, r_IC1, r_iSUB, r_GOTO, r_iRET, eq_self, Int.reduceLT, Int.reduceLE, Int.reduceEq, true_or, or_true, and_self, true_and, and_true, w8_0, w8_1, w8_2, w8_3, w8_4, nl_I, nl_P, nl_X, pu_I, pu_J, pu_V]
        exact this
theorem s_tornAt (hP : Rp h 0 150 n nb L s) (hb : b < nb) (hbj : 0 ≤ bj ∧ bj ≤ 7) (hF : FR h g) (hq : ∀ g', FR h g' → Q (aI (mN (ft (Gf h n bj s L b) x (L - s) s))) (sT g')) : wp 196 (am_ju 196 0) [aP 149, aI (b : Int), aI x, aI bj] [] (sT g) Q := by
  have hs := hP.2.2.2.2.2.2.1
  rw [ju_196_0]
  simp only [r_aLD0, r_gR, cl_90, r_iCONST, r_iALD, r_iALDs, r_IC3, r_iLD1, r_pI, r_iLD3, cl_125, r_POP, r_gI, r_IF0, r_iLD2, r_IC1, r_iSUB, r_GOTO, r_iRET, eq_self, Int.reduceLT, Int.reduceLE, Int.reduceEq, true_or, or_true, and_self, true_and, and_true, w8_0, w8_1, w8_2, w8_3, w8_4, nl_I, nl_P, nl_X, pu_I, pu_J, pu_V, kd_149, ln_149, rR_149_0, rR_149_1, rR_149_2, rR_149_3, rR_149_5, rR_149_7, rR_149_8, rR_149_9, rR_149_10, rR_149_16, rR_149_17, rR_149_18, s_copies kd_150 ln_150 kd_151 ln_151 (by decide : (150 : Int) ≠ 151)]
  exact lp_tornAt (Rp_CO hP) hb hbj hq (L - s) 0 _ (by omega) (FR_t hF (FR_scT scT_cp)) (TR_0 hP (FR_150 hF)) rfl
def tcn (A : Nat → Int) : Nat → Int
  | 0 => 0
  | j + 1 => tcn A j + (if A j < 99 then 1 else 0)
def tls (A : Nat → Int) : Nat → Int
  | 0 => 99
  | j + 1 => if A j < tls A j then A j else tls A j
theorem tcn_r (A : Nat → Int) : ∀ j, 0 ≤ tcn A j ∧ tcn A j ≤ j := by
  intro j
  induction j with
  | zero => exact ⟨Int.le_refl _, Int.le_refl _⟩
  | succ j ih => rw [tcn]; split <;> omega
theorem tls_r (A : Nat → Int) (hA : ∀ j, A j = 99 ∨ (0 ≤ A j ∧ A j < 20)) : ∀ j, tls A j = 99 ∨ (0 ≤ tls A j ∧ tls A j < 20) := by
  intro j
  induction j with
  | zero => left; rfl
  | succ j ih => rw [tls]; have := hA j; split <;> omega
def tAt (h : am_F) (n s L b : Nat) (x : Int) (j : Nat) : Int := ft (Gf h n (j : Int) s L b) x (L - s) s
theorem tAt_r (hs : s ≤ L) (hL : L ≤ 20) (j : Nat) : tAt h n s L b x j = 99 ∨ (0 ≤ tAt h n s L b x j ∧ tAt h n s L b x j < 20) := by
  have := ft_r (G := Gf h n (j : Int) s L b) (x := x) (L - s) s (by omega)
  unfold tAt
  omega
def tAns (A : Nat → Int) (z : Int) : Int := if z = 0 then tcn A 8 else told (tls A 8)
theorem lp_Ttorn (hC : CO h n nb L s) (hb : b < nb) (hq : ∀ g', oR h g' → Q (aI (tAns (tAt h n s L b x) z)) (sT g')) : ∀ (m j : Nat) (g : am_F) (v : am_V), j + m = 8 → am_nl v = true → oR h g → wp 195 (am_ju 195 31) [aP 0, aI (b : Int), aI x, aI z, aI (tcn (tAt h n s L b x) j), aI (tls (tAt h n s L b x) j), aI (j : Int), v] [] (sT g) Q := by
  intro m
  induction m with
  | zero =>
    intro j g v hj hv hg
    have hj : j = 8 := by omega
    subst hj
    have := hq g hg
    unfold tAns told at this
    rw [ju_195_31]
    simp only [ju_195_51, ju_195_55, ju_195_57, r_aLD0, r_gR, r_iLD1, cl_28, r_IF0, r_iLD3, r_iCONST, cl_12, r_IF1, r_iRET, r_iLD2, r_IC2, r_gI, r_iSHL, r_iST4, r_bPUSH, r_iST5, r_iST6, r_iLD6, r_IC3, cl_194, r_iST7, r_iLD7, r_IINC4, r_iLD5, r_MMIN, r_IINC6, r_GOTO, r_iLD4, cl_136, eq_self, Int.reduceLT, Int.reduceLE, Int.reduceEq, true_or, or_true, and_self, true_and, and_true, w8_0, w8_1, w8_2, w8_3, w8_4, nl_I, nl_P, nl_X, pu_I, pu_J, pu_V, s_toldStep]
    rw [if_pos (by decide)]
    by_cases e : z = 0
    · simp only [e, not_true_eq_false, if_false]
      rw [if_pos e] at this
      exact this
    · simp only [e, not_false_eq_true, if_true]
      rw [if_neg e] at this
      exact this
  | succ m ih =>
    intro j g v hj hv hg
    have hw : w3 ((j : Int) + 1) = ((j + 1 : Nat) : Int) := w3_id (by omega) (by omega)
    have hr := tcn_r (tAt h n s L b x) j
    have hw2 : w3 (tcn (tAt h n s L b x) j + 1) = tcn (tAt h n s L b x) j + 1 := w3_id (by omega) (by omega)
    rw [ju_195_31]
    simp only [r_aLD0, r_gR, r_iLD1, cl_28, r_IF0, r_iLD3, r_iCONST, cl_12, r_IF1, r_iRET, r_iLD2, r_IC2, r_gI, r_iSHL, r_iST4, r_bPUSH, r_iST5, r_iST6, r_iLD6, r_IC3, cl_194, r_iST7, r_iLD7, r_IINC4, r_iLD5, r_MMIN, r_IINC6, r_GOTO, r_iLD4, cl_136, eq_self, Int.reduceLT, Int.reduceLE, Int.reduceEq, true_or, or_true, and_self, true_and, and_true, w8_0, w8_1, w8_2, w8_3, w8_4, nl_I, nl_P, nl_X, pu_I, pu_J, pu_V, kd_0, ln_0, rR_0_0, rR_0_1, rR_0_3, rR_0_4, rR_0_5, rR_0_6, rR_0_7, rR_0_8, rR_0_9, rR_0_10, kd_137, ln_137, rR_137_0, rR_137_1, rR_137_2, rR_137_3, rR_137_4, rR_137_6, rR_137_7, rR_137_8]
    rw [if_neg (by omega)]
    refine s_firstFall hC hb ⟨by omega, by omega⟩ hg (fun g' hg' => ?_)
    have ih := ih (j + 1) g' (aI (tAt h n s L b x j)) (by omega) rfl hg'
    rw [tcn, tls] at ih
    rw [show ft (Gf h n (j : Int) s L b) x (L - s) s = tAt h n s L b x j from rfl]
    simp only [r_aLD0, r_gR, r_iLD1, cl_28, r_IF0, r_iLD3, r_iCONST, cl_12, r_IF1, r_iRET, r_iLD2, r_IC2, r_gI, r_iSHL, r_iST4, r_bPUSH, r_iST5, r_iST6, r_iLD6, r_IC3, cl_194, r_iST7, r_iLD7, r_IINC4, r_iLD5, r_MMIN, r_IINC6, r_GOTO, r_iLD4, cl_136, eq_self, Int.reduceLT, Int.reduceLE, Int.reduceEq, true_or, or_true, and_self, true_and, and_true, w8_0, w8_1, w8_2, w8_3, w8_4, nl_I, nl_P, nl_X, pu_I, pu_J, pu_V]
    by_cases e : tAt h n s L b x j < 99
    · rw [if_neg (by omega), ju_195_45]
      simp only [r_aLD0, r_gR, r_iLD1, cl_28, r_IF0, r_iLD3, r_iCONST, cl_12, r_IF1, r_iRET, r_iLD2, r_IC2, r_gI, r_iSHL, r_iST4, r_bPUSH, r_iST5, r_iST6, r_iLD6, r_IC3, cl_194, r_iST7, r_iLD7, r_IINC4, r_iLD5, r_MMIN, r_IINC6, r_GOTO, r_iLD4, cl_136, eq_self, Int.reduceLT, Int.reduceLE, Int.reduceEq, true_or, or_true, and_self, true_and, and_true, w8_0, w8_1, w8_2, w8_3, w8_4, nl_I, nl_P, nl_X, pu_I, pu_J, pu_V, hw, hw2]
      rw [if_pos e] at ih
      exact ih
    · rw [if_pos (by omega), ju_195_45]
      simp only [r_aLD0, r_gR, r_iLD1, cl_28, r_IF0, r_iLD3, r_iCONST, cl_12, r_IF1, r_iRET, r_iLD2, r_IC2, r_gI, r_iSHL, r_iST4, r_bPUSH, r_iST5, r_iST6, r_iLD6, r_IC3, cl_194, r_iST7, r_iLD7, r_IINC4, r_iLD5, r_MMIN, r_IINC6, r_GOTO, r_iLD4, cl_136, eq_self, Int.reduceLT, Int.reduceLE, Int.reduceEq, true_or, or_true, and_self, true_and, and_true, w8_0, w8_1, w8_2, w8_3, w8_4, nl_I, nl_P, nl_X, pu_I, pu_J, pu_V, hw]
      rw [if_neg e, Int.add_zero] at ih
      exact ih
theorem lp_Rtorn (hP : Rp h 0 150 n nb L s) (hb : b < nb) (hq : ∀ g', FR h g' → Q (aI (tAns (tAt h n s L b x) z)) (sT g')) : ∀ (m j : Nat) (g : am_F) (v : am_V), j + m = 8 → am_nl v = true → FR h g → wp 197 (am_ju 197 29) [aP 149, aI (b : Int), aI x, aI z, aI (tcn (tAt h n s L b x) j), aI (mN (tls (tAt h n s L b x) j)), aI (j : Int), v] [] (sT g) Q := by
  intro m
  have hL := hP.1.2.2.2.2.2.1
  have hs := hP.2.2.2.2.2.2.1
  induction m with
  | zero =>
    intro j g v hj hv hg
    have hj : j = 8 := by omega
    subst hj
    have := hq g hg
    have ht := tls_r (tAt h n s L b x) (tAt_r hs hL) 8
    unfold tAns told at this
    rw [ju_197_29]
    simp only [ju_197_59, ju_197_63, ju_197_67, ju_197_68, r_aLD0, r_iLD1, cl_33, r_IF0, r_iLD2, r_iCONST, r_gR, r_iALD, r_iALDs, r_iSHL, r_iSUB, cl_17, r_iLD3, r_IF1, r_iRET, r_iST4, r_iST5, r_iST6, r_iLD6, r_bPUSH, r_IC3, cl_196, r_iST7, r_iLD7, r_IF2, r_iLD5, r_GOTO, r_iLD4, r_iADD, r_IINC6, r_IF3, eq_self, Int.reduceLT, Int.reduceLE, Int.reduceEq, true_or, or_true, and_self, true_and, and_true, w8_0, w8_1, w8_2, w8_3, w8_4, nl_I, nl_P, nl_X, pu_I, pu_J, pu_V]
    rw [if_pos (by decide)]
    by_cases e : z = 0
    · simp only [e, not_true_eq_false, if_false]
      rw [if_pos e] at this
      exact this
    · simp only [e, not_false_eq_true, if_true]
      rw [if_neg e] at this
      unfold mN
      by_cases f : tls (tAt h n s L b x) 8 = 99
      · rw [if_pos f] at this ⊢
        rw [if_neg (by decide)]
        exact this
      · rw [if_neg f] at this ⊢
        rw [if_pos (by omega)]
        exact this
  | succ m ih =>
    intro j g v hj hv hg
    have hw : w3 ((j : Int) + 1) = ((j + 1 : Nat) : Int) := w3_id (by omega) (by omega)
    have hr := tcn_r (tAt h n s L b x) j
    have hw2 : w3 (tcn (tAt h n s L b x) j + 1) = tcn (tAt h n s L b x) j + 1 := w3_id (by omega) (by omega)
    have hw0 : w3 (tcn (tAt h n s L b x) j + 0) = tcn (tAt h n s L b x) j := by rw [Int.add_zero]; exact w3_id (by omega) (by omega)
    have ht := tls_r (tAt h n s L b x) (tAt_r hs hL) j
    have ha := tAt_r (h := h) (n := n) (b := b) (x := x) hs hL j
    rw [ju_197_29]
    simp only [r_aLD0, r_iLD1, cl_33, r_IF0, r_iLD2, r_iCONST, r_gR, r_iALD, r_iALDs, r_iSHL, r_iSUB, cl_17, r_iLD3, r_IF1, r_iRET, r_iST4, r_iST5, r_iST6, r_iLD6, r_bPUSH, r_IC3, cl_196, r_iST7, r_iLD7, r_IF2, r_iLD5, r_GOTO, r_iLD4, r_iADD, r_IINC6, r_IF3, eq_self, Int.reduceLT, Int.reduceLE, Int.reduceEq, true_or, or_true, and_self, true_and, and_true, w8_0, w8_1, w8_2, w8_3, w8_4, nl_I, nl_P, nl_X, pu_I, pu_J, pu_V, kd_149, ln_149, rR_149_0, rR_149_1, rR_149_2, rR_149_3, rR_149_5, rR_149_7, rR_149_8, rR_149_9, rR_149_10, rR_149_16, rR_149_17, rR_149_18]
    rw [if_neg (by omega)]
    refine s_tornAt hP hb ⟨by omega, by omega⟩ hg (fun g' hg' => ?_)
    have ih := ih (j + 1) g' (aI (mN (tAt h n s L b x j))) (by omega) rfl hg'
    rw [tcn, tls] at ih
    rw [show ft (Gf h n (j : Int) s L b) x (L - s) s = tAt h n s L b x j from rfl]
    generalize tAt h n s L b x j = A at *
    generalize tls (tAt h n s L b x) j = T at *
    generalize tcn (tAt h n s L b x) j = C at *
    by_cases e : A = 99
    · have m1 : mN A = -1 := by unfold mN; rw [if_pos e]
      rw [if_neg (by omega), if_neg (by omega), Int.add_zero] at ih
      rw [m1] at ih ⊢
      simp only [ju_197_47, ju_197_48, ju_197_54, ju_197_55, r_aLD0, r_iLD1, cl_33, r_IF0, r_iLD2, r_iCONST, r_gR, r_iALD, r_iALDs, r_iSHL, r_iSUB, cl_17, r_iLD3, r_IF1, r_iRET, r_iST4, r_iST5, r_iST6, r_iLD6, r_bPUSH, r_IC3, cl_196, r_iST7, r_iLD7, r_IF2, r_iLD5, r_GOTO, r_iLD4, r_iADD, r_IINC6, r_IF3, eq_self, Int.reduceLT, Int.reduceLE, Int.reduceEq, true_or, or_true, and_self, true_and, and_true, w8_0, w8_1, w8_2, w8_3, w8_4, nl_I, nl_P, nl_X, pu_I, pu_J, pu_V, hw, hw0, show (-1 : Int) < 0 from by decide, if_true]
      exact ih
    · have m1 : mN A = A := by unfold mN; rw [if_neg e]
      rw [if_pos (by omega)] at ih
      rw [m1] at ih ⊢
      simp only [r_aLD0, r_iLD1, cl_33, r_IF0, r_iLD2, r_iCONST, r_gR, r_iALD, r_iALDs, r_iSHL, r_iSUB, cl_17, r_iLD3, r_IF1, r_iRET, r_iST4, r_iST5, r_iST6, r_iLD6, r_bPUSH, r_IC3, cl_196, r_iST7, r_iLD7, r_IF2, r_iLD5, r_GOTO, r_iLD4, r_iADD, r_IINC6, r_IF3, eq_self, Int.reduceLT, Int.reduceLE, Int.reduceEq, true_or, or_true, and_self, true_and, and_true, w8_0, w8_1, w8_2, w8_3, w8_4, nl_I, nl_P, nl_X, pu_I, pu_J, pu_V]
      rw [if_neg (by omega)]
      by_cases f : T = 99
      · have m2 : mN T = -1 := by unfold mN; rw [if_pos f]
        rw [if_pos (by omega), m1] at ih
        rw [m2]
        simp only [ju_197_45, ju_197_48, r_aLD0, r_iLD1, cl_33, r_IF0, r_iLD2, r_iCONST, r_gR, r_iALD, r_iALDs, r_iSHL, r_iSUB, cl_17, r_iLD3, r_IF1, r_iRET, r_iST4, r_iST5, r_iST6, r_iLD6, r_bPUSH, r_IC3, cl_196, r_iST7, r_iLD7, r_IF2, r_iLD5, r_GOTO, r_iLD4, r_iADD, r_IINC6, r_IF3, eq_self, Int.reduceLT, Int.reduceLE, Int.reduceEq, true_or, or_true, and_self, true_and, and_true, w8_0, w8_1, w8_2, w8_3, w8_4, nl_I, nl_P, nl_X, pu_I, pu_J, pu_V, show (-1 : Int) < 0 from by decide, if_true]
        rw [if_neg (by omega)]
        simp only [ju_197_55, r_aLD0, r_iLD1, cl_33, r_IF0, r_iLD2, r_iCONST, r_gR, r_iALD, r_iALDs, r_iSHL, r_iSUB, cl_17, r_iLD3, r_IF1, r_iRET, r_iST4, r_iST5, r_iST6, r_iLD6, r_bPUSH, r_IC3, cl_196, r_iST7, r_iLD7, r_IF2, r_iLD5, r_GOTO, r_iLD4, r_iADD, r_IINC6, r_IF3, eq_self, Int.reduceLT, Int.reduceLE, Int.reduceEq, true_or, or_true, and_self, true_and, and_true, w8_0, w8_1, w8_2, w8_3, w8_4, nl_I, nl_P, nl_X, pu_I, pu_J, pu_V, hw, hw2]
        exact ih
      · have m2 : mN T = T := by unfold mN; rw [if_neg f]
        rw [m2, if_neg (by omega)]
        by_cases w : A < T
        · rw [if_pos w, m1] at ih
          rw [if_neg (by omega)]
          simp only [ju_197_45, ju_197_48, r_aLD0, r_iLD1, cl_33, r_IF0, r_iLD2, r_iCONST, r_gR, r_iALD, r_iALDs, r_iSHL, r_iSUB, cl_17, r_iLD3, r_IF1, r_iRET, r_iST4, r_iST5, r_iST6, r_iLD6, r_bPUSH, r_IC3, cl_196, r_iST7, r_iLD7, r_IF2, r_iLD5, r_GOTO, r_iLD4, r_iADD, r_IINC6, r_IF3, eq_self, Int.reduceLT, Int.reduceLE, Int.reduceEq, true_or, or_true, and_self, true_and, and_true, w8_0, w8_1, w8_2, w8_3, w8_4, nl_I, nl_P, nl_X, pu_I, pu_J, pu_V]
          rw [if_neg (by omega)]
          simp only [ju_197_55, r_aLD0, r_iLD1, cl_33, r_IF0, r_iLD2, r_iCONST, r_gR, r_iALD, r_iALDs, r_iSHL, r_iSUB, cl_17, r_iLD3, r_IF1, r_iRET, r_iST4, r_iST5, r_iST6, r_iLD6, r_bPUSH, r_IC3, cl_196, r_iST7, r_iLD7, r_IF2, r_iLD5, r_GOTO, r_iLD4, r_iADD, r_IINC6, r_IF3, eq_self, Int.reduceLT, Int.reduceLE, Int.reduceEq, true_or, or_true, and_self, true_and, and_true, w8_0, w8_1, w8_2, w8_3, w8_4, nl_I, nl_P, nl_X, pu_I, pu_J, pu_V, hw, hw2]
          exact ih
        · rw [if_neg w, m2] at ih
          rw [if_pos (by omega)]
          simp only [ju_197_47, ju_197_48, r_aLD0, r_iLD1, cl_33, r_IF0, r_iLD2, r_iCONST, r_gR, r_iALD, r_iALDs, r_iSHL, r_iSUB, cl_17, r_iLD3, r_IF1, r_iRET, r_iST4, r_iST5, r_iST6, r_iLD6, r_bPUSH, r_IC3, cl_196, r_iST7, r_iLD7, r_IF2, r_iLD5, r_GOTO, r_iLD4, r_iADD, r_IINC6, r_IF3, eq_self, Int.reduceLT, Int.reduceLE, Int.reduceEq, true_or, or_true, and_self, true_and, and_true, w8_0, w8_1, w8_2, w8_3, w8_4, nl_I, nl_P, nl_X, pu_I, pu_J, pu_V]
          rw [if_neg (by omega)]
          simp only [ju_197_55, r_aLD0, r_iLD1, cl_33, r_IF0, r_iLD2, r_iCONST, r_gR, r_iALD, r_iALDs, r_iSHL, r_iSUB, cl_17, r_iLD3, r_IF1, r_iRET, r_iST4, r_iST5, r_iST6, r_iLD6, r_bPUSH, r_IC3, cl_196, r_iST7, r_iLD7, r_IF2, r_iLD5, r_GOTO, r_iLD4, r_iADD, r_IINC6, r_IF3, eq_self, Int.reduceLT, Int.reduceLE, Int.reduceEq, true_or, or_true, and_self, true_and, and_true, w8_0, w8_1, w8_2, w8_3, w8_4, nl_I, nl_P, nl_X, pu_I, pu_J, pu_V, hw, hw2]
          exact ih
end TN
