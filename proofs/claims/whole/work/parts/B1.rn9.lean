section RX2
variable {g h h' h1 h2 u : am_F} {Q : am_V → am_S → Prop} {so j bj x y z o c w r k t : Int} {n nb L s K nx b m a q B S T i gg l M Z v ch N d : Nat}
theorem lp_Rcp {f : Nat → Nat} (hN6 : N ≤ 6) (h59 : ∀ k : Nat, k < N → u 159 k = (f k : Int)) (h60 : ∀ k : Nat, k < N → u 160 k = ((v / N ^ (N - 1 - k) % N : Nat) : Int)) {be fv v4 : Int} (hlt : be < fv) (hq : ∀ g, (∀ a, a ≠ 161 → g a = u a) → (∀ k : Nat, k < N → g 161 k = (f (v / N ^ (N - 1 - k) % N) : Int)) → wp 188 (am_ju 188 76) [aP 149, aI x, aI (N : Int), aI be, aI v4, aI fv, aI (N : Int)] [] (sT g) Q) : ∀ (d k : Nat) (g : am_F), k + d = N → (∀ a, a ≠ 161 → g a = u a) → (∀ i : Nat, i < k → g 161 i = (f (v / N ^ (N - 1 - i) % N) : Int)) → wp 188 (am_ju 188 57) [aP 149, aI x, aI (N : Int), aI be, aI v4, aI fv, aI (k : Int)] [] (sT g) Q := by
  intro d
  have l1 := ln_159
  have k1 := kd_159
  have l2 := ln_160
  have k2 := kd_160
  have l3 := ln_161
  have k3 := kd_161
  induction d with
  | zero =>
    intro k g hk h1 h2
    have hk : k = N := by omega
    subst hk
    rw [ju_188_57]
    simp only [r_iLD1, r_iCONST, r_bPUSH, cl_17, r_IF1, r_iRET, r_iST2, r_iST3, r_iLD3, r_aLD0, r_gR, r_iALD, r_iALDs, r_IC3, cl_175, r_IF0, r_iLD2, r_IC1, r_iAST, r_IINC2, r_IINC3, r_GOTO, r_iST4, r_iLD4, cl_158, cl_186, cl_187, r_iST5, r_iST6, r_iLD6, r_iLD5, r_IC5, r_IINC6, r_IINC4, eq_self, Int.reduceLT, Int.reduceLE, Int.reduceEq, true_or, or_true, and_self, true_and, and_true, w8_0, w8_1, w8_2, w8_3, w8_4, nl_I, nl_P, nl_X, pu_I, pu_J, pu_V]
    rw [if_pos (by omega)]
    exact hq g h1 h2
  | succ d ih =>
    intro k g hk h1 h2
    have hw : w3 ((k : Int) + 1) = ((k + 1 : Nat) : Int) := w3_id (by omega) (by omega)
    have k0 : (0 : Int) ≤ k := by omega
    have k6 : (k : Int) < 6 := by omega
    have hdl := dg_lt (v := v) (m := N - 1 - k) (show 1 ≤ N by omega)
    have e60 : g 160 k = ((v / N ^ (N - 1 - k) % N : Nat) : Int) := by rw [h1 160 (by decide)]; exact h60 k (by omega)
    have ih := fun g => ih (k + 1) g (by omega)
    have hD : ∀ i : Nat, i < k + 1 → i = k → f (v / N ^ (N - 1 - i) % N) = f (v / N ^ (N - 1 - k) % N) := fun i _ e => by rw [e]
    generalize v / N ^ (N - 1 - k) % N = D at e60 hdl hD
    have e59 : g 159 D = (f D : Int) := by rw [h1 159 (by decide)]; exact h59 D hdl
    have D0 : (0 : Int) ≤ D := by omega
    have D6 : (D : Int) < 6 := by omega
    rw [ju_188_57]
    simp (disch := first | assumption | omega | exact w8_0 | exact w8_1 _ | exact w8_2 _ _ | exact w8_3 _ _ _ | exact w8_4 _ _ _ _ | exact nl_I _ | exact nl_P _ | exact nl_X | decide | exact w8_5 _ _ _ _ _) only [r_iLD1, r_iCONST, r_bPUSH, cl_17, r_IF1, r_iRET, r_iST2, r_iST3, r_iLD3, r_aLD0, r_gR, r_iALDc, r_iALDs, r_IC3, cl_175, r_IF0, r_iLD2, r_IC1, r_iASTc, r_IINC2, r_IINC3, r_GOTO, r_iST4, r_iLD4, cl_158, cl_186, cl_187, r_iST5, r_iST6, r_iLD6, r_iLD5, r_IC5, r_IINC6, r_IINC4, eq_self, Int.reduceLT, Int.reduceLE, Int.reduceEq, true_or, or_true, and_self, true_and, and_true, w8_0, w8_1, w8_2, w8_3, w8_4, nl_I, nl_P, nl_X, pu_I, pu_J, pu_V, w3_id, Int.add_zero, kd_149, rR_149_16, rR_149_17, rR_149_18, e60, e59, hw]
    rw [if_neg (by omega), if_neg (by omega)]
    refine ih _ (fun a ha => by rw [up_ne ha, h1 a ha]) (fun i hi => ?_)
    by_cases z : i = k
    · have := hD i hi z
      subst z
      rw [up_s, this]
    · rw [up_k (by omega)]
      exact h2 i (by omega)
/-- what the reference keeps: the best so far -/
def bO (h g : am_F) (n v : Nat) : Prop := rR2 h g ∧ (∀ k : Nat, k < popc (yR h n) → g 159 k = (mvN (yR h n) k : Int)) ∧ (0 ≤ (bp (vl (popc (yR h n)) (gG h n) (popc (yR h n)) 0 0) v).2 → ∀ k : Nat, k < popc (yR h n) → g 161 k = (mvN (yR h n) ((bp (vl (popc (yR h n)) (gG h n) (popc (yR h n)) 0 0) v).1 / popc (yR h n) ^ (popc (yR h n) - 1 - k) % popc (yR h n)) : Int))
theorem pow6 (hN : N ≤ 6) : N ^ N ≤ 46656 := Nat.le_trans (Nat.pow_le_pow_left hN N) (Nat.pow_le_pow_right (n := 6) (j := 6) (by decide) hN)
theorem bp_n (F : Nat → Int) : ∀ v, -1 ≤ (bp F v).2 := by
  intro v
  induction v with
  | zero => exact Int.le_refl _
  | succ v ih => rw [bp]; split
                 · next e => show -1 ≤ F v; omega
                 · exact ih
set_option maxHeartbeats 1000000 in
theorem lp_Rrun (hP : Rp h 0 150 n nb L s) (hwh : ∀ t : Nat, t < n → 0 ≤ h 94 t ∧ h 94 t ≤ 40) (hwr : ∀ t : Nat, t < n → 0 ≤ h 86 t ∧ h 86 t ≤ 99) (hM : popc (yR h n) ≤ 6) (hx : okR x) (hq : ∀ g, rR2 h g → Q (aI (rnA h n x)) (sT g)) : ∀ (d v : Nat) (g : am_F) (v5 v6 : am_V), v + d = popc (yR h n) ^ popc (yR h n) → am_nl v5 = true → am_nl v6 = true → bO h g n v → wp 188 (am_ju 188 38) [aP 149, aI x, aI (popc (yR h n) : Int), aI (bp (vl (popc (yR h n)) (gG h n) (popc (yR h n)) 0 0) v).2, aI (v : Int), v5, v6] [] (sT g) Q := by
  intro d
  have l3 := ln_161
  have k3 := kd_161
  obtain ⟨r0, r1, r2, r3, r4, r5, r6, r7⟩ := id hP.1
  have hp6 := pow6 hM
  induction d with
  | zero =>
    intro v g v5 v6 hv n5 n6 hg
    have hv : v = popc (yR h n) ^ popc (yR h n) := by omega
    obtain ⟨g1, g2, g3⟩ := hg
    have rb := run_best2 (N := popc (yR h n)) (g := gG h n) hM (fun B k => (gG_r r3 hwr B k).1)
    rw [hv, rb] at g3
    have g3 := g3 (mx_0 _ _)
    have := hq g g1
    unfold rnA at this
    rw [ju_188_38]
    simp only [r_iLD1, r_iCONST, r_bPUSH, cl_17, r_IF1, r_iRET, r_iST2, r_iST3, r_iLD3, r_aLD0, r_gR, r_iALD, r_iALDs, r_IC3, cl_175, r_IF0, r_iLD2, r_IC1, r_iAST, r_IINC2, r_IINC3, r_GOTO, r_iST4, r_iLD4, cl_158, cl_186, cl_187, r_iST5, r_iST6, r_iLD6, r_iLD5, r_IC5, r_IINC6, r_IINC4, eq_self, Int.reduceLT, Int.reduceLE, Int.reduceEq, true_or, or_true, and_self, true_and, and_true, w8_0, w8_1, w8_2, w8_3, w8_4, nl_I, nl_P, nl_X, pu_I, pu_J, pu_V, kd_149, s_power hM hM]
    rw [if_pos (by omega), ju_188_85, hv, rb]
    by_cases e : x = -1
    · rw [if_pos e, ← mx_G] at this
      simp only [r_iLD1, r_iCONST, r_bPUSH, cl_17, r_IF1, r_iRET, r_iST2, r_iST3, r_iLD3, r_aLD0, r_gR, r_iALD, r_iALDs, r_IC3, cl_175, r_IF0, r_iLD2, r_IC1, r_iAST, r_IINC2, r_IINC3, r_GOTO, r_iST4, r_iLD4, cl_158, cl_186, cl_187, r_iST5, r_iST6, r_iLD6, r_iLD5, r_IC5, r_IINC6, r_IINC4, eq_self, Int.reduceLT, Int.reduceLE, Int.reduceEq, true_or, or_true, and_self, true_and, and_true, w8_0, w8_1, w8_2, w8_3, w8_4, nl_I, nl_P, nl_X, pu_I, pu_J, pu_V, e, not_true_eq_false, if_false, ju_188_99]
      exact this
    · rw [if_neg e] at this
      obtain ⟨i, rfl⟩ := Int.eq_ofNat_of_zero_le (show 0 ≤ x by unfold okR at hx; omega)
      simp only [r_iLD1, r_iCONST, r_bPUSH, cl_17, r_IF1, r_iRET, r_iST2, r_iST3, r_iLD3, r_aLD0, r_gR, r_iALD, r_iALDs, r_IC3, cl_175, r_IF0, r_iLD2, r_IC1, r_iAST, r_IINC2, r_IINC3, r_GOTO, r_iST4, r_iLD4, cl_158, cl_186, cl_187, r_iST5, r_iST6, r_iLD6, r_iLD5, r_IC5, r_IINC6, r_IINC4, eq_self, Int.reduceLT, Int.reduceLE, Int.reduceEq, true_or, or_true, and_self, true_and, and_true, w8_0, w8_1, w8_2, w8_3, w8_4, nl_I, nl_P, nl_X, pu_I, pu_J, pu_V, e, not_false_eq_true, if_true, ju_188_90]
      by_cases e5 : i < popc (yR h n)
      · have g3 := g3 i e5
        rw [show (gr (popc (yR h n)) (gG h n) (popc (yR h n)) 0, mx (popc (yR h n)) (gG h n) (popc (yR h n)) 0).1 = gr (popc (yR h n)) (gG h n) (popc (yR h n)) 0 from rfl, gr_d r3 hwr hM e5] at g3
        rw [if_pos (by omega), Int.toNat_natCast] at this
        have i0 : (0 : Int) ≤ i := by omega
        have i6 : (i : Int) < 6 := by omega
        rw [if_neg (by omega)]
        simp (disch := first | assumption | omega | exact w8_0 | exact w8_1 _ | exact w8_2 _ _ | exact w8_3 _ _ _ | exact w8_4 _ _ _ _ | exact nl_I _ | exact nl_P _ | exact nl_X | decide | exact w8_5 _ _ _ _ _) only [r_iLD1, r_iCONST, r_bPUSH, cl_17, r_IF1, r_iRET, r_iST2, r_iST3, r_iLD3, r_aLD0, r_gR, r_iALDc, r_iALDs, r_IC3, cl_175, r_IF0, r_iLD2, r_IC1, r_iASTc, r_IINC2, r_IINC3, r_GOTO, r_iST4, r_iLD4, cl_158, cl_186, cl_187, r_iST5, r_iST6, r_iLD6, r_iLD5, r_IC5, r_IINC6, r_IINC4, eq_self, Int.reduceLT, Int.reduceLE, Int.reduceEq, true_or, or_true, and_self, true_and, and_true, w8_0, w8_1, w8_2, w8_3, w8_4, nl_I, nl_P, nl_X, pu_I, pu_J, pu_V, w3_id, Int.add_zero, kd_149, rR_149_18, g3, ju_188_99]
        exact this
      · rw [if_neg (by omega)] at this
        rw [if_pos (by omega), ju_188_98]
        simp only [r_iLD1, r_iCONST, r_bPUSH, cl_17, r_IF1, r_iRET, r_iST2, r_iST3, r_iLD3, r_aLD0, r_gR, r_iALD, r_iALDs, r_IC3, cl_175, r_IF0, r_iLD2, r_IC1, r_iAST, r_IINC2, r_IINC3, r_GOTO, r_iST4, r_iLD4, cl_158, cl_186, cl_187, r_iST5, r_iST6, r_iLD6, r_iLD5, r_IC5, r_IINC6, r_IINC4, eq_self, Int.reduceLT, Int.reduceLE, Int.reduceEq, true_or, or_true, and_self, true_and, and_true, w8_0, w8_1, w8_2, w8_3, w8_4, nl_I, nl_P, nl_X, pu_I, pu_J, pu_V, ju_188_99]
        exact this
  | succ d ih =>
    intro v g v5 v6 hv n5 n6 hg
    obtain ⟨g1, g2, g3⟩ := hg
    have hw : w3 ((v : Int) + 1) = ((v + 1 : Nat) : Int) := w3_id (by omega) (by omega)
    have hbn := bp_n (vl (popc (yR h n)) (gG h n) (popc (yR h n)) 0 0) v
    have hbv : bp (vl (popc (yR h n)) (gG h n) (popc (yR h n)) 0 0) (v + 1) = if (bp (vl (popc (yR h n)) (gG h n) (popc (yR h n)) 0 0) v).2 < vl (popc (yR h n)) (gG h n) (popc (yR h n)) 0 0 v then (v, vl (popc (yR h n)) (gG h n) (popc (yR h n)) 0 0 v) else bp (vl (popc (yR h n)) (gG h n) (popc (yR h n)) 0 0) v := rfl
    have ih := fun g v6 => ih (v + 1) g (aI (vl (popc (yR h n)) (gG h n) (popc (yR h n)) 0 0 v)) v6 (by omega) rfl
    unfold bO at ih
    rw [hbv] at ih
    have hF := vl_F (v := v) (g := gG h n) hM
    have fin : ∀ g', (∀ a, a ≠ 160 → g' a = g a) → (∀ k : Nat, k < popc (yR h n) → g' 160 k = ((v / popc (yR h n) ^ (popc (yR h n) - 1 - k) % popc (yR h n) : Nat) : Int)) → wp 188 (am_ju 188 54) [aP 149, aI x, aI (popc (yR h n) : Int), aI (bp (vl (popc (yR h n)) (gG h n) (popc (yR h n)) 0 0) v).2, aI (v : Int), v5, v6] [aI (vl (popc (yR h n)) (gG h n) (popc (yR h n)) 0 0 v)] (sT g') Q := by
      intro g' q1 q2
      clear hF
      generalize hVV : vl (popc (yR h n)) (gG h n) (popc (yR h n)) 0 0 = FF at *
      have q159 : ∀ k : Nat, k < popc (yR h n) → g' 159 k = (mvN (yR h n) k : Int) := fun k hk => by rw [q1 159 (by decide)]; exact g2 k hk
      have q0 : rR2 h g' := fun a ha => by rw [q1 a (by omega), g1 a ha]
      rw [ju_188_54]
      simp (disch := first | assumption | omega | decide | exact nl_I _) only [r_iLD1, r_iCONST, r_bPUSH, cl_17, r_IF1, r_iRET, r_iST2, r_iST3, r_iLD3, r_aLD0, r_gR, r_iALD, r_iALDs, r_IC3, cl_175, r_IF0, r_iLD2, r_IC1, r_iAST, r_IINC2, r_IINC3, r_GOTO, r_iST4, r_iLD4, cl_158, cl_186, cl_187, r_iST5, r_iST6, r_iLD6, r_iLD5, r_IC5, r_IINC6, r_IINC4, eq_self, Int.reduceLT, Int.reduceLE, Int.reduceEq, true_or, or_true, and_self, true_and, and_true, w8_0, w8_1, w8_2, w8_3, w8_4, nl_I, nl_P, nl_X, pu_I, pu_J, pu_V, n5, n6]
      by_cases e : (bp FF v).2 < FF v
      · rw [if_pos e] at ih
        refine lp_Rcp (u := g') (f := mvN (yR h n)) hM q159 q2 e (fun g2 p1 p2 => ?_) (popc (yR h n)) 0 g' (Nat.zero_add _) (fun _ _ => rfl) (fun i hi => absurd hi (by omega))
        rw [ju_188_76]
        simp only [r_iLD1, r_iCONST, r_bPUSH, cl_17, r_IF1, r_iRET, r_iST2, r_iST3, r_iLD3, r_aLD0, r_gR, r_iALD, r_iALDs, r_IC3, cl_175, r_IF0, r_iLD2, r_IC1, r_iAST, r_IINC2, r_IINC3, r_GOTO, r_iST4, r_iLD4, cl_158, cl_186, cl_187, r_iST5, r_iST6, r_iLD6, r_iLD5, r_IC5, r_IINC6, r_IINC4, eq_self, Int.reduceLT, Int.reduceLE, Int.reduceEq, true_or, or_true, and_self, true_and, and_true, w8_0, w8_1, w8_2, w8_3, w8_4, nl_I, nl_P, nl_X, pu_I, pu_J, pu_V]
        rw [if_neg (by omega), ju_188_82]
        simp only [r_iLD1, r_iCONST, r_bPUSH, cl_17, r_IF1, r_iRET, r_iST2, r_iST3, r_iLD3, r_aLD0, r_gR, r_iALD, r_iALDs, r_IC3, cl_175, r_IF0, r_iLD2, r_IC1, r_iAST, r_IINC2, r_IINC3, r_GOTO, r_iST4, r_iLD4, cl_158, cl_186, cl_187, r_iST5, r_iST6, r_iLD6, r_iLD5, r_IC5, r_IINC6, r_IINC4, eq_self, Int.reduceLT, Int.reduceLE, Int.reduceEq, true_or, or_true, and_self, true_and, and_true, w8_0, w8_1, w8_2, w8_3, w8_4, nl_I, nl_P, nl_X, pu_I, pu_J, pu_V, hw]
        exact ih g2 _ rfl ⟨fun a ha => by rw [p1 a (by omega), q0 a ha], fun k hk => by rw [p1 159 (by decide)]; exact q159 k hk, fun _ => p2⟩
      · rw [if_neg e] at ih
        have ih := fun v6 n6 => ih g' v6 n6 ⟨q0, q159, fun p k hk => by rw [q1 161 (by decide)]; exact g3 p k hk⟩
        rw [ju_188_57]
        simp only [r_iLD1, r_iCONST, r_bPUSH, cl_17, r_IF1, r_iRET, r_iST2, r_iST3, r_iLD3, r_aLD0, r_gR, r_iALD, r_iALDs, r_IC3, cl_175, r_IF0, r_iLD2, r_IC1, r_iAST, r_IINC2, r_IINC3, r_GOTO, r_iST4, r_iLD4, cl_158, cl_186, cl_187, r_iST5, r_iST6, r_iLD6, r_iLD5, r_IC5, r_IINC6, r_IINC4, eq_self, Int.reduceLT, Int.reduceLE, Int.reduceEq, true_or, or_true, and_self, true_and, and_true, w8_0, w8_1, w8_2, w8_3, w8_4, nl_I, nl_P, nl_X, pu_I, pu_J, pu_V]
        have key : wp 188 (am_ju 188 76) [aP 149, aI x, aI (popc (yR h n) : Int), aI (bp FF v).2, aI (v : Int), aI (FF v), aI 0] [] (sT g') Q := by
          rw [ju_188_76]
          simp only [r_iLD1, r_iCONST, r_bPUSH, cl_17, r_IF1, r_iRET, r_iST2, r_iST3, r_iLD3, r_aLD0, r_gR, r_iALD, r_iALDs, r_IC3, cl_175, r_IF0, r_iLD2, r_IC1, r_iAST, r_IINC2, r_IINC3, r_GOTO, r_iST4, r_iLD4, cl_158, cl_186, cl_187, r_iST5, r_iST6, r_iLD6, r_iLD5, r_IC5, r_IINC6, r_IINC4, eq_self, Int.reduceLT, Int.reduceLE, Int.reduceEq, true_or, or_true, and_self, true_and, and_true, w8_0, w8_1, w8_2, w8_3, w8_4, nl_I, nl_P, nl_X, pu_I, pu_J, pu_V]
          rw [if_pos (by omega), ju_188_81]
          simp only [ju_188_82, r_iLD1, r_iCONST, r_bPUSH, cl_17, r_IF1, r_iRET, r_iST2, r_iST3, r_iLD3, r_aLD0, r_gR, r_iALD, r_iALDs, r_IC3, cl_175, r_IF0, r_iLD2, r_IC1, r_iAST, r_IINC2, r_IINC3, r_GOTO, r_iST4, r_iLD4, cl_158, cl_186, cl_187, r_iST5, r_iST6, r_iLD6, r_iLD5, r_IC5, r_IINC6, r_IINC4, eq_self, Int.reduceLT, Int.reduceLE, Int.reduceEq, true_or, or_true, and_self, true_and, and_true, w8_0, w8_1, w8_2, w8_3, w8_4, nl_I, nl_P, nl_X, pu_I, pu_J, pu_V, hw]
          exact ih _ rfl
        by_cases z : (popc (yR h n) : Int) ≤ 0
        · rw [if_pos z]
          exact key
        · rw [if_neg z, if_pos (by omega)]
          exact key
    rw [ju_188_38]
    simp only [r_iLD1, r_iCONST, r_bPUSH, cl_17, r_IF1, r_iRET, r_iST2, r_iST3, r_iLD3, r_aLD0, r_gR, r_iALD, r_iALDs, r_IC3, cl_175, r_IF0, r_iLD2, r_IC1, r_iAST, r_IINC2, r_IINC3, r_GOTO, r_iST4, r_iLD4, cl_158, cl_186, cl_187, r_iST5, r_iST6, r_iLD6, r_iLD5, r_IC5, r_IINC6, r_IINC4, eq_self, Int.reduceLT, Int.reduceLE, Int.reduceEq, true_or, or_true, and_self, true_and, and_true, w8_0, w8_1, w8_2, w8_3, w8_4, nl_I, nl_P, nl_X, pu_I, pu_J, pu_V, kd_149, s_power hM hM]
    rw [if_neg (by omega)]
    refine s_orders hM (by omega) (fun g' q1 q2 => ?_)
    simp only [r_iLD1, r_iCONST, r_bPUSH, cl_17, r_IF1, r_iRET, r_iST2, r_iST3, r_iLD3, r_aLD0, r_gR, r_iALD, r_iALDs, r_IC3, cl_175, r_IF0, r_iLD2, r_IC1, r_iAST, r_IINC2, r_IINC3, r_GOTO, r_iST4, r_iLD4, cl_158, cl_186, cl_187, r_iST5, r_iST6, r_iLD6, r_iLD5, r_IC5, r_IINC6, r_IINC4, eq_self, Int.reduceLT, Int.reduceLE, Int.reduceEq, true_or, or_true, and_self, true_and, and_true, w8_0, w8_1, w8_2, w8_3, w8_4, nl_I, nl_P, nl_X, pu_I, pu_J, pu_V, kd_149]
    have fin := fin g' q1 q2
    by_cases e : popc (usN (popc (yR h n)) v (popc (yR h n))) = popc (yR h n)
    · rw [if_pos e] at hF
      rw [hF] at fin
      simp only [e, if_true, Int.reduceEq, if_false]
      rw [ju_187_0]
      simp only [r_iCONST, r_iST2, r_iST3, r_iST4, r_iLD4, r_iLD1, r_IC3, r_aLD0, r_gR, r_iALD, r_iALDs, r_iST5, r_iLD5, cl_176, r_iST6, r_iLD2, r_iLD6, r_iMUL, r_iADD, r_iLD3, r_IF0, r_IC4, cl_25, r_GOTO, r_IINC4, r_iRET, eq_self, Int.reduceLT, Int.reduceLE, Int.reduceEq, true_or, or_true, and_self, true_and, and_true, w8_0, w8_1, w8_2, w8_3, w8_4, nl_I, nl_P, nl_X, pu_I, pu_J, pu_V]
      have := lp_hadBy (g := g') (v := v) (Q := fun r s' => wp 188 (am_ju 188 54) [aP 149, aI x, aI (popc (yR h n) : Int), aI (bp (vl (popc (yR h n)) (gG h n) (popc (yR h n)) 0 0) v).2, aI (v : Int), v5, v6] (am_pu r []) s' Q) hP hwh hwr hM (fun a ha => by rw [q1 a (by omega), g1 a ha]) (fun k hk => by rw [q1 159 (by decide)]; exact g2 k hk) q2 (popc (yR h n)) 0 0 0 aX aX (Nat.zero_add _) (Nat.two_pow_pos _) (by rw [Nat.zero_or, popc_0, Nat.zero_add]; exact e) (Int.le_refl _) (by omega) rfl rfl
      rw [sB_0] at this
      exact this.mpr fin
    · rw [if_neg e] at hF
      rw [hF] at fin
      simp only [e, if_true, if_false]
      rw [ju_188_53]
      simp only [r_iLD1, r_iCONST, r_bPUSH, cl_17, r_IF1, r_iRET, r_iST2, r_iST3, r_iLD3, r_aLD0, r_gR, r_iALD, r_iALDs, r_IC3, cl_175, r_IF0, r_iLD2, r_IC1, r_iAST, r_IINC2, r_IINC3, r_GOTO, r_iST4, r_iLD4, cl_158, cl_186, cl_187, r_iST5, r_iST6, r_iLD6, r_iLD5, r_IC5, r_IINC6, r_IINC4, eq_self, Int.reduceLT, Int.reduceLE, Int.reduceEq, true_or, or_true, and_self, true_and, and_true, w8_0, w8_1, w8_2, w8_3, w8_4, nl_I, nl_P, nl_X, pu_I, pu_J, pu_V]
      exact fin
theorem s_Rrun (hP : Rp h 0 150 n nb L s) (hwh : ∀ t : Nat, t < n → 0 ≤ h 94 t ∧ h 94 t ≤ 40) (hwr : ∀ t : Nat, t < n → 0 ≤ h 86 t ∧ h 86 t ≤ 99) (hq : ∀ g, rR2 h g → Q (aI (if okR x then (if popc (yR h n) ≤ 6 then rnA h n x else -3) else -1)) (sT g)) : wp 188 (am_ju 188 0) [aP 149, aI x, aX, aX, aX, aX, aX] [] (sT h) Q := by
  rw [ju_188_0]
  simp only [r_iLD1, r_iCONST, r_bPUSH, cl_17, r_IF1, r_iRET, r_iST2, r_iST3, r_iLD3, r_aLD0, r_gR, r_iALD, r_iALDs, r_IC3, cl_175, r_IF0, r_iLD2, r_IC1, r_iAST, r_IINC2, r_IINC3, r_GOTO, r_iST4, r_iLD4, cl_158, cl_186, cl_187, r_iST5, r_iST6, r_iLD6, r_iLD5, r_IC5, r_IINC6, r_IINC4, eq_self, Int.reduceLT, Int.reduceLE, Int.reduceEq, true_or, or_true, and_self, true_and, and_true, w8_0, w8_1, w8_2, w8_3, w8_4, nl_I, nl_P, nl_X, pu_I, pu_J, pu_V, s_in]
  by_cases e : okR x
  · have e2 : -1 ≤ x ∧ x ≤ 7 := ⟨e.1, by unfold okR at e; omega⟩
    simp only [if_pos e] at hq
    rw [if_pos (by simp [e2]), ju_188_7]
    simp only [r_iLD1, r_iCONST, r_bPUSH, cl_17, r_IF1, r_iRET, r_iST2, r_iST3, r_iLD3, r_aLD0, r_gR, r_iALD, r_iALDs, r_IC3, cl_175, r_IF0, r_iLD2, r_IC1, r_iAST, r_IINC2, r_IINC3, r_GOTO, r_iST4, r_iLD4, cl_158, cl_186, cl_187, r_iST5, r_iST6, r_iLD6, r_iLD5, r_IC5, r_IINC6, r_IINC4, eq_self, Int.reduceLT, Int.reduceLE, Int.reduceEq, true_or, or_true, and_self, true_and, and_true, w8_0, w8_1, w8_2, w8_3, w8_4, nl_I, nl_P, nl_X, pu_I, pu_J, pu_V]
    refine lp_Rlist hP (fun h3 g hg => ?_) (fun h6 g hg h9 => ?_) n 0 h (Nat.zero_add n) (fun _ _ => rfl) (Nat.zero_le _) (fun k hk => absurd hk (Nat.not_lt_zero _))
    · have := hq g hg
      rw [if_neg (by omega)] at this
      exact this
    · simp only [if_pos h6] at hq
      rw [ju_188_34]
      simp only [r_iLD1, r_iCONST, r_bPUSH, cl_17, r_IF1, r_iRET, r_iST2, r_iST3, r_iLD3, r_aLD0, r_gR, r_iALD, r_iALDs, r_IC3, cl_175, r_IF0, r_iLD2, r_IC1, r_iAST, r_IINC2, r_IINC3, r_GOTO, r_iST4, r_iLD4, cl_158, cl_186, cl_187, r_iST5, r_iST6, r_iLD6, r_iLD5, r_IC5, r_IINC6, r_IINC4, eq_self, Int.reduceLT, Int.reduceLE, Int.reduceEq, true_or, or_true, and_self, true_and, and_true, w8_0, w8_1, w8_2, w8_3, w8_4, nl_I, nl_P, nl_X, pu_I, pu_J, pu_V]
      exact lp_Rrun hP hwh hwr h6 e hq (popc (yR h n) ^ popc (yR h n)) 0 g aX aX (Nat.zero_add _) rfl rfl ⟨hg, h9, fun q => absurd (show (0 : Int) ≤ -1 from q) (by decide)⟩
  · have := hq h (fun _ _ => rfl)
    rw [if_neg e] at this
    rw [if_neg (by simp; intro q; unfold okR at e; omega)]
    exact this
theorem WD_wr99 (hW : WD h 0 150 n nb L s K nx) : ∀ t : Nat, t < n → 0 ≤ h 86 t ∧ h 86 t ≤ 99 := fun t ht => by
  have := (hW.2.1.2 t ht).1
  rw [(Rp_t hW.1 (t := (t : Int)) (by omega) (by omega)).2.2.2.1] at this
  exact this
theorem b_run (hI : INV h) : Both 185 188 [aP 0, aI x] [aP 149, aI x, aX, aX, aX, aX, aX] h := by
  obtain ⟨⟨n, nb, L, s, K, nx, hW⟩, hr⟩ := id hI
  have hP := hW.1
  obtain ⟨o, o'⟩ := WD_o hW
  refine s_Trun o.2.2.2.1 o'.2.1 (WD_wh40 hW) (WD_wr99 hW) (fun h1 t1 => ⟨_, h1, rfl, rfl, t1 (-1) (by decide), ?_⟩)
  have hF : FR h h1 := fun a k q => by rw [t1 a (by unfold scr at q; omega)]
  have hW1 := WD_FR hF hW
  have ey : yR h1 n = yR h n := by unfold yR; rw [t1 87 (by decide), t1 94 (by decide)]
  have ef : faR h1 n = faR h n := by
    funext k
    have es : sortI h1 = sortI h := by funext w; unfold sortI; rw [t1 88 (by decide), t1 89 (by decide)]
    unfold faR rlF
    rw [ey, t1 94 (by decide), es]
  have eg : gF h1 n = gF h n := by
    funext B k
    unfold gF woR
    rw [ef, ey, t1 86 (by decide)]
  refine s_Rrun hW1.1 (WD_wh40 hW1) (WD_wr99 hW1) (fun h2 t2 => ?_)
  have hF2 : FR h1 h2 := fun a k q => by rw [t2 a (by unfold scr at q; omega)]
  refine ⟨h2, ?_, rfl, ?_, INV_FR hI (FR_t hF hF2)⟩
  · unfold rnA
    rw [ey, eg]
  · rw [FR_1 hF2, FR_1 hF]
end RX2
