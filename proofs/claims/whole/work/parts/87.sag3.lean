section SI
variable {g h h' h1 h2 u : am_F} {Q : am_V → am_S → Prop} {so j bj x y z i o c w r v : Int} {n nb L s K nx b m k a q B S gg : Nat} {f P : Nat → Bool}
theorem sumG {wh a : Int} (h8 : n ≤ 8) (hS : mS g c b n = S) (he : ∀ t : Nat, t < n → g c (18 + 6 * t + wh) = h a t) : sumF (rW g c b wh) n = sumS (h a) S 8 := by
  unfold sumS
  rw [sumF_z h8]
  · refine sumF_c (fun t q => ?_)
    unfold rW
    rw [← hS, mS_bit, he t q]
    by_cases z : g c (18 + 6 * t + 5) = b
    · simp [z, q]
    · simp [z]
  · intro t q
    rw [← hS, mS_bit]
    simp [show ¬ t < n by omega]
theorem up_same {c k : Int} : up h c k (h c k) = h := by
  funext a x
  unfold up
  by_cases e : a = c ∧ x = k
  · obtain ⟨rfl, rfl⟩ := e; rw [if_pos ⟨rfl, rfl⟩]
  · rw [if_neg e]
/-- the tried row is the row, as the class has it -/
def cp1 (h g : am_F) (n nb L s : Nat) : Prop := RO g 151 n nb L ∧ g 151 3 = (s : Int) ∧ (∀ t : Nat, t < n → g 151 (18 + 6 * t + 0) = h 83 t ∧ g 151 (18 + 6 * t + 1) = h 84 t ∧ g 151 (18 + 6 * t + 2) = h 85 t) ∧ (∀ k : Nat, k < L → g 151 (66 + k) = h 89 k) ∧ ∀ b : Nat, b < nb → mS g 151 b n = cS h b n ∧ g 151 (6 + 4 * b + 2) = h 92 b
theorem cp1_of (hP : Rp h 0 150 n nb L s) (e : g 150 = h 150) : cp1 h (cpy g 150 0 151 0 238) n nb L s := by
  have hT := TR_0 (bj := 0) hP e
  obtain ⟨⟨t0, t1, t2, t3⟩, tb, tt, tw⟩ := hT
  exact ⟨RO_cp (RO_150 e hP.1), t3, tt, tw, fun b hb => ⟨(tb b hb).2, (tb b hb).1.2.2.1⟩⟩
theorem lp_Rsags (hC : CO h n nb L s) (hg : cp1 h g n nb L s) (hsc : FR h g) (hb : b < nb) (hm : s + m ≤ L) (hw : 0 ≤ w ∧ w ≤ 999) (hq4 : q < 4) (hi : 0 ≤ i) (hiL : i + (m : Int) ≤ 24) (hS : SH h) (hq : ∀ h', FR h h' → Q (aI (if al (sgf h (fun k => h (73 + 2 * (q : Int)) (i + k)) (cS h b n) s w (h 92 b)) m = true then 1 else 0)) (sT h')) : ∀ (d k : Nat), k + d = m → wp 213 (am_ju 213 17) [aP 149, aI (b : Int), aI w, aI (24 * (q : Int) + i), aI (m : Int), aI (if al (sgf h (fun k => h (73 + 2 * (q : Int)) (i + k)) (cS h b n) s w (h 92 b)) k = true then 1 else 0), aI (k : Int)] [] (sT (sgG g b (sgS h (cS h b n) s w (h 92 b) k).1 (sgS h (cS h b n) s w (h 92 b) k).2)) Q := by
  intro d
  have l1 := ln_157
  have k1 := kd_157
  have l2 := ln_151
  have k2 := kd_151
  obtain ⟨c1, c2, c3, c4, c5, c6, c7, c8, c9, c10⟩ := id hC
  obtain ⟨⟨r0, r1, r2, r3, r4, r5, r6, r7⟩, g3, gt, gw, gb⟩ := id hg
  obtain ⟨gS, gr⟩ := gb b hb
  have hd : gd h (cS h b n) := cS_gd hC
  have d3 := (c10 b hb).2.2.1
  have q0 : (0 : Int) ≤ (q : Int) := by omega
  have q4 : (q : Int) < 4 := by omega
  have s4 := (hS q hq4).2.2.2
  have hFR : ∀ w r, FR h (sgG g b w r) := fun w r => FR_t hsc (fun a k z => by unfold sgG; rw [up_ne (fun e => z (by unfold scr; omega)), up_ne (fun e => z (by unfold scr; omega))])
  have hS1 : ∀ w r, mS (sgG g b w r) 151 b n = cS h b n := fun w r => by
    rw [← gS]
    exact setF_c (fun t ht => by rw [sgG_k (by omega) (by omega)])
  have hn1 : ∀ w r, sgG g b w r 151 1 = (n : Int) := fun w r => by rw [sgG_k (by omega) (by omega), r2]
  have ht1 : ∀ w r, tk (sgG g b w r) 151 n := fun w r t ht => by rw [sgG_k (by omega) (by omega), sgG_k (by omega) (by omega), sgG_k (by omega) (by omega)]; exact r6 t ht
  have sm1 : ∀ w r, sumF (rW (sgG g b w r) 151 b 1) n = sumS (h 84) (cS h b n) 8 := fun w r => sumG c4 (hS1 w r) (fun t ht => by rw [sgG_k (by omega) (by omega)]; exact (gt t ht).2.1)
  have sm2 : ∀ w r, sumF (rW (sgG g b w r) 151 b 2) n = sumS (h 85) (cS h b n) 8 := fun w r => sumG c4 (hS1 w r) (fun t ht => by rw [sgG_k (by omega) (by omega)]; exact (gt t ht).2.2)
  have hth : ∀ w r Q', wp 45 (am_ju 45 0) [aP 151, aI (b : Int), aX, aX] [] (sT (sgG g b w r)) Q' ↔ Q' (aI (cS h b n : Int)) (sT (sgG g b w r)) := fun w r Q' => by
    rw [s_thingsIn kd_151 ln_151 c4 (hn1 w r)]
    rw [show setF (fun t => decide (sgG g b w r 151 (18 + 6 * t + 5) = (b : Int))) n = mS (sgG g b w r) 151 b n from rfl, hS1]
  induction d with
  | zero =>
    intro k hk
    have hk : k = m := by omega
    subst hk
    rw [ju_213_17]
    simp only [ju_213_61, r_aLD0, r_gR, cl_90, r_iLD1, cl_18, r_iCONST, r_iADD, r_iLD2, r_iAST, r_iST5, r_iST6, r_iLD6, r_iLD4, r_IC3, cl_45, r_IF0, r_bPUSH, r_iALD, r_iALDs, cl_122, r_iLD5, r_iLD3, r_lALD, cl_47, r_ITL, r_lCMP, r_IF1, r_GOTO, r_IINC6, r_zRET, eq_self, Int.reduceLT, Int.reduceLE, Int.reduceEq, true_or, or_true, and_self, true_and, and_true, w8_0, w8_1, w8_2, w8_3, w8_4, nl_I, nl_P, nl_X, pu_I, pu_J, pu_V, r_zRETb]
    rw [if_pos (by omega)]
    exact hq _ (hFR _ _)
  | succ d ih =>
    intro k hk
    have ih := ih (k + 1) (by omega)
    obtain ⟨q1, q2⟩ := sgS_r (s := s) hd hw d3 k
    obtain ⟨q1', q2'⟩ := sgS_r (s := s) hd hw d3 (k + 1)
    have hw1 : w3 ((k : Int) + 1) = ((k + 1 : Nat) : Int) := w3_id (by omega) (by omega)
    have e157 : h 157 (24 * (q : Int) + i + k) = h (73 + 2 * (q : Int)) (i + k) := by
      obtain ⟨k', ek⟩ := Int.eq_ofNat_of_zero_le (show 0 ≤ i + (k : Int) by omega)
      rw [ek, s4 k' (by omega)]
      congr 1; omega
    have f157 : ∀ w r, sgG g b w r 157 = h 157 := fun w r => funext fun j => hFR w r 157 j (by unfold scr; omega)
    have ef : sgf h (fun k => h (73 + 2 * (q : Int)) (i + k)) (cS h b n) s w (h 92 b) k = decide (w6 (h (73 + 2 * (q : Int)) (i + k)) = w6 (sgV h (cS h b n) s w (h 92 b) k)) := rfl
    have ea : al (sgf h (fun k => h (73 + 2 * (q : Int)) (i + k)) (cS h b n) s w (h 92 b)) (k + 1) = (al (sgf h (fun k => h (73 + 2 * (q : Int)) (i + k)) (cS h b n) s w (h 92 b)) k && sgf h (fun k => h (73 + 2 * (q : Int)) (i + k)) (cS h b n) s w (h 92 b) k) := rfl
    have hv3 : w3 (sgV h (cS h b n) s w (h 92 b) k) = sgV h (cS h b n) s w (h 92 b) k := by
      unfold sgV
      exact w3_id (by omega) (by omega)
    -- behind the ageing
    have key : wp 213 (am_ju 213 40) [aP 149, aI (b : Int), aI w, aI (24 * (q : Int) + i), aI (m : Int), aI (if al (sgf h (fun k => h (73 + 2 * (q : Int)) (i + k)) (cS h b n) s w (h 92 b)) k = true then 1 else 0), aI (k : Int)] [] (sT (sgG g b (sgS h (cS h b n) s w (h 92 b) (k + 1)).1 (sgS h (cS h b n) s w (h 92 b) (k + 1)).2)) Q := by
      have hsg := fun Q' => s_RsagC (h := sgG g b (sgS h (cS h b n) s w (h 92 b) (k + 1)).1 (sgS h (cS h b n) s w (h 92 b) (k + 1)).2) (Q := Q') (c := 151) (b := b) kd_151 ln_151 (by omega) (by unfold sgG; rw [up_k (by omega), up_s]) (by unfold sgG; rw [up_s]) q1' q2'
      rw [show ((sgS h (cS h b n) s w (h 92 b) (k + 1)).1 + (sgS h (cS h b n) s w (h 92 b) (k + 1)).2) / 10 = sgV h (cS h b n) s w (h 92 b) k from rfl] at hsg
      rw [ea, ef] at ih
      rw [ju_213_40]
      by_cases ha : al (sgf h (fun k => h (73 + 2 * (q : Int)) (i + k)) (cS h b n) s w (h 92 b)) k = true
      · simp only [ha, if_true, Bool.true_and, decide_eq_true_eq] at ih ⊢
        simp (disch := first | assumption | omega | exact w8_0 | exact w8_1 _ | exact w8_2 _ _ | exact w8_3 _ _ _ | exact w8_4 _ _ _ _ | exact nl_I _ | exact nl_P _ | exact nl_X | decide | exact w8_5 _ _ _ _ _) only [r_aLD0, r_gR, cl_90, r_iLD1, cl_18, r_iCONST, r_iADD, r_iLD2, r_iASTc, r_iST5, r_iST6, r_iLD6, r_iLD4, r_IC3, cl_45, r_IF0, r_bPUSH, r_iALDc, r_iALDs, cl_122, r_iLD5, r_iLD3, r_lALDc, cl_47, r_ITL, r_lCMP, r_IF1, r_GOTO, r_IINC6, r_zRET, eq_self, Int.reduceLT, Int.reduceLE, Int.reduceEq, true_or, or_true, and_self, true_and, and_true, w8_0, w8_1, w8_2, w8_3, w8_4, nl_I, nl_P, nl_X, pu_I, pu_J, pu_V, w3_id, Int.add_zero, kd_149, rR_149_1, rR_149_9, Int.reduceEq, if_false, f157, e157, hsg, hv3]
        by_cases e : w6 (h (73 + 2 * (q : Int)) (i + k)) = w6 (sgV h (cS h b n) s w (h 92 b) k)
        · rw [if_neg (by simpa using lCm_0.mpr e)]
          rw [if_pos e] at ih
          simp only [ju_213_58, r_aLD0, r_gR, cl_90, r_iLD1, cl_18, r_iCONST, r_iADD, r_iLD2, r_iAST, r_iST5, r_iST6, r_iLD6, r_iLD4, r_IC3, cl_45, r_IF0, r_bPUSH, r_iALD, r_iALDs, cl_122, r_iLD5, r_iLD3, r_lALD, cl_47, r_ITL, r_lCMP, r_IF1, r_GOTO, r_IINC6, r_zRET, eq_self, Int.reduceLT, Int.reduceLE, Int.reduceEq, true_or, or_true, and_self, true_and, and_true, w8_0, w8_1, w8_2, w8_3, w8_4, nl_I, nl_P, nl_X, pu_I, pu_J, pu_V, hw1]
          exact ih
        · rw [if_pos (fun z => e (lCm_0.mp z))]
          rw [if_neg e] at ih
          simp only [ju_213_57, ju_213_58, r_aLD0, r_gR, cl_90, r_iLD1, cl_18, r_iCONST, r_iADD, r_iLD2, r_iAST, r_iST5, r_iST6, r_iLD6, r_iLD4, r_IC3, cl_45, r_IF0, r_bPUSH, r_iALD, r_iALDs, cl_122, r_iLD5, r_iLD3, r_lALD, cl_47, r_ITL, r_lCMP, r_IF1, r_GOTO, r_IINC6, r_zRET, eq_self, Int.reduceLT, Int.reduceLE, Int.reduceEq, true_or, or_true, and_self, true_and, and_true, w8_0, w8_1, w8_2, w8_3, w8_4, nl_I, nl_P, nl_X, pu_I, pu_J, pu_V, hw1]
          exact ih
      · simp only [ha, if_false, Bool.false_and, Bool.false_eq_true] at ih ⊢
        simp only [ju_213_57, ju_213_58, r_aLD0, r_gR, cl_90, r_iLD1, cl_18, r_iCONST, r_iADD, r_iLD2, r_iAST, r_iST5, r_iST6, r_iLD6, r_iLD4, r_IC3, cl_45, r_IF0, r_bPUSH, r_iALD, r_iALDs, cl_122, r_iLD5, r_iLD3, r_lALD, cl_47, r_ITL, r_lCMP, r_IF1, r_GOTO, r_IINC6, r_zRET, eq_self, Int.reduceLT, Int.reduceLE, Int.reduceEq, true_or, or_true, and_self, true_and, and_true, w8_0, w8_1, w8_2, w8_3, w8_4, nl_I, nl_P, nl_X, pu_I, pu_J, pu_V, if_true, hw1]
        exact ih
    rw [ju_213_17]
    simp only [r_aLD0, r_gR, cl_90, r_iLD1, cl_18, r_iCONST, r_iADD, r_iLD2, r_iAST, r_iST5, r_iST6, r_iLD6, r_iLD4, r_IC3, cl_45, r_IF0, r_bPUSH, r_iALD, r_iALDs, cl_122, r_iLD5, r_iLD3, r_lALD, cl_47, r_ITL, r_lCMP, r_IF1, r_GOTO, r_IINC6, r_zRET, eq_self, Int.reduceLT, Int.reduceLE, Int.reduceEq, true_or, or_true, and_self, true_and, and_true, w8_0, w8_1, w8_2, w8_3, w8_4, nl_I, nl_P, nl_X, pu_I, pu_J, pu_V, kd_149, ln_149, rR_149_0, rR_149_1, rR_149_2, rR_149_3, rR_149_5, rR_149_7, rR_149_8, rR_149_9, rR_149_10, rR_149_16, rR_149_17, rR_149_18, kd_151, ln_151, hth]
    rw [if_neg (by omega)]
    by_cases z : cS h b n = 0
    · have es : sgS h (cS h b n) s w (h 92 b) (k + 1) = sgS h (cS h b n) s w (h 92 b) k := by rw [sgS, if_pos z]
      rw [es] at key
      rw [if_pos (by omega)]
      exact key
    · have es : sgS h (cS h b n) s w (h 92 b) (k + 1) = (aW h (sgS h (cS h b n) s w (h 92 b) k).1 (cS h b n), aR h (sgS h (cS h b n) s w (h 92 b) k).2 (cS h b n) (sortI h ((s + k : Nat) : Int))) := by rw [sgS, if_neg z]
      rw [if_neg (by omega)]
      have e3 : ∀ w r, sgG g b w r 151 3 = (s : Int) := fun w r => by rw [sgG_k (by omega) (by omega), g3]
      have eso : ∀ w r, sgG g b w r 151 (66 + (s : Int) + (k : Int)) = sortI h ((s + k : Nat) : Int) := fun w r => by
        rw [sgG_k (by omega) (by omega), show 66 + (s : Int) + (k : Int) = 66 + ((s + k : Nat) : Int) by omega, gw (s + k) (by omega)]
        unfold sortI
        rw [if_pos ⟨by omega, by omega, by omega⟩]
      have hag := fun Q' => s_ages (h := sgG g b (sgS h (cS h b n) s w (h 92 b) k).1 (sgS h (cS h b n) s w (h 92 b) k).2) (Q := Q') (c := 151) (b := (b : Int)) (so := sortI h ((s + k : Nat) : Int)) kd_151 ln_151 c4 (hn1 _ _) (ht1 _ _) ⟨by omega, by omega⟩ (by unfold sgG; rw [up_k (by omega), up_s]) (by unfold sgG; rw [up_s]) q1 q2
      rw [sm1, sm2] at hag
      have ecl : up (up (sgG g b (sgS h (cS h b n) s w (h 92 b) k).1 (sgS h (cS h b n) s w (h 92 b) k).2) 151 (6 + 4 * (b : Int) + 1) (ageW (sgS h (cS h b n) s w (h 92 b) k).1 (sumS (h 84) (cS h b n) 8))) 151 (6 + 4 * (b : Int) + 2) (ageR (sgS h (cS h b n) s w (h 92 b) k).2 (sumS (h 85) (cS h b n) 8) (sortI h ((s + k : Nat) : Int))) = sgG g b (sgS h (cS h b n) s w (h 92 b) (k + 1)).1 (sgS h (cS h b n) s w (h 92 b) (k + 1)).2 := by
        rw [es]
        unfold sgG
        rw [up2 (a := 0) (by omega)]
        rfl
      rw [ecl] at hag
      simp (disch := first | assumption | omega | exact w8_0 | exact w8_1 _ | exact w8_2 _ _ | exact w8_3 _ _ _ | exact w8_4 _ _ _ _ | exact nl_I _ | exact nl_P _ | exact nl_X | decide | exact w8_5 _ _ _ _ _) only [r_aLD0, r_gR, cl_90, r_iLD1, cl_18, r_iCONST, r_iADD, r_iLD2, r_iASTc, r_iST5, r_iST6, r_iLD6, r_iLD4, r_IC3, cl_45, r_IF0, r_bPUSH, r_iALDc, r_iALDs, cl_122, r_iLD5, r_iLD3, r_lALDc, cl_47, r_ITL, r_lCMP, r_IF1, r_GOTO, r_IINC6, r_zRET, eq_self, Int.reduceLT, Int.reduceLE, Int.reduceEq, true_or, or_true, and_self, true_and, and_true, w8_0, w8_1, w8_2, w8_3, w8_4, nl_I, nl_P, nl_X, pu_I, pu_J, pu_V, w3_id, Int.add_zero, kd_149, rR_149_1, e3, eso, hag]
      exact ⟨⟨by omega, by omega⟩, key⟩
theorem s_Rsags (hP : Rp h 0 150 n nb L s) (hS : SH h) (hF : FR h g) (hb : b < nb) (hm : s + m ≤ L) (hw : 0 ≤ w ∧ w ≤ 999) (hq4 : q < 4) (hi : 0 ≤ i) (hiL : i + (m : Int) ≤ 24) (hq : ∀ h', FR h h' → Q (aI (if al (sgf h (fun k => h (73 + 2 * (q : Int)) (i + k)) (cS h b n) s w (h 92 b)) m = true then 1 else 0)) (sT h')) : wp 213 (am_ju 213 0) [aP 149, aI (b : Int), aI w, aI (24 * (q : Int) + i), aI (m : Int), aX, aX] [] (sT g) Q := by
  have l2 := ln_151
  have k2 := kd_151
  have hc := cp1_of hP (FR_150 hF)
  have b3 := hP.1.2.1
  have b0 : (0 : Int) ≤ b := by omega
  have b2 : (b : Int) < 3 := by omega
  rw [ju_213_0]
  simp only [r_aLD0, r_gR, cl_90, r_iLD1, cl_18, r_iCONST, r_iADD, r_iLD2, r_iAST, r_iST5, r_iST6, r_iLD6, r_iLD4, r_IC3, cl_45, r_IF0, r_bPUSH, r_iALD, r_iALDs, cl_122, r_iLD5, r_iLD3, r_lALD, cl_47, r_ITL, r_lCMP, r_IF1, r_GOTO, r_IINC6, r_zRET, eq_self, Int.reduceLT, Int.reduceLE, Int.reduceEq, true_or, or_true, and_self, true_and, and_true, w8_0, w8_1, w8_2, w8_3, w8_4, nl_I, nl_P, nl_X, pu_I, pu_J, pu_V, kd_149, ln_149, rR_149_0, rR_149_1, rR_149_2, rR_149_3, rR_149_5, rR_149_7, rR_149_8, rR_149_9, rR_149_10, rR_149_16, rR_149_17, rR_149_18, s_copies kd_150 ln_150 kd_151 ln_151 (by decide : (150 : Int) ≠ 151)]
  simp (disch := first | assumption | omega | exact w8_0 | exact w8_1 _ | exact w8_2 _ _ | exact w8_3 _ _ _ | exact w8_4 _ _ _ _ | exact nl_I _ | exact nl_P _ | exact nl_X | decide | exact w8_5 _ _ _ _ _) only [r_aLD0, r_gR, cl_90, r_iLD1, cl_18, r_iCONST, r_iADD, r_iLD2, r_iASTc, r_iST5, r_iST6, r_iLD6, r_iLD4, r_IC3, cl_45, r_IF0, r_bPUSH, r_iALDc, r_iALDs, cl_122, r_iLD5, r_iLD3, r_lALDc, cl_47, r_ITL, r_lCMP, r_IF1, r_GOTO, r_IINC6, r_zRET, eq_self, Int.reduceLT, Int.reduceLE, Int.reduceEq, true_or, or_true, and_self, true_and, and_true, w8_0, w8_1, w8_2, w8_3, w8_4, nl_I, nl_P, nl_X, pu_I, pu_J, pu_V, w3_id, Int.add_zero, kd_149, rR_149_1, s_bagAt (b := (b : Int)) ⟨by omega, by omega⟩]
  have := lp_Rsags (Rp_CO hP) hc (FR_t hF (FR_scT scT_cp)) hb hm hw hq4 hi hiL hS hq m 0 (Nat.zero_add m)
  unfold sgG at this
  rw [sgS, al] at this
  have e := (hc.2.2.2.2 b hb).2
  rw [← e, ← up_k (h := cpy g 150 0 151 0 238) (c := 151) (k := 6 + 4 * (b : Int) + 1) (v := w) (show 6 + 4 * (b : Int) + 2 ≠ 6 + 4 * (b : Int) + 1 by omega), up_same] at this
  exact this
end SI
