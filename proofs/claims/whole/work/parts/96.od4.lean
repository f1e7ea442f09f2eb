/-! odds: the reference -/
def NG (h g : am_F) (n nb L s i : Nat) : Prop := (g 151 0 = (nb : Int) ∧ g 151 1 = (n : Int) ∧ g 151 2 = (L : Int) ∧ g 151 3 = ((s + i : Nat) : Int)) ∧ (∀ b : Nat, b < nb → (g 151 (6 + 4 * b) = h 82 b ∧ g 151 (6 + 4 * b + 1) = (oSt h n s b i).1 ∧ g 151 (6 + 4 * b + 2) = (oSt h n s b i).2 ∧ g 151 (6 + 4 * b + 3) = h 93 b) ∧ mS g 151 b n = cS h b n) ∧ (∀ t : Nat, t < n → g 151 (18 + 6 * t + 0) = h 83 t ∧ g 151 (18 + 6 * t + 1) = h 84 t ∧ g 151 (18 + 6 * t + 2) = h 85 t) ∧ ∀ k : Nat, k < L → g 151 (66 + k) = h 89 k
section OF
variable {g h h' h1 h2 u : am_F} {Q : am_V → am_S → Prop} {so j bj x y z o c w r v k : Int} {n nb L s K nx b m a q B S T i gg l : Nat}
theorem NG_0 (hP : Rp h 0 150 n nb L s) (e : g 150 = h 150) : NG h (cpy g 150 0 151 0 238) n nb L s 0 := by
  obtain ⟨t, tb, tt, tw⟩ := TR_0 (bj := 0) hP e
  refine ⟨t, fun b hb => ⟨⟨(tb b hb).1.1, (tb b hb).1.2.1, (tb b hb).1.2.2.1, ?_⟩, (tb b hb).2⟩, tt, tw⟩
  have := (tb b hb).1.2.2.2
  rw [this]
  show ((h 93 b).toNat : Int) = h 93 b
  have hb4 := (hP.1.2.2.2.2.2.2.2 b hb).2.2.2.1
  rw [(Rp_b hP (b := (b : Int)) (by omega) (by omega)).2.2.2] at hb4
  exact Int.toNat_of_nonneg hb4
theorem NG_RO (hC : CO h n nb L s) (hT : NG h g n nb L s i) : RO g 151 n nb L := by
  obtain ⟨c1, c2, c3, c4, c5, c6, c7, c8, c9, c10⟩ := id hC
  obtain ⟨⟨t0, t1, t2, t3⟩, tb, tt, tw⟩ := hT
  refine ⟨t0, c2, t1, c4, t2, c6, fun t ht => ?_, fun b hb => ?_⟩
  · obtain ⟨q1, q2, q3⟩ := tt t ht
    obtain ⟨y1, y2, y3⟩ := c9 t ht
    rw [q1, q2, q3]
    exact ⟨by omega, by omega, by omega⟩
  · obtain ⟨⟨q1, q2, q3, q4⟩, -⟩ := tb b hb
    obtain ⟨d1, d2, d3, d4⟩ := c10 b hb
    obtain ⟨a1, a2⟩ := sgS_r (s := s) (cS_gd (b := (b : Int)) hC) d2 d3 i
    unfold bk
    rw [q1, q2, q3, q4]
    exact ⟨d1, a1, a2, d4⟩
theorem weak_0 {k w r so j : Int} {g : Nat} : ¬ 0 ≤ weak k w r g 0 0 so j := by
  have st : ∀ pl : Int, 0 ≤ stren k w r pl := fun pl => by
    unfold stren mx0
    (repeat' split) <;> omega
  have fo : ∀ pl : Int, forc g 0 0 pl j = 0 := fun pl => by
    unfold forc
    (repeat' split) <;> simp
  have nb : ∀ p : Nat, wkB k w r g 0 0 j p = false := fun p => by
    unfold wkB
    rw [fo]
    have := st (p : Int)
    simp
    intro _
    omega
  unfold weak
  simp [nb]
theorem gvB_oW (hC : CO h n nb L s) (hT : NG h g n nb L s i) (hb : b < nb) (jn : Nat) : gvB (h00 g) 151 b n (sortI h ((s + i : Nat) : Int)) (jl (sortI h ((s + i : Nat) : Int)) (jn : Int)) = oW h n s b i jn := by
  obtain ⟨c1, c2, c3, c4, c5, c6, c7, c8, c9, c10⟩ := id hC
  obtain ⟨-, tb, tt, -⟩ := hT
  obtain ⟨⟨q1, q2, q3, q4⟩, q5⟩ := tb b hb
  have e0 : h00 g 151 = g 151 := by unfold h00; rw [up_ne (by decide), up_ne (by decide)]
  rw [(mC_c e0 b).2.2.2]
  have s0 := sumG (wh := 0) (a := 83) c4 q5 (fun t ht => (tt t ht).1)
  have s1 := sumG (wh := 1) (a := 84) c4 q5 (fun t ht => (tt t ht).2.1)
  have s2 := sumG (wh := 2) (a := 85) c4 q5 (fun t ht => (tt t ht).2.2)
  unfold gvB mP oW wkS
  rw [q5, s0, s1, s2, q1, q2, q3, q4]
  by_cases z : cS h b n = 0
  · have z0 : ∀ f : Int → Int, sumS f (cS h b n) 8 = 0 := fun f => by
      rw [z]
      show sumF (fun t => if (0 : Nat).testBit t = true then f t else 0) 8 = 0
      simp [sumF]
    rw [z0, z0, z0]
    have w0 : ∀ w r : Int, ¬ 0 ≤ weak (h 82 b) w r (h 93 b).toNat 0 0 (sortI h ((s + i : Nat) : Int)) (jl (sortI h ((s + i : Nat) : Int)) (jn : Int)) := fun w r => weak_0
    rw [decide_eq_false (w0 _ _), decide_eq_false (w0 _ _), Bool.and_false]
  · have es : oSt h n s b (i + 1) = (aW h (oSt h n s b i).1 (cS h b n), aR h (oSt h n s b i).2 (cS h b n) (sortI h ((s + i : Nat) : Int))) := by unfold oSt; rw [sgS, if_neg z]
    rw [es]
    unfold aW aR
    simp [z]
theorem anyG_anB {w : Nat → Nat → Nat → Bool} {i jn : Nat} : ∀ B : Nat, (∀ b : Nat, b < B → gvB g c b n so j = w b i jn) → anyG g c n so j B = anB w i jn B := by
  intro B
  induction B with
  | zero => intro _; rfl
  | succ B ih => intro hq; rw [anyG, anB, ih (fun b hb => hq b (by omega)), hq B (by omega)]
theorem NG_s (hC : CO h n nb L s) (hT : NG h g n nb L s i) (hi : s + i < L) (hno : anyG (h00 g) 151 n (sortI h ((s + i : Nat) : Int)) j nb = false) (hG : GI (h00 g) h' 151 n (sortI h ((s + i : Nat) : Int)) j ((s + i : Nat) : Int) nb) : NG h (up h' 151 3 (((s + i : Nat) : Int) + 1)) n nb L s (i + 1) := by
  obtain ⟨c1, c2, c3, c4, c5, c6, c7, c8, c9, c10⟩ := id hC
  obtain ⟨e1, e2⟩ := GI_no (by decide) (NG_RO hC hT) hno hG
  obtain ⟨⟨t0, t1, t2, t3⟩, tb, tt, tw⟩ := hT
  refine ⟨⟨?_, ?_, ?_, ?_⟩, fun b hb => ⟨?_, ?_⟩, fun t ht => ?_, fun k hk => ?_⟩
  · rw [up_k (by decide), e1 0 (by decide)]; exact t0
  · rw [up_k (by decide), e1 1 (by decide)]; exact t1
  · rw [up_k (by decide), e1 2 (by decide)]; exact t2
  · rw [up_s]; omega
  · obtain ⟨⟨q1, q2, q3, q4⟩, q5⟩ := tb b hb
    obtain ⟨a1, a2, a3, a4⟩ := e2 b hb
    have s1 := sumG (wh := 1) (a := 84) c4 q5 (fun t ht => (tt t ht).2.1)
    have s2 := sumG (wh := 2) (a := 85) c4 q5 (fun t ht => (tt t ht).2.2)
    rw [up_k (by omega), up_k (by omega), up_k (by omega), up_k (by omega), a1, a2, a3, a4, q5, s1, s2, q1, q2, q3, q4]
    by_cases z : cS h b n = 0
    · have es : oSt h n s b (i + 1) = oSt h n s b i := by unfold oSt; rw [sgS, if_pos z]
      rw [if_pos z, if_pos z, es]
      exact ⟨rfl, rfl, rfl, rfl⟩
    · have es : oSt h n s b (i + 1) = (aW h (oSt h n s b i).1 (cS h b n), aR h (oSt h n s b i).2 (cS h b n) (sortI h ((s + i : Nat) : Int))) := by unfold oSt; rw [sgS, if_neg z]
      rw [if_neg z, if_neg z, es]
      exact ⟨rfl, rfl, rfl, rfl⟩
  · rw [← (tb b hb).2]
    exact setF_c (fun t ht => by rw [up_k (by omega), e1 _ (by omega)])
  · rw [up_k (by omega), up_k (by omega), up_k (by omega), e1 _ (by omega), e1 _ (by omega), e1 _ (by omega)]
    exact tt t ht
  · rw [up_k (by omega), e1 _ (by omega)]; exact tw k hk
theorem lp_hBy (hC : CO h n nb L s) {v1 : Int} : ∀ (m i l : Nat) (g : am_F) (v3 : am_V), s + i + m = L → l ≤ 4096 → am_nl v3 = true → scT h g → NG h g n nb L s i → (∀ g', scT h g' → Q (aI (if hBy (oB h s) (oW h n s) nb m i l = true then 1 else 0)) (sT g')) → wp 145 (am_ju 145 7) [aP 149, aI v1, aI (l : Int), v3] [] (sT g) Q := by
  intro m
  have l1 := ln_151
  have k1 := kd_151
  obtain ⟨c1, c2, c3, c4, c5, c6, c7, c8, c9, c10⟩ := id hC
  induction m with
  | zero =>
    intro i l g v3 hi hl hv hg hT hq
    obtain ⟨⟨t0, t1, t2, t3⟩, -⟩ := id hT
    have := hq g hg
    rw [hBy, if_pos rfl] at this
    rw [ju_145_7]
    simp (disch := first | assumption | omega | exact w8_0 | exact w8_1 _ | exact w8_2 _ _ | exact w8_3 _ _ _ | exact w8_4 _ _ _ _ | exact nl_I _ | exact nl_P _ | exact nl_X | decide | exact w8_5 _ _ _ _ _) only [ju_145_53, r_aLD0, r_gR, cl_90, r_iLD1, r_iST2, r_iCONST, r_iALDc, r_iALDs, r_IC3, r_bPUSH, r_iADD, r_IC1, r_GOTO, r_iST3, r_iLD2, r_iREM, cl_125, r_POP, r_iLD3, r_IF0, r_iDIV, r_gI, r_zRET, eq_self, Int.reduceLT, Int.reduceLE, Int.reduceEq, true_or, or_true, and_self, true_and, and_true, w8_0, w8_1, w8_2, w8_3, w8_4, nl_I, nl_P, nl_X, pu_I, pu_J, pu_V, w3_id, Int.add_zero, kd_149, rR_149_1, t2, t3, r_zRET1]
    rw [if_pos (by omega)]
    exact this
  | succ m ih =>
    intro i l g v3 hi hl hv hg hT hq
    obtain ⟨⟨t0, t1, t2, t3⟩, tb, tt, tw⟩ := id hT
    obtain ⟨r0, r1, r2, r3, r4, r5, r6, r7⟩ := NG_RO hC hT
    have eso : g 151 (66 + ((s + i : Nat) : Int)) = sortI h ((s + i : Nat) : Int) := by
      rw [tw (s + i) (by omega)]; unfold sortI; rw [if_pos ⟨by omega, by omega, by omega⟩]
    have em : iRm (l : Int) 8 = ((l % 8 : Nat) : Int) := by rw [iRm_n (by omega) (by omega) (by omega) (by omega)]; omega
    have ed : iDv (l : Int) 8 = ((l / 8 : Nat) : Int) := by rw [iDv_n (by omega) (by omega) (by omega) (by omega)]; omega
    -- from the step on
    have key : ∀ bz : Int, (bz = if oB h s i = true then 1 else 0) → wp 145 (am_ju 145 30) [aP 149, aI v1, aI (l : Int), v3] [aI bz] (sT g) Q := by
      intro bz hbz
      rw [ju_145_30]
      simp only [r_aLD0, r_gR, cl_90, r_iLD1, r_iST2, r_iCONST, r_iALD, r_iALDs, r_IC3, r_bPUSH, r_iADD, r_IC1, r_GOTO, r_iST3, r_iLD2, r_iREM, cl_125, r_POP, r_iLD3, r_IF0, r_iDIV, r_gI, r_zRET, eq_self, Int.reduceLT, Int.reduceLE, Int.reduceEq, true_or, or_true, and_self, true_and, and_true, w8_0, w8_1, w8_2, w8_3, w8_4, nl_I, nl_P, nl_X, pu_I, pu_J, pu_V, kd_149, ln_149, rR_149_0, rR_149_1, rR_149_2, rR_149_3, rR_149_5, rR_149_7, rR_149_8, rR_149_9, rR_149_10, rR_149_16, rR_149_17, rR_149_18, kd_151, ln_151, em, ne_eq, Int.reduceEq, not_false_eq_true]
      refine s_goes (so := sortI h ((s + i : Nat) : Int)) (st := ((s + i : Nat) : Int)) (nb := nb) (n := n) kd_151 (by decide) ln_151 c4 t1 t0 c2 r6 r7 ⟨by omega, by omega⟩ t3 ⟨by omega, by omega⟩ eso (fun h' hG => ?_)
      have hsc : scT g (up h' 151 3 (((s + i : Nat) : Int) + 1)) := by
        refine ⟨fun a q1 q2 => ?_, fun k q1 q2 => ?_⟩
        · rw [up_ne q1, hG.2.2.2.1 a q1 q2]; unfold h00; rw [up_ne q2, up_ne q2]
        · rw [up_ne (by decide), hG.2.2.2.2.1 k q1 q2]; unfold h00; rw [up_k q2, up_k q1]
      have hany : anyG (h00 g) 151 n (sortI h ((s + i : Nat) : Int)) (jl (sortI h ((s + i : Nat) : Int)) ((l % 8 : Nat) : Int)) nb = anB (oW h n s) i (if oB h s i = true then l % 8 else 0) nb := by
        refine anyG_anB nb (fun b hb => ?_)
        rw [gvB_oW hC hT hb]
        by_cases z : oB h s i = true
        · rw [if_pos z]
        · rw [if_neg z]
          have z' : sortI h ((s + i : Nat) : Int) ≠ 3 := by unfold oB at z; simpa using z
          unfold oW
          have e1 := (jl_dj (so := sortI h ((s + i : Nat) : Int)) (d := ((l % 8 : Nat) : Int))).2 z'
          rw [← e1]
          rfl
      have e13 : up h' 151 3 (((s + i : Nat) : Int) + 1) 149 13 = if anB (oW h n s) i (if oB h s i = true then l % 8 else 0) nb = true then 1 else 0 := by
        rw [up_ne (by decide), hG.2.2.2.2.2.1, hany]
        unfold h00
        rw [up_k (by decide), up_s]
      have rest : ∀ l' : Nat, l' = (if oB h s i = true then l / 8 else l) → wp 145 (am_ju 145 46) [aP 149, aI v1, aI (l : Int), aI bz] [aI (l' : Int)] (sT (up h' 151 3 (((s + i : Nat) : Int) + 1))) Q := by
        intro l' hl'
        rw [ju_145_46]
        simp only [r_aLD0, r_gR, cl_90, r_iLD1, r_iST2, r_iCONST, r_iALD, r_iALDs, r_IC3, r_bPUSH, r_iADD, r_IC1, r_GOTO, r_iST3, r_iLD2, r_iREM, cl_125, r_POP, r_iLD3, r_IF0, r_iDIV, r_gI, r_zRET, eq_self, Int.reduceLT, Int.reduceLE, Int.reduceEq, true_or, or_true, and_self, true_and, and_true, w8_0, w8_1, w8_2, w8_3, w8_4, nl_I, nl_P, nl_X, pu_I, pu_J, pu_V, kd_149, e13]
        by_cases z : anB (oW h n s) i (if oB h s i = true then l % 8 else 0) nb = true
        · have := hq _ (scT_t hg hsc)
          rw [hBy, z, Bool.not_true, Bool.false_and, if_neg (by simp)] at this
          simp only [z, if_true, Int.reduceEq, if_false, r_zRET0]
          exact this
        · have z' : anB (oW h n s) i (if oB h s i = true then l % 8 else 0) nb = false := by simpa using z
          simp only [z, if_false, if_true, ju_145_52, r_aLD0, r_gR, cl_90, r_iLD1, r_iST2, r_iCONST, r_iALD, r_iALDs, r_IC3, r_bPUSH, r_iADD, r_IC1, r_GOTO, r_iST3, r_iLD2, r_iREM, cl_125, r_POP, r_iLD3, r_IF0, r_iDIV, r_gI, r_zRET, eq_self, Int.reduceLT, Int.reduceLE, Int.reduceEq, true_or, or_true, and_self, true_and, and_true, w8_0, w8_1, w8_2, w8_3, w8_4, nl_I, nl_P, nl_X, pu_I, pu_J, pu_V]
          refine ih (i + 1) l' _ (aI bz) (by omega) (by rw [hl']; split <;> omega) rfl (scT_t hg hsc) (NG_s hC hT (by omega) (by rw [hany, z']) hG) (fun g' hg' => ?_)
          have := hq g' hg'
          rw [hBy, z', Bool.not_false, Bool.true_and, ← hl'] at this
          exact this
      simp only [pu_I, r_POP, r_aLD0, r_gR, cl_90, r_iLD1, r_iST2, r_iCONST, r_iALD, r_iALDs, r_IC3, r_bPUSH, r_iADD, r_IC1, r_GOTO, r_iST3, r_iLD2, r_iREM, cl_125, r_POP, r_iLD3, r_IF0, r_iDIV, r_gI, r_zRET, eq_self, Int.reduceLT, Int.reduceLE, Int.reduceEq, true_or, or_true, and_self, true_and, and_true, w8_0, w8_1, w8_2, w8_3, w8_4, nl_I, nl_P, nl_X, pu_I, pu_J, pu_V, hbz]
      by_cases z : oB h s i = true
      · have := rest (l / 8) (by rw [if_pos z])
        rw [hbz, if_pos z] at this
        simp only [z, if_true, Int.reduceEq, if_false, r_aLD0, r_gR, cl_90, r_iLD1, r_iST2, r_iCONST, r_iALD, r_iALDs, r_IC3, r_bPUSH, r_iADD, r_IC1, r_GOTO, r_iST3, r_iLD2, r_iREM, cl_125, r_POP, r_iLD3, r_IF0, r_iDIV, r_gI, r_zRET, eq_self, Int.reduceLT, Int.reduceLE, Int.reduceEq, true_or, or_true, and_self, true_and, and_true, w8_0, w8_1, w8_2, w8_3, w8_4, nl_I, nl_P, nl_X, pu_I, pu_J, pu_V, ne_eq, not_false_eq_true, ed]
        exact this
      · have := rest l (by rw [if_neg z])
        rw [hbz, if_neg z] at this
        simp only [z, if_false, if_true, ju_145_45, r_aLD0, r_gR, cl_90, r_iLD1, r_iST2, r_iCONST, r_iALD, r_iALDs, r_IC3, r_bPUSH, r_iADD, r_IC1, r_GOTO, r_iST3, r_iLD2, r_iREM, cl_125, r_POP, r_iLD3, r_IF0, r_iDIV, r_gI, r_zRET, eq_self, Int.reduceLT, Int.reduceLE, Int.reduceEq, true_or, or_true, and_self, true_and, and_true, w8_0, w8_1, w8_2, w8_3, w8_4, nl_I, nl_P, nl_X, pu_I, pu_J, pu_V]
        exact this
    rw [ju_145_7]
    simp (disch := first | assumption | omega | exact w8_0 | exact w8_1 _ | exact w8_2 _ _ | exact w8_3 _ _ _ | exact w8_4 _ _ _ _ | exact nl_I _ | exact nl_P _ | exact nl_X | decide | exact w8_5 _ _ _ _ _) only [r_aLD0, r_gR, cl_90, r_iLD1, r_iST2, r_iCONST, r_iALDc, r_iALDs, r_IC3, r_bPUSH, r_iADD, r_IC1, r_GOTO, r_iST3, r_iLD2, r_iREM, cl_125, r_POP, r_iLD3, r_IF0, r_iDIV, r_gI, r_zRET, eq_self, Int.reduceLT, Int.reduceLE, Int.reduceEq, true_or, or_true, and_self, true_and, and_true, w8_0, w8_1, w8_2, w8_3, w8_4, nl_I, nl_P, nl_X, pu_I, pu_J, pu_V, w3_id, Int.add_zero, kd_149, rR_149_1, t2, t3, eso]
    rw [if_neg (by omega)]
    by_cases z : sortI h ((s + i : Nat) : Int) = 3
    · rw [if_neg (by simpa using z)]
      exact key 1 (by rw [if_pos (show oB h s i = true from decide_eq_true z)])
    · rw [if_pos z, ju_145_29]
      simp only [r_aLD0, r_gR, cl_90, r_iLD1, r_iST2, r_iCONST, r_iALD, r_iALDs, r_IC3, r_bPUSH, r_iADD, r_IC1, r_GOTO, r_iST3, r_iLD2, r_iREM, cl_125, r_POP, r_iLD3, r_IF0, r_iDIV, r_gI, r_zRET, eq_self, Int.reduceLT, Int.reduceLE, Int.reduceEq, true_or, or_true, and_self, true_and, and_true, w8_0, w8_1, w8_2, w8_3, w8_4, nl_I, nl_P, nl_X, pu_I, pu_J, pu_V]
      exact key 0 (by rw [if_neg (show ¬ oB h s i = true from fun q => z (of_decide_eq_true q))])
theorem s_hBy (hP : Rp h 0 150 n nb L s) (hg : scT h g) (hl : l ≤ 4096) (hq : ∀ g', scT h g' → Q (aI (if hBy (oB h s) (oW h n s) nb (L - s) 0 l = true then 1 else 0)) (sT g')) : wp 145 (am_ju 145 0) [aP 149, aI (l : Int), aX, aX] [] (sT g) Q := by
  have hs := hP.2.2.2.2.2.2.1
  rw [ju_145_0]
  simp only [r_aLD0, r_gR, cl_90, r_iLD1, r_iST2, r_iCONST, r_iALD, r_iALDs, r_IC3, r_bPUSH, r_iADD, r_IC1, r_GOTO, r_iST3, r_iLD2, r_iREM, cl_125, r_POP, r_iLD3, r_IF0, r_iDIV, r_gI, r_zRET, eq_self, Int.reduceLT, Int.reduceLE, Int.reduceEq, true_or, or_true, and_self, true_and, and_true, w8_0, w8_1, w8_2, w8_3, w8_4, nl_I, nl_P, nl_X, pu_I, pu_J, pu_V, kd_149, ln_149, rR_149_0, rR_149_1, rR_149_2, rR_149_3, rR_149_5, rR_149_7, rR_149_8, rR_149_9, rR_149_10, rR_149_16, rR_149_17, rR_149_18, s_copies kd_150 ln_150 kd_151 ln_151 (by decide : (150 : Int) ≠ 151)]
  exact lp_hBy (Rp_CO hP) (L - s) 0 l _ aX (by omega) hl rfl (scT_t hg scT_cp) (NG_0 hP (tr_150 hg)) hq
end OF
