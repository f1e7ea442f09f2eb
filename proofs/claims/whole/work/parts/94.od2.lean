/-! odds: the class -/
def oSt (h : am_F) (n s b i : Nat) : Int × Int := sgS h (cS h b n) s (h 91 b) (h 92 b) i
def oW (h : am_F) (n s b i j : Nat) : Bool := decide (0 ≤ wkS h (h 82 b) (oSt h n s b (i + 1)).1 (oSt h n s b (i + 1)).2 (h 93 b).toNat (cS h b n) (sortI h ((s + i : Nat) : Int)) (jl (sortI h ((s + i : Nat) : Int)) (j : Int)))
def oB (h : am_F) (s i : Nat) : Bool := decide (sortI h ((s + i : Nat) : Int) = 3)
def oL (h g : am_F) : Prop := ∀ a, a ≠ 138 → a ≠ 140 → g a = h a
section OD
variable {g h h' h1 h2 u : am_F} {Q : am_V → am_S → Prop} {so j bj x y z o c w r v k : Int} {n nb L s K nx b m a q B S T i gg : Nat}
theorem ediv_mono {a b d : Int} (hd : 0 < d) (hab : a ≤ b) : a / d ≤ b / d := Int.ediv_le_ediv hd hab
theorem forc_mono {g : Nat} {W E pl i j : Int} (hW : 0 ≤ W) (hi : 0 ≤ i) (hij : i ≤ j) : forc g W E pl i ≤ forc g W E pl j := by
  have h1 : W * (10 + i) ≤ W * (10 + j) := Int.mul_le_mul_of_nonneg_left (by omega) hW
  have h2 := ediv_mono (d := 10) (by decide) h1
  have hw := whH_r g
  unfold forc
  by_cases e : pl = 3
  · rw [if_pos e, if_pos e]; exact Int.le_refl _
  · rw [if_neg e, if_neg e]
    by_cases f : pl = 0
    · rw [if_pos f, if_pos f]; exact h2
    · rw [if_neg f, if_neg f]
      by_cases z : whH g = 0
      · rw [if_pos z, if_pos z]; exact Int.le_refl _
      · rw [if_neg z, if_neg z]; exact ediv_mono (by omega) h2
theorem weak_iff {k w r W E so j : Int} {g : Nat} (hso : so ≠ 4) : 0 ≤ weak k w r g W E so j ↔ (wkB k w r g W E j 0 = true ∨ wkB k w r g W E j 1 = true ∨ wkB k w r g W E j 2 = true ∨ wkB k w r g W E j 3 = true) := by
  unfold weak
  rw [if_neg hso]
  by_cases a0 : wkB k w r g W E j 0 = true
  · simp [a0]
  · by_cases a1 : wkB k w r g W E j 1 = true
    · simp [a0, a1]
    · by_cases a2 : wkB k w r g W E j 2 = true
      · simp [a0, a1, a2]
      · by_cases a3 : wkB k w r g W E j 3 = true
        · simp [a0, a1, a2, a3]
        · simp [a0, a1, a2, a3]
theorem wkB_mono {k w r W E i j : Int} {g p : Nat} (hW : 0 ≤ W) (hi : 0 ≤ i) (hij : i ≤ j) (hb : wkB k w r g W E i p = true) : wkB k w r g W E j p = true := by
  unfold wkB at hb ⊢
  rw [Bool.and_eq_true, decide_eq_true_eq] at hb ⊢
  have := forc_mono (g := g) (E := E) (pl := (p : Int)) hW hi hij
  exact ⟨hb.1, by omega⟩
theorem oW_mono (hC : CO h n nb L s) {b i x y : Nat} (hbus : oB h s i = true) (hxy : x ≤ y) (hw : oW h n s b i x = true) : oW h n s b i y = true := by
  have e3 : sortI h ((s + i : Nat) : Int) = 3 := of_decide_eq_true hbus
  have hW := (gd_W (cS_gd (b := (b : Int)) hC)).1.1
  unfold oW wkS at hw ⊢
  rw [decide_eq_true_eq, e3, weak_iff (by decide)] at hw ⊢
  have ex : jl 3 (x : Int) = x := rfl
  have ey : jl 3 (y : Int) = y := rfl
  rw [ex] at hw
  rw [ey]
  rcases hw with q | q | q | q
  · exact Or.inl (wkB_mono hW (by omega) (by omega) q)
  · exact Or.inr (Or.inl (wkB_mono hW (by omega) (by omega) q))
  · exact Or.inr (Or.inr (Or.inl (wkB_mono hW (by omega) (by omega) q)))
  · exact Or.inr (Or.inr (Or.inr (wkB_mono hW (by omega) (by omega) q)))
theorem lp_borne (hk : kd c = 0) (hkk : 0 ≤ k ∧ k ≤ 3) (hw : 0 ≤ w ∧ w ≤ 999) (hr : 0 ≤ r ∧ r ≤ 999) (hg : gg < 16) (hd : gd u S) : ∀ (m j : Nat), j + m = 8 → (wp 141 (am_ju 141 2) [aP c, aI (j : Int)] [] (sT (bS u c k w r gg S)) Q ↔ Q (aI (fj (fun j => decide (0 ≤ wkS u k w r gg S 3 (j : Int))) m j : Int)) (sT (bS u c k w r gg S))) := by
  intro m
  induction m with
  | zero =>
    intro j hj
    have hj : j = 8 := by omega
    subst hj
    rw [ju_141_2]
    simp only [ju_141_14, r_iCONST, r_iST1, r_iLD1, r_bPUSH, r_IC3, r_aLD0, cl_115, r_IF2, r_iRET, r_IINC1, r_GOTO, eq_self, Int.reduceLT, Int.reduceLE, Int.reduceEq, true_or, or_true, and_self, true_and, and_true, w8_0, w8_1, w8_2, w8_3, w8_4, nl_I, nl_P, nl_X, pu_I, pu_J, pu_V, fj]
    rw [if_pos (by decide)]
    rfl
  | succ m ih =>
    intro j hj
    have hw1 : w3 ((j : Int) + 1) = ((j + 1 : Nat) : Int) := w3_id (by omega) (by omega)
    have ih := ih (j + 1) (by omega)
    rw [fj, ju_141_2]
    simp only [ju_141_12, r_iCONST, r_iST1, r_iLD1, r_bPUSH, r_IC3, r_aLD0, cl_115, r_IF2, r_iRET, r_IINC1, r_GOTO, eq_self, Int.reduceLT, Int.reduceLE, Int.reduceEq, true_or, or_true, and_self, true_and, and_true, w8_0, w8_1, w8_2, w8_3, w8_4, nl_I, nl_P, nl_X, pu_I, pu_J, pu_V, hk, s_weakS hk hkk hw hr hg hd (show 0 ≤ (j : Int) ∧ (j : Int) ≤ 7 by omega), hw1, decide_eq_true_eq]
    rw [if_neg (by omega)]
    by_cases e : 0 ≤ wkS u k w r gg S 3 (j : Int)
    · rw [if_neg (by omega), if_pos e]
    · rw [if_pos (by omega), if_neg e]
      exact ih
theorem s_borne (hk : kd c = 0) (hkk : 0 ≤ k ∧ k ≤ 3) (hw : 0 ≤ w ∧ w ≤ 999) (hr : 0 ≤ r ∧ r ≤ 999) (hg : gg < 16) (hd : gd u S) : wp 141 (am_ju 141 0) [aP c, aX] [] (sT (bS u c k w r gg S)) Q ↔ Q (aI (fj (fun j => decide (0 ≤ wkS u k w r gg S 3 (j : Int))) 8 0 : Int)) (sT (bS u c k w r gg S)) := by
  rw [ju_141_0]
  simp only [r_iCONST, r_iST1, r_iLD1, r_bPUSH, r_IC3, r_aLD0, cl_115, r_IF2, r_iRET, r_IINC1, r_GOTO, eq_self, Int.reduceLT, Int.reduceLE, Int.reduceEq, true_or, or_true, and_self, true_and, and_true, w8_0, w8_1, w8_2, w8_3, w8_4, nl_I, nl_P, nl_X, pu_I, pu_J, pu_V]
  exact lp_borne hk hkk hw hr hg hd 8 0 rfl
theorem bS_140 : up (bS u 138 k w r gg S) 140 v j = bS (up u 140 v j) 138 k w r gg S := by
  unfold bS
  rw [up_ne (show (83 : Int) ≠ 140 by decide), up_ne (show (84 : Int) ≠ 140 by decide), up_ne (show (85 : Int) ≠ 140 by decide)]
  generalize sumS (u 83) S 8 = A
  generalize sumS (u 84) S 8 = B
  generalize sumS (u 85) S 8 = C
  funext a x
  unfold bw
  by_cases e : a = 138
  · subst e
    rw [up_ne (by decide)]
    simp only [up, true_and, false_and, if_false, show ((138 : Int) = 140) = False from by simp]
  · rw [up_ne e, up_ne e, up_ne e, up_ne e, up_ne e, up_ne e, up_ne e, up_ne e]
    by_cases f : a = 140 ∧ x = v
    · obtain ⟨rfl, rfl⟩ := f
      rw [up_s, up_s]
    · unfold up
      simp only [f, e, false_and, if_false]
theorem wkS_c (e : ∀ a, 83 ≤ a → a ≤ 85 → u a = h a) {gg : Nat} : wkS u k w r gg S so j = wkS h k w r gg S so j := by
  unfold wkS; rw [e 83 (by decide) (by decide), e 85 (by decide) (by decide)]
/-- the row of luck: steps below i of bag B are done -/
def lkR (h u : am_F) (n s L B i : Nat) : Prop := ∀ k : Nat, s + k < L → u 140 ((s + k : Nat) : Int) = (lkN (oB h s) (oW h n s) (if k < i then B + 1 else B) k : Int)
set_option maxHeartbeats 2000000 in
theorem lp_nl (hC : CO h n nb L s) (hb : b < nb) (hq : ∀ g, oL h g → lkR h g n s L b (L - s) → Q aV (sT g)) : ∀ (d i : Nat) (u : am_F) (v4 : am_V), i + d = L - s → am_nl v4 = true → oL h u → lkR h u n s L b i → wp 142 (am_ju 142 19) [aP 137, aI (b : Int), aP 88, aI ((s + i : Nat) : Int), v4] [] (sT (bS u 138 (h 82 b) (oSt h n s b i).1 (oSt h n s b i).2 (h 93 b).toNat (cS h b n))) Q := by
  intro d
  have l1 := ln_140
  have k1 := kd_140
  obtain ⟨c1, c2, c3, c4, c5, c6, c7, c8, c9, c10⟩ := id hC
  obtain ⟨d1, d2, d3, d4⟩ := c10 b hb
  have hg16 : (h 93 b).toNat < 16 := by omega
  have hS := cS_lt (h := h) (b := (b : Int)) c4
  have hd : gd h (cS h b n) := cS_gd hC
  induction d with
  | zero =>
    intro i u v4 hi hv hu hl
    have hi : i = L - s := by omega
    subst hi
    have e1 : u 88 1 = (L : Int) := by rw [hu 88 (by decide) (by decide), c5]
    rw [ju_142_19]
    simp only [ju_142_63, r_aLD0, r_gR, r_aST2, r_iLD1, cl_39, cl_42, r_gI, r_iST3, r_iLD3, r_aLD2, r_IC3, cl_100, r_iST4, r_iLD4, cl_114, r_iCONST, r_IC1, r_iALD, r_iALDs, cl_141, r_MMIN, r_iAST, r_GOTO, cl_113, cl_115, r_IF2, r_IINC3, r_vRET, eq_self, Int.reduceLT, Int.reduceLE, Int.reduceEq, true_or, or_true, and_self, true_and, and_true, w8_0, w8_1, w8_2, w8_3, w8_4, nl_I, nl_P, nl_X, pu_I, pu_J, pu_V, kd_88, bS_n kd_138 (show kd 88 ≠ 0 by decide), e1]
    rw [if_pos (by omega)]
    exact hq _ (fun a q1 q2 => by rw [bS_o q1, hu a q1 q2]) (fun k hk => by rw [bS_o (by decide)]; exact hl k hk)
  | succ d ih =>
    intro i u v4 hi hv hu hl
    have e1 : u 88 1 = (L : Int) := by rw [hu 88 (by decide) (by decide), c5]
    obtain ⟨q1, q2⟩ := sgS_r (s := s) hd d2 d3 i
    obtain ⟨q1', q2'⟩ := sgS_r (s := s) hd d2 d3 (i + 1)
    have hw1 : w3 (((s + i : Nat) : Int) + 1) = ((s + (i + 1) : Nat) : Int) := by rw [w3_id (by omega) (by omega)]; omega
    have hgu : gd u (cS h b n) := fun t ht => by rw [hu 83 (by decide) (by decide), hu 84 (by decide) (by decide), hu 85 (by decide) (by decide)]; exact hd t ht
    have eso : ∀ w r, sortI (bS u 138 (h 82 b) w r (h 93 b).toNat (cS h b n)) ((s + i : Nat) : Int) = sortI h ((s + i : Nat) : Int) := fun w r => by
      rw [sortI_bS kd_138]; unfold sortI; rw [hu 88 (by decide) (by decide), hu 89 (by decide) (by decide)]
    have hag : ∀ Q', wp 114 (am_ju 114 0) [aP 138, aI (sortI h ((s + i : Nat) : Int))] [] (sT (bS u 138 (h 82 b) (oSt h n s b i).1 (oSt h n s b i).2 (h 93 b).toNat (cS h b n))) Q' ↔ Q' aV (sT (bS u 138 (h 82 b) (oSt h n s b (i + 1)).1 (oSt h n s b (i + 1)).2 (h 93 b).toNat (cS h b n))) := fun Q' => by
      unfold oSt
      by_cases z : cS h b n = 0
      · have es : sgS h (cS h b n) s (h 91 b) (h 92 b) (i + 1) = sgS h (cS h b n) s (h 91 b) (h 92 b) i := by rw [sgS, if_pos z]
        obtain ⟨w1, w2, w3'⟩ := gd_W hgu
        rw [es]
        unfold bS
        rw [s_age kd_138 q1 q2 ⟨w2.1, by omega⟩ ⟨w3'.1, by omega⟩, if_pos (by rw [z]; rfl)]
      · rw [s_ageS kd_138 q1 q2 hgu z]
        have es : sgS h (cS h b n) s (h 91 b) (h 92 b) (i + 1) = (aW h (sgS h (cS h b n) s (h 91 b) (h 92 b) i).1 (cS h b n), aR h (sgS h (cS h b n) s (h 91 b) (h 92 b) i).2 (cS h b n) (sortI h ((s + i : Nat) : Int))) := by rw [sgS, if_neg z]
        rw [es]
        unfold aW aR
        rw [hu 84 (by decide) (by decide), hu 85 (by decide) (by decide)]
    have ih := fun u v4 => ih (i + 1) u v4 (by omega)
    have s0 : (0 : Int) ≤ ((s + i : Nat) : Int) := by omega
    have s20 : ((s + i : Nat) : Int) < 20 := by omega
    have l140 : u 140 ((s + i : Nat) : Int) = (lkN (oB h s) (oW h n s) b i : Int) := by rw [hl i (by omega), if_neg (Nat.lt_irrefl i)]
    have ewk : ∀ so j, wkS u (h 82 b) (oSt h n s b (i + 1)).1 (oSt h n s b (i + 1)).2 (h 93 b).toNat (cS h b n) so j = wkS h (h 82 b) (oSt h n s b (i + 1)).1 (oSt h n s b (i + 1)).2 (h 93 b).toNat (cS h b n) so j := fun so j => wkS_c (fun a z1 z2 => hu a (by omega) (by omega))
    have rest : ∀ k : Nat, k ≠ i → (if k < i then b + 1 else b) = (if k < i + 1 then b + 1 else b) := fun k hk => by
      by_cases z : k < i
      · rw [if_pos z, if_pos (by omega)]
      · rw [if_neg z, if_neg (by omega)]
    have fin : ∀ nv : Nat, nv = lkN (oB h s) (oW h n s) (b + 1) i → lkR h (up u 140 ((s + i : Nat) : Int) (nv : Int)) n s L b (i + 1) := fun nv hn k hk => by
      by_cases z : k = i
      · subst z; rw [up_s, if_pos (by omega), hn]
      · rw [up_k (by omega), hl k hk, rest k z]
    rw [ju_142_19]
    simp only [r_aLD0, r_gR, r_aST2, r_iLD1, cl_39, cl_42, r_gI, r_iST3, r_iLD3, r_aLD2, r_IC3, cl_100, r_iST4, r_iLD4, cl_114, r_iCONST, r_IC1, r_iALD, r_iALDs, cl_141, r_MMIN, r_iAST, r_GOTO, cl_113, cl_115, r_IF2, r_IINC3, r_vRET, eq_self, Int.reduceLT, Int.reduceLE, Int.reduceEq, true_or, or_true, and_self, true_and, and_true, w8_0, w8_1, w8_2, w8_3, w8_4, nl_I, nl_P, nl_X, pu_I, pu_J, pu_V, kd_88, kd_137, ln_137, rR_137_0, rR_137_1, rR_137_2, rR_137_3, rR_137_4, rR_137_6, rR_137_7, rR_137_8, kd_138, ln_138, bS_n kd_138 (show kd 88 ≠ 0 by decide), e1, s_sortAt, eso, hag]
    rw [if_neg (by omega)]
    by_cases e : sortI h ((s + i : Nat) : Int) = 3
    · have hob : oB h s i = true := decide_eq_true e
      have hfj : (fun j : Nat => decide (0 ≤ wkS u (h 82 b) (oSt h n s b (i + 1)).1 (oSt h n s b (i + 1)).2 (h 93 b).toNat (cS h b n) 3 (j : Int))) = oW h n s b i := by
        funext j
        unfold oW
        rw [ewk, e]
        rfl
      have hbo := fun Q' => s_borne (u := u) (Q := Q') (c := 138) (k := h 82 b) (w := (oSt h n s b (i + 1)).1) (r := (oSt h n s b (i + 1)).2) (gg := (h 93 b).toNat) (S := cS h b n) kd_138 d1 q1' q2' hg16 hgu
      rw [hfj] at hbo
      have lkold : lkN (oB h s) (oW h n s) b i = mn8 (fun b => fj (oW h n s b i) 8 0) b := by unfold lkN; rw [if_pos hob]
      have lknew : lkN (oB h s) (oW h n s) (b + 1) i = if fj (oW h n s b i) 8 0 < mn8 (fun b => fj (oW h n s b i) 8 0) b then fj (oW h n s b i) 8 0 else mn8 (fun b => fj (oW h n s b i) 8 0) b := by unfold lkN; rw [if_pos hob, mn8]
      have emin : (if (fj (oW h n s b i) 8 0 : Int) < (lkN (oB h s) (oW h n s) b i : Int) then (fj (oW h n s b i) 8 0 : Int) else (lkN (oB h s) (oW h n s) b i : Int)) = ((lkN (oB h s) (oW h n s) (b + 1) i : Nat) : Int) := by
        rw [lkold, lknew]
        split <;> split <;> omega
      rw [if_neg (by simpa using e)]
      simp (disch := first | assumption | omega | exact w8_0 | exact w8_1 _ | exact w8_2 _ _ | exact w8_3 _ _ _ | exact w8_4 _ _ _ _ | exact nl_I _ | exact nl_P _ | exact nl_X | decide | exact w8_5 _ _ _ _ _) only [r_aLD0, r_gR, r_aST2, r_iLD1, cl_39, cl_42, r_gI, r_iST3, r_iLD3, r_aLD2, r_IC3, cl_100, r_iST4, r_iLD4, cl_114, r_iCONST, r_IC1, r_iALDc, r_iALDs, cl_141, r_MMIN, r_iASTc, r_GOTO, cl_113, cl_115, r_IF2, r_IINC3, r_vRET, eq_self, Int.reduceLT, Int.reduceLE, Int.reduceEq, true_or, or_true, and_self, true_and, and_true, w8_0, w8_1, w8_2, w8_3, w8_4, nl_I, nl_P, nl_X, pu_I, pu_J, pu_V, w3_id, Int.add_zero, kd_137, kd_138, rR_137_1, rR_137_3, bS_n kd_138 (show kd 140 ≠ 0 by decide), l140, hbo, emin, bS_140]
      rw [ju_142_61]
      simp only [r_aLD0, r_gR, r_aST2, r_iLD1, cl_39, cl_42, r_gI, r_iST3, r_iLD3, r_aLD2, r_IC3, cl_100, r_iST4, r_iLD4, cl_114, r_iCONST, r_IC1, r_iALD, r_iALDs, cl_141, r_MMIN, r_iAST, r_GOTO, cl_113, cl_115, r_IF2, r_IINC3, r_vRET, eq_self, Int.reduceLT, Int.reduceLE, Int.reduceEq, true_or, or_true, and_self, true_and, and_true, w8_0, w8_1, w8_2, w8_3, w8_4, nl_I, nl_P, nl_X, pu_I, pu_J, pu_V, hw1]
      exact ih _ (aI (sortI h ((s + i : Nat) : Int))) rfl (fun a z1 z2 => by rw [up_ne z2, hu a z1 z2]) (fin _ rfl)
    · have hob : ¬ oB h s i = true := by unfold oB; simpa using e
      have lkold : lkN (oB h s) (oW h n s) b i = if anB (oW h n s) i 0 b = true then 0 else 1 := by unfold lkN; rw [if_neg hob]
      have lknew : lkN (oB h s) (oW h n s) (b + 1) i = if (anB (oW h n s) i 0 b || oW h n s b i 0) = true then 0 else 1 := by unfold lkN; rw [if_neg hob, anB]
      have hj0 : 0 ≤ jl (sortI h ((s + i : Nat) : Int)) 0 ∧ jl (sortI h ((s + i : Nat) : Int)) 0 ≤ 7 := jl_r ⟨by decide, by decide⟩
      have hwe := fun Q' => s_weakS (h := u) (Q := Q') (c := 138) (k := h 82 b) (w := (oSt h n s b (i + 1)).1) (r := (oSt h n s b (i + 1)).2) (g := (h 93 b).toNat) (S := cS h b n) (so := sortI h ((s + i : Nat) : Int)) (j := jl (sortI h ((s + i : Nat) : Int)) 0) kd_138 d1 q1' q2' hg16 hgu hj0
      rw [ewk] at hwe
      rw [if_pos e, ju_142_47]
      simp only [r_aLD0, r_gR, r_aST2, r_iLD1, cl_39, cl_42, r_gI, r_iST3, r_iLD3, r_aLD2, r_IC3, cl_100, r_iST4, r_iLD4, cl_114, r_iCONST, r_IC1, r_iALD, r_iALDs, cl_141, r_MMIN, r_iAST, r_GOTO, cl_113, cl_115, r_IF2, r_IINC3, r_vRET, eq_self, Int.reduceLT, Int.reduceLE, Int.reduceEq, true_or, or_true, and_self, true_and, and_true, w8_0, w8_1, w8_2, w8_3, w8_4, nl_I, nl_P, nl_X, pu_I, pu_J, pu_V, kd_137, ln_137, rR_137_0, rR_137_1, rR_137_2, rR_137_3, rR_137_4, rR_137_6, rR_137_7, rR_137_8, kd_138, ln_138, kd_88, s_joltAt, eso, hwe]
      by_cases f : 0 ≤ wkS h (h 82 b) (oSt h n s b (i + 1)).1 (oSt h n s b (i + 1)).2 (h 93 b).toNat (cS h b n) (sortI h ((s + i : Nat) : Int)) (jl (sortI h ((s + i : Nat) : Int)) 0)
      · have ow : oW h n s b i 0 = true := by unfold oW; simpa using f
        rw [if_neg (by omega)]
        simp (disch := first | assumption | omega | exact w8_0 | exact w8_1 _ | exact w8_2 _ _ | exact w8_3 _ _ _ | exact w8_4 _ _ _ _ | exact nl_I _ | exact nl_P _ | exact nl_X | decide | exact w8_5 _ _ _ _ _) only [r_aLD0, r_gR, r_aST2, r_iLD1, cl_39, cl_42, r_gI, r_iST3, r_iLD3, r_aLD2, r_IC3, cl_100, r_iST4, r_iLD4, cl_114, r_iCONST, r_IC1, r_iALDc, r_iALDs, cl_141, r_MMIN, r_iASTc, r_GOTO, cl_113, cl_115, r_IF2, r_IINC3, r_vRET, eq_self, Int.reduceLT, Int.reduceLE, Int.reduceEq, true_or, or_true, and_self, true_and, and_true, w8_0, w8_1, w8_2, w8_3, w8_4, nl_I, nl_P, nl_X, pu_I, pu_J, pu_V, w3_id, Int.add_zero, kd_137, rR_137_3, bS_140]
        rw [ju_142_61]
        simp only [r_aLD0, r_gR, r_aST2, r_iLD1, cl_39, cl_42, r_gI, r_iST3, r_iLD3, r_aLD2, r_IC3, cl_100, r_iST4, r_iLD4, cl_114, r_iCONST, r_IC1, r_iALD, r_iALDs, cl_141, r_MMIN, r_iAST, r_GOTO, cl_113, cl_115, r_IF2, r_IINC3, r_vRET, eq_self, Int.reduceLT, Int.reduceLE, Int.reduceEq, true_or, or_true, and_self, true_and, and_true, w8_0, w8_1, w8_2, w8_3, w8_4, nl_I, nl_P, nl_X, pu_I, pu_J, pu_V, hw1]
        have := ih (up u 140 ((s + i : Nat) : Int) ((0 : Nat) : Int)) (aI (sortI h ((s + i : Nat) : Int))) rfl (fun a z1 z2 => by rw [up_ne z2, hu a z1 z2]) (fin 0 (by rw [lknew, ow]; simp))
        exact this
      · have ow : oW h n s b i 0 = false := by unfold oW; simpa using f
        rw [if_pos (by omega), ju_142_61]
        simp only [r_aLD0, r_gR, r_aST2, r_iLD1, cl_39, cl_42, r_gI, r_iST3, r_iLD3, r_aLD2, r_IC3, cl_100, r_iST4, r_iLD4, cl_114, r_iCONST, r_IC1, r_iALD, r_iALDs, cl_141, r_MMIN, r_iAST, r_GOTO, cl_113, cl_115, r_IF2, r_IINC3, r_vRET, eq_self, Int.reduceLT, Int.reduceLE, Int.reduceEq, true_or, or_true, and_self, true_and, and_true, w8_0, w8_1, w8_2, w8_3, w8_4, nl_I, nl_P, nl_X, pu_I, pu_J, pu_V, hw1]
        refine ih u (aI (sortI h ((s + i : Nat) : Int))) rfl hu (fun k hk => ?_)
        by_cases z : k = i
        · subst z
          rw [hl k hk, if_neg (Nat.lt_irrefl k), if_pos (by omega), lknew, lkold, ow, Bool.or_false]
        · rw [hl k hk, rest k z]
theorem s_nl (hC : CO h n nb L s) (hb : b < nb) (hu : oL h u) (hl : lkR h u n s L b 0) (hq : ∀ g, oL h g → lkR h g n s L (b + 1) 0 → Q aV (sT g)) : wp 142 (am_ju 142 0) [aP 137, aI (b : Int), aX, aX, aX] [] (sT u) Q := by
  obtain ⟨c1, c2, c3, c4, c5, c6, c7, c8, c9, c10⟩ := id hC
  have hCu : CO u n nb L s := CO_c (fun a q1 q2 q3 => hu a (by omega) (by omega)) (by rw [hu 90 (by decide) (by decide)]) hC
  obtain ⟨e1, e2, e3, -, e5, -, e7, -⟩ := id hCu
  obtain ⟨d1, d2, d3, d4⟩ := c10 b hb
  have eg : h 93 b = ((h 93 b).toNat : Int) := (Int.toNat_of_nonneg d4.1).symm
  have eS0 : cS u b n = cS h b n := by unfold cS; rw [hu 94 (by decide) (by decide)]
  have ta : ∀ (Q' : am_V → am_S → Prop), wp 39 (am_ju 39 0) [aP 80, aI (b : Int), aX, aX] [] (sT u) Q' ↔ Q' (aI (cS h b n : Int)) (sT u) := fun Q' => by rw [s_thingsAt c4 e3, ← eS0]; rfl
  have hS := cS_lt (h := h) (b := (b : Int)) c4
  have hgd : gd u (cS h b n) := by rw [← eS0]; exact cS_gd hCu
  have ld := fun Q' => s_load (h := u) (Q := Q') (c := 138) (b := (b : Int)) kd_138 ⟨by omega, by omega, by omega⟩ hS hgd
  rw [hu 82 (by decide) (by decide), hu 91 (by decide) (by decide), hu 92 (by decide) (by decide), hu 93 (by decide) (by decide), eg] at ld
  rw [ju_142_0]
  simp only [r_aLD0, r_gR, r_aST2, r_iLD1, cl_39, cl_42, r_gI, r_iST3, r_iLD3, r_aLD2, r_IC3, cl_100, r_iST4, r_iLD4, cl_114, r_iCONST, r_IC1, r_iALD, r_iALDs, cl_141, r_MMIN, r_iAST, r_GOTO, cl_113, cl_115, r_IF2, r_IINC3, r_vRET, eq_self, Int.reduceLT, Int.reduceLE, Int.reduceEq, true_or, or_true, and_self, true_and, and_true, w8_0, w8_1, w8_2, w8_3, w8_4, nl_I, nl_P, nl_X, pu_I, pu_J, pu_V, kd_137, ln_137, rR_137_0, rR_137_1, rR_137_2, rR_137_3, rR_137_4, rR_137_6, rR_137_7, rR_137_8, kd_80, ln_80, rR_80_0, rR_80_1, rR_80_2, rR_80_3, kd_138, ln_138, kd_90, ln_90, rR_90_0, rR_90_1, rR_90_2, rR_90_3, ta, ld]
  rw [show bw u 138 (h 82 b) (h 91 b) (h 92 b) ((h 93 b).toNat : Int) (cS h b n : Int) (sumS (u 83) (cS h b n) 8) (sumS (u 84) (cS h b n) 8) (sumS (u 85) (cS h b n) 8) = bS u 138 (h 82 b) (h 91 b) (h 92 b) (h 93 b).toNat (cS h b n) from rfl]
  simp only [r_aLD0, r_gR, r_aST2, r_iLD1, cl_39, cl_42, r_gI, r_iST3, r_iLD3, r_aLD2, r_IC3, cl_100, r_iST4, r_iLD4, cl_114, r_iCONST, r_IC1, r_iALD, r_iALDs, cl_141, r_MMIN, r_iAST, r_GOTO, cl_113, cl_115, r_IF2, r_IINC3, r_vRET, eq_self, Int.reduceLT, Int.reduceLE, Int.reduceEq, true_or, or_true, and_self, true_and, and_true, w8_0, w8_1, w8_2, w8_3, w8_4, nl_I, nl_P, nl_X, pu_I, pu_J, pu_V, kd_137, ln_137, rR_137_0, rR_137_1, rR_137_2, rR_137_3, rR_137_4, rR_137_6, rR_137_7, rR_137_8, kd_80, ln_80, rR_80_0, rR_80_1, rR_80_2, rR_80_3, kd_138, ln_138, kd_90, ln_90, rR_90_0, rR_90_1, rR_90_2, rR_90_3, bS_n kd_138 (show kd 90 ≠ 0 by decide), e7]
  refine lp_nl hC hb (fun g hg hl' => hq g hg (fun k hk => ?_)) (L - s) 0 u aX (by omega) rfl hu hl
  rw [hl' k hk, if_pos (by omega), if_neg (by omega)]
end OD
