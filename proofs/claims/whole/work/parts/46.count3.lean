theorem countP_sumF (q : Nat → Bool) : ∀ m : Nat, (((List.range m).countP q : Nat) : Int) = sumF (fun t => if q t = true then 1 else 0) m := by
  intro m
  induction m with
  | zero => rfl
  | succ m ih =>
    rw [List.range_succ, List.countP_append, sumF, ← ih, List.countP_cons, List.countP_nil]
    by_cases e : q m = true <;> simp [e]
theorem popc_setF {p : Nat → Bool} {n : Nat} (h8 : n ≤ 8) : (popc (setF p n) : Int) = sumF (fun t => if p t = true then 1 else 0) n := by
  unfold popc
  rw [countP_sumF, sumF_z h8]
  · refine sumF_c (fun t q => ?_)
    rw [setF_bit]
    simp [q]
  · intro t q
    rw [setF_bit]
    simp [show ¬ t < n by omega]
theorem bN_c {f g : Nat → Int} : ∀ (m s : Nat), (∀ i, i < s + m → f i = g i) → bN f m s = bN g m s := by
  intro m
  induction m with
  | zero => intro s _; rfl
  | succ m ih => intro s hq; rw [bN, bN, hq s (by omega), ih (s + 1) (fun i hi => hq i (by omega))]
section ER
variable {h h' : am_F} {Q : am_V → am_S → Prop} {x y t b i pl j : Int} {n nb L s : Nat}
/-- the class's answer to count -/
def cnT (h : am_F) (n L s : Nat) (x : Int) : Int := if x = 0 then h 81 6 else if x = 1 then h 81 7 else if x = 2 then h 88 1 else if x = 3 then h 90 4 else if x = 4 then popc (setF (fun t => decide (10 ≤ h 94 t)) n) else if x = 5 then h 95 2 else if x = 6 then bN (fun s => h 89 s) (L - s) s else -1
def cnR (h : am_F) (n L s : Nat) (x : Int) : Int := if x = 0 then h 150 0 else if x = 1 then h 150 1 else if x = 2 then h 150 2 else if x = 3 then h 150 3 else if x = 4 then gN h n else if x = 5 then h 150 5 else if x = 6 then bN (fun s => h 150 (66 + s)) (L - s) s else -1
theorem q_count (hP : Rp h 0 150 n nb L s) (hk : h 95 2 = h 150 5) : cnT h n L s x = cnR h n L s x := by
  obtain ⟨⟨r0, hnb3, r1, h8, r2, hL, ht, hbk⟩, p1, p2, p3, p4, p5, p6, p7, pb, pt, pw⟩ := hP
  simp only [Int.add_zero] at p1 p2 p3 p4 pw pt
  unfold cnT cnR
  rw [p1, p2, p3, p4, r0, r1, r2, p5, hk, popc_setF h8, bN_c (f := fun s => h 150 (66 + s)) (g := fun s => h 89 s) (L - s) s (fun i hi => pw i (by omega))]
  have : sumF (fun t => if decide (10 ≤ h 94 t) = true then 1 else 0) n = gN h n := by
    unfold gN
    refine sumF_c (fun t q => ?_)
    rw [(pt t q).2.2.2.2.2]
    simp
  rw [this]
theorem s_Tcount (hC : CO h n nb L s) : wp 105 (am_ju 105 0) [aP 0, aI x] [] (sT h) Q ↔ Q (aI (cnT h n L s x)) (sT h) := by
  obtain ⟨c1, c2, c3, c4, c5, c6, c7, c8, c9, c10⟩ := id hC
  have hlt : setF (fun t => decide (10 ≤ h 94 t)) n < 256 := Nat.lt_of_lt_of_le (setF_lt _ n) (Nat.pow_le_pow_right (n := 2) (j := 8) (by decide) c4)
  simp only [ju_105_0, r_iLD1, r_TSW, r_aLD0, r_gR, r_gI, r_iRET, cl_103, cl_55, cl_104, r_iCONST, eq_self, Int.reduceLT, Int.reduceLE, Int.reduceEq, true_or, or_true, and_self, true_and, and_true, w8_0, w8_1, w8_2, w8_3, w8_4, nl_I, nl_P, nl_X, pu_I, pu_J, pu_V]
  by_cases e : 0 ≤ x ∧ x ≤ 6
  · have hx : x = 0 ∨ x = 1 ∨ x = 2 ∨ x = 3 ∨ x = 4 ∨ x = 5 ∨ x = 6 := by omega
    rcases hx with rfl | rfl | rfl | rfl | rfl | rfl | rfl
    · rw [show tswT [0, 6, 41, 2, 7, 12, 17, 22, 27, 32] 0 = 2 from by decide]
      simp only [ju_105_2, r_iLD1, r_TSW, r_aLD0, r_gR, r_gI, r_iRET, cl_103, cl_55, cl_104, r_iCONST, eq_self, Int.reduceLT, Int.reduceLE, Int.reduceEq, true_or, or_true, and_self, true_and, and_true, w8_0, w8_1, w8_2, w8_3, w8_4, nl_I, nl_P, nl_X, pu_I, pu_J, pu_V, kd_0, ln_0, rR_0_0, rR_0_1, rR_0_3, rR_0_4, rR_0_5, rR_0_6, rR_0_7, rR_0_8, rR_0_9, rR_0_10, kd_80, ln_80, rR_80_0, rR_80_1, rR_80_2, rR_80_3, kd_81, ln_81, rR_81_0, rR_81_1, rR_81_2, rR_81_3, rR_81_4, rR_81_5]; simp [cnT]
    · rw [show tswT [0, 6, 41, 2, 7, 12, 17, 22, 27, 32] 1 = 7 from by decide]
      simp only [ju_105_7, r_iLD1, r_TSW, r_aLD0, r_gR, r_gI, r_iRET, cl_103, cl_55, cl_104, r_iCONST, eq_self, Int.reduceLT, Int.reduceLE, Int.reduceEq, true_or, or_true, and_self, true_and, and_true, w8_0, w8_1, w8_2, w8_3, w8_4, nl_I, nl_P, nl_X, pu_I, pu_J, pu_V, kd_0, ln_0, rR_0_0, rR_0_1, rR_0_3, rR_0_4, rR_0_5, rR_0_6, rR_0_7, rR_0_8, rR_0_9, rR_0_10, kd_80, ln_80, rR_80_0, rR_80_1, rR_80_2, rR_80_3, kd_81, ln_81, rR_81_0, rR_81_1, rR_81_2, rR_81_3, rR_81_4, rR_81_5]; simp [cnT]
    · rw [show tswT [0, 6, 41, 2, 7, 12, 17, 22, 27, 32] 2 = 12 from by decide]
      simp only [ju_105_12, r_iLD1, r_TSW, r_aLD0, r_gR, r_gI, r_iRET, cl_103, cl_55, cl_104, r_iCONST, eq_self, Int.reduceLT, Int.reduceLE, Int.reduceEq, true_or, or_true, and_self, true_and, and_true, w8_0, w8_1, w8_2, w8_3, w8_4, nl_I, nl_P, nl_X, pu_I, pu_J, pu_V, kd_0, ln_0, rR_0_0, rR_0_1, rR_0_3, rR_0_4, rR_0_5, rR_0_6, rR_0_7, rR_0_8, rR_0_9, rR_0_10, kd_80, ln_80, rR_80_0, rR_80_1, rR_80_2, rR_80_3, kd_88, ln_88, rR_88_0]; simp [cnT]
    · rw [show tswT [0, 6, 41, 2, 7, 12, 17, 22, 27, 32] 3 = 17 from by decide]
      simp only [ju_105_17, r_iLD1, r_TSW, r_aLD0, r_gR, r_gI, r_iRET, cl_103, cl_55, cl_104, r_iCONST, eq_self, Int.reduceLT, Int.reduceLE, Int.reduceEq, true_or, or_true, and_self, true_and, and_true, w8_0, w8_1, w8_2, w8_3, w8_4, nl_I, nl_P, nl_X, pu_I, pu_J, pu_V, kd_0, ln_0, rR_0_0, rR_0_1, rR_0_3, rR_0_4, rR_0_5, rR_0_6, rR_0_7, rR_0_8, rR_0_9, rR_0_10, kd_80, ln_80, rR_80_0, rR_80_1, rR_80_2, rR_80_3, kd_90, ln_90, rR_90_0, rR_90_1, rR_90_2, rR_90_3]; simp [cnT]
    · rw [show tswT [0, 6, 41, 2, 7, 12, 17, 22, 27, 32] 4 = 22 from by decide]
      simp only [ju_105_22, r_iLD1, r_TSW, r_aLD0, r_gR, r_gI, r_iRET, cl_103, cl_55, cl_104, r_iCONST, eq_self, Int.reduceLT, Int.reduceLE, Int.reduceEq, true_or, or_true, and_self, true_and, and_true, w8_0, w8_1, w8_2, w8_3, w8_4, nl_I, nl_P, nl_X, pu_I, pu_J, pu_V, kd_0, ln_0, rR_0_0, rR_0_1, rR_0_3, rR_0_4, rR_0_5, rR_0_6, rR_0_7, rR_0_8, rR_0_9, rR_0_10, kd_80, ln_80, rR_80_0, rR_80_1, rR_80_2, rR_80_3, s_ground c4 c3, s_bitCount hlt]; simp [cnT]
    · rw [show tswT [0, 6, 41, 2, 7, 12, 17, 22, 27, 32] 5 = 27 from by decide]
      simp only [ju_105_27, r_iLD1, r_TSW, r_aLD0, r_gR, r_gI, r_iRET, cl_103, cl_55, cl_104, r_iCONST, eq_self, Int.reduceLT, Int.reduceLE, Int.reduceEq, true_or, or_true, and_self, true_and, and_true, w8_0, w8_1, w8_2, w8_3, w8_4, nl_I, nl_P, nl_X, pu_I, pu_J, pu_V, kd_0, ln_0, rR_0_0, rR_0_1, rR_0_3, rR_0_4, rR_0_5, rR_0_6, rR_0_7, rR_0_8, rR_0_9, rR_0_10, kd_80, ln_80, rR_80_0, rR_80_1, rR_80_2, rR_80_3, kd_95, ln_95, rR_95_0]; simp [cnT]
    · rw [show tswT [0, 6, 41, 2, 7, 12, 17, 22, 27, 32] 6 = 32 from by decide]
      simp only [ju_105_32, r_iLD1, r_TSW, r_aLD0, r_gR, r_gI, r_iRET, cl_103, cl_55, cl_104, r_iCONST, eq_self, Int.reduceLT, Int.reduceLE, Int.reduceEq, true_or, or_true, and_self, true_and, and_true, w8_0, w8_1, w8_2, w8_3, w8_4, nl_I, nl_P, nl_X, pu_I, pu_J, pu_V, kd_0, ln_0, rR_0_0, rR_0_1, rR_0_3, rR_0_4, rR_0_5, rR_0_6, rR_0_7, rR_0_8, rR_0_9, rR_0_10, kd_80, ln_80, rR_80_0, rR_80_1, rR_80_2, rR_80_3, kd_88, ln_88, rR_88_0, kd_90, ln_90, rR_90_0, rR_90_1, rR_90_2, rR_90_3, c7, s_buses c5 c6 c8]; simp [cnT]
  · rw [show tswT [0, 6, 41, 2, 7, 12, 17, 22, 27, 32] x = 41 from by
      show (if 0 ≤ x ∧ x ≤ 6 then _ else (41 : Int)) = 41
      exact if_neg e]
    simp only [ju_105_41, r_iLD1, r_TSW, r_aLD0, r_gR, r_gI, r_iRET, cl_103, cl_55, cl_104, r_iCONST, eq_self, Int.reduceLT, Int.reduceLE, Int.reduceEq, true_or, or_true, and_self, true_and, and_true, w8_0, w8_1, w8_2, w8_3, w8_4, nl_I, nl_P, nl_X, pu_I, pu_J, pu_V]
    unfold cnT
    rw [if_neg (by omega), if_neg (by omega), if_neg (by omega), if_neg (by omega), if_neg (by omega), if_neg (by omega), if_neg (by omega)]
end ER
