/-- the step at which a bag gives first (99: none), n steps from s on -/
def fgv (h : am_F) (k : Int) (g S : Nat) (bj : Int) : Nat → Nat → Int → Int → Int
  | 0, _, _, _ => 99
  | n + 1, s, w, r => if 0 ≤ wkS h k (aW h w S) (aR h r S (sortI h s)) g S (sortI h s) (jl (sortI h s) bj) then (s : Int) else fgv h k g S bj n (s + 1) (aW h w S) (aR h r S (sortI h s))
theorem jl_r {so bj : Int} (hb : 0 ≤ bj ∧ bj ≤ 7) : 0 ≤ jl so bj ∧ jl so bj ≤ 7 := by unfold jl; (repeat' split) <;> omega
theorem sortI_bS {h : am_F} {c k w r s : Int} {g S : Nat} (hk : kd c = 0) : sortI (bS h c k w r g S) s = sortI h s := by
  unfold sortI; rw [bS_n hk (by decide), bS_n hk (by decide)]
theorem sum_bS {h : am_F} {c k w r : Int} {g S : Nat} (hk : kd c = 0) : bS h c k w r g S 83 = h 83 ∧ bS h c k w r g S 84 = h 84 ∧ bS h c k w r g S 85 = h 85 := ⟨bS_n hk (by decide), bS_n hk (by decide), bS_n hk (by decide)⟩
section GV
variable {h : am_F} {Q : am_V → am_S → Prop} {c k w r so j bj : Int} {g S : Nat}
theorem s_ageS (hk : kd c = 0) (hw : 0 ≤ w ∧ w ≤ 999) (hr : 0 ≤ r ∧ r ≤ 999) (hd : gd h S) (hS : S ≠ 0) : wp 114 (am_ju 114 0) [aP c, aI so] [] (sT (bS h c k w r g S)) Q ↔ Q aV (sT (bS h c k (aW h w S) (aR h r S so) g S)) := by
  obtain ⟨d1, d2, d3⟩ := gd_W hd
  unfold bS
  rw [s_age hk hw hr ⟨d2.1, by omega⟩ ⟨d3.1, by omega⟩, if_neg (by omega)]
  rfl
theorem s_weakS (hk : kd c = 0) (hkk : 0 ≤ k ∧ k ≤ 3) (hw : 0 ≤ w ∧ w ≤ 999) (hr : 0 ≤ r ∧ r ≤ 999) (hg : g < 16) (hd : gd h S) (hj : 0 ≤ j ∧ j ≤ 7) : wp 115 (am_ju 115 0) [aP c, aI so, aI j, aX] [] (sT (bS h c k w r g S)) Q ↔ Q (aI (wkS h k w r g S so j)) (sT (bS h c k w r g S)) := by
  obtain ⟨d1, d2, d3⟩ := gd_W hd
  unfold bS
  rw [s_weakPlace hk hkk hw hr hg ⟨d1.1, by omega⟩ ⟨d3.1, by omega⟩ hj]
  rfl
theorem aW_r (hw : 0 ≤ w ∧ w ≤ 999) (hd : gd h S) : 0 ≤ aW h w S ∧ aW h w S ≤ 999 := ageW_r hw (gd_W hd).2.1.1
theorem aR_r (hr : 0 ≤ r ∧ r ≤ 999) (hd : gd h S) : 0 ≤ aR h r S so ∧ aR h r S so ≤ 999 := ageR_r hr (gd_W hd).2.2.1
theorem lp_firstGive (hk : kd c = 0) (hkk : 0 ≤ k ∧ k ≤ 3) (hg : g < 16) (hd : gd h S) (hS : S ≠ 0) (hb : 0 ≤ bj ∧ bj ≤ 7) {fr : Int} {L : Nat} (hL : h 88 1 = (L : Int)) (hL2 : L ≤ 20) : ∀ (n s : Nat) (w r : Int) (v : am_V), am_nl v = true → s + n = L → (0 ≤ w ∧ w ≤ 999) → (0 ≤ r ∧ r ≤ 999) → (∀ w' r', Q (aI (fgv h k g S bj n s w r)) (sT (bS h c k w' r' g S))) → wp 134 (am_ju 134 7) [aP c, aP 88, aI fr, aI bj, aI (s : Int), v] [] (sT (bS h c k w r g S)) Q := by
  intro n
  induction n with
  | zero =>
    intro s w r v hv hs hw hr hq
    have hs : s = L := by omega
    subst hs
    rw [ju_134_7]
    simp only [ju_134_30, r_aLD0, r_gI, r_IF1, r_bPUSH, r_iRET, r_iLD2, r_iST4, r_iLD4, r_aLD1, r_IC3, cl_100, r_iST5, r_iLD5, cl_114, r_iLD3, cl_113, cl_115, r_IF2, r_IINC4, r_GOTO, eq_self, Int.reduceLT, Int.reduceLE, Int.reduceEq, true_or, or_true, and_self, true_and, and_true, w8_0, w8_1, w8_2, w8_3, w8_4, nl_I, nl_P, nl_X, pu_I, pu_J, pu_V, kd_88, bS_n hk (show kd 88 ≠ 0 by decide), hL]
    rw [if_pos (by omega)]
    exact hq w r
  | succ n ih =>
    intro s w r v hv hs hw hr hq
    have hw3 : w3 ((s : Int) + 1) = ((s + 1 : Nat) : Int) := w3_id (by omega) (by omega)
    have a1 := aW_r hw hd
    have a2 := aR_r (so := sortI h s) hr hd
    rw [ju_134_7]
    simp only [ju_134_28, r_aLD0, r_gI, r_IF1, r_bPUSH, r_iRET, r_iLD2, r_iST4, r_iLD4, r_aLD1, r_IC3, cl_100, r_iST5, r_iLD5, cl_114, r_iLD3, cl_113, cl_115, r_IF2, r_IINC4, r_GOTO, eq_self, Int.reduceLT, Int.reduceLE, Int.reduceEq, true_or, or_true, and_self, true_and, and_true, w8_0, w8_1, w8_2, w8_3, w8_4, nl_I, nl_P, nl_X, pu_I, pu_J, pu_V, kd_88, bS_n hk (show kd 88 ≠ 0 by decide), hL, hk, s_sortAt, s_joltAt, sortI_bS hk, s_ageS hk hw hr hd hS, s_weakS hk hkk a1 a2 hg hd (jl_r hb), hw3]
    rw [if_neg (by omega)]
    rw [fgv] at hq
    split
    · next hp =>
      rw [if_neg (by omega)] at hq
      exact ih (s + 1) _ _ _ rfl (by omega) a1 a2 hq
    · next hp =>
      rw [if_pos (by omega)] at hq
      exact hq _ _
theorem s_firstGive (hk : kd c = 0) (hkk : 0 ≤ k ∧ k ≤ 3) (hw : 0 ≤ w ∧ w ≤ 999) (hr : 0 ≤ r ∧ r ≤ 999) (hg : g < 16) (hd : gd h S) (hb : 0 ≤ bj ∧ bj ≤ 7) {fr L : Nat} (hL : h 88 1 = (L : Int)) (hL2 : L ≤ 20) (hfr : fr ≤ L) (hq : ∀ w' r', Q (aI (if S = 0 then 99 else fgv h k g S bj (L - fr) fr w r)) (sT (bS h c k w' r' g S))) : wp 134 (am_ju 134 0) [aP c, aP 88, aI (fr : Int), aI bj, aX, aX] [] (sT (bS h c k w r g S)) Q := by
  have e4 : bS h c k w r g S c 4 = (S : Int) := bw_4
  rw [ju_134_0]
  by_cases h0 : S = 0
  · subst h0
    have e40 : bS h c k w r g 0 c 4 = 0 := bw_4
    simp only [r_aLD0, r_gI, r_IF1, r_bPUSH, r_iRET, r_iLD2, r_iST4, r_iLD4, r_aLD1, r_IC3, cl_100, r_iST5, r_iLD5, cl_114, r_iLD3, cl_113, cl_115, r_IF2, r_IINC4, r_GOTO, eq_self, Int.reduceLT, Int.reduceLE, Int.reduceEq, true_or, or_true, and_self, true_and, and_true, w8_0, w8_1, w8_2, w8_3, w8_4, nl_I, nl_P, nl_X, pu_I, pu_J, pu_V, hk, e40, not_true, if_false]
    simpa using hq w r
  · simp only [ju_134_5, r_aLD0, r_gI, r_IF1, r_bPUSH, r_iRET, r_iLD2, r_iST4, r_iLD4, r_aLD1, r_IC3, cl_100, r_iST5, r_iLD5, cl_114, r_iLD3, cl_113, cl_115, r_IF2, r_IINC4, r_GOTO, eq_self, Int.reduceLT, Int.reduceLE, Int.reduceEq, true_or, or_true, and_self, true_and, and_true, w8_0, w8_1, w8_2, w8_3, w8_4, nl_I, nl_P, nl_X, pu_I, pu_J, pu_V, hk, e4]
    rw [if_pos (by omega)]
    refine lp_firstGive hk hkk hg hd h0 hb hL hL2 (L - fr) fr w r aX rfl (by omega) hw hr (fun w' r' => ?_)
    have := hq w' r'
    rwa [if_neg h0] at this
end GV
