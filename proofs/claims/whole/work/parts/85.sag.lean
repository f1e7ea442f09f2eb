/-! sagged -/
def sgS (h : am_F) (S s : Nat) (w r : Int) : Nat → Int × Int
  | 0 => (w, r)
  | k + 1 => if S = 0 then sgS h S s w r k else (aW h (sgS h S s w r k).1 S, aR h (sgS h S s w r k).2 S (sortI h ((s + k : Nat) : Int)))
def sgV (h : am_F) (S s : Nat) (w r : Int) (k : Nat) : Int := ((sgS h S s w r (k + 1)).1 + (sgS h S s w r (k + 1)).2) / 10
def al (f : Nat → Bool) : Nat → Bool
  | 0 => true
  | m + 1 => al f m && f m
/-- the sags told are those of wet w -/
def sgf (h : am_F) (it : Int → Int) (S s : Nat) (w r : Int) (k : Nat) : Bool := decide (w6 (it k) = w6 (sgV h S s w r k))
def cnt (P : Nat → Bool) : Nat → Nat → Int
  | _, 0 => 0
  | a, k + 1 => (if P a = true then 1 else 0) + cnt P (a + 1) k
def lst (P : Nat → Bool) : Nat → Nat → Int
  | _, 0 => -4
  | a, k + 1 => if P a = true then (a : Int) else lst P (a + 1) k
section SG
variable {g h h' h1 h2 u : am_F} {Q : am_V → am_S → Prop} {so j bj x y z i o c w r v : Int} {n nb L s K nx b m k a q B S gg : Nat} {f P : Nat → Bool}
theorem lCm_0 {a b : Int} : lCm a b = 0 ↔ w6 a = w6 b := by
  have e : w6 a = w6 b ↔ Int64.ofInt a = Int64.ofInt b := Int64.toInt_inj
  unfold lCm lg_cmp
  rw [e]
  by_cases h1 : Int64.ofInt a > Int64.ofInt b
  · rw [if_pos h1]
    constructor
    · intro q; exact absurd q (by decide)
    · intro q; rw [q] at h1; exact absurd h1 (by simp [Int64.lt_iff_toInt_lt])
  · rw [if_neg h1]
    by_cases h2 : Int64.ofInt a = Int64.ofInt b
    · rw [if_pos h2]; exact ⟨fun _ => h2, fun _ => by decide⟩
    · rw [if_neg h2]
      constructor
      · intro q; exact absurd q (by decide)
      · intro q; exact absurd q h2
theorem al_f : ∀ m, k ≤ m → al f k = false → al f m = false := by
  intro m
  induction m with
  | zero => intro q1 q2; have : k = 0 := by omega
            subst this; exact q2
  | succ m ih =>
    intro q1 q2
    by_cases e : k = m + 1
    · subst e; exact q2
    · rw [al, ih (by omega) q2]; rfl
theorem sgS_r (hd : gd h S) (hw : 0 ≤ w ∧ w ≤ 999) (hr : 0 ≤ r ∧ r ≤ 999) : ∀ k, (0 ≤ (sgS h S s w r k).1 ∧ (sgS h S s w r k).1 ≤ 999) ∧ (0 ≤ (sgS h S s w r k).2 ∧ (sgS h S s w r k).2 ≤ 999) := by
  intro k
  induction k with
  | zero => exact ⟨hw, hr⟩
  | succ k ih =>
    rw [sgS]
    split
    · exact ih
    · exact ⟨aW_r ih.1 hd, aR_r ih.2 hd⟩
theorem s_valueAt (hk : kd c = 6) (hr : rR c 0 = c + 1) (hc : 0 ≤ c) (hk2 : kd (c + 1) = 21) (hl : ln (c + 1) = 24) (hi : 0 ≤ i ∧ i < 24) : wp 207 (am_ju 207 0) [aP c, aI i] [] (sT h) Q ↔ Q (aJ (h (c + 1) i)) (sT h) := by
  obtain ⟨i0, i1⟩ := hi
  simp (disch := first | assumption | omega | exact w8_0 | exact w8_1 _ | exact w8_2 _ _ | exact w8_3 _ _ _ | exact w8_4 _ _ _ _ | exact nl_I _ | exact nl_P _ | exact nl_X | decide | exact w8_5 _ _ _ _ _) only [ju_207_0, ju_207_9, ju_207_10, r_iLD1, r_bPUSH, cl_12, r_IF0, r_aLD0, r_gR, r_lALDc, r_GOTO, r_lCONST, r_lRET, eq_self, Int.reduceLT, Int.reduceLE, Int.reduceEq, true_or, or_true, and_self, true_and, and_true, w8_0, w8_1, w8_2, w8_3, w8_4, nl_I, nl_P, nl_X, pu_I, pu_J, pu_V, w3_id, Int.add_zero, s_isBelow, i0, i1, and_self, if_true, Int.reduceEq, if_false, hr]
theorem sum_eq (hu : tR h u) : u 83 = h 83 ∧ u 84 = h 84 ∧ u 85 = h 85 := ⟨hu 83 (by decide), hu 84 (by decide), hu 85 (by decide)⟩
theorem lp_sags (hu : tR h u) (hL : h 88 1 = (L : Int)) (hL2 : L ≤ 20) (hs4 : h 90 4 = (s : Int)) (hmL : s + m ≤ L) (hkk : 0 ≤ x ∧ x ≤ 3) (hg : gg < 16) (hS : S < 256) (hd : gd h S) (hw : 0 ≤ w ∧ w ≤ 999) (hr : 0 ≤ r ∧ r ≤ 999) (hq4 : q < 4) (hi : 0 ≤ i) (hiL : i + (m : Int) ≤ 24) (hq : ∀ h', tR h h' → Q (aI (if al (sgf h (fun k => h (73 + 2 * (q : Int)) (i + k)) S s w r) m = true then 1 else 0)) (sT h')) {v1 v2 : Int} : ∀ (d k : Nat), k + d = m → al (sgf h (fun k => h (73 + 2 * (q : Int)) (i + k)) S s w r) k = true → wp 208 (am_ju 208 16) [aP 137, aI v1, aI v2, aP (72 + 2 * (q : Int)), aI i, aI (m : Int), aI (k : Int)] [] (sT (bS u 138 x (sgS h S s w r k).1 (sgS h S s w r k).2 gg S)) Q := by
  intro d
  obtain ⟨kq, r1, r2, k2, l2⟩ := sh_q q hq4
  obtain ⟨e83, e84, e85⟩ := sum_eq hu
  induction d with
  | zero =>
    intro k hk ha
    have hk : k = m := by omega
    subst hk
    have := hq _ (bS_t (k := x) (w := (sgS h S s w r k).1) (r := (sgS h S s w r k).2) (g := gg) (S := S) hu)
    rw [if_pos ha] at this
    rw [ju_208_16]
    simp only [ju_208_47, r_aLD0, r_gR, r_iLD1, cl_39, cl_42, r_iLD2, r_pI, r_iCONST, r_iST6, r_iLD6, r_iLD5, r_IC3, r_gI, r_iADD, cl_100, cl_114, cl_43, r_ITL, r_aLD3, r_iLD4, cl_207, r_lCMP, r_IF0, r_zRET, r_IINC6, r_GOTO, eq_self, Int.reduceLT, Int.reduceLE, Int.reduceEq, true_or, or_true, and_self, true_and, and_true, w8_0, w8_1, w8_2, w8_3, w8_4, nl_I, nl_P, nl_X, pu_I, pu_J, pu_V, r_zRET1]
    rw [if_pos (by omega)]
    exact this
  | succ d ih =>
    intro k hk ha
    obtain ⟨q1, q2⟩ := sgS_r (s := s) hd hw hr k
    obtain ⟨q1', q2'⟩ := sgS_r (s := s) hd hw hr (k + 1)
    have hw1 : w3 ((k : Int) + 1) = ((k + 1 : Nat) : Int) := w3_id (by omega) (by omega)
    have hw2 : w3 ((s : Int) + (k : Int)) = ((s + k : Nat) : Int) := by rw [w3_id (by omega) (by omega)]; omega
    have hw3 : w3 (i + (k : Int)) = i + k := w3_id (by omega) (by omega)
    have e4 : ∀ w r, bS u 138 x w r gg S 90 4 = (s : Int) := fun w r => by rw [bS_n kd_138 (by decide), hu 90 (by decide), hs4]
    have eso : ∀ w r, sortI (bS u 138 x w r gg S) ((s + k : Nat) : Int) = sortI h ((s + k : Nat) : Int) := fun w r => by
      rw [sortI_bS kd_138]; unfold sortI; rw [hu 88 (by decide), hu 89 (by decide)]
    have hgd : gd u S := fun t ht => by rw [e83, e84, e85]; exact hd t ht
    have hag : ∀ Q', wp 114 (am_ju 114 0) [aP 138, aI (sortI h ((s + k : Nat) : Int))] [] (sT (bS u 138 x (sgS h S s w r k).1 (sgS h S s w r k).2 gg S)) Q' ↔ Q' aV (sT (bS u 138 x (sgS h S s w r (k + 1)).1 (sgS h S s w r (k + 1)).2 gg S)) := fun Q' => by
      by_cases z : S = 0
      · subst z
        obtain ⟨d1, d2, d3⟩ := gd_W hgd
        have es : sgS h 0 s w r (k + 1) = sgS h 0 s w r k := by rw [sgS, if_pos rfl]
        rw [es]
        unfold bS
        rw [s_age kd_138 q1 q2 ⟨d2.1, by omega⟩ ⟨d3.1, by omega⟩, if_pos (by rfl)]
      · rw [s_ageS kd_138 q1 q2 hgd z]
        have es : sgS h S s w r (k + 1) = (aW h (sgS h S s w r k).1 S, aR h (sgS h S s w r k).2 S (sortI h ((s + k : Nat) : Int))) := by rw [sgS, if_neg z]
        rw [es]
        unfold aW aR
        rw [e84, e85]
    have hsg : ∀ Q', wp 43 (am_ju 43 0) [aP 138] [] (sT (bS u 138 x (sgS h S s w r (k + 1)).1 (sgS h S s w r (k + 1)).2 gg S)) Q' ↔ Q' (aI (sgV h S s w r k)) (sT (bS u 138 x (sgS h S s w r (k + 1)).1 (sgS h S s w r (k + 1)).2 gg S)) := fun Q' => by
      unfold bS
      rw [s_sag kd_138 q1' q2']
      rfl
    have hv3 : w3 (sgV h S s w r k) = sgV h S s w r k := by
      unfold sgV
      exact w3_id (by omega) (by omega)
    have e1 : 72 + 2 * (q : Int) + 1 = 73 + 2 * (q : Int) := by omega
    have hva := fun Q' => s_valueAt (h := bS u 138 x (sgS h S s w r (k + 1)).1 (sgS h S s w r (k + 1)).2 gg S) (Q := Q') (c := 72 + 2 * (q : Int)) (i := i + k) kq (by rw [e1]; exact r2) (by omega) (by rw [e1]; exact k2) (by rw [e1]; exact l2) ⟨by omega, by omega⟩
    rw [e1, bS_o (show 73 + 2 * (q : Int) ≠ 138 by omega), hu _ (show 73 + 2 * (q : Int) ≠ 138 by omega)] at hva
    have ef : sgf h (fun k => h (73 + 2 * (q : Int)) (i + k)) S s w r k = decide (w6 (h (73 + 2 * (q : Int)) (i + k)) = w6 (sgV h S s w r k)) := rfl
    have ea : al (sgf h (fun k => h (73 + 2 * (q : Int)) (i + k)) S s w r) (k + 1) = (al (sgf h (fun k => h (73 + 2 * (q : Int)) (i + k)) S s w r) k && sgf h (fun k => h (73 + 2 * (q : Int)) (i + k)) S s w r k) := rfl
    rw [ju_208_16]
    simp only [ju_208_45, r_aLD0, r_gR, r_iLD1, cl_39, cl_42, r_iLD2, r_pI, r_iCONST, r_iST6, r_iLD6, r_iLD5, r_IC3, r_gI, r_iADD, cl_100, cl_114, cl_43, r_ITL, r_aLD3, r_iLD4, cl_207, r_lCMP, r_IF0, r_zRET, r_IINC6, r_GOTO, eq_self, Int.reduceLT, Int.reduceLE, Int.reduceEq, true_or, or_true, and_self, true_and, and_true, w8_0, w8_1, w8_2, w8_3, w8_4, nl_I, nl_P, nl_X, pu_I, pu_J, pu_V, kd_137, ln_137, rR_137_0, rR_137_1, rR_137_2, rR_137_3, rR_137_4, rR_137_6, rR_137_7, rR_137_8, kd_138, ln_138, kd_80, ln_80, rR_80_0, rR_80_1, rR_80_2, rR_80_3, kd_88, ln_88, rR_88_0, kd_90, ln_90, rR_90_0, rR_90_1, rR_90_2, rR_90_3, e4, hw2, s_sortAt, eso, hag, hsg, hv3, hw3, kq, hva, r_zRET0, hw1]
    rw [if_neg (by omega)]
    by_cases e : w6 (h (73 + 2 * (q : Int)) (i + k)) = w6 (sgV h S s w r k)
    · rw [if_pos (lCm_0.mpr e.symm)]
      exact ih (k + 1) (by omega) (by rw [ea, ha, ef]; simp [e])
    · rw [if_neg (fun z => e (lCm_0.mp z).symm)]
      have hf := al_f (f := sgf h (fun k => h (73 + 2 * (q : Int)) (i + k)) S s w r) (k := k + 1) m (by omega) (by rw [ea, ef]; simp [e])
      have := hq _ (bS_t (k := x) (w := (sgS h S s w r (k + 1)).1) (r := (sgS h S s w r (k + 1)).2) (g := gg) (S := S) hu)
      rw [if_neg (by simp [hf])] at this
      exact this
theorem s_sags (hC : CO h n nb L s) (hu : tR h u) (hb : b < nb) (hm : s + m ≤ L) (hw : 0 ≤ w ∧ w ≤ 999) (hq4 : q < 4) (hi : 0 ≤ i) (hiL : i + (m : Int) ≤ 24) (hq : ∀ h', tR h h' → Q (aI (if al (sgf h (fun k => h (73 + 2 * (q : Int)) (i + k)) (cS h b n) s w (h 92 b)) m = true then 1 else 0)) (sT h')) : wp 208 (am_ju 208 0) [aP 137, aI (b : Int), aI w, aP (72 + 2 * (q : Int)), aI i, aI (m : Int), aX] [] (sT u) Q := by
  obtain ⟨c1, c2, c3, c4, c5, c6, c7, c8, c9, c10⟩ := id hC
  have hCu := CO_t hC hu
  obtain ⟨e1, e2, e3, -⟩ := id hCu
  obtain ⟨d1, d2, d3, d4⟩ := c10 b hb
  obtain ⟨gg, eg⟩ := Int.eq_ofNat_of_zero_le d4.1
  have eS0 : cS u b n = cS h b n := cS_t hu
  have ta : ∀ (Q' : am_V → am_S → Prop), wp 39 (am_ju 39 0) [aP 80, aI (b : Int), aX, aX] [] (sT u) Q' ↔ Q' (aI (cS h b n : Int)) (sT u) := fun Q' => by rw [s_thingsAt c4 e3, ← eS0]; rfl
  have hS := cS_lt (h := h) (b := (b : Int)) c4
  have hgd : gd u (cS h b n) := by rw [← eS0]; exact cS_gd hCu
  have ld := fun Q' => s_load (h := u) (Q := Q') (c := 138) (b := (b : Int)) kd_138 ⟨by omega, by omega, by omega⟩ hS hgd
  rw [hu 82 (by decide), hu 91 (by decide), hu 92 (by decide), hu 93 (by decide), eg] at ld
  rw [ju_208_0]
  simp only [r_aLD0, r_gR, r_iLD1, cl_39, cl_42, r_iLD2, r_pI, r_iCONST, r_iST6, r_iLD6, r_iLD5, r_IC3, r_gI, r_iADD, cl_100, cl_114, cl_43, r_ITL, r_aLD3, r_iLD4, cl_207, r_lCMP, r_IF0, r_zRET, r_IINC6, r_GOTO, eq_self, Int.reduceLT, Int.reduceLE, Int.reduceEq, true_or, or_true, and_self, true_and, and_true, w8_0, w8_1, w8_2, w8_3, w8_4, nl_I, nl_P, nl_X, pu_I, pu_J, pu_V, kd_137, ln_137, rR_137_0, rR_137_1, rR_137_2, rR_137_3, rR_137_4, rR_137_6, rR_137_7, rR_137_8, kd_80, ln_80, rR_80_0, rR_80_1, rR_80_2, rR_80_3, kd_138, ln_138, ta, ld, up_1]
  exact lp_sags (x := h 82 b) (gg := gg) hu c5 c6 c7 hm d1 (by omega) hS (cS_gd hC) hw d3 hq4 hi hiL hq m 0 (Nat.zero_add m) rfl
end SG
