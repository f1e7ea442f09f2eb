/-! shop: the reference's thing -/
section SR7
variable {g h h' h1 h2 u : am_F} {Q : am_V → am_S → Prop} {so j bj x y z o c w r t mm df T : Int} {n nb L s K nx b m a q B S i gg l M Z v ch N d p p0 k : Nat} {X : Nat → Int}
theorem mkP_s : mkP X l c (sk X l p) = mkP X l c p := by unfold mkP mkQ mkH; simp only [sk_sk]
theorem mkQ_s : mkQ X l (sk X l p) = mkQ X l p := by unfold mkQ; simp only [sk_sk]
theorem mkD_s : mkD X l (sk X l p) = mkD X l p := by unfold mkD; rw [mkQ_s]
theorem mkV_s : mkV X l c df (sk X l p) = mkV X l c df p := by unfold mkV mkH; simp only [sk_sk, mkD_s]
theorem mkO_s : mkO X l c mm (sk X l p) ↔ mkO X l c mm p := by unfold mkO mkH; simp only [sk_sk, mkD_s]
/-- only the reference's place, fault, and the thing at T have changed -/
def rTt (h : am_F) (T : Int) (g : am_F) : Prop := ∀ a k, ¬ (a = 149 ∧ (k = 11 ∨ k = 12)) → ¬ (a = 152 ∧ (k = 1 ∨ (T ≤ k ∧ k < T + 6))) → g a k = h a k
theorem rTt_a (a1 : rTt h T h1) (a2 : aRf h1 h2) : rTt h T h2 := fun a k z1 z2 => by rw [a2 a k z1, a1 a k z1 z2]
theorem rTt_u (a1 : rTt h T h1) {i v : Int} (hi : i = 1 ∨ (T ≤ i ∧ i < T + 6)) : rTt h T (up h1 152 i v) := fun a k z1 z2 => by
  rw [← a1 a k z1 z2]
  unfold up
  rw [if_neg (fun q => z2 ⟨q.1, by omega⟩)]
theorem rTt_p (a1 : rTt h T h1) {v : Int} : rTt h T (up h1 149 11 v) := fun a k z1 z2 => by
  rw [← a1 a k z1 z2]
  unfold up
  rw [if_neg (fun q => z1 ⟨q.1, by omega⟩)]
theorem f52 {v2 : Int} (T0 : 18 ≤ T) (T1 : T ≤ 60) (hn : n < 8) (hg : rTt h T g) (hp : p ≤ 100) (h11 : g 149 11 = (p : Int)) (hf : 0 ≤ g 149 12) (hc : g 152 1 = (n : Int)) (h0 : g 152 0 = (nb : Int)) (hb : nb ≤ 3) (hq : ∀ g', rTt h T g' → g' 149 11 = (p : Int) → g' 149 12 = g 149 12 → g' 152 1 = ((n + 1 : Nat) : Int) → Q aV (sT g')) : wp 97 (am_ju 97 52) [aP 149, aI T, aI v2, aX, aX, aX] [] (sT g) Q := by
  have l1 := ln_152
  have k1 := kd_152
  have hw0 : w3 ((p : Int) + 0) = (p : Int) := by rw [Int.add_zero]; exact w3_id (by omega) (by omega)
  rw [ju_97_52]
  simp (disch := first | assumption | omega | exact w8_0 | exact w8_1 _ | exact w8_2 _ _ | exact w8_3 _ _ _ | exact w8_4 _ _ _ _ | exact nl_I _ | exact nl_P _ | exact nl_X | decide | exact w8_5 _ _ _ _ _) only [ju_97_53, r_aLD0, r_gR, r_iCONST, r_iALDc, r_iALDs, cl_25, r_iST1, cl_94, r_iST2, r_iLD1, r_iADD, r_iLD2, r_iASTc, r_bPUSH, cl_96, r_gI, r_IF3, cl_75, r_IC1, r_GOTO, r_iST3, r_DUPI, r_DUPP, r_iLD3, r_IF0, r_pI, r_iST4, r_iSUB, r_iST5, r_iLD4, r_iLD5, r_DUP2, r_vRET, eq_self, Int.reduceLT, Int.reduceLE, Int.reduceEq, true_or, or_true, and_self, true_and, and_true, w8_0, w8_1, w8_2, w8_3, w8_4, nl_I, nl_P, nl_X, pu_I, pu_J, pu_V, w3_id, Int.add_zero, kd_149, if_true]
  rw [ju_97_61]
  simp (disch := first | assumption | omega | exact w8_0 | exact w8_1 _ | exact w8_2 _ _ | exact w8_3 _ _ _ | exact w8_4 _ _ _ _ | exact nl_I _ | exact nl_P _ | exact nl_X | decide | exact w8_5 _ _ _ _ _) only [ju_97_62, r_aLD0, r_gR, r_iCONST, r_iALDc, r_iALDs, cl_25, r_iST1, cl_94, r_iST2, r_iLD1, r_iADD, r_iLD2, r_iASTc, r_bPUSH, cl_96, r_gI, r_IF3, cl_75, r_IC1, r_GOTO, r_iST3, r_DUPI, r_DUPP, r_iLD3, r_IF0, r_pI, r_iST4, r_iSUB, r_iST5, r_iLD4, r_iLD5, r_DUP2, r_vRET, eq_self, Int.reduceLT, Int.reduceLE, Int.reduceEq, true_or, or_true, and_self, true_and, and_true, w8_0, w8_1, w8_2, w8_3, w8_4, nl_I, nl_P, nl_X, pu_I, pu_J, pu_V, w3_id, Int.add_zero, kd_149, rR_149_2, h11, if_true]
  rw [ju_97_73]
  have c12 : up (up g 149 11 (p : Int)) 152 (T + 4) 0 149 12 = g 149 12 := by rw [up_ne (by decide), up_k (by decide)]
  simp (disch := first | assumption | omega | exact w8_0 | exact w8_1 _ | exact w8_2 _ _ | exact w8_3 _ _ _ | exact w8_4 _ _ _ _ | exact nl_I _ | exact nl_P _ | exact nl_X | decide | exact w8_5 _ _ _ _ _) only [ju_97_74, r_aLD0, r_gR, r_iCONST, r_iALDc, r_iALDs, cl_25, r_iST1, cl_94, r_iST2, r_iLD1, r_iADD, r_iLD2, r_iASTc, r_bPUSH, cl_96, r_gI, r_IF3, cl_75, r_IC1, r_GOTO, r_iST3, r_DUPI, r_DUPP, r_iLD3, r_IF0, r_pI, r_iST4, r_iSUB, r_iST5, r_iLD4, r_iLD5, r_DUP2, r_vRET, eq_self, Int.reduceLT, Int.reduceLE, Int.reduceEq, true_or, or_true, and_self, true_and, and_true, w8_0, w8_1, w8_2, w8_3, w8_4, nl_I, nl_P, nl_X, pu_I, pu_J, pu_V, w3_id, Int.add_zero, kd_149, rR_149_2, c12]
  rw [if_pos hf, ju_97_84]
  have c0 : up (up g 149 11 (p : Int)) 152 (T + 4) 0 152 0 = (nb : Int) := by rw [up_k (by omega), up_ne (by decide)]; exact h0
  have c1 : up (up g 149 11 (p : Int)) 152 (T + 4) 0 152 1 = (n : Int) := by rw [up_k (by omega), up_ne (by decide)]; exact hc
  have c11 : up (up g 149 11 (p : Int)) 152 (T + 4) 0 149 11 = (p : Int) := by rw [up_ne (by decide)]; exact up_s
  have cF : rTt h T (up (up g 149 11 (p : Int)) 152 (T + 4) 0) := rTt_u (rTt_p hg) (by omega)
  generalize up (up g 149 11 (p : Int)) 152 (T + 4) 0 = g2 at c12 c0 c1 c11 cF ⊢
  simp (disch := first | assumption | omega | exact w8_0 | exact w8_1 _ | exact w8_2 _ _ | exact w8_3 _ _ _ | exact w8_4 _ _ _ _ | exact nl_I _ | exact nl_P _ | exact nl_X | decide | exact w8_5 _ _ _ _ _) only [ju_97_85, r_aLD0, r_gR, r_iCONST, r_iALDc, r_iALDs, cl_25, r_iST1, cl_94, r_iST2, r_iLD1, r_iADD, r_iLD2, r_iASTc, r_bPUSH, cl_96, r_gI, r_IF3, cl_75, r_IC1, r_GOTO, r_iST3, r_DUPI, r_DUPP, r_iLD3, r_IF0, r_pI, r_iST4, r_iSUB, r_iST5, r_iLD4, r_iLD5, r_DUP2, r_vRET, eq_self, Int.reduceLT, Int.reduceLE, Int.reduceEq, true_or, or_true, and_self, true_and, and_true, w8_0, w8_1, w8_2, w8_3, w8_4, nl_I, nl_P, nl_X, pu_I, pu_J, pu_V, w3_id, Int.add_zero, kd_149, rR_149_2, c0, s_Rpart0 (h := g2) (by rw [c12]; exact hf), if_true]
  rw [ju_97_105]
  have d1 : up g2 152 (T + 5) 3 152 1 = (n : Int) := by rw [up_k (by omega)]; exact c1
  simp (disch := first | assumption | omega | exact w8_0 | exact w8_1 _ | exact w8_2 _ _ | exact w8_3 _ _ _ | exact w8_4 _ _ _ _ | exact nl_I _ | exact nl_P _ | exact nl_X | decide | exact w8_5 _ _ _ _ _) only [ju_97_106, r_aLD0, r_gR, r_iCONST, r_iALDc, r_iALDs, cl_25, r_iST1, cl_94, r_iST2, r_iLD1, r_iADD, r_iLD2, r_iASTc, r_bPUSH, cl_96, r_gI, r_IF3, cl_75, r_IC1, r_GOTO, r_iST3, r_DUPI, r_DUPP, r_iLD3, r_IF0, r_pI, r_iST4, r_iSUB, r_iST5, r_iLD4, r_iLD5, r_DUP2, r_vRET, eq_self, Int.reduceLT, Int.reduceLE, Int.reduceEq, true_or, or_true, and_self, true_and, and_true, w8_0, w8_1, w8_2, w8_3, w8_4, nl_I, nl_P, nl_X, pu_I, pu_J, pu_V, w3_id, Int.add_zero, kd_149, rR_149_2, d1]
  exact hq _ (rTt_u (rTt_u cF (by omega)) (by omega)) (by rw [up_ne (by decide), up_ne (by decide)]; exact c11) (by rw [up_ne (by decide), up_ne (by decide)]; exact c12) up_s
theorem s_RreadsThing (hl : l ≤ 100) (hX : ∀ i : Nat, i < l → 32 ≤ X i ∧ X i ≤ 126) (hp : p ≤ l) (e1 : h 149 6 = (l : Int)) (e2 : h 149 11 = (p : Int)) (hf : h 149 12 = -1) (e6 : ∀ i : Nat, i < l → h 154 i = X i) (h0 : h 152 0 = (nb : Int)) (hb : nb ≤ 3) (h1 : h 152 1 = (n : Int)) (hn : n < 8) (hT : T = 18 + 6 * (n : Int)) (hq1 : tOK X l nb p → tp5 X l p ≤ l → ∀ g', rTt h T g' → g' 149 11 = (tp5 X l p : Int) → g' 149 12 = -1 → g' 152 1 = ((n + 1 : Nat) : Int) → g' 152 T = nvE X l (sk X l p) 0 → g' 152 (T + 1) = mkV X l 119 0 (tp1 X l p) → g' 152 (T + 2) = mkV X l 101 0 (tp2 X l p) → g' 152 (T + 3) = nvE X l (sk X l p) 0 → g' 152 (T + 4) = (tro X l p : Int) → g' 152 (T + 5) = mkV X l 64 3 (tp4 X l p) → Q aV (sT g')) (hq2 : ¬ tOK X l nb p → ∀ g' (p' : Nat), rTt h T g' → g' 149 11 = (p' : Int) → p' ≤ l → g' 149 12 = (tFl X l p : Int) → g' 152 1 = ((n + 1 : Nat) : Int) → Q aV (sT g')) : wp 97 (am_ju 97 0) [aP 149, aX, aX, aX, aX, aX] [] (sT h) Q := by
  have ll := ln_152
  have k1 := kd_152
  have T0 : 18 ≤ T := by omega
  have T1 : T ≤ 60 := by omega
  have hs := sk_l (X := X) hl hp
  have l1 : tp1 X l p ≤ l := (dgE_l hs).2
  rw [ju_97_0]
  simp (disch := first | assumption | omega | exact w8_0 | exact w8_1 _ | exact w8_2 _ _ | exact w8_3 _ _ _ | exact w8_4 _ _ _ _ | exact nl_I _ | exact nl_P _ | exact nl_X | decide | exact w8_5 _ _ _ _ _) only [r_aLD0, r_gR, r_iCONST, r_iALDc, r_iALDs, cl_25, r_iST1, cl_94, r_iST2, r_iLD1, r_iADD, r_iLD2, r_iASTc, r_bPUSH, cl_96, r_gI, r_IF3, cl_75, r_IC1, r_GOTO, r_iST3, r_DUPI, r_DUPP, r_iLD3, r_IF0, r_pI, r_iST4, r_iSUB, r_iST5, r_iLD4, r_iLD5, r_DUP2, r_vRET, eq_self, Int.reduceLT, Int.reduceLE, Int.reduceEq, true_or, or_true, and_self, true_and, and_true, w8_0, w8_1, w8_2, w8_3, w8_4, nl_I, nl_P, nl_X, pu_I, pu_J, pu_V, w3_id, Int.add_zero, kd_149, rR_149_2, h1, s_thingAt (h := h) (b := (n : Int)) ⟨by omega, by omega⟩]
  rw [← hT]
  refine s_Rnumber (X := X) hl hp e1 e2 e6 (fun g a1 a2 a3 => ?_)
  have a1' : rTt h T g := rTt_a (fun _ _ _ _ => rfl) a1
  simp (disch := first | assumption | omega | exact w8_0 | exact w8_1 _ | exact w8_2 _ _ | exact w8_3 _ _ _ | exact w8_4 _ _ _ _ | exact nl_I _ | exact nl_P _ | exact nl_X | decide | exact w8_5 _ _ _ _ _) only [r_aLD0, r_gR, r_iCONST, r_iALDc, r_iALDs, cl_25, r_iST1, cl_94, r_iST2, r_iLD1, r_iADD, r_iLD2, r_iASTc, r_bPUSH, cl_96, r_gI, r_IF3, cl_75, r_IC1, r_GOTO, r_iST3, r_DUPI, r_DUPP, r_iLD3, r_IF0, r_pI, r_iST4, r_iSUB, r_iST5, r_iLD4, r_iLD5, r_DUP2, r_vRET, eq_self, Int.reduceLT, Int.reduceLE, Int.reduceEq, true_or, or_true, and_self, true_and, and_true, w8_0, w8_1, w8_2, w8_3, w8_4, nl_I, nl_P, nl_X, pu_I, pu_J, pu_V, w3_id, Int.add_zero, kd_149, rR_149_2]
  -- the thing's weight is down
  have A1 : rTt h T (up (up g 152 T (nvE X l (sk X l p) 0)) 152 (T + 3) (nvE X l (sk X l p) 0)) := rTt_u (rTt_u a1' (by omega)) (by omega)
  have A2 : up (up g 152 T (nvE X l (sk X l p) 0)) 152 (T + 3) (nvE X l (sk X l p) 0) 149 11 = (tp1 X l p : Int) := by rw [up_ne (by decide), up_ne (by decide)]; exact a2
  have A3 : up (up g 152 T (nvE X l (sk X l p) 0)) 152 (T + 3) (nvE X l (sk X l p) 0) 149 12 = if tO0 X l p then -1 else (sk X l p : Int) := by
    rw [up_ne (by decide), up_ne (by decide), a3, hf]
    rfl
  have A4 : up (up g 152 T (nvE X l (sk X l p) 0)) 152 (T + 3) (nvE X l (sk X l p) 0) 152 1 = (n : Int) := by rw [up_k (by omega), up_k (by omega), a1 _ _ (by decide)]; exact h1
  have A5 : up (up g 152 T (nvE X l (sk X l p) 0)) 152 (T + 3) (nvE X l (sk X l p) 0) 152 T = nvE X l (sk X l p) 0 := by rw [up_k (by omega)]; exact up_s
  have A6 : up (up g 152 T (nvE X l (sk X l p) 0)) 152 (T + 3) (nvE X l (sk X l p) 0) 152 (T + 3) = nvE X l (sk X l p) 0 := up_s
  generalize up (up g 152 T (nvE X l (sk X l p) 0)) 152 (T + 3) (nvE X l (sk X l p) 0) = gA at A1 A2 A3 A4 A5 A6 ⊢
  have tA : ∀ {g : am_F}, rTt h T g → g 149 6 = (l : Int) ∧ (∀ i : Nat, i < l → g 154 i = X i) ∧ g 152 0 = (nb : Int) := fun {g} hg => ⟨by rw [hg _ _ (by decide) (by omega)]; exact e1, fun i hi => by rw [hg _ _ (by omega) (by omega)]; exact e6 i hi, by rw [hg _ _ (by decide) (by omega)]; exact h0⟩
  by_cases o0 : tO0 X l p
  · rw [if_pos o0] at A3
    have hL : tFl X l p = if ¬ tO1 X l p then mkQ X l (tp1 X l p) else if ¬ tO2 X l p then mkQ X l (tp2 X l p) else mkQ X l (tp4 X l p) := by
      unfold tFl; rw [if_neg (fun z => z o0)]
    refine s_Rpart (X := X) (p := tp1 X l p) hl hX (by decide) l1 (by omega) (tA A1).1 A2 (tA A1).2.1 (fun g2 b1 b2 b3 b4 => ?_) (fun g2 b1 b2 b3 b4 => ?_)
    · have o1 : tO1 X l p := b4
      have l2 : tp2 X l p ≤ l := mkP_l hl (by decide) l1 o1
      rw [if_neg (fun z => z o1)] at hL
      have b1' := rTt_a A1 b1
      simp (disch := first | assumption | omega | exact w8_0 | exact w8_1 _ | exact w8_2 _ _ | exact w8_3 _ _ _ | exact w8_4 _ _ _ _ | exact nl_I _ | exact nl_P _ | exact nl_X | decide | exact w8_5 _ _ _ _ _) only [r_aLD0, r_gR, r_iCONST, r_iALDc, r_iALDs, cl_25, r_iST1, cl_94, r_iST2, r_iLD1, r_iADD, r_iLD2, r_iASTc, r_bPUSH, cl_96, r_gI, r_IF3, cl_75, r_IC1, r_GOTO, r_iST3, r_DUPI, r_DUPP, r_iLD3, r_IF0, r_pI, r_iST4, r_iSUB, r_iST5, r_iLD4, r_iLD5, r_DUP2, r_vRET, eq_self, Int.reduceLT, Int.reduceLE, Int.reduceEq, true_or, or_true, and_self, true_and, and_true, w8_0, w8_1, w8_2, w8_3, w8_4, nl_I, nl_P, nl_X, pu_I, pu_J, pu_V, w3_id, Int.add_zero, kd_149, rR_149_2]
      have B1 : rTt h T (up g2 152 (T + 1) (mkV X l 119 0 (tp1 X l p))) := rTt_u b1' (by omega)
      have B2 : up g2 152 (T + 1) (mkV X l 119 0 (tp1 X l p)) 149 11 = (tp2 X l p : Int) := by rw [up_ne (by decide)]; exact b2
      have B3 : up g2 152 (T + 1) (mkV X l 119 0 (tp1 X l p)) 149 12 = -1 := by rw [up_ne (by decide), b3, A3]
      have B4 : up g2 152 (T + 1) (mkV X l 119 0 (tp1 X l p)) 152 1 = (n : Int) := by rw [up_k (by omega), b1 _ _ (by decide)]; exact A4
      have B5 : up g2 152 (T + 1) (mkV X l 119 0 (tp1 X l p)) 152 T = nvE X l (sk X l p) 0 := by rw [up_k (by omega), b1 _ _ (by omega)]; exact A5
      have B6 : up g2 152 (T + 1) (mkV X l 119 0 (tp1 X l p)) 152 (T + 3) = nvE X l (sk X l p) 0 := by rw [up_k (by omega), b1 _ _ (by omega)]; exact A6
      have B7 : up g2 152 (T + 1) (mkV X l 119 0 (tp1 X l p)) 152 (T + 1) = mkV X l 119 0 (tp1 X l p) := up_s
      generalize up g2 152 (T + 1) (mkV X l 119 0 (tp1 X l p)) = gB at B1 B2 B3 B4 B5 B6 B7 ⊢
      refine s_Rpart (X := X) (p := tp2 X l p) hl hX (by decide) l2 (by omega) (tA B1).1 B2 (tA B1).2.1 (fun g3 c1 c2 c3 c4 => ?_) (fun g3 c1 c2 c3 c4 => ?_)
      · have o2 : tO2 X l p := c4
        have l3 : tp3 X l p ≤ l := mkP_l hl (by decide) l2 o2
        rw [if_neg (fun z => z o2)] at hL
        have c1' := rTt_a B1 c1
        simp (disch := first | assumption | omega | exact w8_0 | exact w8_1 _ | exact w8_2 _ _ | exact w8_3 _ _ _ | exact w8_4 _ _ _ _ | exact nl_I _ | exact nl_P _ | exact nl_X | decide | exact w8_5 _ _ _ _ _) only [r_aLD0, r_gR, r_iCONST, r_iALDc, r_iALDs, cl_25, r_iST1, cl_94, r_iST2, r_iLD1, r_iADD, r_iLD2, r_iASTc, r_bPUSH, cl_96, r_gI, r_IF3, cl_75, r_IC1, r_GOTO, r_iST3, r_DUPI, r_DUPP, r_iLD3, r_IF0, r_pI, r_iST4, r_iSUB, r_iST5, r_iLD4, r_iLD5, r_DUP2, r_vRET, eq_self, Int.reduceLT, Int.reduceLE, Int.reduceEq, true_or, or_true, and_self, true_and, and_true, w8_0, w8_1, w8_2, w8_3, w8_4, nl_I, nl_P, nl_X, pu_I, pu_J, pu_V, w3_id, Int.add_zero, kd_149, rR_149_2]
        have C1 : rTt h T (up g3 152 (T + 2) (mkV X l 101 0 (tp2 X l p))) := rTt_u c1' (by omega)
        have C2 : up g3 152 (T + 2) (mkV X l 101 0 (tp2 X l p)) 149 11 = (tp3 X l p : Int) := by rw [up_ne (by decide)]; exact c2
        have C3 : up g3 152 (T + 2) (mkV X l 101 0 (tp2 X l p)) 149 12 = -1 := by rw [up_ne (by decide), c3, B3]
        have C4 : up g3 152 (T + 2) (mkV X l 101 0 (tp2 X l p)) 152 1 = (n : Int) := by rw [up_k (by omega), c1 _ _ (by decide)]; exact B4
        have C5 : up g3 152 (T + 2) (mkV X l 101 0 (tp2 X l p)) 152 T = nvE X l (sk X l p) 0 := by rw [up_k (by omega), c1 _ _ (by omega)]; exact B5
        have C6 : up g3 152 (T + 2) (mkV X l 101 0 (tp2 X l p)) 152 (T + 3) = nvE X l (sk X l p) 0 := by rw [up_k (by omega), c1 _ _ (by omega)]; exact B6
        have C7 : up g3 152 (T + 2) (mkV X l 101 0 (tp2 X l p)) 152 (T + 1) = mkV X l 119 0 (tp1 X l p) := by rw [up_k (by omega), c1 _ _ (by omega)]; exact B7
        have C8 : up g3 152 (T + 2) (mkV X l 101 0 (tp2 X l p)) 152 (T + 2) = mkV X l 101 0 (tp2 X l p) := up_s
        generalize up g3 152 (T + 2) (mkV X l 101 0 (tp2 X l p)) = gC at C1 C2 C3 C4 C5 C6 C7 C8 ⊢
        simp only [C3, Int.reduceLE, Int.reduceNeg, if_false]
        refine s_look (X := X) hl _ (tp3 X l p) gC rfl l3 (tA C1).1 C2 (tA C1).2.1 (fun g4 d1 d2 => ?_)
        have d1r : aRf gC g4 := fun a k z => d1 a k (by omega)
        have d1' := rTt_a C1 d1r
        have lq := sk_l (X := X) hl l3
        have l4 : tp4 X l p ≤ l := tp4_l hl l3
        have key : wp 97 (am_ju 97 53) [aP 149, aI T, aI (nvE X l (sk X l p) 0), aX, aX, aX] [aI (tro X l p : Int)] (sT g4) Q := by
          have hro : (tro X l p : Int) = 0 ∨ (tro X l p : Int) = 1 := by unfold tro; split <;> simp
          have hw : w3 ((sk X l (tp3 X l p) : Int) + (tro X l p : Int)) = (tp4 X l p : Int) := by rw [w3_id (by omega) (by omega)]; rfl
          have D1 : rTt h T (up (up g4 149 11 (tp4 X l p : Int)) 152 (T + 4) (tro X l p : Int)) := rTt_u (rTt_p d1') (by omega)
          have D2 : up (up g4 149 11 (tp4 X l p : Int)) 152 (T + 4) (tro X l p : Int) 149 11 = (tp4 X l p : Int) := by rw [up_ne (by decide)]; exact up_s
          have D3 : up (up g4 149 11 (tp4 X l p : Int)) 152 (T + 4) (tro X l p : Int) 149 12 = -1 := by rw [up_ne (by decide), up_k (by decide), d1 _ _ (by decide), C3]
          have D4 : up (up g4 149 11 (tp4 X l p : Int)) 152 (T + 4) (tro X l p : Int) 152 1 = (n : Int) := by rw [up_k (by omega), up_ne (by decide), d1 _ _ (by decide)]; exact C4
          have D5 : up (up g4 149 11 (tp4 X l p : Int)) 152 (T + 4) (tro X l p : Int) 152 T = nvE X l (sk X l p) 0 := by rw [up_k (by omega), up_ne (by decide), d1 _ _ (by omega)]; exact C5
          have D6 : up (up g4 149 11 (tp4 X l p : Int)) 152 (T + 4) (tro X l p : Int) 152 (T + 3) = nvE X l (sk X l p) 0 := by rw [up_k (by omega), up_ne (by decide), d1 _ _ (by omega)]; exact C6
          have D7 : up (up g4 149 11 (tp4 X l p : Int)) 152 (T + 4) (tro X l p : Int) 152 (T + 1) = mkV X l 119 0 (tp1 X l p) := by rw [up_k (by omega), up_ne (by decide), d1 _ _ (by omega)]; exact C7
          have D8 : up (up g4 149 11 (tp4 X l p : Int)) 152 (T + 4) (tro X l p : Int) 152 (T + 2) = mkV X l 101 0 (tp2 X l p) := by rw [up_k (by omega), up_ne (by decide), d1 _ _ (by omega)]; exact C8
          have D9 : up (up g4 149 11 (tp4 X l p : Int)) 152 (T + 4) (tro X l p : Int) 152 (T + 4) = (tro X l p : Int) := up_s
          have mid : wp 97 (am_ju 97 74) [aP 149, aI T, aI (nvE X l (sk X l p) 0), aI (tro X l p : Int), aX, aX] [aI (tro X l p : Int), aI (T + 4), aP 152] (sT (up g4 149 11 (tp4 X l p : Int))) Q := by
            rw [ju_97_74]
            simp (disch := first | assumption | omega | exact w8_0 | exact w8_1 _ | exact w8_2 _ _ | exact w8_3 _ _ _ | exact w8_4 _ _ _ _ | exact nl_I _ | exact nl_P _ | exact nl_X | decide | exact w8_5 _ _ _ _ _) only [r_aLD0, r_gR, r_iCONST, r_iALDc, r_iALDs, cl_25, r_iST1, cl_94, r_iST2, r_iLD1, r_iADD, r_iLD2, r_iASTc, r_bPUSH, cl_96, r_gI, r_IF3, cl_75, r_IC1, r_GOTO, r_iST3, r_DUPI, r_DUPP, r_iLD3, r_IF0, r_pI, r_iST4, r_iSUB, r_iST5, r_iLD4, r_iLD5, r_DUP2, r_vRET, eq_self, Int.reduceLT, Int.reduceLE, Int.reduceEq, true_or, or_true, and_self, true_and, and_true, w8_0, w8_1, w8_2, w8_3, w8_4, nl_I, nl_P, nl_X, pu_I, pu_J, pu_V, w3_id, Int.add_zero, kd_149]
            generalize up (up g4 149 11 (tp4 X l p : Int)) 152 (T + 4) (tro X l p : Int) = gD at D1 D2 D3 D4 D5 D6 D7 D8 D9 ⊢
            simp only [D3, Int.reduceLE, Int.reduceNeg, if_false]
            refine s_look (X := X) hl _ (tp4 X l p) gD rfl l4 (tA D1).1 D2 (tA D1).2.1 (fun g5 y1 y2 => ?_)
            have y1r : aRf gD g5 := fun a k z => y1 a k (by omega)
            have E1 := rTt_a D1 y1r
            have lq4 := sk_l (X := X) hl l4
            have E3 : g5 149 12 = -1 := by rw [y1 _ _ (by decide)]; exact D3
            have hm : w3 ((nb : Int) - 1) = (nb : Int) - 1 := w3_id (by omega) (by omega)
            have hm1 : (nb : Int) - 1 + 1 = (nb : Int) := by omega
            have last : ∀ fl : Nat, fl = (if mkH X l 64 (tp4 X l p) then 1 else 0) → wp 97 (am_ju 97 85) [aP 149, aI T, aI (nvE X l (sk X l p) 0), aI (tro X l p : Int), aX, aX] [aI (fl : Int)] (sT g5) Q := by
              intro fl hfl
              have fin : ∀ (x v : Int) (g6 : am_F), aRf g5 g6 → Q aV (sT (up (up g6 152 (T + 5) v) 152 1 ((n : Int) + 1))) → wp 97 (am_ju 97 106) [aP 149, aI T, aI (nvE X l (sk X l p) 0), aI (tro X l p : Int), aI (fl : Int), aI x] [aI v, aI (T + 5), aP 152] (sT g6) Q := by
                intro x v g6 z1 hh
                have q1 : up g6 152 (T + 5) v 152 1 = (n : Int) := by rw [up_k (by omega), z1 _ _ (by decide), y1 _ _ (by decide)]; exact D4
                rw [ju_97_106]
                simp (disch := first | assumption | omega | exact w8_0 | exact w8_1 _ | exact w8_2 _ _ | exact w8_3 _ _ _ | exact w8_4 _ _ _ _ | exact nl_I _ | exact nl_P _ | exact nl_X | decide | exact w8_5 _ _ _ _ _) only [r_aLD0, r_gR, r_iCONST, r_iALDc, r_iALDs, cl_25, r_iST1, cl_94, r_iST2, r_iLD1, r_iADD, r_iLD2, r_iASTc, r_bPUSH, cl_96, r_gI, r_IF3, cl_75, r_IC1, r_GOTO, r_iST3, r_DUPI, r_DUPP, r_iLD3, r_IF0, r_pI, r_iST4, r_iSUB, r_iST5, r_iLD4, r_iLD5, r_DUP2, r_vRET, eq_self, Int.reduceLT, Int.reduceLE, Int.reduceEq, true_or, or_true, and_self, true_and, and_true, w8_0, w8_1, w8_2, w8_3, w8_4, nl_I, nl_P, nl_X, pu_I, pu_J, pu_V, w3_id, Int.add_zero, kd_149, rR_149_2, q1]
                exact hh
              rw [ju_97_85]
              simp (disch := first | assumption | omega | exact w8_0 | exact w8_1 _ | exact w8_2 _ _ | exact w8_3 _ _ _ | exact w8_4 _ _ _ _ | exact nl_I _ | exact nl_P _ | exact nl_X | decide | exact w8_5 _ _ _ _ _) only [r_aLD0, r_gR, r_iCONST, r_iALDc, r_iALDs, cl_25, r_iST1, cl_94, r_iST2, r_iLD1, r_iADD, r_iLD2, r_iASTc, r_bPUSH, cl_96, r_gI, r_IF3, cl_75, r_IC1, r_GOTO, r_iST3, r_DUPI, r_DUPP, r_iLD3, r_IF0, r_pI, r_iST4, r_iSUB, r_iST5, r_iLD4, r_iLD5, r_DUP2, r_vRET, eq_self, Int.reduceLT, Int.reduceLE, Int.reduceEq, true_or, or_true, and_self, true_and, and_true, w8_0, w8_1, w8_2, w8_3, w8_4, nl_I, nl_P, nl_X, pu_I, pu_J, pu_V, w3_id, Int.add_zero, kd_149, rR_149_2, (tA E1).2.2]
              refine s_Rpart (X := X) (p := sk X l (tp4 X l p)) hl hX (by decide) lq4 (by omega) (tA E1).1 y2 (tA E1).2.1 (fun g6 z1 z2 z3 z4 => ?_) (fun g6 z1 z2 z3 z4 => ?_)
              · rw [mkP_s] at z2
                rw [hm1, mkO_s] at z4
                have hO : tOK X l nb p := ⟨o0, o1, o2, z4⟩
                have G1 := rTt_a E1 z1
                have go : ∀ v, v = mkV X l 64 3 (tp4 X l p) → Q aV (sT (up (up g6 152 (T + 5) v) 152 1 ((n : Int) + 1))) := by
                  intro v hv
                  refine hq1 hO (mkP_l hl (by decide) l4 z4) _ (rTt_u (rTt_u G1 (by omega)) (by omega)) ?_ ?_ up_s ?_ ?_ ?_ ?_ ?_ ?_
                  · rw [up_ne (by decide), up_ne (by decide)]; exact z2
                  · rw [up_ne (by decide), up_ne (by decide), z3]; exact E3
                  · rw [up_k (by omega), up_k (by omega), z1 _ _ (by omega), y1 _ _ (by omega)]; exact D5
                  · rw [up_k (by omega), up_k (by omega), z1 _ _ (by omega), y1 _ _ (by omega)]; exact D7
                  · rw [up_k (by omega), up_k (by omega), z1 _ _ (by omega), y1 _ _ (by omega)]; exact D8
                  · rw [up_k (by omega), up_k (by omega), z1 _ _ (by omega), y1 _ _ (by omega)]; exact D6
                  · rw [up_k (by omega), up_k (by omega), z1 _ _ (by omega), y1 _ _ (by omega)]; exact D9
                  · rw [up_k (by omega), up_s]; exact hv
                rw [mkV_s]
                simp (disch := first | assumption | omega | exact w8_0 | exact w8_1 _ | exact w8_2 _ _ | exact w8_3 _ _ _ | exact w8_4 _ _ _ _ | exact nl_I _ | exact nl_P _ | exact nl_X | decide | exact w8_5 _ _ _ _ _) only [r_aLD0, r_gR, r_iCONST, r_iALDc, r_iALDs, cl_25, r_iST1, cl_94, r_iST2, r_iLD1, r_iADD, r_iLD2, r_iASTc, r_bPUSH, cl_96, r_gI, r_IF3, cl_75, r_IC1, r_GOTO, r_iST3, r_DUPI, r_DUPP, r_iLD3, r_IF0, r_pI, r_iST4, r_iSUB, r_iST5, r_iLD4, r_iLD5, r_DUP2, r_vRET, eq_self, Int.reduceLT, Int.reduceLE, Int.reduceEq, true_or, or_true, and_self, true_and, and_true, w8_0, w8_1, w8_2, w8_3, w8_4, nl_I, nl_P, nl_X, pu_I, pu_J, pu_V, w3_id, Int.add_zero, kd_149, rR_149_2]
                by_cases eH : mkH X l 64 (tp4 X l p)
                · rw [if_pos eH] at hfl
                  rw [if_neg (by omega)]
                  exact fin _ _ g6 z1 (go _ (by unfold mkV; rw [if_pos eH, if_pos eH]))
                · rw [if_neg eH] at hfl
                  rw [if_pos (by omega), ju_97_105]
                  simp only [r_aLD0, r_gR, r_iCONST, r_iALD, r_iALDs, cl_25, r_iST1, cl_94, r_iST2, r_iLD1, r_iADD, r_iLD2, r_iAST, r_bPUSH, cl_96, r_gI, r_IF3, cl_75, r_IC1, r_GOTO, r_iST3, r_DUPI, r_DUPP, r_iLD3, r_IF0, r_pI, r_iST4, r_iSUB, r_iST5, r_iLD4, r_iLD5, r_DUP2, r_vRET, eq_self, Int.reduceLT, Int.reduceLE, Int.reduceEq, true_or, or_true, and_self, true_and, and_true, w8_0, w8_1, w8_2, w8_3, w8_4, nl_I, nl_P, nl_X, pu_I, pu_J, pu_V]
                  exact fin _ _ g6 z1 (go _ (by unfold mkV; rw [if_neg eH]))
              · rw [mkQ_s] at z2 z3
                rw [hm1, mkO_s] at z4
                have eH : mkH X l 64 (tp4 X l p) := by
                  by_cases e : mkH X l 64 (tp4 X l p)
                  · exact e
                  · exact absurd (fun z => absurd z e) z4
                rw [if_pos eH] at hfl
                simp (disch := first | assumption | omega | exact w8_0 | exact w8_1 _ | exact w8_2 _ _ | exact w8_3 _ _ _ | exact w8_4 _ _ _ _ | exact nl_I _ | exact nl_P _ | exact nl_X | decide | exact w8_5 _ _ _ _ _) only [r_aLD0, r_gR, r_iCONST, r_iALDc, r_iALDs, cl_25, r_iST1, cl_94, r_iST2, r_iLD1, r_iADD, r_iLD2, r_iASTc, r_bPUSH, cl_96, r_gI, r_IF3, cl_75, r_IC1, r_GOTO, r_iST3, r_DUPI, r_DUPP, r_iLD3, r_IF0, r_pI, r_iST4, r_iSUB, r_iST5, r_iLD4, r_iLD5, r_DUP2, r_vRET, eq_self, Int.reduceLT, Int.reduceLE, Int.reduceEq, true_or, or_true, and_self, true_and, and_true, w8_0, w8_1, w8_2, w8_3, w8_4, nl_I, nl_P, nl_X, pu_I, pu_J, pu_V, w3_id, Int.add_zero, kd_149, rR_149_2]
                rw [if_neg (by omega)]
                refine fin _ _ g6 z1 (hq2 (fun z => z4 z.2.2.2) _ (mkQ X l (tp4 X l p)) (rTt_u (rTt_u (rTt_a E1 z1) (by omega)) (by omega)) ?_ (mkQ_l hl (by decide) z4) ?_ up_s)
                · rw [up_ne (by decide), up_ne (by decide)]; exact z2
                · rw [up_ne (by decide), up_ne (by decide), hL]; exact z3
            simp only [r_aLD0, r_gR, r_iCONST, r_iALD, r_iALDs, cl_25, r_iST1, cl_94, r_iST2, r_iLD1, r_iADD, r_iLD2, r_iAST, r_bPUSH, cl_96, r_gI, r_IF3, cl_75, r_IC1, r_GOTO, r_iST3, r_DUPI, r_DUPP, r_iLD3, r_IF0, r_pI, r_iST4, r_iSUB, r_iST5, r_iLD4, r_iLD5, r_DUP2, r_vRET, eq_self, Int.reduceLT, Int.reduceLE, Int.reduceEq, true_or, or_true, and_self, true_and, and_true, w8_0, w8_1, w8_2, w8_3, w8_4, nl_I, nl_P, nl_X, pu_I, pu_J, pu_V]
            by_cases eH : nxl X l (sk X l (tp4 X l p)) = 64
            · rw [if_neg (by simpa using eH)]
              exact last 1 (by rw [if_pos eH])
            · rw [if_pos eH, ju_97_84]
              simp only [r_aLD0, r_gR, r_iCONST, r_iALD, r_iALDs, cl_25, r_iST1, cl_94, r_iST2, r_iLD1, r_iADD, r_iLD2, r_iAST, r_bPUSH, cl_96, r_gI, r_IF3, cl_75, r_IC1, r_GOTO, r_iST3, r_DUPI, r_DUPP, r_iLD3, r_IF0, r_pI, r_iST4, r_iSUB, r_iST5, r_iLD4, r_iLD5, r_DUP2, r_vRET, eq_self, Int.reduceLT, Int.reduceLE, Int.reduceEq, true_or, or_true, and_self, true_and, and_true, w8_0, w8_1, w8_2, w8_3, w8_4, nl_I, nl_P, nl_X, pu_I, pu_J, pu_V]
              exact last 0 (by rw [if_neg eH])
          rw [ju_97_53]
          simp (disch := first | assumption | omega | exact w8_0 | exact w8_1 _ | exact w8_2 _ _ | exact w8_3 _ _ _ | exact w8_4 _ _ _ _ | exact nl_I _ | exact nl_P _ | exact nl_X | decide | exact w8_5 _ _ _ _ _) only [r_aLD0, r_gR, r_iCONST, r_iALDc, r_iALDs, cl_25, r_iST1, cl_94, r_iST2, r_iLD1, r_iADD, r_iLD2, r_iASTc, r_bPUSH, cl_96, r_gI, r_IF3, cl_75, r_IC1, r_GOTO, r_iST3, r_DUPI, r_DUPP, r_iLD3, r_IF0, r_pI, r_iST4, r_iSUB, r_iST5, r_iLD4, r_iLD5, r_DUP2, r_vRET, eq_self, Int.reduceLT, Int.reduceLE, Int.reduceEq, true_or, or_true, and_self, true_and, and_true, w8_0, w8_1, w8_2, w8_3, w8_4, nl_I, nl_P, nl_X, pu_I, pu_J, pu_V, w3_id, Int.add_zero, kd_149, d2]
          rcases hro with e | e
          · have ht : (tp4 X l p : Int) = (sk X l (tp3 X l p) : Int) := by unfold tp4; omega
            rw [if_pos e, ju_97_61]
            simp (disch := first | assumption | omega | exact w8_0 | exact w8_1 _ | exact w8_2 _ _ | exact w8_3 _ _ _ | exact w8_4 _ _ _ _ | exact nl_I _ | exact nl_P _ | exact nl_X | decide | exact w8_5 _ _ _ _ _) only [ju_97_62, r_aLD0, r_gR, r_iCONST, r_iALDc, r_iALDs, cl_25, r_iST1, cl_94, r_iST2, r_iLD1, r_iADD, r_iLD2, r_iASTc, r_bPUSH, cl_96, r_gI, r_IF3, cl_75, r_IC1, r_GOTO, r_iST3, r_DUPI, r_DUPP, r_iLD3, r_IF0, r_pI, r_iST4, r_iSUB, r_iST5, r_iLD4, r_iLD5, r_DUP2, r_vRET, eq_self, Int.reduceLT, Int.reduceLE, Int.reduceEq, true_or, or_true, and_self, true_and, and_true, w8_0, w8_1, w8_2, w8_3, w8_4, nl_I, nl_P, nl_X, pu_I, pu_J, pu_V, w3_id, Int.add_zero, kd_149, rR_149_2]
            rw [if_pos e, ju_97_73]
            simp only [r_aLD0, r_gR, r_iCONST, r_iALD, r_iALDs, cl_25, r_iST1, cl_94, r_iST2, r_iLD1, r_iADD, r_iLD2, r_iAST, r_bPUSH, cl_96, r_gI, r_IF3, cl_75, r_IC1, r_GOTO, r_iST3, r_DUPI, r_DUPP, r_iLD3, r_IF0, r_pI, r_iST4, r_iSUB, r_iST5, r_iLD4, r_iLD5, r_DUP2, r_vRET, eq_self, Int.reduceLT, Int.reduceLE, Int.reduceEq, true_or, or_true, and_self, true_and, and_true, w8_0, w8_1, w8_2, w8_3, w8_4, nl_I, nl_P, nl_X, pu_I, pu_J, pu_V]
            rw [e] at mid ⊢
            rw [ht] at mid
            exact mid
          · have ht : (tp4 X l p : Int) = (sk X l (tp3 X l p) : Int) + 1 := by unfold tp4; omega
            rw [if_neg (by omega)]
            simp (disch := first | assumption | omega | exact w8_0 | exact w8_1 _ | exact w8_2 _ _ | exact w8_3 _ _ _ | exact w8_4 _ _ _ _ | exact nl_I _ | exact nl_P _ | exact nl_X | decide | exact w8_5 _ _ _ _ _) only [ju_97_62, r_aLD0, r_gR, r_iCONST, r_iALDc, r_iALDs, cl_25, r_iST1, cl_94, r_iST2, r_iLD1, r_iADD, r_iLD2, r_iASTc, r_bPUSH, cl_96, r_gI, r_IF3, cl_75, r_IC1, r_GOTO, r_iST3, r_DUPI, r_DUPP, r_iLD3, r_IF0, r_pI, r_iST4, r_iSUB, r_iST5, r_iLD4, r_iLD5, r_DUP2, r_vRET, eq_self, Int.reduceLT, Int.reduceLE, Int.reduceEq, true_or, or_true, and_self, true_and, and_true, w8_0, w8_1, w8_2, w8_3, w8_4, nl_I, nl_P, nl_X, pu_I, pu_J, pu_V, w3_id, Int.add_zero, kd_149, rR_149_2]
            rw [if_neg (by omega)]
            rw [e] at mid ⊢
            rw [ht] at mid
            exact mid
        simp only [r_aLD0, r_gR, r_iCONST, r_iALD, r_iALDs, cl_25, r_iST1, cl_94, r_iST2, r_iLD1, r_iADD, r_iLD2, r_iAST, r_bPUSH, cl_96, r_gI, r_IF3, cl_75, r_IC1, r_GOTO, r_iST3, r_DUPI, r_DUPP, r_iLD3, r_IF0, r_pI, r_iST4, r_iSUB, r_iST5, r_iLD4, r_iLD5, r_DUP2, r_vRET, eq_self, Int.reduceLT, Int.reduceLE, Int.reduceEq, true_or, or_true, and_self, true_and, and_true, w8_0, w8_1, w8_2, w8_3, w8_4, nl_I, nl_P, nl_X, pu_I, pu_J, pu_V]
        by_cases e : nxl X l (sk X l (tp3 X l p)) = 114
        · have : tro X l p = 1 := by unfold tro; rw [if_pos e]
          rw [this] at key
          rw [if_neg (by simpa using e)]
          exact key
        · have : tro X l p = 0 := by unfold tro; rw [if_neg e]
          rw [this] at key
          rw [if_pos e, ju_97_52]
          simp only [r_aLD0, r_gR, r_iCONST, r_iALD, r_iALDs, cl_25, r_iST1, cl_94, r_iST2, r_iLD1, r_iADD, r_iLD2, r_iAST, r_bPUSH, cl_96, r_gI, r_IF3, cl_75, r_IC1, r_GOTO, r_iST3, r_DUPI, r_DUPP, r_iLD3, r_IF0, r_pI, r_iST4, r_iSUB, r_iST5, r_iLD4, r_iLD5, r_DUP2, r_vRET, eq_self, Int.reduceLT, Int.reduceLE, Int.reduceEq, true_or, or_true, and_self, true_and, and_true, w8_0, w8_1, w8_2, w8_3, w8_4, nl_I, nl_P, nl_X, pu_I, pu_J, pu_V]
          exact key
      · have hq : mkQ X l (tp2 X l p) ≤ l := mkQ_l hl (by decide) c4
        have C1 : rTt h T (up g3 152 (T + 2) 0) := rTt_u (rTt_a B1 c1) (by omega)
        have C3 : up g3 152 (T + 2) 0 149 12 = (mkQ X l (tp2 X l p) : Int) := by rw [up_ne (by decide)]; exact c3
        simp (disch := first | assumption | omega | exact w8_0 | exact w8_1 _ | exact w8_2 _ _ | exact w8_3 _ _ _ | exact w8_4 _ _ _ _ | exact nl_I _ | exact nl_P _ | exact nl_X | decide | exact w8_5 _ _ _ _ _) only [r_aLD0, r_gR, r_iCONST, r_iALDc, r_iALDs, cl_25, r_iST1, cl_94, r_iST2, r_iLD1, r_iADD, r_iLD2, r_iASTc, r_bPUSH, cl_96, r_gI, r_IF3, cl_75, r_IC1, r_GOTO, r_iST3, r_DUPI, r_DUPP, r_iLD3, r_IF0, r_pI, r_iST4, r_iSUB, r_iST5, r_iLD4, r_iLD5, r_DUP2, r_vRET, eq_self, Int.reduceLT, Int.reduceLE, Int.reduceEq, true_or, or_true, and_self, true_and, and_true, w8_0, w8_1, w8_2, w8_3, w8_4, nl_I, nl_P, nl_X, pu_I, pu_J, pu_V, w3_id, Int.add_zero, kd_149, rR_149_2, C3]
        rw [if_pos (by omega)]
        refine f52 (n := n) (nb := nb) T0 T1 hn C1 (p := mkQ X l (tp2 X l p)) (by omega) (by rw [up_ne (by decide)]; exact c2) (by rw [C3]; omega) (by rw [up_k (by omega), c1 _ _ (by decide)]; exact B4) (tA C1).2.2 hb (fun g' q1 q2 q3 q4 => hq2 (fun z => c4 z.2.2.1) g' _ q1 q2 hq ?_ q4)
        rw [q3, C3, hL, if_pos (show ¬ tO2 X l p from c4)]
    · have hq : mkQ X l (tp1 X l p) ≤ l := mkQ_l hl (by decide) b4
      have B1 : rTt h T (up g2 152 (T + 1) 0) := rTt_u (rTt_a A1 b1) (by omega)
      have B3 : up g2 152 (T + 1) 0 149 12 = (mkQ X l (tp1 X l p) : Int) := by rw [up_ne (by decide)]; exact b3
      have B2 : up g2 152 (T + 1) 0 149 11 = (mkQ X l (tp1 X l p) : Int) := by rw [up_ne (by decide)]; exact b2
      have B4 : up g2 152 (T + 1) 0 152 1 = (n : Int) := by rw [up_k (by omega), b1 _ _ (by decide)]; exact A4
      simp (disch := first | assumption | omega | exact w8_0 | exact w8_1 _ | exact w8_2 _ _ | exact w8_3 _ _ _ | exact w8_4 _ _ _ _ | exact nl_I _ | exact nl_P _ | exact nl_X | decide | exact w8_5 _ _ _ _ _) only [r_aLD0, r_gR, r_iCONST, r_iALDc, r_iALDs, cl_25, r_iST1, cl_94, r_iST2, r_iLD1, r_iADD, r_iLD2, r_iASTc, r_bPUSH, cl_96, r_gI, r_IF3, cl_75, r_IC1, r_GOTO, r_iST3, r_DUPI, r_DUPP, r_iLD3, r_IF0, r_pI, r_iST4, r_iSUB, r_iST5, r_iLD4, r_iLD5, r_DUP2, r_vRET, eq_self, Int.reduceLT, Int.reduceLE, Int.reduceEq, true_or, or_true, and_self, true_and, and_true, w8_0, w8_1, w8_2, w8_3, w8_4, nl_I, nl_P, nl_X, pu_I, pu_J, pu_V, w3_id, Int.add_zero, kd_149, rR_149_2]
      generalize up g2 152 (T + 1) 0 = gB at B1 B2 B3 B4 ⊢
      rw [s_Rpart0 (by rw [B3]; omega)]
      have C3 : up gB 152 (T + 2) 0 149 12 = (mkQ X l (tp1 X l p) : Int) := by rw [up_ne (by decide)]; exact B3
      have C1 : rTt h T (up gB 152 (T + 2) 0) := rTt_u B1 (by omega)
      simp (disch := first | assumption | omega | exact w8_0 | exact w8_1 _ | exact w8_2 _ _ | exact w8_3 _ _ _ | exact w8_4 _ _ _ _ | exact nl_I _ | exact nl_P _ | exact nl_X | decide | exact w8_5 _ _ _ _ _) only [r_aLD0, r_gR, r_iCONST, r_iALDc, r_iALDs, cl_25, r_iST1, cl_94, r_iST2, r_iLD1, r_iADD, r_iLD2, r_iASTc, r_bPUSH, cl_96, r_gI, r_IF3, cl_75, r_IC1, r_GOTO, r_iST3, r_DUPI, r_DUPP, r_iLD3, r_IF0, r_pI, r_iST4, r_iSUB, r_iST5, r_iLD4, r_iLD5, r_DUP2, r_vRET, eq_self, Int.reduceLT, Int.reduceLE, Int.reduceEq, true_or, or_true, and_self, true_and, and_true, w8_0, w8_1, w8_2, w8_3, w8_4, nl_I, nl_P, nl_X, pu_I, pu_J, pu_V, w3_id, Int.add_zero, kd_149, rR_149_2, C3]
      rw [if_pos (by omega)]
      refine f52 (n := n) (nb := nb) T0 T1 hn C1 (p := mkQ X l (tp1 X l p)) (by omega) (by rw [up_ne (by decide)]; exact B2) (by rw [C3]; omega) (by rw [up_k (by omega)]; exact B4) (tA C1).2.2 hb (fun g' q1 q2 q3 q4 => hq2 (fun z => b4 z.2.1) g' _ q1 q2 hq ?_ q4)
      rw [q3, C3, hL, if_pos (show ¬ tO1 X l p from b4)]
  · rw [if_neg o0] at A3
    have hL : tFl X l p = sk X l p := by unfold tFl; rw [if_pos o0]
    rw [s_Rpart0 (by rw [A3]; omega)]
    simp (disch := first | assumption | omega | exact w8_0 | exact w8_1 _ | exact w8_2 _ _ | exact w8_3 _ _ _ | exact w8_4 _ _ _ _ | exact nl_I _ | exact nl_P _ | exact nl_X | decide | exact w8_5 _ _ _ _ _) only [r_aLD0, r_gR, r_iCONST, r_iALDc, r_iALDs, cl_25, r_iST1, cl_94, r_iST2, r_iLD1, r_iADD, r_iLD2, r_iASTc, r_bPUSH, cl_96, r_gI, r_IF3, cl_75, r_IC1, r_GOTO, r_iST3, r_DUPI, r_DUPP, r_iLD3, r_IF0, r_pI, r_iST4, r_iSUB, r_iST5, r_iLD4, r_iLD5, r_DUP2, r_vRET, eq_self, Int.reduceLT, Int.reduceLE, Int.reduceEq, true_or, or_true, and_self, true_and, and_true, w8_0, w8_1, w8_2, w8_3, w8_4, nl_I, nl_P, nl_X, pu_I, pu_J, pu_V, w3_id, Int.add_zero, kd_149, rR_149_2]
    have B1 : rTt h T (up gA 152 (T + 1) 0) := rTt_u A1 (by omega)
    have B3 : up gA 152 (T + 1) 0 149 12 = (sk X l p : Int) := by rw [up_ne (by decide)]; exact A3
    have B2 : up gA 152 (T + 1) 0 149 11 = (tp1 X l p : Int) := by rw [up_ne (by decide)]; exact A2
    have B4 : up gA 152 (T + 1) 0 152 1 = (n : Int) := by rw [up_k (by omega)]; exact A4
    generalize up gA 152 (T + 1) 0 = gB at B1 B2 B3 B4 ⊢
    rw [s_Rpart0 (by rw [B3]; omega)]
    have C3 : up gB 152 (T + 2) 0 149 12 = (sk X l p : Int) := by rw [up_ne (by decide)]; exact B3
    have C1 : rTt h T (up gB 152 (T + 2) 0) := rTt_u B1 (by omega)
    simp (disch := first | assumption | omega | exact w8_0 | exact w8_1 _ | exact w8_2 _ _ | exact w8_3 _ _ _ | exact w8_4 _ _ _ _ | exact nl_I _ | exact nl_P _ | exact nl_X | decide | exact w8_5 _ _ _ _ _) only [r_aLD0, r_gR, r_iCONST, r_iALDc, r_iALDs, cl_25, r_iST1, cl_94, r_iST2, r_iLD1, r_iADD, r_iLD2, r_iASTc, r_bPUSH, cl_96, r_gI, r_IF3, cl_75, r_IC1, r_GOTO, r_iST3, r_DUPI, r_DUPP, r_iLD3, r_IF0, r_pI, r_iST4, r_iSUB, r_iST5, r_iLD4, r_iLD5, r_DUP2, r_vRET, eq_self, Int.reduceLT, Int.reduceLE, Int.reduceEq, true_or, or_true, and_self, true_and, and_true, w8_0, w8_1, w8_2, w8_3, w8_4, nl_I, nl_P, nl_X, pu_I, pu_J, pu_V, w3_id, Int.add_zero, kd_149, rR_149_2, C3]
    rw [if_pos (by omega)]
    refine f52 (n := n) (nb := nb) T0 T1 hn C1 (p := tp1 X l p) (by omega) (by rw [up_ne (by decide)]; exact B2) (by rw [C3]; omega) (by rw [up_k (by omega)]; exact B4) (tA C1).2.2 hb (fun g' q1 q2 q3 q4 => hq2 (fun z => o0 z.1) g' _ q1 q2 l1 ?_ q4)
    rw [q3, C3, hL]
end SR7
