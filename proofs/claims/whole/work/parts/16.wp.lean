theorem am_run_s {n : Nat} : ∀ {m : Nat} {is : List am_I} {L S : List am_V} {st : am_S} {x : am_V × am_S}, am_run n m is L S st = some x → am_run (n + 1) m is L S st = some x := by
  induction n with
  | zero => intro m is L S st x h; cases h
  | succ n ih =>
    intro m is L S st x h
    cases is with
    | nil => cases h
    | cons a is =>
      rw [am_run] at h ⊢
      cases hse : am_se a L S st with
      | none => rw [hse] at h; cases h
      | some r0 =>
        rw [hse] at h
        obtain ⟨k, t, L', S', s'⟩ := r0
        match k, h with
        | 0, h => exact ih h
        | 1, h => exact ih h
        | 2, h =>
          have h : (match am_run n t (am_pr t) (am_en t L') [] s' with
            | some (r1, st1) => am_run n m is L (am_pu r1 S') st1
            | none => none) = some x := h
          show (match am_run (n + 1) t (am_pr t) (am_en t L') [] s' with
            | some (r1, st1) => am_run (n + 1) m is L (am_pu r1 S') st1
            | none => none) = some x
          split at h
          · next r1 st1 h1 =>
            rw [ih h1]
            exact ih h
          · cases h
        | k + 3, h =>
          cases L' with
          | nil => cases h
          | cons v vs => exact h
theorem am_run_a {n : Nat} (k : Nat) {m : Nat} {is : List am_I} {L S : List am_V} {st : am_S} {x : am_V × am_S} (h : am_run n m is L S st = some x) : am_run (n + k) m is L S st = some x := by
  induction k with
  | zero => exact h
  | succ k ih => exact am_run_s ih
/-- from here the machine comes to an end with Q -/
def wp (m : Nat) (is : List am_I) (L S : List am_V) (st : am_S) (Q : am_V → am_S → Prop) : Prop := ∃ (n : Nat) (r : am_V) (s' : am_S), am_run n m is L S st = some (r, s') ∧ Q r s'
section WP
variable {m : Nat} {is : List am_I} {a : am_I} {L S L' S' : List am_V} {st st' : am_S} {Q Q' : am_V → am_S → Prop} {t : Nat}
theorem wp_nx (h1 : am_se a L S st = some (0, t, L', S', st')) : wp m (a :: is) L S st Q ↔ wp m is L' S' st' Q := by
  constructor
  · rintro ⟨n, r, s', h, q⟩
    cases n with
    | zero => cases h
    | succ n =>
      rw [am_run, h1] at h
      exact ⟨n, r, s', h, q⟩
  · rintro ⟨n, r, s', h, q⟩
    exact ⟨n + 1, r, s', by rw [am_run, h1]; exact h, q⟩
theorem wp_jp (h1 : am_se a L S st = some (1, t, L', S', st')) : wp m (a :: is) L S st Q ↔ wp m ((am_pr m).drop t) L' S' st' Q := by
  constructor
  · rintro ⟨n, r, s', h, q⟩
    cases n with
    | zero => cases h
    | succ n =>
      rw [am_run, h1] at h
      exact ⟨n, r, s', h, q⟩
  · rintro ⟨n, r, s', h, q⟩
    exact ⟨n + 1, r, s', by rw [am_run, h1]; exact h, q⟩
theorem wp_re {v : am_V} {vs : List am_V} (h1 : am_se a L S st = some (3, t, v :: vs, S', st')) : wp m (a :: is) L S st Q ↔ Q v st' := by
  constructor
  · rintro ⟨n, r, s', h, q⟩
    cases n with
    | zero => cases h
    | succ n =>
      rw [am_run, h1] at h
      cases h
      exact q
  · intro q
    exact ⟨1, v, st', by rw [am_run, h1]; rfl, q⟩
theorem wp_ca {m' : Nat} {As : List am_V} (h1 : am_se a L S st = some (2, m', As, S', st')) : wp m (a :: is) L S st Q ↔ wp m' (am_pr m') (am_en m' As) [] st' (fun r s' => wp m is L (am_pu r S') s' Q) := by
  constructor
  · rintro ⟨n, r, s', h, q⟩
    cases n with
    | zero => cases h
    | succ n =>
      rw [am_run, h1] at h
      have h : (match am_run n m' (am_pr m') (am_en m' As) [] st' with
        | some (r1, st1) => am_run n m is L (am_pu r1 S') st1
        | none => none) = some (r, s') := h
      split at h
      · next r1 st1 h2 => exact ⟨n, r1, st1, h2, n, r, s', h, q⟩
      · cases h
  · rintro ⟨n, r, s', h, n2, r2, s2, h2, q⟩
    refine ⟨n + n2 + 1, r2, s2, ?_, q⟩
    rw [am_run, h1]
    show (match am_run (n + n2) m' (am_pr m') (am_en m' As) [] st' with
      | some (r1, st1) => am_run (n + n2) m is L (am_pu r1 S') st1
      | none => none) = some (r2, s2)
    rw [am_run_a n2 h]
    rw [Nat.add_comm]
    exact am_run_a n h2
theorem wp_mono (h : wp m is L S st Q) (hq : ∀ r s', Q r s' → Q' r s') : wp m is L S st Q' := by
  obtain ⟨n, r, s', h1, h2⟩ := h
  exact ⟨n, r, s', h1, hq r s' h2⟩
end WP
def am_RL : am_L := [(149, 18, 161), (149, 17, 160), (149, 16, 159), (149, 10, 158), (149, 9, 157), (149, 8, 156), (149, 7, 155), (149, 5, 154), (149, 3, 153), (149, 2, 152), (149, 1, 151), (149, 0, 150), (0, 4, 145), (145, 0, 80), (145, 4, 148), (145, 2, 147), (145, 1, 146), (0, 3, 137), (137, 0, 80), (137, 8, 144), (137, 7, 143), (137, 6, 142), (137, 4, 141), (137, 3, 140), (137, 2, 139), (137, 1, 138), (0, 0, 80), (80, 3, 95), (96, 7, 132), (132, 3, 136), (132, 2, 135), (132, 1, 134), (132, 0, 133), (96, 6, 127), (127, 3, 131), (127, 2, 130), (127, 1, 129), (127, 0, 128), (96, 5, 122), (122, 3, 126), (122, 2, 125), (122, 1, 124), (122, 0, 123), (96, 4, 117), (117, 3, 121), (117, 2, 120), (117, 1, 119), (117, 0, 118), (96, 3, 112), (112, 3, 116), (112, 2, 115), (112, 1, 114), (112, 0, 113), (96, 2, 107), (107, 3, 111), (107, 2, 110), (107, 1, 109), (107, 0, 108), (96, 1, 102), (102, 3, 106), (102, 2, 105), (102, 1, 104), (102, 0, 103), (96, 0, 97), (97, 3, 101), (97, 2, 100), (97, 1, 99), (97, 0, 98), (95, 0, 96), (80, 2, 90), (90, 3, 94), (90, 2, 93), (90, 1, 92), (90, 0, 91), (80, 1, 88), (88, 0, 89), (80, 0, 81), (81, 5, 87), (81, 4, 86), (81, 3, 85), (81, 2, 84), (81, 1, 83), (81, 0, 82), (0, 10, 71), (71, 3, 78), (78, 0, 79), (71, 2, 76), (76, 0, 77), (71, 1, 74), (74, 0, 75), (71, 0, 72), (72, 0, 73), (0, 9, 70), (0, 8, 63), (63, 5, 69), (63, 4, 68), (63, 3, 67), (63, 2, 66), (63, 1, 65), (63, 0, 64), (0, 7, 61), (61, 0, 62), (0, 6, 59), (59, 0, 60), (0, 5, 58), (0, 1, 1), (1, 3, 16), (17, 7, 53), (53, 3, 57), (53, 2, 56), (53, 1, 55), (53, 0, 54), (17, 6, 48), (48, 3, 52), (48, 2, 51), (48, 1, 50), (48, 0, 49), (17, 5, 43), (43, 3, 47), (43, 2, 46), (43, 1, 45), (43, 0, 44), (17, 4, 38), (38, 3, 42), (38, 2, 41), (38, 1, 40), (38, 0, 39), (17, 3, 33), (33, 3, 37), (33, 2, 36), (33, 1, 35), (33, 0, 34), (17, 2, 28), (28, 3, 32), (28, 2, 31), (28, 1, 30), (28, 0, 29), (17, 1, 23), (23, 3, 27), (23, 2, 26), (23, 1, 25), (23, 0, 24), (17, 0, 18), (18, 3, 22), (18, 2, 21), (18, 1, 20), (18, 0, 19), (16, 0, 17), (1, 2, 11), (11, 3, 15), (11, 2, 14), (11, 1, 13), (11, 0, 12), (1, 1, 9), (9, 0, 10), (1, 0, 2), (2, 5, 8), (2, 4, 7), (2, 3, 6), (2, 2, 5), (2, 1, 4), (2, 0, 3)]
def sT (h : am_F) : am_S := (162, am_RL, h)
def kd (c : Int) : Int := ((am_lay c).1 : Int)
def ln (c : Int) : Int := ((am_lay c).2 : Int)
def rR (c k : Int) : Int := am_gr am_RL c k
theorem kd_is {c : Int} {k : Int} (h : kd c = k) (h9 : k < 90) (hf : am_F) : am_is (sT hf) c k.toNat = true := by
  unfold kd at h
  have hk : (am_lay c).1 = k.toNat := by omega
  have h0 : 0 ≤ c := by
    unfold am_lay at hk
    split at hk
    · dsimp only at hk; omega
    · omega
  refine am_is_iff.mpr ⟨?_, hk, h0⟩
  show c.toNat < 162
  unfold am_lay at hk
  rw [if_neg (by omega), List.getD_eq_getElem?_getD] at hk
  cases hq : am_LY[c.toNat]? with
  | none => rw [hq] at hk; dsimp only [Option.getD] at hk; omega
  | some q => exact (List.getElem?_eq_some_iff.mp hq).1
def iDv (a b : Int) : Int := (Int32.ofInt a / Int32.ofInt b).toInt
def iRm (a b : Int) : Int := (Int32.ofInt a - Int32.ofInt a / Int32.ofInt b * Int32.ofInt b).toInt
def bAnd (a b : Int) : Int := (Int32.ofInt a &&& Int32.ofInt b).toInt
def bOr (a b : Int) : Int := (Int32.ofInt a ||| Int32.ofInt b).toInt
def bXor (a b : Int) : Int := (Int32.ofInt a ^^^ Int32.ofInt b).toInt
def bShl (a b : Int) : Int := (Int32.ofInt a <<< (Int32.ofInt b &&& 31)).toInt
def bShr (a b : Int) : Int := (Int32.ofInt a >>> (Int32.ofInt b &&& 31)).toInt
def bUsh (a b : Int) : Int := ((Int32.ofInt a).toUInt32 >>> ((Int32.ofInt b).toUInt32 &&& Int32.toUInt32 31)).toInt32.toInt
def lAnd (a b : Int) : Int := (Int64.ofInt a &&& Int64.ofInt b).toInt
def lOr (a b : Int) : Int := (Int64.ofInt a ||| Int64.ofInt b).toInt
def lShl (a b : Int) : Int := (Int64.ofInt a <<< ((Int32.ofInt b).toInt64 &&& 63)).toInt
def lShr (a b : Int) : Int := (Int64.ofInt a >>> ((Int32.ofInt b).toInt64 &&& 63)).toInt
def lCm (a b : Int) : Int := (lg_cmp (Int64.ofInt a) (Int64.ofInt b)).toInt
def iB (a : Int) : Int := (Int32.ofInt a).toInt8.toInt32.toInt
def iS (a : Int) : Int := (Int32.ofInt a).toInt16.toInt32.toInt
theorem w8_of {S : List am_V} (h : S.length ≤ 4) : am_w8 S = true := by
  have hs : (S.map am_cat).sum ≤ 2 * S.length := by
    clear h
    induction S with
    | nil => exact Nat.le_refl _
    | cons v S ih =>
      rw [List.map_cons, List.sum_cons, List.length_cons]
      have : am_cat v ≤ 2 := by unfold am_cat; split <;> omega
      omega
  simp only [am_w8, decide_eq_true_eq]
  omega
theorem w8_0 : am_w8 [] = true := w8_of (by decide)
theorem w8_1 (a : am_V) : am_w8 [a] = true := w8_of (by show (1 : Nat) ≤ 4; decide)
theorem w8_2 (a b : am_V) : am_w8 [a, b] = true := w8_of (by show (2 : Nat) ≤ 4; decide)
theorem w8_3 (a b c : am_V) : am_w8 [a, b, c] = true := w8_of (by show (3 : Nat) ≤ 4; decide)
theorem w8_4 (a b c d : am_V) : am_w8 [a, b, c, d] = true := w8_of (by show (4 : Nat) ≤ 4; decide)
theorem w8_5 (a b c d e : Int) : am_w8 [aI a, aI b, aI c, aI d, aP e] = true := by simp [am_w8, am_cat, aI, aP]
theorem nl_I (x : Int) : am_nl (aI x) = true := by simp [am_nl, aI]
theorem nl_P (x : Int) : am_nl (aP x) = true := by simp [am_nl, aP]
theorem nl_X : am_nl aX = true := by simp [am_nl, aX]
theorem pu_I (x : Int) (S : List am_V) : am_pu (aI x) S = aI x :: S := rfl
theorem pu_J (x : Int) (S : List am_V) : am_pu (aJ x) S = aJ x :: S := rfl
theorem pu_V (S : List am_V) : am_pu aV S = S := rfl
section WR
variable {m : Nat} {is : List am_I} {L S : List am_V} {st : am_S} {h : am_F} {Q : am_V → am_S → Prop} {a b v i n c d k t x y z x1 x2 x3 : Int} {u u' : am_V}
theorem r_iCONST : wp m (iCONST v :: is) L S st Q ↔ wp m is L (aI v :: S) st Q := wp_nx (t := 0) rfl
theorem r_bPUSH : wp m (bPUSH v :: is) L S st Q ↔ wp m is L (aI v :: S) st Q := wp_nx (t := 0) rfl
theorem r_sPUSH : wp m (sPUSH v :: is) L S st Q ↔ wp m is L (aI v :: S) st Q := wp_nx (t := 0) rfl
theorem r_LDC : wp m (LDC v x y :: is) L S st Q ↔ wp m is L (aI v :: S) st Q := wp_nx (t := 0) rfl
theorem r_LDCW : wp m (LDCW v x y :: is) L S st Q ↔ wp m is L (aI v :: S) st Q := wp_nx (t := 0) rfl
theorem r_lCONST : wp m (lCONST v :: is) L S st Q ↔ wp m is L (aJ v :: S) st Q := wp_nx (t := 0) rfl
theorem r_LDC2 : wp m (LDC2 v x y :: is) L S st Q ↔ wp m is L (aJ v :: S) st Q := wp_nx (t := 0) rfl
theorem r_iLD0 : wp m (iLD 0 x :: is) (aI v :: L) S st Q ↔ wp m is (aI v :: L) (aI v :: S) st Q := wp_nx (t := 0) rfl
theorem r_aLD0 : wp m (aLD 0 x :: is) (aP v :: L) S st Q ↔ wp m is (aP v :: L) (aP v :: S) st Q := wp_nx (t := 0) rfl
theorem r_lLD0 : wp m (lLD 0 x :: is) (aJ v :: L) S st Q ↔ wp m is (aJ v :: L) (aJ v :: S) st Q := wp_nx (t := 0) rfl
theorem r_iST0 : wp m (iST 0 x :: is) (u :: L) (aI v :: S) st Q ↔ wp m is (aI v :: L) S st Q := wp_nx (t := 0) (by show (if (aI v).1 = 0 ∧ (0 : Nat) < (u :: L).length ∧ am_so (u :: L) 0 = true then am_nx (aI v :: L) S st else none) = _; exact if_pos ⟨rfl, Nat.succ_pos _, rfl⟩)
theorem r_aST0 : wp m (aST 0 x :: is) (u :: L) (aP v :: S) st Q ↔ wp m is (aP v :: L) S st Q := wp_nx (t := 0) (by show (if (aP v).1 = 2 ∧ (0 : Nat) < (u :: L).length ∧ am_so (u :: L) 0 = true then am_nx (aP v :: L) S st else none) = _; exact if_pos ⟨rfl, Nat.succ_pos _, rfl⟩)
theorem r_IINC0 : wp m (IINC 0 x :: is) (aI v :: L) S st Q ↔ wp m is (aI (w3 (v + x)) :: L) S st Q := wp_nx (t := 0) (by show (if (aI v).1 = 0 ∧ am_so (aI v :: L) 0 = true then am_nx (aI (w3 (v + x)) :: L) S st else none) = _; exact if_pos ⟨rfl, rfl⟩)
theorem r_iLD1 {u0 : am_V} : wp m (iLD 1 x :: is) (u0 :: aI v :: L) S st Q ↔ wp m is (u0 :: aI v :: L) (aI v :: S) st Q := wp_nx (t := 0) rfl
theorem r_aLD1 {u0 : am_V} : wp m (aLD 1 x :: is) (u0 :: aP v :: L) S st Q ↔ wp m is (u0 :: aP v :: L) (aP v :: S) st Q := wp_nx (t := 0) rfl
theorem r_lLD1 {u0 : am_V} : wp m (lLD 1 x :: is) (u0 :: aJ v :: L) S st Q ↔ wp m is (u0 :: aJ v :: L) (aJ v :: S) st Q := wp_nx (t := 0) rfl
theorem r_iST1 {u0 : am_V} (hn : am_nl u0 = true) : wp m (iST 1 x :: is) (u0 :: u :: L) (aI v :: S) st Q ↔ wp m is (u0 :: aI v :: L) S st Q := wp_nx (t := 0) (by show (if _ ∧ _ ∧ _ then _ else _) = _; rw [if_pos ⟨rfl, by show 1 < L.length + 2; omega, by show (false || am_nl u0) = true; rw [hn]; rfl⟩]; rfl)
theorem r_aST1 {u0 : am_V} (hn : am_nl u0 = true) : wp m (aST 1 x :: is) (u0 :: u :: L) (aP v :: S) st Q ↔ wp m is (u0 :: aP v :: L) S st Q := wp_nx (t := 0) (by show (if _ ∧ _ ∧ _ then _ else _) = _; rw [if_pos ⟨rfl, by show 1 < L.length + 2; omega, by show (false || am_nl u0) = true; rw [hn]; rfl⟩]; rfl)
theorem r_IINC1 {u0 : am_V} (hn : am_nl u0 = true) : wp m (IINC 1 x :: is) (u0 :: aI v :: L) S st Q ↔ wp m is (u0 :: aI (w3 (v + x)) :: L) S st Q := wp_nx (t := 0) (by show (if _ ∧ _ then _ else _) = _; rw [if_pos ⟨rfl, by show (false || am_nl u0) = true; rw [hn]; rfl⟩]; rfl)
theorem r_iLD2 {u0 u1 : am_V} : wp m (iLD 2 x :: is) (u0 :: u1 :: aI v :: L) S st Q ↔ wp m is (u0 :: u1 :: aI v :: L) (aI v :: S) st Q := wp_nx (t := 0) rfl
theorem r_aLD2 {u0 u1 : am_V} : wp m (aLD 2 x :: is) (u0 :: u1 :: aP v :: L) S st Q ↔ wp m is (u0 :: u1 :: aP v :: L) (aP v :: S) st Q := wp_nx (t := 0) rfl
theorem r_lLD2 {u0 u1 : am_V} : wp m (lLD 2 x :: is) (u0 :: u1 :: aJ v :: L) S st Q ↔ wp m is (u0 :: u1 :: aJ v :: L) (aJ v :: S) st Q := wp_nx (t := 0) rfl
theorem r_iST2 {u0 u1 : am_V} (hn : am_nl u1 = true) : wp m (iST 2 x :: is) (u0 :: u1 :: u :: L) (aI v :: S) st Q ↔ wp m is (u0 :: u1 :: aI v :: L) S st Q := wp_nx (t := 0) (by show (if _ ∧ _ ∧ _ then _ else _) = _; rw [if_pos ⟨rfl, by show 2 < L.length + 3; omega, by show (false || am_nl u1) = true; rw [hn]; rfl⟩]; rfl)
theorem r_aST2 {u0 u1 : am_V} (hn : am_nl u1 = true) : wp m (aST 2 x :: is) (u0 :: u1 :: u :: L) (aP v :: S) st Q ↔ wp m is (u0 :: u1 :: aP v :: L) S st Q := wp_nx (t := 0) (by show (if _ ∧ _ ∧ _ then _ else _) = _; rw [if_pos ⟨rfl, by show 2 < L.length + 3; omega, by show (false || am_nl u1) = true; rw [hn]; rfl⟩]; rfl)
theorem r_IINC2 {u0 u1 : am_V} (hn : am_nl u1 = true) : wp m (IINC 2 x :: is) (u0 :: u1 :: aI v :: L) S st Q ↔ wp m is (u0 :: u1 :: aI (w3 (v + x)) :: L) S st Q := wp_nx (t := 0) (by show (if _ ∧ _ then _ else _) = _; rw [if_pos ⟨rfl, by show (false || am_nl u1) = true; rw [hn]; rfl⟩]; rfl)
theorem r_iLD3 {u0 u1 u2 : am_V} : wp m (iLD 3 x :: is) (u0 :: u1 :: u2 :: aI v :: L) S st Q ↔ wp m is (u0 :: u1 :: u2 :: aI v :: L) (aI v :: S) st Q := wp_nx (t := 0) rfl
theorem r_aLD3 {u0 u1 u2 : am_V} : wp m (aLD 3 x :: is) (u0 :: u1 :: u2 :: aP v :: L) S st Q ↔ wp m is (u0 :: u1 :: u2 :: aP v :: L) (aP v :: S) st Q := wp_nx (t := 0) rfl
theorem r_lLD3 {u0 u1 u2 : am_V} : wp m (lLD 3 x :: is) (u0 :: u1 :: u2 :: aJ v :: L) S st Q ↔ wp m is (u0 :: u1 :: u2 :: aJ v :: L) (aJ v :: S) st Q := wp_nx (t := 0) rfl
theorem r_iST3 {u0 u1 u2 : am_V} (hn : am_nl u2 = true) : wp m (iST 3 x :: is) (u0 :: u1 :: u2 :: u :: L) (aI v :: S) st Q ↔ wp m is (u0 :: u1 :: u2 :: aI v :: L) S st Q := wp_nx (t := 0) (by show (if _ ∧ _ ∧ _ then _ else _) = _; rw [if_pos ⟨rfl, by show 3 < L.length + 4; omega, by show (false || am_nl u2) = true; rw [hn]; rfl⟩]; rfl)
theorem r_aST3 {u0 u1 u2 : am_V} (hn : am_nl u2 = true) : wp m (aST 3 x :: is) (u0 :: u1 :: u2 :: u :: L) (aP v :: S) st Q ↔ wp m is (u0 :: u1 :: u2 :: aP v :: L) S st Q := wp_nx (t := 0) (by show (if _ ∧ _ ∧ _ then _ else _) = _; rw [if_pos ⟨rfl, by show 3 < L.length + 4; omega, by show (false || am_nl u2) = true; rw [hn]; rfl⟩]; rfl)
theorem r_IINC3 {u0 u1 u2 : am_V} (hn : am_nl u2 = true) : wp m (IINC 3 x :: is) (u0 :: u1 :: u2 :: aI v :: L) S st Q ↔ wp m is (u0 :: u1 :: u2 :: aI (w3 (v + x)) :: L) S st Q := wp_nx (t := 0) (by show (if _ ∧ _ then _ else _) = _; rw [if_pos ⟨rfl, by show (false || am_nl u2) = true; rw [hn]; rfl⟩]; rfl)
theorem r_iLD4 {u0 u1 u2 u3 : am_V} : wp m (iLD 4 x :: is) (u0 :: u1 :: u2 :: u3 :: aI v :: L) S st Q ↔ wp m is (u0 :: u1 :: u2 :: u3 :: aI v :: L) (aI v :: S) st Q := wp_nx (t := 0) rfl
theorem r_aLD4 {u0 u1 u2 u3 : am_V} : wp m (aLD 4 x :: is) (u0 :: u1 :: u2 :: u3 :: aP v :: L) S st Q ↔ wp m is (u0 :: u1 :: u2 :: u3 :: aP v :: L) (aP v :: S) st Q := wp_nx (t := 0) rfl
theorem r_lLD4 {u0 u1 u2 u3 : am_V} : wp m (lLD 4 x :: is) (u0 :: u1 :: u2 :: u3 :: aJ v :: L) S st Q ↔ wp m is (u0 :: u1 :: u2 :: u3 :: aJ v :: L) (aJ v :: S) st Q := wp_nx (t := 0) rfl
theorem r_iST4 {u0 u1 u2 u3 : am_V} (hn : am_nl u3 = true) : wp m (iST 4 x :: is) (u0 :: u1 :: u2 :: u3 :: u :: L) (aI v :: S) st Q ↔ wp m is (u0 :: u1 :: u2 :: u3 :: aI v :: L) S st Q := wp_nx (t := 0) (by show (if _ ∧ _ ∧ _ then _ else _) = _; rw [if_pos ⟨rfl, by show 4 < L.length + 5; omega, by show (false || am_nl u3) = true; rw [hn]; rfl⟩]; rfl)
theorem r_aST4 {u0 u1 u2 u3 : am_V} (hn : am_nl u3 = true) : wp m (aST 4 x :: is) (u0 :: u1 :: u2 :: u3 :: u :: L) (aP v :: S) st Q ↔ wp m is (u0 :: u1 :: u2 :: u3 :: aP v :: L) S st Q := wp_nx (t := 0) (by show (if _ ∧ _ ∧ _ then _ else _) = _; rw [if_pos ⟨rfl, by show 4 < L.length + 5; omega, by show (false || am_nl u3) = true; rw [hn]; rfl⟩]; rfl)
theorem r_IINC4 {u0 u1 u2 u3 : am_V} (hn : am_nl u3 = true) : wp m (IINC 4 x :: is) (u0 :: u1 :: u2 :: u3 :: aI v :: L) S st Q ↔ wp m is (u0 :: u1 :: u2 :: u3 :: aI (w3 (v + x)) :: L) S st Q := wp_nx (t := 0) (by show (if _ ∧ _ then _ else _) = _; rw [if_pos ⟨rfl, by show (false || am_nl u3) = true; rw [hn]; rfl⟩]; rfl)
theorem r_iLD5 {u0 u1 u2 u3 u4 : am_V} : wp m (iLD 5 x :: is) (u0 :: u1 :: u2 :: u3 :: u4 :: aI v :: L) S st Q ↔ wp m is (u0 :: u1 :: u2 :: u3 :: u4 :: aI v :: L) (aI v :: S) st Q := wp_nx (t := 0) rfl
theorem r_aLD5 {u0 u1 u2 u3 u4 : am_V} : wp m (aLD 5 x :: is) (u0 :: u1 :: u2 :: u3 :: u4 :: aP v :: L) S st Q ↔ wp m is (u0 :: u1 :: u2 :: u3 :: u4 :: aP v :: L) (aP v :: S) st Q := wp_nx (t := 0) rfl
theorem r_lLD5 {u0 u1 u2 u3 u4 : am_V} : wp m (lLD 5 x :: is) (u0 :: u1 :: u2 :: u3 :: u4 :: aJ v :: L) S st Q ↔ wp m is (u0 :: u1 :: u2 :: u3 :: u4 :: aJ v :: L) (aJ v :: S) st Q := wp_nx (t := 0) rfl
theorem r_iST5 {u0 u1 u2 u3 u4 : am_V} (hn : am_nl u4 = true) : wp m (iST 5 x :: is) (u0 :: u1 :: u2 :: u3 :: u4 :: u :: L) (aI v :: S) st Q ↔ wp m is (u0 :: u1 :: u2 :: u3 :: u4 :: aI v :: L) S st Q := wp_nx (t := 0) (by show (if _ ∧ _ ∧ _ then _ else _) = _; rw [if_pos ⟨rfl, by show 5 < L.length + 6; omega, by show (false || am_nl u4) = true; rw [hn]; rfl⟩]; rfl)
theorem r_aST5 {u0 u1 u2 u3 u4 : am_V} (hn : am_nl u4 = true) : wp m (aST 5 x :: is) (u0 :: u1 :: u2 :: u3 :: u4 :: u :: L) (aP v :: S) st Q ↔ wp m is (u0 :: u1 :: u2 :: u3 :: u4 :: aP v :: L) S st Q := wp_nx (t := 0) (by show (if _ ∧ _ ∧ _ then _ else _) = _; rw [if_pos ⟨rfl, by show 5 < L.length + 6; omega, by show (false || am_nl u4) = true; rw [hn]; rfl⟩]; rfl)
theorem r_IINC5 {u0 u1 u2 u3 u4 : am_V} (hn : am_nl u4 = true) : wp m (IINC 5 x :: is) (u0 :: u1 :: u2 :: u3 :: u4 :: aI v :: L) S st Q ↔ wp m is (u0 :: u1 :: u2 :: u3 :: u4 :: aI (w3 (v + x)) :: L) S st Q := wp_nx (t := 0) (by show (if _ ∧ _ then _ else _) = _; rw [if_pos ⟨rfl, by show (false || am_nl u4) = true; rw [hn]; rfl⟩]; rfl)
theorem r_iLD6 {u0 u1 u2 u3 u4 u5 : am_V} : wp m (iLD 6 x :: is) (u0 :: u1 :: u2 :: u3 :: u4 :: u5 :: aI v :: L) S st Q ↔ wp m is (u0 :: u1 :: u2 :: u3 :: u4 :: u5 :: aI v :: L) (aI v :: S) st Q := wp_nx (t := 0) rfl
theorem r_aLD6 {u0 u1 u2 u3 u4 u5 : am_V} : wp m (aLD 6 x :: is) (u0 :: u1 :: u2 :: u3 :: u4 :: u5 :: aP v :: L) S st Q ↔ wp m is (u0 :: u1 :: u2 :: u3 :: u4 :: u5 :: aP v :: L) (aP v :: S) st Q := wp_nx (t := 0) rfl
theorem r_lLD6 {u0 u1 u2 u3 u4 u5 : am_V} : wp m (lLD 6 x :: is) (u0 :: u1 :: u2 :: u3 :: u4 :: u5 :: aJ v :: L) S st Q ↔ wp m is (u0 :: u1 :: u2 :: u3 :: u4 :: u5 :: aJ v :: L) (aJ v :: S) st Q := wp_nx (t := 0) rfl
theorem r_iST6 {u0 u1 u2 u3 u4 u5 : am_V} (hn : am_nl u5 = true) : wp m (iST 6 x :: is) (u0 :: u1 :: u2 :: u3 :: u4 :: u5 :: u :: L) (aI v :: S) st Q ↔ wp m is (u0 :: u1 :: u2 :: u3 :: u4 :: u5 :: aI v :: L) S st Q := wp_nx (t := 0) (by show (if _ ∧ _ ∧ _ then _ else _) = _; rw [if_pos ⟨rfl, by show 6 < L.length + 7; omega, by show (false || am_nl u5) = true; rw [hn]; rfl⟩]; rfl)
theorem r_aST6 {u0 u1 u2 u3 u4 u5 : am_V} (hn : am_nl u5 = true) : wp m (aST 6 x :: is) (u0 :: u1 :: u2 :: u3 :: u4 :: u5 :: u :: L) (aP v :: S) st Q ↔ wp m is (u0 :: u1 :: u2 :: u3 :: u4 :: u5 :: aP v :: L) S st Q := wp_nx (t := 0) (by show (if _ ∧ _ ∧ _ then _ else _) = _; rw [if_pos ⟨rfl, by show 6 < L.length + 7; omega, by show (false || am_nl u5) = true; rw [hn]; rfl⟩]; rfl)
theorem r_IINC6 {u0 u1 u2 u3 u4 u5 : am_V} (hn : am_nl u5 = true) : wp m (IINC 6 x :: is) (u0 :: u1 :: u2 :: u3 :: u4 :: u5 :: aI v :: L) S st Q ↔ wp m is (u0 :: u1 :: u2 :: u3 :: u4 :: u5 :: aI (w3 (v + x)) :: L) S st Q := wp_nx (t := 0) (by show (if _ ∧ _ then _ else _) = _; rw [if_pos ⟨rfl, by show (false || am_nl u5) = true; rw [hn]; rfl⟩]; rfl)
theorem r_iLD7 {u0 u1 u2 u3 u4 u5 u6 : am_V} : wp m (iLD 7 x :: is) (u0 :: u1 :: u2 :: u3 :: u4 :: u5 :: u6 :: aI v :: L) S st Q ↔ wp m is (u0 :: u1 :: u2 :: u3 :: u4 :: u5 :: u6 :: aI v :: L) (aI v :: S) st Q := wp_nx (t := 0) rfl
theorem r_aLD7 {u0 u1 u2 u3 u4 u5 u6 : am_V} : wp m (aLD 7 x :: is) (u0 :: u1 :: u2 :: u3 :: u4 :: u5 :: u6 :: aP v :: L) S st Q ↔ wp m is (u0 :: u1 :: u2 :: u3 :: u4 :: u5 :: u6 :: aP v :: L) (aP v :: S) st Q := wp_nx (t := 0) rfl
theorem r_lLD7 {u0 u1 u2 u3 u4 u5 u6 : am_V} : wp m (lLD 7 x :: is) (u0 :: u1 :: u2 :: u3 :: u4 :: u5 :: u6 :: aJ v :: L) S st Q ↔ wp m is (u0 :: u1 :: u2 :: u3 :: u4 :: u5 :: u6 :: aJ v :: L) (aJ v :: S) st Q := wp_nx (t := 0) rfl
theorem r_iST7 {u0 u1 u2 u3 u4 u5 u6 : am_V} (hn : am_nl u6 = true) : wp m (iST 7 x :: is) (u0 :: u1 :: u2 :: u3 :: u4 :: u5 :: u6 :: u :: L) (aI v :: S) st Q ↔ wp m is (u0 :: u1 :: u2 :: u3 :: u4 :: u5 :: u6 :: aI v :: L) S st Q := wp_nx (t := 0) (by show (if _ ∧ _ ∧ _ then _ else _) = _; rw [if_pos ⟨rfl, by show 7 < L.length + 8; omega, by show (false || am_nl u6) = true; rw [hn]; rfl⟩]; rfl)
theorem r_aST7 {u0 u1 u2 u3 u4 u5 u6 : am_V} (hn : am_nl u6 = true) : wp m (aST 7 x :: is) (u0 :: u1 :: u2 :: u3 :: u4 :: u5 :: u6 :: u :: L) (aP v :: S) st Q ↔ wp m is (u0 :: u1 :: u2 :: u3 :: u4 :: u5 :: u6 :: aP v :: L) S st Q := wp_nx (t := 0) (by show (if _ ∧ _ ∧ _ then _ else _) = _; rw [if_pos ⟨rfl, by show 7 < L.length + 8; omega, by show (false || am_nl u6) = true; rw [hn]; rfl⟩]; rfl)
theorem r_IINC7 {u0 u1 u2 u3 u4 u5 u6 : am_V} (hn : am_nl u6 = true) : wp m (IINC 7 x :: is) (u0 :: u1 :: u2 :: u3 :: u4 :: u5 :: u6 :: aI v :: L) S st Q ↔ wp m is (u0 :: u1 :: u2 :: u3 :: u4 :: u5 :: u6 :: aI (w3 (v + x)) :: L) S st Q := wp_nx (t := 0) (by show (if _ ∧ _ then _ else _) = _; rw [if_pos ⟨rfl, by show (false || am_nl u6) = true; rw [hn]; rfl⟩]; rfl)
theorem r_iLD8 {u0 u1 u2 u3 u4 u5 u6 u7 : am_V} : wp m (iLD 8 x :: is) (u0 :: u1 :: u2 :: u3 :: u4 :: u5 :: u6 :: u7 :: aI v :: L) S st Q ↔ wp m is (u0 :: u1 :: u2 :: u3 :: u4 :: u5 :: u6 :: u7 :: aI v :: L) (aI v :: S) st Q := wp_nx (t := 0) rfl
theorem r_aLD8 {u0 u1 u2 u3 u4 u5 u6 u7 : am_V} : wp m (aLD 8 x :: is) (u0 :: u1 :: u2 :: u3 :: u4 :: u5 :: u6 :: u7 :: aP v :: L) S st Q ↔ wp m is (u0 :: u1 :: u2 :: u3 :: u4 :: u5 :: u6 :: u7 :: aP v :: L) (aP v :: S) st Q := wp_nx (t := 0) rfl
theorem r_lLD8 {u0 u1 u2 u3 u4 u5 u6 u7 : am_V} : wp m (lLD 8 x :: is) (u0 :: u1 :: u2 :: u3 :: u4 :: u5 :: u6 :: u7 :: aJ v :: L) S st Q ↔ wp m is (u0 :: u1 :: u2 :: u3 :: u4 :: u5 :: u6 :: u7 :: aJ v :: L) (aJ v :: S) st Q := wp_nx (t := 0) rfl
theorem r_iST8 {u0 u1 u2 u3 u4 u5 u6 u7 : am_V} (hn : am_nl u7 = true) : wp m (iST 8 x :: is) (u0 :: u1 :: u2 :: u3 :: u4 :: u5 :: u6 :: u7 :: u :: L) (aI v :: S) st Q ↔ wp m is (u0 :: u1 :: u2 :: u3 :: u4 :: u5 :: u6 :: u7 :: aI v :: L) S st Q := wp_nx (t := 0) (by show (if _ ∧ _ ∧ _ then _ else _) = _; rw [if_pos ⟨rfl, by show 8 < L.length + 9; omega, by show (false || am_nl u7) = true; rw [hn]; rfl⟩]; rfl)
theorem r_aST8 {u0 u1 u2 u3 u4 u5 u6 u7 : am_V} (hn : am_nl u7 = true) : wp m (aST 8 x :: is) (u0 :: u1 :: u2 :: u3 :: u4 :: u5 :: u6 :: u7 :: u :: L) (aP v :: S) st Q ↔ wp m is (u0 :: u1 :: u2 :: u3 :: u4 :: u5 :: u6 :: u7 :: aP v :: L) S st Q := wp_nx (t := 0) (by show (if _ ∧ _ ∧ _ then _ else _) = _; rw [if_pos ⟨rfl, by show 8 < L.length + 9; omega, by show (false || am_nl u7) = true; rw [hn]; rfl⟩]; rfl)
theorem r_IINC8 {u0 u1 u2 u3 u4 u5 u6 u7 : am_V} (hn : am_nl u7 = true) : wp m (IINC 8 x :: is) (u0 :: u1 :: u2 :: u3 :: u4 :: u5 :: u6 :: u7 :: aI v :: L) S st Q ↔ wp m is (u0 :: u1 :: u2 :: u3 :: u4 :: u5 :: u6 :: u7 :: aI (w3 (v + x)) :: L) S st Q := wp_nx (t := 0) (by show (if _ ∧ _ then _ else _) = _; rw [if_pos ⟨rfl, by show (false || am_nl u7) = true; rw [hn]; rfl⟩]; rfl)
theorem r_iLD9 {u0 u1 u2 u3 u4 u5 u6 u7 u8 : am_V} : wp m (iLD 9 x :: is) (u0 :: u1 :: u2 :: u3 :: u4 :: u5 :: u6 :: u7 :: u8 :: aI v :: L) S st Q ↔ wp m is (u0 :: u1 :: u2 :: u3 :: u4 :: u5 :: u6 :: u7 :: u8 :: aI v :: L) (aI v :: S) st Q := wp_nx (t := 0) rfl
theorem r_aLD9 {u0 u1 u2 u3 u4 u5 u6 u7 u8 : am_V} : wp m (aLD 9 x :: is) (u0 :: u1 :: u2 :: u3 :: u4 :: u5 :: u6 :: u7 :: u8 :: aP v :: L) S st Q ↔ wp m is (u0 :: u1 :: u2 :: u3 :: u4 :: u5 :: u6 :: u7 :: u8 :: aP v :: L) (aP v :: S) st Q := wp_nx (t := 0) rfl
theorem r_lLD9 {u0 u1 u2 u3 u4 u5 u6 u7 u8 : am_V} : wp m (lLD 9 x :: is) (u0 :: u1 :: u2 :: u3 :: u4 :: u5 :: u6 :: u7 :: u8 :: aJ v :: L) S st Q ↔ wp m is (u0 :: u1 :: u2 :: u3 :: u4 :: u5 :: u6 :: u7 :: u8 :: aJ v :: L) (aJ v :: S) st Q := wp_nx (t := 0) rfl
theorem r_iST9 {u0 u1 u2 u3 u4 u5 u6 u7 u8 : am_V} (hn : am_nl u8 = true) : wp m (iST 9 x :: is) (u0 :: u1 :: u2 :: u3 :: u4 :: u5 :: u6 :: u7 :: u8 :: u :: L) (aI v :: S) st Q ↔ wp m is (u0 :: u1 :: u2 :: u3 :: u4 :: u5 :: u6 :: u7 :: u8 :: aI v :: L) S st Q := wp_nx (t := 0) (by show (if _ ∧ _ ∧ _ then _ else _) = _; rw [if_pos ⟨rfl, by show 9 < L.length + 10; omega, by show (false || am_nl u8) = true; rw [hn]; rfl⟩]; rfl)
theorem r_aST9 {u0 u1 u2 u3 u4 u5 u6 u7 u8 : am_V} (hn : am_nl u8 = true) : wp m (aST 9 x :: is) (u0 :: u1 :: u2 :: u3 :: u4 :: u5 :: u6 :: u7 :: u8 :: u :: L) (aP v :: S) st Q ↔ wp m is (u0 :: u1 :: u2 :: u3 :: u4 :: u5 :: u6 :: u7 :: u8 :: aP v :: L) S st Q := wp_nx (t := 0) (by show (if _ ∧ _ ∧ _ then _ else _) = _; rw [if_pos ⟨rfl, by show 9 < L.length + 10; omega, by show (false || am_nl u8) = true; rw [hn]; rfl⟩]; rfl)
theorem r_IINC9 {u0 u1 u2 u3 u4 u5 u6 u7 u8 : am_V} (hn : am_nl u8 = true) : wp m (IINC 9 x :: is) (u0 :: u1 :: u2 :: u3 :: u4 :: u5 :: u6 :: u7 :: u8 :: aI v :: L) S st Q ↔ wp m is (u0 :: u1 :: u2 :: u3 :: u4 :: u5 :: u6 :: u7 :: u8 :: aI (w3 (v + x)) :: L) S st Q := wp_nx (t := 0) (by show (if _ ∧ _ then _ else _) = _; rw [if_pos ⟨rfl, by show (false || am_nl u8) = true; rw [hn]; rfl⟩]; rfl)
theorem r_iLD10 {u0 u1 u2 u3 u4 u5 u6 u7 u8 u9 : am_V} : wp m (iLD 10 x :: is) (u0 :: u1 :: u2 :: u3 :: u4 :: u5 :: u6 :: u7 :: u8 :: u9 :: aI v :: L) S st Q ↔ wp m is (u0 :: u1 :: u2 :: u3 :: u4 :: u5 :: u6 :: u7 :: u8 :: u9 :: aI v :: L) (aI v :: S) st Q := wp_nx (t := 0) rfl
theorem r_aLD10 {u0 u1 u2 u3 u4 u5 u6 u7 u8 u9 : am_V} : wp m (aLD 10 x :: is) (u0 :: u1 :: u2 :: u3 :: u4 :: u5 :: u6 :: u7 :: u8 :: u9 :: aP v :: L) S st Q ↔ wp m is (u0 :: u1 :: u2 :: u3 :: u4 :: u5 :: u6 :: u7 :: u8 :: u9 :: aP v :: L) (aP v :: S) st Q := wp_nx (t := 0) rfl
theorem r_lLD10 {u0 u1 u2 u3 u4 u5 u6 u7 u8 u9 : am_V} : wp m (lLD 10 x :: is) (u0 :: u1 :: u2 :: u3 :: u4 :: u5 :: u6 :: u7 :: u8 :: u9 :: aJ v :: L) S st Q ↔ wp m is (u0 :: u1 :: u2 :: u3 :: u4 :: u5 :: u6 :: u7 :: u8 :: u9 :: aJ v :: L) (aJ v :: S) st Q := wp_nx (t := 0) rfl
theorem r_iST10 {u0 u1 u2 u3 u4 u5 u6 u7 u8 u9 : am_V} (hn : am_nl u9 = true) : wp m (iST 10 x :: is) (u0 :: u1 :: u2 :: u3 :: u4 :: u5 :: u6 :: u7 :: u8 :: u9 :: u :: L) (aI v :: S) st Q ↔ wp m is (u0 :: u1 :: u2 :: u3 :: u4 :: u5 :: u6 :: u7 :: u8 :: u9 :: aI v :: L) S st Q := wp_nx (t := 0) (by show (if _ ∧ _ ∧ _ then _ else _) = _; rw [if_pos ⟨rfl, by show 10 < L.length + 11; omega, by show (false || am_nl u9) = true; rw [hn]; rfl⟩]; rfl)
theorem r_aST10 {u0 u1 u2 u3 u4 u5 u6 u7 u8 u9 : am_V} (hn : am_nl u9 = true) : wp m (aST 10 x :: is) (u0 :: u1 :: u2 :: u3 :: u4 :: u5 :: u6 :: u7 :: u8 :: u9 :: u :: L) (aP v :: S) st Q ↔ wp m is (u0 :: u1 :: u2 :: u3 :: u4 :: u5 :: u6 :: u7 :: u8 :: u9 :: aP v :: L) S st Q := wp_nx (t := 0) (by show (if _ ∧ _ ∧ _ then _ else _) = _; rw [if_pos ⟨rfl, by show 10 < L.length + 11; omega, by show (false || am_nl u9) = true; rw [hn]; rfl⟩]; rfl)
theorem r_IINC10 {u0 u1 u2 u3 u4 u5 u6 u7 u8 u9 : am_V} (hn : am_nl u9 = true) : wp m (IINC 10 x :: is) (u0 :: u1 :: u2 :: u3 :: u4 :: u5 :: u6 :: u7 :: u8 :: u9 :: aI v :: L) S st Q ↔ wp m is (u0 :: u1 :: u2 :: u3 :: u4 :: u5 :: u6 :: u7 :: u8 :: u9 :: aI (w3 (v + x)) :: L) S st Q := wp_nx (t := 0) (by show (if _ ∧ _ then _ else _) = _; rw [if_pos ⟨rfl, by show (false || am_nl u9) = true; rw [hn]; rfl⟩]; rfl)
theorem r_iLD11 {u0 u1 u2 u3 u4 u5 u6 u7 u8 u9 u10 : am_V} : wp m (iLD 11 x :: is) (u0 :: u1 :: u2 :: u3 :: u4 :: u5 :: u6 :: u7 :: u8 :: u9 :: u10 :: aI v :: L) S st Q ↔ wp m is (u0 :: u1 :: u2 :: u3 :: u4 :: u5 :: u6 :: u7 :: u8 :: u9 :: u10 :: aI v :: L) (aI v :: S) st Q := wp_nx (t := 0) rfl
theorem r_aLD11 {u0 u1 u2 u3 u4 u5 u6 u7 u8 u9 u10 : am_V} : wp m (aLD 11 x :: is) (u0 :: u1 :: u2 :: u3 :: u4 :: u5 :: u6 :: u7 :: u8 :: u9 :: u10 :: aP v :: L) S st Q ↔ wp m is (u0 :: u1 :: u2 :: u3 :: u4 :: u5 :: u6 :: u7 :: u8 :: u9 :: u10 :: aP v :: L) (aP v :: S) st Q := wp_nx (t := 0) rfl
theorem r_lLD11 {u0 u1 u2 u3 u4 u5 u6 u7 u8 u9 u10 : am_V} : wp m (lLD 11 x :: is) (u0 :: u1 :: u2 :: u3 :: u4 :: u5 :: u6 :: u7 :: u8 :: u9 :: u10 :: aJ v :: L) S st Q ↔ wp m is (u0 :: u1 :: u2 :: u3 :: u4 :: u5 :: u6 :: u7 :: u8 :: u9 :: u10 :: aJ v :: L) (aJ v :: S) st Q := wp_nx (t := 0) rfl
theorem r_iST11 {u0 u1 u2 u3 u4 u5 u6 u7 u8 u9 u10 : am_V} (hn : am_nl u10 = true) : wp m (iST 11 x :: is) (u0 :: u1 :: u2 :: u3 :: u4 :: u5 :: u6 :: u7 :: u8 :: u9 :: u10 :: u :: L) (aI v :: S) st Q ↔ wp m is (u0 :: u1 :: u2 :: u3 :: u4 :: u5 :: u6 :: u7 :: u8 :: u9 :: u10 :: aI v :: L) S st Q := wp_nx (t := 0) (by show (if _ ∧ _ ∧ _ then _ else _) = _; rw [if_pos ⟨rfl, by show 11 < L.length + 12; omega, by show (false || am_nl u10) = true; rw [hn]; rfl⟩]; rfl)
theorem r_aST11 {u0 u1 u2 u3 u4 u5 u6 u7 u8 u9 u10 : am_V} (hn : am_nl u10 = true) : wp m (aST 11 x :: is) (u0 :: u1 :: u2 :: u3 :: u4 :: u5 :: u6 :: u7 :: u8 :: u9 :: u10 :: u :: L) (aP v :: S) st Q ↔ wp m is (u0 :: u1 :: u2 :: u3 :: u4 :: u5 :: u6 :: u7 :: u8 :: u9 :: u10 :: aP v :: L) S st Q := wp_nx (t := 0) (by show (if _ ∧ _ ∧ _ then _ else _) = _; rw [if_pos ⟨rfl, by show 11 < L.length + 12; omega, by show (false || am_nl u10) = true; rw [hn]; rfl⟩]; rfl)
theorem r_IINC11 {u0 u1 u2 u3 u4 u5 u6 u7 u8 u9 u10 : am_V} (hn : am_nl u10 = true) : wp m (IINC 11 x :: is) (u0 :: u1 :: u2 :: u3 :: u4 :: u5 :: u6 :: u7 :: u8 :: u9 :: u10 :: aI v :: L) S st Q ↔ wp m is (u0 :: u1 :: u2 :: u3 :: u4 :: u5 :: u6 :: u7 :: u8 :: u9 :: u10 :: aI (w3 (v + x)) :: L) S st Q := wp_nx (t := 0) (by show (if _ ∧ _ then _ else _) = _; rw [if_pos ⟨rfl, by show (false || am_nl u10) = true; rw [hn]; rfl⟩]; rfl)
theorem r_iADD : wp m (iADD :: is) L (aI b :: aI a :: S) st Q ↔ wp m is L (aI (w3 (a + b)) :: S) st Q := by rw [w3, Int32.ofInt_add]; exact wp_nx (t := 0) rfl
theorem r_iSUB : wp m (iSUB :: is) L (aI b :: aI a :: S) st Q ↔ wp m is L (aI (w3 (a - b)) :: S) st Q := by rw [w3, Int32.ofInt_sub]; exact wp_nx (t := 0) rfl
theorem r_iMUL : wp m (iMUL :: is) L (aI b :: aI a :: S) st Q ↔ wp m is L (aI (w3 (a * b)) :: S) st Q := by rw [w3, Int32.ofInt_mul]; exact wp_nx (t := 0) rfl
theorem r_iNEG : wp m (iNEG :: is) L (aI a :: S) st Q ↔ wp m is L (aI (w3 (-a)) :: S) st Q := by rw [w3, Int32.ofInt_neg]; exact wp_nx (t := 0) rfl
theorem r_iDIV (hb : b ≠ 0) : wp m (iDIV :: is) L (aI b :: aI a :: S) st Q ↔ wp m is L (aI (iDv a b) :: S) st Q := wp_nx (t := 0) (by show (if b = 0 then none else _) = _; rw [if_neg hb]; rfl)
theorem r_iREM (hb : b ≠ 0) : wp m (iREM :: is) L (aI b :: aI a :: S) st Q ↔ wp m is L (aI (iRm a b) :: S) st Q := wp_nx (t := 0) (by show (if b = 0 then none else _) = _; rw [if_neg hb]; rfl)
theorem r_iSHL : wp m (iSHL :: is) L (aI b :: aI a :: S) st Q ↔ wp m is L (aI (bShl a b) :: S) st Q := wp_nx (t := 0) rfl
theorem r_iSHR : wp m (iSHR :: is) L (aI b :: aI a :: S) st Q ↔ wp m is L (aI (bShr a b) :: S) st Q := wp_nx (t := 0) rfl
theorem r_iUSHR : wp m (iUSHR :: is) L (aI b :: aI a :: S) st Q ↔ wp m is L (aI (bUsh a b) :: S) st Q := wp_nx (t := 0) rfl
theorem r_iAND : wp m (iAND :: is) L (aI b :: aI a :: S) st Q ↔ wp m is L (aI (bAnd a b) :: S) st Q := wp_nx (t := 0) rfl
theorem r_iOR : wp m (iOR :: is) L (aI b :: aI a :: S) st Q ↔ wp m is L (aI (bOr a b) :: S) st Q := wp_nx (t := 0) rfl
theorem r_iXOR : wp m (iXOR :: is) L (aI b :: aI a :: S) st Q ↔ wp m is L (aI (bXor a b) :: S) st Q := wp_nx (t := 0) rfl
theorem r_lADD : wp m (lADD :: is) L (aJ b :: aJ a :: S) st Q ↔ wp m is L (aJ (w6 (a + b)) :: S) st Q := by rw [w6, Int64.ofInt_add]; exact wp_nx (t := 0) rfl
theorem r_lMUL : wp m (lMUL :: is) L (aJ b :: aJ a :: S) st Q ↔ wp m is L (aJ (w6 (a * b)) :: S) st Q := by rw [w6, Int64.ofInt_mul]; exact wp_nx (t := 0) rfl
theorem r_lAND : wp m (lAND :: is) L (aJ b :: aJ a :: S) st Q ↔ wp m is L (aJ (lAnd a b) :: S) st Q := wp_nx (t := 0) rfl
theorem r_lOR : wp m (lOR :: is) L (aJ b :: aJ a :: S) st Q ↔ wp m is L (aJ (lOr a b) :: S) st Q := wp_nx (t := 0) rfl
theorem r_lSHL : wp m (lSHL :: is) L (aI b :: aJ a :: S) st Q ↔ wp m is L (aJ (lShl a b) :: S) st Q := wp_nx (t := 0) rfl
theorem r_lSHR : wp m (lSHR :: is) L (aI b :: aJ a :: S) st Q ↔ wp m is L (aJ (lShr a b) :: S) st Q := wp_nx (t := 0) rfl
theorem r_lCMP : wp m (lCMP :: is) L (aJ b :: aJ a :: S) st Q ↔ wp m is L (aI (lCm a b) :: S) st Q := wp_nx (t := 0) rfl
theorem r_ITL : wp m (ITL :: is) L (aI a :: S) st Q ↔ wp m is L (aJ (w3 a) :: S) st Q := by unfold w3; rw [← Int32.toInt_toInt64]; exact wp_nx (t := 0) rfl
theorem r_LTI : wp m (LTI :: is) L (aJ a :: S) st Q ↔ wp m is L (aI ((Int64.ofInt a).toInt32.toInt) :: S) st Q := wp_nx (t := 0) rfl
theorem r_ITB : wp m (ITB :: is) L (aI a :: S) st Q ↔ wp m is L (aI (iB a) :: S) st Q := wp_nx (t := 0) rfl
theorem r_ITS : wp m (ITS :: is) L (aI a :: S) st Q ↔ wp m is L (aI (iS a) :: S) st Q := wp_nx (t := 0) rfl
theorem r_POP : wp m (POP :: is) L (aI a :: S) st Q ↔ wp m is L S st Q := wp_nx (t := 0) rfl
theorem r_DUPI : wp m (DUP :: is) L (aI a :: S) st Q ↔ wp m is L (aI a :: aI a :: S) st Q := wp_nx (t := 0) rfl
theorem r_DUPP : wp m (DUP :: is) L (aP a :: S) st Q ↔ wp m is L (aP a :: aP a :: S) st Q := wp_nx (t := 0) rfl
theorem r_DUP2 : wp m (DUP2 :: is) L (aI a :: aP b :: S) st Q ↔ wp m is L (aI a :: aP b :: aI a :: aP b :: S) st Q := wp_nx (t := 0) rfl
theorem r_GOTO : wp m (GOTO t :: is) L S st Q ↔ wp m (am_ju m t) L S st Q := wp_jp rfl
theorem wp_if {P : Prop} [Decidable P] {a : am_I} {L S S' : List am_V} (hs : am_se a L S st = (if decide P = true then am_jp t L S' st else am_nx L S' st)) : wp m (a :: is) L S st Q ↔ (if P then wp m (am_ju m t) L S' st Q else wp m is L S' st Q) := by
  by_cases hP : P
  · rw [if_pos hP]
    exact wp_jp (by rw [hs, if_pos (decide_eq_true hP)]; rfl)
  · rw [if_neg hP]
    exact wp_nx (t := 0) (by rw [hs, if_neg (by simpa using hP)]; rfl)
theorem r_IF0 : wp m (IFC 0 t :: is) L (aI a :: S) st Q ↔ (if a = 0 then wp m (am_ju m t) L S st Q else wp m is L S st Q) := wp_if rfl
theorem r_IF1 : wp m (IFC 1 t :: is) L (aI a :: S) st Q ↔ (if ¬ a = 0 then wp m (am_ju m t) L S st Q else wp m is L S st Q) := wp_if rfl
theorem r_IF2 : wp m (IFC 2 t :: is) L (aI a :: S) st Q ↔ (if a < 0 then wp m (am_ju m t) L S st Q else wp m is L S st Q) := wp_if rfl
theorem r_IF3 : wp m (IFC 3 t :: is) L (aI a :: S) st Q ↔ (if 0 ≤ a then wp m (am_ju m t) L S st Q else wp m is L S st Q) := wp_if rfl
theorem r_IF4 : wp m (IFC 4 t :: is) L (aI a :: S) st Q ↔ (if 0 < a then wp m (am_ju m t) L S st Q else wp m is L S st Q) := wp_if rfl
theorem r_IF5 : wp m (IFC 5 t :: is) L (aI a :: S) st Q ↔ (if a ≤ 0 then wp m (am_ju m t) L S st Q else wp m is L S st Q) := wp_if rfl
theorem r_IC0 : wp m (ICMP 0 t :: is) L (aI b :: aI a :: S) st Q ↔ (if a = b then wp m (am_ju m t) L S st Q else wp m is L S st Q) := wp_if rfl
theorem r_IC1 : wp m (ICMP 1 t :: is) L (aI b :: aI a :: S) st Q ↔ (if ¬ a = b then wp m (am_ju m t) L S st Q else wp m is L S st Q) := wp_if rfl
theorem r_IC2 : wp m (ICMP 2 t :: is) L (aI b :: aI a :: S) st Q ↔ (if a < b then wp m (am_ju m t) L S st Q else wp m is L S st Q) := wp_if rfl
theorem r_IC3 : wp m (ICMP 3 t :: is) L (aI b :: aI a :: S) st Q ↔ (if b ≤ a then wp m (am_ju m t) L S st Q else wp m is L S st Q) := wp_if rfl
theorem r_IC4 : wp m (ICMP 4 t :: is) L (aI b :: aI a :: S) st Q ↔ (if b < a then wp m (am_ju m t) L S st Q else wp m is L S st Q) := wp_if rfl
theorem r_IC5 : wp m (ICMP 5 t :: is) L (aI b :: aI a :: S) st Q ↔ (if a ≤ b then wp m (am_ju m t) L S st Q else wp m is L S st Q) := wp_if rfl
def tswT (ps : List Int) (v : Int) : Int := if am_pa ps 0 ≤ v ∧ v ≤ am_pa ps 1 then am_pa ps (3 + (v - am_pa ps 0).toNat) else am_pa ps 2
theorem r_TSW {ps : List Int} : wp m (TSW ps :: is) L (aI v :: S) st Q ↔ wp m (am_ju m (tswT ps v)) L S st Q := by
  refine wp_jp ?_
  show (if am_pa ps 0 ≤ v ∧ v ≤ am_pa ps 1 then _ else _) = _
  unfold tswT
  split <;> rfl
theorem r_LSW {d : Int} {ps : List Int} : wp m (LSW (d :: ps) :: is) L (aI v :: S) st Q ↔ wp m (am_ju m (am_lk ps v d)) L S st Q := wp_jp rfl
theorem r_gI (hk : kd c = i) (h9 : i < 90) : wp m (gI i k x y :: is) L (aP c :: S) (sT h) Q ↔ wp m is L (aI (h c k) :: S) (sT h) Q := wp_nx (t := 0) (by
  show (if am_is (sT h) c i.toNat = true then _ else _) = _
  rw [if_pos (kd_is hk h9 h)]
  rfl)
theorem r_gR (hk : kd c = i) (h9 : i < 90) (h0 : 0 ≤ rR c k) : wp m (gR i k x y :: is) L (aP c :: S) (sT h) Q ↔ wp m is L (aP (rR c k) :: S) (sT h) Q := wp_nx (t := 0) (by
  show (if am_is (sT h) c i.toNat = true ∧ 0 ≤ rR c k then _ else _) = _
  rw [if_pos ⟨kd_is hk h9 h, h0⟩]
  rfl)
theorem r_pI (hk : kd c = i) (h9 : i < 90) : wp m (pI i k x y :: is) L (aI v :: aP c :: S) (sT h) Q ↔ wp m is L S (sT (up h c k v)) Q := wp_nx (t := 0) (by
  show (if am_is (sT h) c i.toNat = true then _ else _) = _
  rw [if_pos (kd_is hk h9 h)]
  rfl)
theorem r_pZ (hk : kd c = i) (h9 : i < 90) (hv : v = 0 ∨ v = 1) : wp m (pZ i k x y :: is) L (aI v :: aP c :: S) (sT h) Q ↔ wp m is L S (sT (up h c k v)) Q := wp_nx (t := 0) (by
  show (if am_is (sT h) c i.toNat = true ∧ (v = 0 ∨ v = 1) then _ else _) = _
  rw [if_pos ⟨kd_is hk h9 h, hv⟩]
  rfl)
theorem wp_andE {P : Prop} [Decidable P] {a : am_I} {r : am_R} (hs : am_se a L S st = (if P then some r else none)) {R : Prop} (hR : am_se a L S st = some r → (wp m (a :: is) L S st Q ↔ R)) : wp m (a :: is) L S st Q ↔ (P ∧ R) := by
  by_cases hP : P
  · rw [if_pos hP] at hs
    rw [hR hs]
    exact ⟨fun q => ⟨hP, q⟩, fun q => q.2⟩
  · rw [if_neg hP] at hs
    constructor
    · rintro ⟨n, r, s', h, q⟩
      cases n with
      | zero => cases h
      | succ n => rw [am_run, hs] at h; cases h
    · exact fun q => absurd q.1 hP
theorem r_iALD (hk : kd c = 20) : wp m (iALD :: is) L (aI i :: aP c :: S) (sT h) Q ↔ ((0 ≤ i ∧ i < ln c) ∧ wp m is L (aI (h c i) :: S) (sT h) Q) := by
  have h1 := kd_is hk (by decide) h
  have hc : c ≠ -1 := by
    have := (am_is_iff.mp h1).2.2
    omega
  refine wp_andE (r := (0, 0, L, aI (h c i) :: S, sT h)) ?_ (fun q => wp_nx q)
  show (if c = -1 then _ else if am_is (sT h) c 20 = true ∧ am_ix c i = true then _ else _) = _
  rw [if_neg hc]
  by_cases hi : 0 ≤ i ∧ i < ln c
  · rw [if_pos ⟨h1, am_ix_iff.mpr hi⟩, if_pos hi]; rfl
  · rw [if_neg (fun z => hi (am_ix_iff.mp z.2)), if_neg hi]
theorem r_iALDs : wp m (iALD :: is) L (aI i :: aP (-1) :: S) (sT h) Q ↔ ((0 ≤ i ∧ i < h (-1) (-1)) ∧ wp m is L (aI (h (-1) i) :: S) (sT h) Q) := by
  refine wp_andE (r := (0, 0, L, aI (h (-1) i) :: S, sT h)) ?_ (fun q => wp_nx q)
  rfl
theorem r_iAST (hk : kd c = 20) : wp m (iAST :: is) L (aI v :: aI i :: aP c :: S) (sT h) Q ↔ ((0 ≤ i ∧ i < ln c) ∧ wp m is L S (sT (up h c i v)) Q) := by
  have h1 := kd_is hk (by decide) h
  refine wp_andE (r := (0, 0, L, S, sT (up h c i v))) ?_ (fun q => wp_nx q)
  show (if am_is (sT h) c 20 = true ∧ am_ix c i = true then _ else _) = _
  by_cases hi : 0 ≤ i ∧ i < ln c
  · rw [if_pos ⟨h1, am_ix_iff.mpr hi⟩, if_pos hi]; rfl
  · rw [if_neg (fun z => hi (am_ix_iff.mp z.2)), if_neg hi]
theorem r_lALD (hk : kd c = 21) : wp m (lALD :: is) L (aI i :: aP c :: S) (sT h) Q ↔ ((0 ≤ i ∧ i < ln c) ∧ wp m is L (aJ (h c i) :: S) (sT h) Q) := by
  have h1 := kd_is hk (by decide) h
  refine wp_andE (r := (0, 0, L, aJ (h c i) :: S, sT h)) ?_ (fun q => wp_nx q)
  show (if am_is (sT h) c 21 = true ∧ am_ix c i = true then _ else _) = _
  by_cases hi : 0 ≤ i ∧ i < ln c
  · rw [if_pos ⟨h1, am_ix_iff.mpr hi⟩, if_pos hi]; rfl
  · rw [if_neg (fun z => hi (am_ix_iff.mp z.2)), if_neg hi]
theorem r_lAST (hk : kd c = 21) : wp m (lAST :: is) L (aJ v :: aI i :: aP c :: S) (sT h) Q ↔ ((0 ≤ i ∧ i < ln c) ∧ wp m is L S (sT (up h c i v)) Q) := by
  have h1 := kd_is hk (by decide) h
  refine wp_andE (r := (0, 0, L, S, sT (up h c i v))) ?_ (fun q => wp_nx q)
  show (if am_is (sT h) c 21 = true ∧ am_ix c i = true then _ else _) = _
  by_cases hi : 0 ≤ i ∧ i < ln c
  · rw [if_pos ⟨h1, am_ix_iff.mpr hi⟩, if_pos hi]; rfl
  · rw [if_neg (fun z => hi (am_ix_iff.mp z.2)), if_neg hi]
theorem r_aALD (hk : kd c = 22 ∨ kd c = 23) (h0 : 0 ≤ rR c i) : wp m (aALD :: is) L (aI i :: aP c :: S) (sT h) Q ↔ ((0 ≤ i ∧ i < ln c) ∧ wp m is L (aP (rR c i) :: S) (sT h) Q) := by
  have h1 : am_is (sT h) c 22 = true ∨ am_is (sT h) c 23 = true := hk.imp (fun q => kd_is q (by decide) h) (fun q => kd_is q (by decide) h)
  refine wp_andE (r := (0, 0, L, aP (rR c i) :: S, sT h)) ?_ (fun q => wp_nx q)
  show (if (am_is (sT h) c 22 = true ∨ am_is (sT h) c 23 = true) ∧ am_ix c i = true ∧ 0 ≤ rR c i then _ else _) = _
  by_cases hi : 0 ≤ i ∧ i < ln c
  · rw [if_pos ⟨h1, am_ix_iff.mpr hi, h0⟩, if_pos hi]; rfl
  · rw [if_neg (fun z => hi (am_ix_iff.mp z.2.1)), if_neg hi]
theorem r_aLEN (hk : kd c = 20 ∨ kd c = 21) : wp m (aLEN :: is) L (aP c :: S) (sT h) Q ↔ wp m is L (aI (ln c) :: S) (sT h) Q := by
  have h1 : am_is (sT h) c 20 = true ∨ am_is (sT h) c 21 = true := hk.imp (fun q => kd_is q (by decide) h) (fun q => kd_is q (by decide) h)
  have hc : c ≠ -1 := by
    have : 0 ≤ c := h1.elim (fun q => (am_is_iff.mp q).2.2) (fun q => (am_is_iff.mp q).2.2)
    omega
  refine wp_nx (t := 0) ?_
  show (if c = -1 then _ else if am_is (sT h) c 20 = true ∨ am_is (sT h) c 21 = true then _ else _) = _
  rw [if_neg hc, if_pos h1]
  rfl
theorem r_aLENs : wp m (aLEN :: is) L (aP (-1) :: S) (sT h) Q ↔ wp m is L (aI (h (-1) (-1)) :: S) (sT h) Q := wp_nx (t := 0) rfl
theorem r_ACPY (h8 : am_w8 S = true) (hk : (kd c = 20 ∧ kd d = 20) ∨ (kd c = 21 ∧ kd d = 21)) : wp m (ACPY x y :: is) L (aI n :: aI t :: aP d :: aI z :: aP c :: S) (sT h) Q ↔ ((0 ≤ n ∧ 0 ≤ z ∧ 0 ≤ t ∧ z + n ≤ ln c ∧ t + n ≤ ln d) ∧ wp m is L S (sT (cpy h c z d t n)) Q) := by
  have h1 : (am_is (sT h) c 20 = true ∧ am_is (sT h) d 20 = true) ∨ (am_is (sT h) c 21 = true ∧ am_is (sT h) d 21 = true) := hk.imp (fun q => ⟨kd_is q.1 (by decide) h, kd_is q.2 (by decide) h⟩) (fun q => ⟨kd_is q.1 (by decide) h, kd_is q.2 (by decide) h⟩)
  refine wp_andE (r := (0, 0, L, S, sT (cpy h c z d t n))) ?_ (fun q => wp_nx q)
  show (if ((am_is (sT h) c 20 = true ∧ am_is (sT h) d 20 = true) ∨ (am_is (sT h) c 21 = true ∧ am_is (sT h) d 21 = true)) ∧ 0 ≤ n ∧ 0 ≤ z ∧ 0 ≤ t ∧ z + n ≤ ln c ∧ t + n ≤ ln d ∧ am_w8 S = true then _ else _) = _
  by_cases hi : 0 ≤ n ∧ 0 ≤ z ∧ 0 ≤ t ∧ z + n ≤ ln c ∧ t + n ≤ ln d
  · rw [if_pos ⟨h1, hi.1, hi.2.1, hi.2.2.1, hi.2.2.2.1, hi.2.2.2.2, h8⟩, if_pos hi]; rfl
  · rw [if_neg (fun z => hi ⟨z.2.1, z.2.2.1, z.2.2.2.1, z.2.2.2.2.1, z.2.2.2.2.2.1⟩), if_neg hi]
theorem r_MMAX (h8 : am_w8 S = true) : wp m (MMAX x y :: is) L (aI b :: aI a :: S) st Q ↔ wp m is L (aI (if a < b then b else a) :: S) st Q := wp_nx (t := 0) (by
  show (if am_w8 S = true then _ else _) = _
  rw [if_pos h8]; rfl)
theorem r_MMIN (h8 : am_w8 S = true) : wp m (MMIN x y :: is) L (aI b :: aI a :: S) st Q ↔ wp m is L (aI (if b < a then b else a) :: S) st Q := wp_nx (t := 0) (by
  show (if am_w8 S = true then _ else _) = _
  rw [if_pos h8]; rfl)
theorem r_iRET : wp m (iRET :: is) L [aI v] st Q ↔ Q (aI v) st := wp_re rfl
theorem r_lRET : wp m (lRET :: is) L [aJ v] st Q ↔ Q (aJ v) st := wp_re rfl
theorem r_vRET : wp m (vRET :: is) L [] st Q ↔ Q aV st := wp_re rfl
theorem r_zRET (hv : v = 0 ∨ v = 1) : wp m (zRET :: is) L [aI v] st Q ↔ Q (aI v) st := wp_re (t := 0) (vs := []) (S' := []) (by
  show (if v = 0 ∨ v = 1 then _ else _) = _
  rw [if_pos hv]; rfl)
theorem r_CALL {y : Int} {As : List am_V} {m' : Nat} (hm : x1.toNat = m') (hA : (S.take x2.toNat).reverse = As) {Sr : List am_V} (hS : S.drop x2.toNat = Sr) (h8 : am_w8 Sr = true) (hck : am_ck m' As st = true) : wp m (CALL x1 x2 x3 y z :: is) L S st Q ↔ wp m' (am_pr m') (am_en m' As) [] st (fun r s' => wp m is L (am_pu r Sr) s' Q) := by
  subst hm; subst hA; subst hS
  refine wp_ca ?_
  show (if am_w8 _ = true ∧ am_ck _ _ _ = true then _ else _) = _
  exact if_pos ⟨h8, hck⟩
end WR
