theorem fallN_sub {p : Int} {g S t : Nat} (hS : S < 256) (h : (fallN p g S).testBit t = true) : S.testBit t = true := by
  unfold fallN at h
  split at h
  · rw [← lo_sub S hS, Nat.testBit_and, Bool.and_eq_true] at h; exact h.1
  · split at h
    · exact h
    · simp at h
theorem core_sub {k so j w r W D E : Int} {g S t : Nat} (hS : S < 256) (h : (core k so j w r g S W D E).2.2.2.2.testBit t = true) : S.testBit t = true := by
  unfold core at h
  split at h
  · simp at h
  · split at h
    · simp at h
    · exact fallN_sub hS h
theorem mS_bit {h : am_F} {c b : Int} {n t : Nat} : (mS h c b n).testBit t = (decide (t < n) && decide (h c (18 + 6 * t + 5) = b)) := by
  unfold mS; rw [setF_bit]
def gvB (h : am_F) (c b : Int) (n : Nat) (so j : Int) : Bool := decide (mS h c b n ≠ 0) && decide (0 ≤ mP h c b n so j)
def anyG (h : am_F) (c : Int) (n : Nat) (so j : Int) : Nat → Bool
  | 0 => false
  | B + 1 => anyG h c n so j B || gvB h c B n so j
def fL (h : am_F) (c : Int) (n : Nat) (so j : Int) : Nat → Nat
  | 0 => 0
  | B + 1 => fL h c n so j B ||| (mC h c B n so j).2.2.2.2
/-- behind B bags of a step -/
def GI (h h' : am_F) (c : Int) (n : Nat) (so j st : Int) (B : Nat) : Prop :=
  (∀ b : Nat, b < B → h' c (6 + 4 * b) = h c (6 + 4 * b) ∧ h' c (6 + 4 * b + 1) = (mC h c b n so j).1 ∧ h' c (6 + 4 * b + 2) = (mC h c b n so j).2.1 ∧ h' c (6 + 4 * b + 3) = ((mC h c b n so j).2.2.1 : Int)) ∧
  (∀ k : Int, (k < 6 + 4 * B ∧ 6 ≤ k) ∨ (∃ t : Nat, t < n ∧ k = 18 + 6 * t + 5) ∨ h' c k = h c k) ∧
  (∀ t : Nat, t < n → h' c (18 + 6 * t + 5) = if (fL h c n so j B).testBit t = true then 10 + st else h c (18 + 6 * t + 5)) ∧
  (∀ c', c' ≠ c → c' ≠ 149 → h' c' = h c') ∧ (∀ k, k ≠ 13 → k ≠ 15 → h' 149 k = h 149 k) ∧
  h' 149 13 = (if anyG h c n so j B = true then 1 else h 149 13) ∧
  h' 149 15 = (if 0 ≤ h 149 14 ∧ h 149 14 < B ∧ gvB h c (h 149 14) n so j = true then ((mC h c (h 149 14) n so j).2.2.2.2 : Int) else h 149 15)
section GQ
variable {h h' : am_F} {c so j st : Int} {n nb B : Nat}
theorem GI_0 : GI h h c n so j st 0 := by
  refine ⟨fun b hb => absurd hb (by omega), fun k => Or.inr (Or.inr rfl), fun t ht => ?_, fun _ _ _ => rfl, fun _ _ _ => rfl, ?_, ?_⟩
  · simp [fL]
  · simp [anyG]
  · rw [if_neg (by omega)]
theorem fL_sub (h8 : n ≤ 8) {t : Nat} : ∀ {B : Nat}, (fL h c n so j B).testBit t = true → t < n ∧ ∃ b : Nat, b < B ∧ h c (18 + 6 * t + 5) = (b : Int) := by
  intro B
  induction B with
  | zero => intro h1; simp [fL] at h1
  | succ B ih =>
    intro h1
    rw [fL, Nat.testBit_or, Bool.or_eq_true] at h1
    rcases h1 with h1 | h1
    · obtain ⟨a, b, c1, d⟩ := ih h1
      exact ⟨a, b, by omega, d⟩
    · have h2 := core_sub (mS_lt h8) h1
      rw [mS_bit, Bool.and_eq_true, decide_eq_true_eq, decide_eq_true_eq] at h2
      exact ⟨h2.1, B, by omega, h2.2⟩
/-- what a later bag reads is as at first -/
theorem GI_read (h8 : n ≤ 8) (hs : 0 ≤ st) (hB : B ≤ 2) (hG : GI h h' c n so j st B) : (∀ k : Int, 6 + 4 * B ≤ k → k < 18 → h' c k = h c k) ∧ mS h' c B n = mS h c B n ∧ (∀ wh : Int, 0 ≤ wh → wh ≤ 4 → rW h' c B wh = fun t => if t < n then rW h c B wh t else rW h' c B wh t) := by
  obtain ⟨g1, g2, g3, g4, g5, g6, g7⟩ := hG
  have hk : ∀ k : Int, 6 + 4 * B ≤ k → k < 18 → h' c k = h c k := by
    intro k a b
    rcases g2 k with q | ⟨t, q1, q2⟩ | q
    · omega
    · omega
    · exact q
  have hw : ∀ t : Nat, t < n → (h' c (18 + 6 * t + 5) = (B : Int) ↔ h c (18 + 6 * t + 5) = (B : Int)) := by
    intro t ht
    rw [g3 t ht]
    split
    · next hb =>
      obtain ⟨-, b, q1, q2⟩ := fL_sub h8 hb
      rw [q2]; omega
    · exact Iff.rfl
  refine ⟨hk, ?_, fun wh w0 w1 => ?_⟩
  · apply Nat.eq_of_testBit_eq
    intro t
    rw [mS_bit, mS_bit]
    by_cases ht : t < n
    · simp [ht, hw t ht]
    · simp [ht]
  · funext t
    by_cases ht : t < n
    · rw [if_pos ht]
      unfold rW
      have e : h' c (18 + 6 * t + wh) = h c (18 + 6 * t + wh) := by
        rcases g2 (18 + 6 * t + wh) with q | ⟨u, q1, q2⟩ | q
        · omega
        · omega
        · exact q
      by_cases hq : h c (18 + 6 * t + 5) = (B : Int)
      · rw [if_pos hq, if_pos ((hw t ht).mpr hq), e]
      · rw [if_neg hq, if_neg (fun z => hq ((hw t ht).mp z))]
    · rw [if_neg ht]
theorem sumF_eq {f g : Nat → Int} : ∀ {n : Nat}, (∀ t, t < n → f t = g t) → sumF f n = sumF g n := by
  intro n
  induction n with
  | zero => intro _; rfl
  | succ n ih =>
    intro hq
    rw [sumF, sumF, ih (fun t ht => hq t (by omega)), hq n (by omega)]
theorem GI_sum (h8 : n ≤ 8) (hs : 0 ≤ st) (hB : B ≤ 2) (hG : GI h h' c n so j st B) {wh : Int} (w0 : 0 ≤ wh) (w1 : wh ≤ 4) : sumF (rW h' c B wh) n = sumF (rW h c B wh) n := by
  have := (GI_read h8 hs hB hG).2.2 wh w0 w1
  exact sumF_eq (fun t ht => by rw [this]; simp [ht])
theorem GI_mC (h8 : n ≤ 8) (hs : 0 ≤ st) (hB : B ≤ 2) (hG : GI h h' c n so j st B) : mC h' c B n so j = mC h c B n so j ∧ mP h' c B n so j = mP h c B n so j := by
  obtain ⟨a, b, -⟩ := GI_read h8 hs hB hG
  unfold mC mP
  rw [GI_sum h8 hs hB hG (by decide) (by decide), GI_sum h8 hs hB hG (by decide) (by decide), GI_sum h8 hs hB hG (by decide) (by decide), b, a _ (by omega) (by omega), a _ (by omega) (by omega), a _ (by omega) (by omega), a _ (by omega) (by omega)]
  exact ⟨rfl, rfl⟩
end GQ
