/-! odds: numbers -/
def cN (P : Nat → Bool) : Nat → Nat
  | 0 => 0
  | k + 1 => cN P k + (if P k = true then 1 else 0)
theorem cN_add (P : Nat → Bool) (a : Nat) : ∀ b, cN P (a + b) = cN P a + cN (fun x => P (a + x)) b := by
  intro b
  induction b with
  | zero => rfl
  | succ b ih => rw [show a + (b + 1) = (a + b) + 1 by omega, cN, cN, ih]; omega
theorem cN_c {P R : Nat → Bool} : ∀ k, (∀ x, x < k → P x = R x) → cN P k = cN R k := by
  intro k
  induction k with
  | zero => intro _; rfl
  | succ k ih => intro hq; rw [cN, cN, ih (fun x hx => hq x (by omega)), hq k (by omega)]
theorem cN_le (P : Nat → Bool) : ∀ k, cN P k ≤ k := by
  intro k
  induction k with
  | zero => exact Nat.le_refl _
  | succ k ih => rw [cN]; split <;> omega
theorem cN_0 : ∀ k, cN (fun _ => false) k = 0 := by
  intro k
  induction k with
  | zero => rfl
  | succ k ih => rw [cN, ih]; rfl
theorem cN_8 (A B : Nat → Bool) : ∀ k, cN (fun x => A (x % 8) && B (x / 8)) (8 * k) = cN A 8 * cN B k := by
  intro k
  induction k with
  | zero => rfl
  | succ k ih =>
    rw [show 8 * (k + 1) = 8 * k + 8 by omega, cN_add, ih, show cN B (k + 1) = cN B k + (if B k = true then 1 else 0) from rfl, Nat.mul_add]
    congr 1
    by_cases e : B k = true
    · rw [if_pos e, Nat.mul_one]
      exact cN_c 8 (fun x hx => by rw [show (8 * k + x) % 8 = x by omega, show (8 * k + x) / 8 = k by omega, e, Bool.and_true])
    · rw [if_neg e, Nat.mul_zero, ← cN_0 8]
      have e' : B k = false := by simpa using e
      exact cN_c 8 (fun x hx => by rw [show (8 * k + x) % 8 = x by omega, show (8 * k + x) / 8 = k by omega, e', Bool.and_false])
theorem cN_lt (M : Nat) : ∀ k, M ≤ k → cN (fun j => decide (j < M)) k = M := by
  intro k
  induction k with
  | zero => intro h; have : M = 0 := by omega
            subst this; rfl
  | succ k ih =>
    intro hk
    rw [cN]
    by_cases e : M = k + 1
    · subst e
      have : ∀ j, j ≤ k + 1 → cN (fun j => decide (j < k + 1)) j = j := by
        intro j
        induction j with
        | zero => intro _; rfl
        | succ j ih2 => intro hj; rw [cN, ih2 (by omega), if_pos (by simp; omega)]
      rw [this k (by omega), if_pos (by simp)]
    · rw [ih (by omega), if_neg (by simp; omega)]
      rfl
def mn8 (f : Nat → Nat) : Nat → Nat
  | 0 => 8
  | b + 1 => if f b < mn8 f b then f b else mn8 f b
theorem mn8_lt {f : Nat → Nat} {j : Nat} (hj : j < 8) : ∀ B, (j < mn8 f B ↔ ∀ b, b < B → j < f b) := by
  intro B
  induction B with
  | zero => exact ⟨fun _ b hb => absurd hb (by omega), fun _ => hj⟩
  | succ B ih =>
    rw [mn8]
    constructor
    · intro h b hb
      by_cases e : b = B
      · subst e; split at h <;> omega
      · refine ih.mp ?_ b (by omega)
        split at h <;> omega
    · intro h
      have h1 := ih.mpr (fun b hb => h b (by omega))
      have h2 := h B (by omega)
      split <;> omega
theorem mn8_le (f : Nat → Nat) : ∀ B, mn8 f B ≤ 8 := by
  intro B
  induction B with
  | zero => exact Nat.le_refl _
  | succ B ih => rw [mn8]; split <;> omega
/-- the first jolt by which it gives; 8: none -/
def fj (w : Nat → Bool) : Nat → Nat → Nat
  | 0, _ => 8
  | m + 1, j => if w j = true then j else fj w m (j + 1)
theorem fj_lt {w : Nat → Bool} (hm : ∀ i j, i ≤ j → w i = true → w j = true) : ∀ (m j : Nat), j + m = 8 → ∀ x, j ≤ x → x < 8 → (x < fj w m j ↔ w x = false) := by
  intro m
  induction m with
  | zero => intro j hj x h1 h2; omega
  | succ m ih =>
    intro j hj x h1 h2
    rw [fj]
    by_cases e : w j = true
    · rw [if_pos e]
      have := hm j x h1 e
      constructor
      · intro h; omega
      · intro h; rw [this] at h; cases h
    · rw [if_neg e]
      have e' : w j = false := by simpa using e
      by_cases q : x = j
      · subst q
        refine ⟨fun _ => e', fun _ => ?_⟩
        have : ∀ (m j : Nat), j + m = 8 → j ≤ fj w m j := by
          intro m
          induction m with
          | zero => intro j hj; rw [fj]; omega
          | succ m ih3 => intro j hj; rw [fj]; split
                          · exact Nat.le_refl _
                          · have := ih3 (j + 1) (by omega); omega
        have := this m (x + 1) (by omega)
        omega
      · exact ih (j + 1) (by omega) x (by omega) h2
theorem fj_le (w : Nat → Bool) : ∀ (m j : Nat), j + m = 8 → fj w m j ≤ 8 := by
  intro m
  induction m with
  | zero => intro j _; exact Nat.le_refl _
  | succ m ih => intro j hj; rw [fj]; split
                 · omega
                 · exact ih (j + 1) (by omega)
/-- some bag gives: bag b of B, at step i, by jolt j -/
def anB (w : Nat → Nat → Nat → Bool) (i j : Nat) : Nat → Bool
  | 0 => false
  | b + 1 => anB w i j b || w b i j
theorem anB_f {w : Nat → Nat → Nat → Bool} {i j : Nat} : ∀ B, (anB w i j B = false ↔ ∀ b, b < B → w b i j = false) := by
  intro B
  induction B with
  | zero => exact ⟨fun _ b hb => absurd hb (by omega), fun _ => rfl⟩
  | succ B ih =>
    rw [anB, Bool.or_eq_false_iff, ih]
    constructor
    · rintro ⟨a, b⟩ c hc
      by_cases e : c = B
      · subst e; exact b
      · exact a c (by omega)
    · intro h
      exact ⟨fun b hb => h b (by omega), h B (by omega)⟩
/-- by how many jolts of step i nothing gives -/
def lkN (bus : Nat → Bool) (w : Nat → Nat → Nat → Bool) (B i : Nat) : Nat := if bus i = true then mn8 (fun b => fj (w b i) 8 0) B else if anB w i 0 B = true then 0 else 1
def prN (f : Nat → Nat) : Nat → Nat → Nat
  | 0, _ => 1
  | m + 1, i => f i * prN f m (i + 1)
def buN (bus : Nat → Bool) : Nat → Nat → Nat
  | 0, _ => 0
  | m + 1, i => (if bus i = true then 1 else 0) + buN bus m (i + 1)
/-- all hold, m steps from i on, with these jolts -/
def hBy (bus : Nat → Bool) (w : Nat → Nat → Nat → Bool) (B : Nat) : Nat → Nat → Nat → Bool
  | 0, _, _ => true
  | m + 1, i, l => !anB w i (if bus i = true then l % 8 else 0) B && hBy bus w B m (i + 1) (if bus i = true then l / 8 else l)
theorem odds_c (bus : Nat → Bool) (w : Nat → Nat → Nat → Bool) (B : Nat) (hm : ∀ b i x y, bus i = true → x ≤ y → w b i x = true → w b i y = true) : ∀ (m i : Nat), cN (hBy bus w B m i) (8 ^ buN bus m i) = prN (lkN bus w B) m i := by
  intro m
  induction m with
  | zero => intro i; rfl
  | succ m ih =>
    intro i
    rw [buN, prN, ← ih (i + 1)]
    by_cases e : bus i = true
    · have e1 : cN (hBy bus w B (m + 1) i) (8 ^ ((if bus i = true then 1 else 0) + buN bus m (i + 1))) = cN (fun x => (fun j => !anB w i j B) (x % 8) && (fun q => hBy bus w B m (i + 1) q) (x / 8)) (8 * 8 ^ buN bus m (i + 1)) := by
        rw [if_pos e, Nat.pow_add, Nat.pow_one]
        refine cN_c _ (fun x _ => ?_)
        rw [hBy, if_pos e, if_pos e]
      rw [e1, cN_8 (fun j => !anB w i j B) (fun q => hBy bus w B m (i + 1) q)]
      congr 1
      unfold lkN
      rw [if_pos e, ← cN_lt (mn8 (fun b => fj (w b i) 8 0) B) 8 (mn8_le _ _)]
      refine cN_c 8 (fun x hx => ?_)
      have h1 := mn8_lt (f := fun b => fj (w b i) 8 0) hx B
      have h2 : (∀ b, b < B → x < fj (w b i) 8 0) ↔ ∀ b, b < B → w b i x = false := ⟨fun h b hb => (fj_lt (fun p q => hm b i p q e) 8 0 rfl x (by omega) hx).mp (h b hb), fun h b hb => (fj_lt (fun p q => hm b i p q e) 8 0 rfl x (by omega) hx).mpr (h b hb)⟩
      have h3 := anB_f (w := w) (i := i) (j := x) B
      cases ha : anB w i x B with
      | true =>
        have : ¬ x < mn8 (fun b => fj (w b i) 8 0) B := fun q => by
          have := h3.mpr (h2.mp (h1.mp q))
          rw [ha] at this; cases this
        simp [this]
      | false =>
        have : x < mn8 (fun b => fj (w b i) 8 0) B := h1.mpr (h2.mpr (h3.mp ha))
        simp [this]
    · rw [if_neg e, Nat.zero_add]
      unfold lkN
      rw [if_neg e]
      cases ha : anB w i 0 B with
      | true =>
        rw [if_pos rfl, Nat.zero_mul, ← cN_0 (8 ^ buN bus m (i + 1))]
        refine cN_c _ (fun x _ => ?_)
        rw [hBy, if_neg e, if_neg e, ha]; rfl
      | false =>
        rw [if_neg (by simp), Nat.one_mul]
        refine cN_c _ (fun x _ => ?_)
        rw [hBy, if_neg e, if_neg e, ha]; rfl
theorem prN_le (bus : Nat → Bool) (w : Nat → Nat → Nat → Bool) (B : Nat) (hm : ∀ b i x y, bus i = true → x ≤ y → w b i x = true → w b i y = true) (m i : Nat) : prN (lkN bus w B) m i ≤ 8 ^ buN bus m i := by
  rw [← odds_c bus w B hm]
  exact cN_le _ _
/-- the fraction in lowest terms -/
theorem gcd_even {u k : Nat} (hu : u % 2 = 0) : Nat.gcd u (2 ^ (k + 1)) = 2 * Nat.gcd (u / 2) (2 ^ k) := by
  have e : u = 2 * (u / 2) := by omega
  rw [Nat.pow_succ, Nat.mul_comm (2 ^ k) 2]
  conv => lhs; rw [e]
  rw [Nat.gcd_mul_left]
theorem gcd_odd {u k : Nat} (hu : u % 2 = 1) : Nat.gcd u (2 ^ k) = 1 := by
  have h2 : Nat.Coprime u 2 := by
    unfold Nat.Coprime
    rw [Nat.gcd_comm, Nat.gcd_rec, hu]
    decide
  exact Nat.Coprime.pow_right k h2
