/-! leave: numbers -/
def cF (f : Int → Int) (t : Int) : Int := f t * 1048576 + 1024 + 2 ^ t.toNat
/-- worth, then how many, then the set as a number, in one -/
def cst (f : Int → Int) (S : Nat) : Int := sumS (cF f) S 8
theorem s8_1 : ∀ S : Nat, S < 256 → sumS (fun _ => 1) S 8 = (popc S : Int) ∧ sumS (fun t => 2 ^ t.toNat) S 8 = (S : Int) := by decide +kernel
theorem sumS_lin (f : Int → Int) (S : Nat) : ∀ n, sumS (cF f) S n = sumS f S n * 1048576 + sumS (fun _ => 1) S n * 1024 + sumS (fun t => 2 ^ t.toNat) S n := by
  intro n
  induction n with
  | zero => rfl
  | succ n ih =>
    unfold sumS at ih ⊢
    rw [sumF, sumF, sumF, sumF, ih]
    by_cases e : S.testBit n = true
    · simp only [e, if_true, cF]; omega
    · simp only [e, if_false]; simp
theorem cst_eq {f : Int → Int} {S : Nat} (hS : S < 256) : cst f S = sumS f S 8 * 1048576 + (popc S : Int) * 1024 + (S : Int) := by
  obtain ⟨a, b⟩ := s8_1 S hS
  unfold cst
  rw [sumS_lin, a, b]
theorem popc_le (S : Nat) : popc S ≤ 8 := by
  unfold popc
  exact Nat.le_trans List.countP_le_length (by rw [List.length_range]; exact Nat.le_refl _)
theorem cst_lt {f : Int → Int} {S T : Nat} (hS : S < 256) (hT : T < 256) : cst f S < cst f T ↔ (sumS f S 8 < sumS f T 8 ∨ (sumS f S 8 = sumS f T 8 ∧ (popc S < popc T ∨ (popc S = popc T ∧ S < T)))) := by
  have := popc_le S
  have := popc_le T
  rw [cst_eq hS, cst_eq hT]
  omega
theorem cst_inj {f : Int → Int} {S T : Nat} (hS : S < 256) (hT : T < 256) (e : cst f S = cst f T) : S = T := by
  have := popc_le S
  have := popc_le T
  rw [cst_eq hS, cst_eq hT] at e
  omega
def bst (p : Nat → Bool) (f : Nat → Int) (x0 : Nat) : Nat → Nat
  | 0 => x0
  | i + 1 => if p i = true ∧ f i < f (bst p f x0 i) then i else bst p f x0 i
theorem bst_min {p : Nat → Bool} {f : Nat → Int} {x0 : Nat} (h0 : p x0 = true) : ∀ N, p (bst p f x0 N) = true ∧ (bst p f x0 N = x0 ∨ bst p f x0 N < N) ∧ ∀ S, S < N → p S = true → f (bst p f x0 N) ≤ f S := by
  intro N
  induction N with
  | zero => exact ⟨h0, Or.inl rfl, fun S hS => absurd hS (by omega)⟩
  | succ N ih =>
    obtain ⟨i1, i2, i3⟩ := ih
    rw [bst]
    by_cases e : p N = true ∧ f N < f (bst p f x0 N)
    · rw [if_pos e]
      refine ⟨e.1, Or.inr (by omega), fun S hS hp => ?_⟩
      by_cases q : S = N
      · subst q; exact Int.le_refl _
      · have := i3 S (by omega) hp; omega
    · rw [if_neg e]
      refine ⟨i1, by omega, fun S hS hp => ?_⟩
      by_cases q : S = N
      · subst q
        have : ¬ f S < f (bst p f x0 S) := fun z => e ⟨hp, z⟩
        omega
      · exact i3 S (by omega) hp
theorem sumS_or (f : Int → Int) {A B : Nat} (hd : ∀ t, ¬ (A.testBit t = true ∧ B.testBit t = true)) : ∀ n, sumS f (A ||| B) n = sumS f A n + sumS f B n := by
  intro n
  induction n with
  | zero => rfl
  | succ n ih =>
    unfold sumS at ih ⊢
    rw [sumF, sumF, sumF, ih, Nat.testBit_or]
    have := hd n
    cases a : A.testBit n with
    | true =>
      cases b : B.testBit n with
      | true => exact absurd ⟨a, b⟩ this
      | false => simp only [Bool.true_or, if_true, Bool.false_eq_true, if_false]; omega
    | false =>
      cases b : B.testBit n with
      | true => simp only [Bool.false_or, if_true, Bool.false_eq_true, if_false]; omega
      | false => simp only [Bool.false_or, Bool.false_eq_true, if_false]; omega
def orB (T : Nat → Nat) : Nat → Nat
  | 0 => 0
  | b + 1 => orB T b ||| T b
def sumB (f : Nat → Int) : Nat → Int
  | 0 => 0
  | b + 1 => sumB f b + f b
theorem orB_bit {T : Nat → Nat} {t : Nat} : ∀ B, ((orB T B).testBit t = true ↔ ∃ b, b < B ∧ (T b).testBit t = true) := by
  intro B
  induction B with
  | zero => simp [orB]
  | succ B ih =>
    rw [orB, Nat.testBit_or, Bool.or_eq_true, ih]
    constructor
    · rintro (⟨b, q1, q2⟩ | q)
      · exact ⟨b, by omega, q2⟩
      · exact ⟨B, by omega, q⟩
    · rintro ⟨b, q1, q2⟩
      by_cases e : b = B
      · subst e; exact Or.inr q2
      · exact Or.inl ⟨b, by omega, q2⟩
theorem orB_lt {T : Nat → Nat} : ∀ B, (∀ b, b < B → T b < 256) → orB T B < 256 := by
  intro B
  induction B with
  | zero => intro _; simp [orB]
  | succ B ih => intro hT; rw [orB]; exact Nat.or_lt_two_pow (n := 8) (ih (fun b hb => hT b (by omega))) (hT B (by omega))
theorem sumB_le {f g : Nat → Int} : ∀ B, (∀ b, b < B → f b ≤ g b) → sumB f B ≤ sumB g B := by
  intro B
  induction B with
  | zero => intro _; exact Int.le_refl _
  | succ B ih => intro hq; rw [sumB, sumB]; have := ih (fun b hb => hq b (by omega)); have := hq B (by omega); omega
/-- sets apart: the sum over all is the sum of the sums -/
theorem cst_orB (f : Int → Int) {T : Nat → Nat} : ∀ B, (∀ b c t, b < B → c < B → (T b).testBit t = true → (T c).testBit t = true → b = c) → cst f (orB T B) = sumB (fun b => cst f (T b)) B := by
  intro B
  induction B with
  | zero =>
    intro _
    show sumF (fun t => if (0 : Nat).testBit t = true then cF f t else 0) 8 = 0
    simp [sumF]
  | succ B ih =>
    intro hd
    rw [orB, sumB, ← ih (fun b c t q1 q2 => hd b c t (by omega) (by omega))]
    unfold cst
    refine sumS_or (cF f) (fun t q => ?_) 8
    obtain ⟨b, q1, q2⟩ := (orB_bit B).mp q.1
    have := hd b B t (by omega) (by omega) q2 q.2
    omega
/-- LEFT: what is least bag by bag is least of all -/
theorem left_min (f : Int → Int) {T U : Nat → Nat} {nb : Nat} {ok : Nat → Nat → Prop} (hT : ∀ b, b < nb → T b < 256) (hd : ∀ b c t, b < nb → c < nb → (T b).testBit t = true → (T c).testBit t = true → b = c) (hU : ∀ b, b < nb → (∀ t, (U b).testBit t = true → (T b).testBit t = true) ∧ ok b (U b) ∧ ∀ S, (∀ t, S.testBit t = true → (T b).testBit t = true) → ok b S → cst f (U b) ≤ cst f S) {R : Nat} (hR1 : ∀ t, R.testBit t = true → (orB T nb).testBit t = true) (hR2 : ∀ b, b < nb → ok b (R &&& T b)) (hR3 : ∀ X, (∀ t, X.testBit t = true → (orB T nb).testBit t = true) → (∀ b, b < nb → ok b (X &&& T b)) → cst f R ≤ cst f X) : orB U nb = R := by
  have sub : ∀ {A B : Nat}, (∀ t, A.testBit t = true → B.testBit t = true) → B < 256 → A < 256 := by
    intro A B hs hB
    apply Nat.lt_pow_two_of_testBit (n := 8)
    intro i hi
    cases e : A.testBit i with
    | false => rfl
    | true =>
      have := hs i e
      rw [Nat.testBit_lt_two_pow (Nat.lt_of_lt_of_le hB (Nat.pow_le_pow_right (n := 2) (i := 8) (by decide) hi))] at this
      cases this
  have hP := orB_lt nb hT
  have hUd : ∀ b c t, b < nb → c < nb → (U b).testBit t = true → (U c).testBit t = true → b = c := fun b c t q1 q2 q3 q4 => hd b c t q1 q2 ((hU b q1).1 t q3) ((hU c q2).1 t q4)
  have hUs : ∀ t, (orB U nb).testBit t = true → (orB T nb).testBit t = true := fun t q => by
    obtain ⟨b, q1, q2⟩ := (orB_bit nb).mp q
    exact (orB_bit nb).mpr ⟨b, q1, (hU b q1).1 t q2⟩
  have hUT : ∀ b, b < nb → orB U nb &&& T b = U b := fun b hb => by
    apply Nat.eq_of_testBit_eq
    intro t
    rw [Nat.testBit_and]
    cases e : (U b).testBit t with
    | true =>
      rw [(orB_bit nb).mpr ⟨b, hb, e⟩, (hU b hb).1 t e]; rfl
    | false =>
      cases e2 : (orB U nb).testBit t with
      | false => rfl
      | true =>
        obtain ⟨c, q1, q2⟩ := (orB_bit nb).mp e2
        cases e3 : (T b).testBit t with
        | false => rfl
        | true =>
          have := hd b c t hb q1 e3 ((hU c q1).1 t q2)
          subst this
          rw [e] at q2; cases q2
  have hRo : orB (fun b => R &&& T b) nb = R := by
    apply Nat.eq_of_testBit_eq
    intro t
    cases e : R.testBit t with
    | true =>
      obtain ⟨b, q1, q2⟩ := (orB_bit nb).mp (hR1 t e)
      exact (orB_bit nb).mpr ⟨b, q1, by rw [Nat.testBit_and, e, q2]; rfl⟩
    | false =>
      cases e2 : (orB (fun b => R &&& T b) nb).testBit t with
      | false => rfl
      | true =>
        obtain ⟨b, q1, q2⟩ := (orB_bit nb).mp e2
        rw [Nat.testBit_and, e] at q2
        cases q2
  have e1 : cst f R ≤ cst f (orB U nb) := hR3 _ hUs (fun b hb => by rw [hUT b hb]; exact (hU b hb).2.1)
  have e2 : cst f (orB U nb) ≤ cst f R := by
    rw [cst_orB f nb hUd]
    have := cst_orB f (T := fun b => R &&& T b) nb (fun b c t q1 q2 q3 q4 => by
      rw [Nat.testBit_and, Bool.and_eq_true] at q3 q4
      exact hd b c t q1 q2 q3.2 q4.2)
    rw [hRo] at this
    rw [this]
    refine sumB_le nb (fun b hb => (hU b hb).2.2 _ (fun t q => ?_) (hR2 b hb))
    rw [Nat.testBit_and, Bool.and_eq_true] at q
    exact q.2
  exact cst_inj (f := f) (sub hUs hP) (sub hR1 hP) (by omega)
