/-! run: the reference, numbers -/
def usN (N v : Nat) : Nat → Nat
  | 0 => 0
  | m + 1 => usN N v m ||| 2 ^ (v / N ^ m % N)
def acN (N : Nat) (g : Nat → Nat → Int) (v : Nat) : Nat → Nat → Int → Int
  | 0, _, a => a
  | m + 1, B, a => acN N g v m (B ||| 2 ^ (v / N ^ m % N)) (a + g B (v / N ^ m % N))
def sB (f : Nat → Nat) (N B : Nat) : Int := sumF (fun o => if B.testBit o = true then 2 * (f o : Int) + 1 else 0) N
theorem sec_sB (f : Nat → Nat) (N B d : Nat) : sec f N B d = sB f N (B ||| 2 ^ d) := by
  unfold sec sB
  refine sumF_c (fun o _ => ?_)
  rw [Nat.testBit_or, Nat.testBit_two_pow]
  by_cases e : o = d
  · subst e; simp
  · have : ¬ d = o := fun q => e q.symm
    simp [e, this]
theorem sB_le (f : Nat → Nat) (d B : Nat) : ∀ N, N ≤ d → sB f N (B ||| 2 ^ d) = sB f N B := by
  intro N hN
  unfold sB
  refine sumF_c (fun o ho => ?_)
  rw [Nat.testBit_or, Nat.testBit_two_pow]
  have : ¬ d = o := by omega
  simp [this]
theorem sB_add (f : Nat → Nat) (d B : Nat) (hd : B.testBit d = false) : ∀ N, d < N → sB f N (B ||| 2 ^ d) = sB f N B + (2 * (f d : Int) + 1) := by
  intro N
  induction N with
  | zero => intro h; omega
  | succ N ih =>
    intro h
    have e1 : ∀ C, sB f (N + 1) C = sB f N C + (if C.testBit N = true then 2 * (f N : Int) + 1 else 0) := fun C => rfl
    rw [e1, e1]
    by_cases e : d = N
    · subst e
      rw [sB_le f d B d (Nat.le_refl _), Nat.testBit_or, Nat.testBit_two_pow, hd]
      simp
    · rw [ih (by omega), Nat.testBit_or, Nat.testBit_two_pow]
      simp [e]
      omega
theorem sB_r (f : Nat → Nat) (B : Nat) (hf : ∀ k, f k ≤ 20) : ∀ N, 0 ≤ sB f N B ∧ sB f N B ≤ 41 * N := by
  intro N
  induction N with
  | zero => exact ⟨Int.le_refl _, Int.le_refl _⟩
  | succ N ih =>
    have e1 : sB f (N + 1) B = sB f N B + (if B.testBit N = true then 2 * (f N : Int) + 1 else 0) := rfl
    have := hf N
    rw [e1]
    split <;> omega
theorem sB_0 (f : Nat → Nat) : ∀ N, sB f N 0 = 0 := by
  intro N
  induction N with
  | zero => rfl
  | succ N ih =>
    have e1 : sB f (N + 1) 0 = sB f N 0 + (if (0 : Nat).testBit N = true then 2 * (f N : Int) + 1 else 0) := rfl
    rw [e1, ih]
    simp
section RY
variable {g : Nat → Nat → Int} {N v d m B : Nat}
theorem dg_lt (hN : 1 ≤ N) : v / N ^ m % N < N := Nat.mod_lt _ hN
theorem or_lt6 (hN6 : N ≤ 6) (hB : B < 2 ^ N) (hd : d < N) : B ||| 2 ^ d < 2 ^ N := Nat.or_lt_two_pow hB (Nat.pow_lt_pow_right (by decide) hd)
theorem us_bd (hN : 1 ≤ N) (hN6 : N ≤ 6) : ∀ m B, B < 2 ^ N → popc (B ||| usN N v m) ≤ popc B + m := by
  intro m
  induction m with
  | zero => intro B _; rw [usN, Nat.or_zero]; exact Nat.le_refl _
  | succ m ih =>
    intro B hB
    have h64 : 2 ^ N ≤ 2 ^ 6 := Nat.pow_le_pow_right (by decide) hN6
    have hd := dg_lt (v := v) (m := m) hN
    have := ih (B ||| 2 ^ (v / N ^ m % N)) (or_lt6 hN6 hB hd)
    have hq := pcq6 B (by omega) (v / N ^ m % N) (by omega)
    rw [usN, Nat.or_comm (usN N v m), ← Nat.or_assoc]
    cases e : B.testBit (v / N ^ m % N) with
    | true => rw [hq.2 e] at this ⊢; omega
    | false => rw [hq.1 e] at this; omega
theorem us_fr (hN : 1 ≤ N) (hN6 : N ≤ 6) (hB : B < 2 ^ N) (hp : popc (B ||| usN N v (m + 1)) = popc B + (m + 1)) : B.testBit (v / N ^ m % N) = false ∧ popc (B ||| 2 ^ (v / N ^ m % N)) = popc B + 1 ∧ popc (B ||| 2 ^ (v / N ^ m % N) ||| usN N v m) = popc (B ||| 2 ^ (v / N ^ m % N)) + m := by
  have h64 : 2 ^ N ≤ 2 ^ 6 := Nat.pow_le_pow_right (by decide) hN6
  have hd := dg_lt (v := v) (m := m) hN
  have hq := pcq6 B (by omega) (v / N ^ m % N) (by omega)
  rw [usN, Nat.or_comm (usN N v m), ← Nat.or_assoc] at hp
  cases e : B.testBit (v / N ^ m % N) with
  | true =>
    have := us_bd (v := v) hN hN6 m B hB
    rw [hq.2 e] at hp
    omega
  | false =>
    rw [hp, hq.1 e]
    exact ⟨rfl, rfl, by omega⟩
theorem vl_ac (hN : 1 ≤ N) (hN6 : N ≤ 6) : ∀ m B a, B < 2 ^ N → vl N g m B a v = if popc (B ||| usN N v m) = popc B + m then acN N g v m B a else -1 := by
  intro m
  induction m with
  | zero => intro B a _; rw [usN, Nat.or_zero, Nat.add_zero, if_pos rfl]; rfl
  | succ m ih =>
    intro B a hB
    have h64 : 2 ^ N ≤ 2 ^ 6 := Nat.pow_le_pow_right (by decide) hN6
    have hd := dg_lt (v := v) (m := m) hN
    have hq := pcq6 B (by omega) (v / N ^ m % N) (by omega)
    rw [vl, ih _ _ (or_lt6 hN6 hB hd), usN, Nat.or_comm (usN N v m), ← Nat.or_assoc, acN]
    cases e : B.testBit (v / N ^ m % N) with
    | true =>
      have := us_bd (v := v) hN hN6 m B hB
      rw [if_pos rfl, if_neg (by rw [hq.2 e]; omega)]
    | false =>
      rw [if_neg (by simp), hq.1 e]
      rw [show popc B + 1 + m = popc B + (m + 1) by omega]
theorem us_lt (hN : 1 ≤ N) : ∀ m, usN N v m < 2 ^ N := by
  intro m
  induction m with
  | zero => exact Nat.two_pow_pos _
  | succ m ih => rw [usN]; exact Nat.or_lt_two_pow ih (Nat.pow_lt_pow_right (by decide) (dg_lt hN))
theorem vl_F (hN6 : N ≤ 6) : vl N g N 0 0 v = if popc (usN N v N) = N then acN N g v N 0 0 else -1 := by
  by_cases e : N = 0
  · subst e; show vl 0 g 0 0 0 v = if popc 0 = 0 then acN 0 g v 0 0 0 else -1; rw [if_pos popc_0]; rfl
  · have := vl_ac (g := g) (v := v) (by omega) hN6 N 0 0 (Nat.two_pow_pos _)
    rw [Nat.zero_or, popc_0, Nat.zero_add] at this
    exact this
theorem run_best2 (hN6 : N ≤ 6) (hg : ∀ B k, 0 ≤ g B k) : bp (vl N g N 0 0) (N ^ N) = (gr N g N 0, mx N g N 0) := by
  by_cases e : N = 0
  · subst e; rfl
  · exact run_best (by omega) hN6 hg
end RY
