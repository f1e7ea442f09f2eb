/-! run: numbers -/
def mxF (B : Nat) (f : Nat → Int) : Nat → Int
  | 0 => 0
  | k + 1 => if B.testBit k = false ∧ mxF B f k < f k then f k else mxF B f k
def exB (B : Nat) : Nat → Bool
  | 0 => false
  | k + 1 => exB B k || !B.testBit k
def fbF (B : Nat) (f : Nat → Int) : Nat → Nat
  | 0 => 0
  | k + 1 => if B.testBit k = false ∧ (exB B k = false ∨ mxF B f k < f k) then k else fbF B f k
theorem mxF_0 (B : Nat) (f : Nat → Int) : ∀ k, 0 ≤ mxF B f k := by
  intro k
  induction k with
  | zero => exact Int.le_refl _
  | succ k ih => rw [mxF]; split
                 · next e => omega
                 · exact ih
theorem mxF_n {B : Nat} {f : Nat → Int} : ∀ k, exB B k = false → mxF B f k = 0 := by
  intro k
  induction k with
  | zero => intro _; rfl
  | succ k ih =>
    intro h
    rw [exB, Bool.or_eq_false_iff] at h
    rw [mxF, if_neg (fun q => by rw [q.1] at h; exact absurd h.2 (by simp)), ih h.1]
/-- the first that is best of those that are free -/
theorem fbF_ok {B : Nat} {f : Nat → Int} (h0 : ∀ k, 0 ≤ f k) : ∀ k, exB B k = true → fbF B f k < k ∧ B.testBit (fbF B f k) = false ∧ f (fbF B f k) = mxF B f k ∧ (∀ i, i < fbF B f k → B.testBit i = false → f i < mxF B f k) ∧ ∀ i, i < k → B.testBit i = false → f i ≤ mxF B f k := by
  intro k
  induction k with
  | zero => intro h; cases h
  | succ k ih =>
    intro h
    rw [mxF, fbF]
    cases hb : B.testBit k with
    | true =>
      rw [exB, hb, Bool.not_true, Bool.or_false] at h
      obtain ⟨i1, i2, i3, i4, i5⟩ := ih h
      rw [if_neg (fun q => by cases q.1), if_neg (fun q => by cases q.1)]
      refine ⟨by omega, i2, i3, i4, fun i hi hbi => ?_⟩
      by_cases e : i = k
      · subst e; rw [hb] at hbi; cases hbi
      · exact i5 i (by omega) hbi
    | false =>
      cases he : exB B k with
      | false =>
        have m0 := mxF_n (f := f) k he
        have hno : ∀ i, i < k → B.testBit i = false → False := by
          intro i hi hbi
          have : ∀ k, i < k → exB B k = true := by
            intro k
            induction k with
            | zero => intro q; omega
            | succ k ih2 =>
              intro q
              rw [exB]
              by_cases e : i = k
              · subst e; rw [hbi]; simp
              · rw [ih2 (by omega)]; rfl
          rw [this k hi] at he; cases he
        rw [if_pos (⟨rfl, Or.inl rfl⟩ : _ ∧ _)]
        have hm : (if (false = false ∧ mxF B f k < f k) then f k else mxF B f k) = f k := by
          rw [m0]
          have := h0 k
          by_cases e : 0 < f k
          · rw [if_pos ⟨rfl, e⟩]
          · rw [if_neg (fun q => e q.2)]; omega
        rw [hm]
        refine ⟨by omega, hb, rfl, fun i hi hbi => absurd hbi (fun q => hno i hi q), fun i hi hbi => ?_⟩
        by_cases e : i = k
        · subst e; exact Int.le_refl _
        · exact absurd hbi (fun q => hno i (by omega) q)
      | true =>
        obtain ⟨i1, i2, i3, i4, i5⟩ := ih he
        by_cases e : mxF B f k < f k
        · rw [if_pos (⟨rfl, Or.inr e⟩ : _ ∧ _), if_pos ⟨rfl, e⟩]
          refine ⟨by omega, hb, rfl, fun i hi hbi => ?_, fun i hi hbi => ?_⟩
          · have := i5 i hi hbi; omega
          · by_cases z : i = k
            · subst z; exact Int.le_refl _
            · have := i5 i (by omega) hbi; omega
        · rw [if_neg (fun q => by rcases q.2 with y | y; cases y; exact e y), if_neg (fun q => e q.2)]
          refine ⟨by omega, i2, i3, i4, fun i hi hbi => ?_⟩
          by_cases z : i = k
          · subst z; omega
          · exact i5 i (by omega) hbi
def mx (N : Nat) (g : Nat → Nat → Int) : Nat → Nat → Int
  | 0, _ => 0
  | m + 1, B => mxF B (fun k => g B k + mx N g m (B ||| 2 ^ k)) N
/-- the best next one, m are left -/
def fbm (N : Nat) (g : Nat → Nat → Int) (m B : Nat) : Nat := fbF B (fun k => g B k + mx N g m (B ||| 2 ^ k)) N
def gr (N : Nat) (g : Nat → Nat → Int) : Nat → Nat → Nat
  | 0, _ => 0
  | m + 1, B => fbm N g m B * N ^ m + gr N g m (B ||| 2 ^ fbm N g m B)
def vl (N : Nat) (g : Nat → Nat → Int) : Nat → Nat → Int → Nat → Int
  | 0, _, a, _ => a
  | m + 1, B, a, v => if B.testBit (v / N ^ m % N) = true then -1 else vl N g m (B ||| 2 ^ (v / N ^ m % N)) (a + g B (v / N ^ m % N)) v
def fo (F : Nat → Int) (c : Nat) (st : Nat × Int) : Nat → Nat × Int
  | 0 => st
  | k + 1 => if (fo F c st k).2 < F (c + k) then (c + k, F (c + k)) else fo F c st k
theorem fo_add (F : Nat → Int) (c : Nat) (st : Nat × Int) (a : Nat) : ∀ b, fo F c st (a + b) = fo F (c + a) (fo F c st a) b := by
  intro b
  induction b with
  | zero => rfl
  | succ b ih => rw [show a + (b + 1) = (a + b) + 1 by omega, fo, fo, ih, Nat.add_assoc]
theorem fo_neg {F : Nat → Int} {c : Nat} {st : Nat × Int} (hst : -1 ≤ st.2) : ∀ k, (∀ v, v < k → F (c + v) = -1) → fo F c st k = st := by
  intro k
  induction k with
  | zero => intro _; rfl
  | succ k ih => intro hq; rw [fo, ih (fun v hv => hq v (by omega)), hq k (by omega), if_neg (by omega)]
theorem fo_bp (F : Nat → Int) : ∀ k, fo F 0 (0, -1) k = bp F k := by
  intro k
  induction k with
  | zero => rfl
  | succ k ih => rw [fo, bp, ih, Nat.zero_add]
theorem mx_0 {N : Nat} {g : Nat → Nat → Int} : ∀ m B, 0 ≤ mx N g m B := by
  intro m B
  cases m with
  | zero => exact Int.le_refl _
  | succ m => exact mxF_0 _ _ _
theorem vl_mod {N : Nat} {g : Nat → Nat → Int} (hN : 1 ≤ N) {d v M : Nat} : ∀ m B a, m ≤ M → vl N g m B a (d * N ^ M + v) = vl N g m B a v := by
  intro m
  induction m with
  | zero => intro B a _; rfl
  | succ m ih =>
    intro B a hm
    have e : (d * N ^ M + v) / N ^ m % N = v / N ^ m % N := by
      have hp : 0 < N ^ m := Nat.pow_pos hN
      have : d * N ^ M = N ^ m * (N * (d * N ^ (M - (m + 1)))) := by
        have : N ^ M = N ^ m * N * N ^ (M - (m + 1)) := by rw [← Nat.pow_succ, ← Nat.pow_add]; congr 1; omega
        rw [this, Nat.mul_comm d, Nat.mul_assoc, Nat.mul_assoc, Nat.mul_comm d]
      rw [this, Nat.add_comm, Nat.add_mul_div_left _ _ hp, Nat.add_mul_mod_self_left]
    rw [vl, vl, e, ih _ _ (by omega)]
theorem pcq6 : ∀ B : Nat, B < 64 → ∀ k : Nat, k < 6 → (B.testBit k = false → popc (B ||| 2 ^ k) = popc B + 1) ∧ (B.testBit k = true → B ||| 2 ^ k = B) := by decide +kernel
theorem ex_6 : ∀ N : Nat, N < 7 → ∀ B : Nat, B < 64 → B < 2 ^ N → popc B < N → exB B N = true := by decide +kernel
/-- all codes with one beginning: the first best of them is the greedy one -/
theorem block {N : Nat} {g : Nat → Nat → Int} (hN : 1 ≤ N) (hN6 : N ≤ 6) (hg : ∀ B k, 0 ≤ g B k) : ∀ (m B : Nat) (a : Int) (c : Nat) (F : Nat → Int) (st : Nat × Int), B < 2 ^ N → popc B + m = N → 0 ≤ a → (∀ v, v < N ^ m → F (c + v) = vl N g m B a v) → -1 ≤ st.2 → fo F c st (N ^ m) = if st.2 < a + mx N g m B then (c + gr N g m B, a + mx N g m B) else st := by
  intro m
  induction m with
  | zero =>
    intro B a c F st hB hp ha hF hst
    rw [Nat.pow_zero, fo, fo, hF 0 (by rw [Nat.pow_zero]; decide), mx, gr, vl, Int.add_zero, Nat.add_zero]
  | succ m ih =>
    intro B a c F st hB hp ha hF hst
    have hB64 : B < 64 := Nat.lt_of_lt_of_le hB (Nat.pow_le_pow_right (n := 2) (j := 6) (by decide) hN6)
    have hex := ex_6 N (by omega) B hB64 hB (by omega)
    have h0 : ∀ k, 0 ≤ (fun k => g B k + mx N g m (B ||| 2 ^ k)) k := fun k => by
      have := hg B k
      have := mx_0 (N := N) (g := g) m (B ||| 2 ^ k)
      show 0 ≤ g B k + mx N g m (B ||| 2 ^ k)
      omega
    have hpm : 0 < N ^ m := Nat.pow_pos hN
    have claim : ∀ d, d ≤ N → fo F c st (d * N ^ m) = if exB B d = true ∧ st.2 < a + mxF B (fun k => g B k + mx N g m (B ||| 2 ^ k)) d then (c + fbF B (fun k => g B k + mx N g m (B ||| 2 ^ k)) d * N ^ m + gr N g m (B ||| 2 ^ fbF B (fun k => g B k + mx N g m (B ||| 2 ^ k)) d), a + mxF B (fun k => g B k + mx N g m (B ||| 2 ^ k)) d) else st := by
      intro d
      induction d with
      | zero => intro _; rw [Nat.zero_mul, fo, if_neg (fun q => by cases q.1)]
      | succ d ihd =>
        intro hd
        have ihd := ihd (by omega)
        rw [show (d + 1) * N ^ m = d * N ^ m + N ^ m by rw [Nat.add_mul, Nat.one_mul], fo_add, ihd]
        have hFd : ∀ v, v < N ^ m → F (c + d * N ^ m + v) = if B.testBit d = true then -1 else vl N g m (B ||| 2 ^ d) (a + g B d) v := by
          intro v hv
          have hlt : d * N ^ m + v < N ^ (m + 1) := by
            rw [Nat.pow_succ, Nat.mul_comm (N ^ m) N]
            have := Nat.mul_le_mul_right (N ^ m) (show d + 1 ≤ N by omega)
            rw [Nat.add_mul, Nat.one_mul] at this
            omega
          have ed : (d * N ^ m + v) / N ^ m % N = d := by
            rw [Nat.mul_comm d, Nat.mul_add_div hpm, Nat.div_eq_of_lt hv, Nat.add_zero, Nat.mod_eq_of_lt (by omega)]
          rw [Nat.add_assoc, hF _ hlt, vl, ed, vl_mod hN m _ _ (Nat.le_refl _)]
        rw [exB, mxF, fbF]
        cases hb : B.testBit d with
        | true =>
          simp only [Bool.true_eq_false, false_and, if_false, Bool.not_true, Bool.or_false]
          refine fo_neg ?_ _ (fun v hv => by rw [hFd v hv, if_pos hb])
          split
          · next q => show -1 ≤ a + _; have := mxF_0 B (fun k => g B k + mx N g m (B ||| 2 ^ k)) d; omega
          · exact hst
        | false =>
          have hB2 : B ||| 2 ^ d < 2 ^ N := Nat.or_lt_two_pow hB (Nat.pow_lt_pow_right (by decide) (by omega))
          have hpc := (pcq6 B hB64 d (by omega)).1 hb
          have hgd := hg B d
          have hmd := mx_0 (N := N) (g := g) m (B ||| 2 ^ d)
          have ihm := fun st' hst' => ih (B ||| 2 ^ d) (a + g B d) (c + d * N ^ m) F st' hB2 (by omega) (by omega) (fun v hv => by rw [hFd v hv, if_neg (by simp [hb])]) hst'
          have hX := mxF_0 B (fun k => g B k + mx N g m (B ||| 2 ^ k)) d
          simp only [Bool.not_false, Bool.or_true, true_and]
          cases he : exB B d with
          | false =>
            have m0 := mxF_n (f := fun k => g B k + mx N g m (B ||| 2 ^ k)) d he
            have e1 : (if mxF B (fun k => g B k + mx N g m (B ||| 2 ^ k)) d < g B d + mx N g m (B ||| 2 ^ d) then g B d + mx N g m (B ||| 2 ^ d) else mxF B (fun k => g B k + mx N g m (B ||| 2 ^ k)) d) = g B d + mx N g m (B ||| 2 ^ d) := by
              rw [m0]; split <;> omega
            simp only [Bool.false_eq_true, false_and, if_false, true_or, if_true, e1]
            rw [ihm st hst, Int.add_assoc]
          | true =>
            simp only [Bool.true_eq_false, false_or, true_and]
            by_cases e : mxF B (fun k => g B k + mx N g m (B ||| 2 ^ k)) d < g B d + mx N g m (B ||| 2 ^ d)
            · simp only [e, if_true]
              by_cases q : st.2 < a + mxF B (fun k => g B k + mx N g m (B ||| 2 ^ k)) d
              · rw [if_pos q, ihm _ (by show -1 ≤ a + _; omega), if_pos (by show a + _ < _; omega), if_pos (by omega), Int.add_assoc]
              · rw [if_neg q, ihm st hst, Int.add_assoc]
            · simp only [e, if_false]
              by_cases q : st.2 < a + mxF B (fun k => g B k + mx N g m (B ||| 2 ^ k)) d
              · rw [if_pos q, ihm _ (by show -1 ≤ a + _; omega), if_neg (by show ¬ a + _ < _; omega)]
              · rw [if_neg q, ihm st hst, if_neg (by omega)]
    have := claim N (Nat.le_refl _)
    rw [show N * N ^ m = N ^ (m + 1) by rw [Nat.pow_succ, Nat.mul_comm], hex] at this
    rw [this, mx, gr]
    simp only [true_and]
    by_cases q : st.2 < a + mxF B (fun k => g B k + mx N g m (B ||| 2 ^ k)) N
    · rw [if_pos q, if_pos q, ← Nat.add_assoc]; rfl
    · rw [if_neg q, if_neg q]
theorem popc_0 : popc 0 = 0 := by decide
theorem run_best {N : Nat} {g : Nat → Nat → Int} (hN : 1 ≤ N) (hN6 : N ≤ 6) (hg : ∀ B k, 0 ≤ g B k) : bp (vl N g N 0 0) (N ^ N) = (gr N g N 0, mx N g N 0) := by
  have := block hN hN6 hg N 0 0 0 (vl N g N 0 0) (0, -1) (Nat.two_pow_pos N) (by rw [popc_0, Nat.zero_add]) (Int.le_refl _) (fun v _ => by rw [Nat.zero_add]) (Int.le_refl _)
  rw [fo_bp] at this
  have h0 := mx_0 (N := N) (g := g) N 0
  rw [this, if_pos (by show (-1 : Int) < _; omega), Nat.zero_add, Int.zero_add]
