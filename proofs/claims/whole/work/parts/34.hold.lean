/-- the step at which a bag gives first (99: none), by numbers -/
def fg0 (so : Nat → Int) (k bj W D E : Int) (g : Nat) : Nat → Nat → Int → Int → Int
  | 0, _, _, _ => 99
  | m + 1, s, w, r => if 0 ≤ weak k (ageW w D) (ageR r E (so s)) g W E (so s) (jl (so s) bj) then (s : Int) else fg0 so k bj W D E g m (s + 1) (ageW w D) (ageR r E (so s))
theorem fgv_fg0 (h : am_F) (k : Int) (g S : Nat) (bj : Int) : ∀ (m s : Nat) (w r : Int), fgv h k g S bj m s w r = fg0 (fun s => sortI h s) k bj (sumS (h 83) S 8) (sumS (h 84) S 8) (sumS (h 85) S 8) g m s w r := by
  intro m
  induction m with
  | zero => intro s w r; rfl
  | succ m ih =>
    intro s w r
    rw [fgv, fg0, ih]
    rfl
theorem fg0_ge {so : Nat → Int} {k bj W D E : Int} {g : Nat} : ∀ (m s : Nat) (w r : Int), s + m ≤ 99 → (s : Int) ≤ fg0 so k bj W D E g m s w r := by
  intro m
  induction m with
  | zero => intro s w r h1; rw [fg0]; omega
  | succ m ih =>
    intro s w r h1
    rw [fg0]
    split
    · omega
    · have := ih (s + 1) (ageW w D) (ageR r E (so s)) (by omega)
      omega
def minB (f : Nat → Int) : Nat → Int
  | 0 => 99
  | b + 1 => if f b < minB f b then f b else minB f b
theorem minB_le (f : Nat → Int) : ∀ B, minB f B ≤ 99 ∧ ∀ b, b < B → minB f B ≤ f b := by
  intro B
  induction B with
  | zero => exact ⟨by simp [minB], fun b hb => absurd hb (by omega)⟩
  | succ B ih =>
    rw [minB]
    refine ⟨by split <;> omega, fun b hb => ?_⟩
    by_cases h1 : b = B
    · subst h1; split <;> omega
    · have := ih.2 b (by omega)
      split <;> omega
theorem minB_at (f : Nat → Int) : ∀ B, minB f B = 99 ∨ ∃ b, b < B ∧ minB f B = f b := by
  intro B
  induction B with
  | zero => exact Or.inl rfl
  | succ B ih =>
    rw [minB]
    split
    · exact Or.inr ⟨B, by omega, rfl⟩
    · rcases ih with q | ⟨b, q1, q2⟩
      · exact Or.inl q
      · exact Or.inr ⟨b, by omega, q2⟩
theorem minB_eq {f g : Nat → Int} : ∀ {B : Nat}, (∀ b, b < B → f b = g b) → minB f B = minB g B := by
  intro B
  induction B with
  | zero => intro _; rfl
  | succ B ih => intro hq; rw [minB, minB, ih (fun b hb => hq b (by omega)), hq B (by omega)]
def bR (h : am_F) (c : Int) (n : Nat) (bj : Int) (m s b : Nat) : Int := if mS h c b n = 0 then 99 else fg0 (fun s => h c (66 + s)) (h c (6 + 4 * b)) bj (sumF (rW h c b 0) n) (sumF (rW h c b 1) n) (sumF (rW h c b 2) n) (h c (6 + 4 * b + 3)).toNat m s (h c (6 + 4 * b + 1)) (h c (6 + 4 * b + 2))
/-- a row in order -/
def RO (h : am_F) (c : Int) (n nb L : Nat) : Prop := h c 0 = (nb : Int) ∧ nb ≤ 3 ∧ h c 1 = (n : Int) ∧ n ≤ 8 ∧ h c 2 = (L : Int) ∧ L ≤ 20 ∧ tk h c n ∧ ∀ b : Nat, b < nb → bk h c b
section HT
variable {h h' : am_F} {Q : am_V → am_S → Prop} {c bj so j st : Int} {n nb L : Nat}
theorem mC_c {h1 h2 : am_F} (e : h1 c = h2 c) (b : Int) : mC h1 c b n so j = mC h2 c b n so j ∧ mP h1 c b n so j = mP h2 c b n so j ∧ mS h1 c b n = mS h2 c b n ∧ gvB h1 c b n so j = gvB h2 c b n so j := by
  have e2 : mS h1 c b n = mS h2 c b n := by unfold mS; rw [e]
  have e3 : ∀ wh, rW h1 c b wh = rW h2 c b wh := fun wh => by unfold rW; rw [e]
  have e4 : mP h1 c b n so j = mP h2 c b n so j := by unfold mP; rw [e, e3, e3, e3]
  refine ⟨by unfold mC; rw [e, e2, e3, e3, e3], e4, e2, by unfold gvB; rw [e2, e4]⟩
theorem anyG_f : ∀ {B : Nat}, anyG h c n so j B = false → ∀ b : Nat, b < B → gvB h c b n so j = false := by
  intro B
  induction B with
  | zero => intro _ b hb; omega
  | succ B ih =>
    intro h1 b hb
    rw [anyG, Bool.or_eq_false_iff] at h1
    by_cases hq : b = B
    · subst hq; exact h1.2
    · exact ih h1.1 b (by omega)
theorem anyG_t : ∀ {B : Nat}, anyG h c n so j B = true → ∃ b : Nat, b < B ∧ gvB h c b n so j = true := by
  intro B
  induction B with
  | zero => intro h1; simp [anyG] at h1
  | succ B ih =>
    intro h1
    rw [anyG, Bool.or_eq_true] at h1
    rcases h1 with q | q
    · obtain ⟨b, q1, q2⟩ := ih q; exact ⟨b, by omega, q2⟩
    · exact ⟨B, by omega, q⟩
theorem gv_f {b : Int} (hq : gvB h c b n so j = false) : mC h c b n so j = if mS h c b n = 0 then (h c (6 + 4 * b + 1), h c (6 + 4 * b + 2), (h c (6 + 4 * b + 3)).toNat, mS h c b n, 0) else (ageW (h c (6 + 4 * b + 1)) (sumF (rW h c b 1) n), ageR (h c (6 + 4 * b + 2)) (sumF (rW h c b 2) n) so, (h c (6 + 4 * b + 3)).toNat, mS h c b n, 0) := by
  unfold mC core
  by_cases h0 : mS h c b n = 0
  · rw [if_pos h0, if_pos h0]
  · rw [if_neg h0, if_neg h0, if_pos]
    unfold gvB at hq
    simp only [h0, ne_eq, not_false_eq_true, decide_true, Bool.true_and, decide_eq_false_iff_not] at hq
    unfold mP at hq
    omega
theorem fL_0 : ∀ {B : Nat}, (∀ b : Nat, b < B → gvB h c b n so j = false) → fL h c n so j B = 0 := by
  intro B
  induction B with
  | zero => intro _; rfl
  | succ B ih =>
    intro hq
    rw [fL, ih (fun b hb => hq b (by omega)), gv_f (hq B (by omega))]
    split <;> simp
/-- a step without a give: all is as before but wet and wear, which are older -/
theorem GI_no (hc : c ≠ 149) (hR : RO h c n nb L) (hno : anyG (h00 h) c n so j nb = false) (hG : GI (h00 h) h' c n so j st nb) : (∀ k : Int, ¬ (6 ≤ k ∧ k < 18) → h' c k = h c k) ∧ (∀ b : Nat, b < nb → h' c (6 + 4 * b) = h c (6 + 4 * b) ∧ h' c (6 + 4 * b + 3) = h c (6 + 4 * b + 3) ∧ h' c (6 + 4 * b + 1) = (if mS h c b n = 0 then h c (6 + 4 * b + 1) else ageW (h c (6 + 4 * b + 1)) (sumF (rW h c b 1) n)) ∧ h' c (6 + 4 * b + 2) = (if mS h c b n = 0 then h c (6 + 4 * b + 2) else ageR (h c (6 + 4 * b + 2)) (sumF (rW h c b 2) n) so)) := by
  obtain ⟨-, hnb3, -, h8, -, -, -, hbk⟩ := hR
  have e : h00 h c = h c := by unfold h00; rw [up_ne hc, up_ne hc]
  have hno2 := anyG_f hno
  have hf := fL_0 hno2
  obtain ⟨g1, g2, g3, -⟩ := hG
  constructor
  · intro k hk
    rcases g2 k with q | ⟨t, q1, q2⟩ | q
    · omega
    · rw [q2, g3 t q1, hf, e]; simp
    · rw [q, e]
  · intro b hb
    obtain ⟨a1, a2, a3, a4⟩ := g1 b hb
    obtain ⟨c1, c2, c3, c4⟩ := mC_c (so := so) (j := j) (n := n) e b
    have hg := hno2 b hb
    rw [c4] at hg
    have hm := gv_f hg
    rw [c1] at a2 a3 a4
    rw [e] at a1
    have hgn : ((h c (6 + 4 * b + 3)).toNat : Int) = h c (6 + 4 * b + 3) := Int.toNat_of_nonneg (hbk b hb).2.2.2.1
    rw [a1, a2, a3, a4, hm]
    by_cases h0 : mS h c b n = 0
    · simp only [if_pos h0]; exact ⟨trivial, hgn, trivial, trivial⟩
    · simp only [if_neg h0]; exact ⟨trivial, hgn, trivial, trivial⟩
end HT
