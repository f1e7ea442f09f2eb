section EX2
variable {g h h' h1 h2 u : am_F} {Q : am_V → am_S → Prop} {so j bj k w r v c st : Int} {n nb L s K nx b i gg S B t : Nat}
theorem mC_g (h8 : n ≤ 8) (ht : ∀ t : Nat, t < n → g c (18 + 6 * t + 0) = h 83 t ∧ g c (18 + 6 * t + 1) = h 84 t ∧ g c (18 + 6 * t + 2) = h 85 t) (hk : g c (6 + 4 * b) = k) (hb : g c (6 + 4 * b + 1) = w ∧ g c (6 + 4 * b + 2) = r ∧ g c (6 + 4 * b + 3) = (gg : Int)) (hS : mS g c b n = S) : mC g c b n so j = cy h k so j w r gg S := by
  have key : ∀ (wh a : Int), (∀ t : Nat, t < n → g c (18 + 6 * t + wh) = h a t) → sumF (rW g c b wh) n = sumS (h a) S 8 := by
    intro wh a he
    unfold sumS
    rw [sumF_z h8]
    · refine sumF_c (fun t q => ?_)
      unfold rW
      rw [← hS, mS_bit, he t q]
      by_cases z : g c (18 + 6 * t + 5) = b
      · simp [z, q]
      · simp [z]
    · intro t q
      rw [← hS, mS_bit]
      simp [show ¬ t < n by omega]
  unfold mC
  rw [cy_core, hS, key 0 83 (fun t q => (ht t q).1), key 1 84 (fun t q => (ht t q).2.1), key 2 85 (fun t q => (ht t q).2.2), hk, hb.1, hb.2.1, hb.2.2, Int.toNat_natCast]
theorem adn_bit {f : Nat} (hS : S < 256) : (adn S f).testBit t = (S.testBit t && !f.testBit t) := by
  unfold adn
  rw [Nat.testBit_and, Nat.testBit_xor, show (255 : Nat) = 2 ^ 8 - 1 from rfl, Nat.testBit_two_pow_sub_one]
  by_cases h8 : t < 8
  · simp [h8]
  · have : S.testBit t = false := Nat.testBit_lt_two_pow (Nat.lt_of_lt_of_le hS (Nat.pow_le_pow_right (n := 2) (i := 8) (by decide) (by omega)))
    simp [this]
theorem fL_bit : ∀ B : Nat, ((fL h c n so j B).testBit t = true ↔ ∃ b : Nat, b < B ∧ (mC h c b n so j).2.2.2.2.testBit t = true) := by
  intro B
  induction B with
  | zero => simp [fL]
  | succ B ih =>
    rw [fL, Nat.testBit_or, Bool.or_eq_true, ih]
    constructor
    · rintro (⟨b, q1, q2⟩ | q)
      · exact ⟨b, by omega, q2⟩
      · exact ⟨B, by omega, q⟩
    · rintro ⟨b, q1, q2⟩
      by_cases e : b = B
      · subst e; exact Or.inr q2
      · exact Or.inl ⟨b, by omega, q2⟩
theorem mC_fall (h8 : n ≤ 8) (q : (mC h c b n so j).2.2.2.2.testBit t = true) : t < n ∧ h c (18 + 6 * t + 5) = (b : Int) := by
  have := core_sub (mS_lt h8) q
  rw [mS_bit, Bool.and_eq_true, decide_eq_true_eq, decide_eq_true_eq] at this
  exact this
theorem mC_S (h8 : n ≤ 8) : (mC h c b n so j).2.2.2.1.testBit t = ((mS h c b n).testBit t && !(mC h c b n so j).2.2.2.2.testBit t) := by
  have hS := mS_lt (h := h) (c := c) (b := (b : Int)) h8
  unfold mC core
  split
  · next e => simp
  · split
    · simp
    · exact adn_bit hS
theorem GI_S (h8 : n ≤ 8) (hs : 0 ≤ st) (h3 : nb ≤ 3) (hb : b < nb) (hG : GI h h' c n so j st nb) : mS h' c b n = (mC h c b n so j).2.2.2.1 := by
  apply Nat.eq_of_testBit_eq
  intro t
  rw [mC_S h8, mS_bit, mS_bit]
  by_cases ht : t < n
  · simp only [ht, decide_true, Bool.true_and]
    rw [hG.2.2.1 t ht]
    by_cases f : (fL h c n so j nb).testBit t = true
    · rw [if_pos f]
      obtain ⟨b', q1, q2⟩ := (fL_bit nb).mp f
      obtain ⟨-, q3⟩ := mC_fall h8 q2
      by_cases e : b' = b
      · subst e
        simp [q2]
        omega
      · have n1 : ¬ (10 + st = (b : Int)) := by omega
        have n2 : ¬ (h c (18 + 6 * t + 5) = (b : Int)) := by rw [q3]; omega
        simp [n1, n2]
    · rw [if_neg f]
      by_cases e : h c (18 + 6 * t + 5) = (b : Int)
      · have : ¬ (mC h c b n so j).2.2.2.2.testBit t = true := fun q => f ((fL_bit nb).mpr ⟨b, hb, q⟩)
        simp [e, this]
      · simp [e]
  · simp [ht]
/-- the tried row behind i steps is as the bags go on by themselves -/
def TR (h g : am_F) (n nb L s : Nat) (bj : Int) (i : Nat) : Prop := (g 151 0 = (nb : Int) ∧ g 151 1 = (n : Int) ∧ g 151 2 = (L : Int) ∧ g 151 3 = ((s + i : Nat) : Int)) ∧ (∀ b : Nat, b < nb → (g 151 (6 + 4 * b) = h 82 b ∧ g 151 (6 + 4 * b + 1) = (eS h n bj s b i).1 ∧ g 151 (6 + 4 * b + 2) = (eS h n bj s b i).2.1 ∧ g 151 (6 + 4 * b + 3) = ((eS h n bj s b i).2.2.1 : Int)) ∧ mS g 151 b n = (eS h n bj s b i).2.2.2) ∧ (∀ t : Nat, t < n → g 151 (18 + 6 * t + 0) = h 83 t ∧ g 151 (18 + 6 * t + 1) = h 84 t ∧ g 151 (18 + 6 * t + 2) = h 85 t) ∧ ∀ k : Nat, k < L → g 151 (66 + k) = h 89 k
def eU (h : am_F) (n : Nat) (bj : Int) (s i : Nat) : Nat → Nat
  | 0 => 0
  | B + 1 => eU h n bj s i B ||| eF h n bj s B i
theorem TR_0 (hP : Rp h 0 150 n nb L s) (e : g 150 = h 150) : TR h (cpy g 150 0 151 0 238) n nb L s bj 0 := by
  obtain ⟨r0, r1, r2, r3, r4, r5, r6, r7⟩ := id hP.1
  have p5 := hP.2.2.2.2.2.1
  have rd : ∀ k : Int, 0 ≤ k → k < 238 → cpy g 150 0 151 0 238 151 k = h 150 k := fun k q1 q2 => by rw [cpy_d q1 q2, e]
  refine ⟨⟨by rw [rd _ (by omega) (by omega), r0], by rw [rd _ (by omega) (by omega), r2], by rw [rd _ (by omega) (by omega), r4], by rw [rd _ (by omega) (by omega), p5]; rfl⟩, fun b hb => ⟨?_, ?_⟩, fun t ht => ?_, fun k hk => ?_⟩
  · obtain ⟨z1, z2, z3, z4⟩ := Rp_b hP (b := (b : Int)) (by omega) (by omega)
    have hb4 := (r7 b hb).2.2.2.1
    rw [rd _ (by omega) (by omega), rd _ (by omega) (by omega), rd _ (by omega) (by omega), rd _ (by omega) (by omega)]
    refine ⟨z1, z2, z3, ?_⟩
    show _ = ((h 93 b).toNat : Int)
    rw [← z4, Int.toNat_of_nonneg hb4]
  · show _ = cS h b n
    rw [cS_mS hP]
    exact setF_c (fun t ht => by rw [rd _ (by omega) (by omega)])
  · obtain ⟨y1, y2, y3, -⟩ := Rp_t hP (t := (t : Int)) (by omega) (by omega)
    rw [rd _ (by omega) (by omega), rd _ (by omega) (by omega), rd _ (by omega) (by omega)]
    exact ⟨y1, y2, y3⟩
  · rw [rd _ (by omega) (by omega), Rp_i hP (by omega) (by omega)]
theorem TR_RO (hC : CO h n nb L s) (hT : TR h g n nb L s bj i) : RO g 151 n nb L := by
  obtain ⟨c1, c2, c3, c4, c5, c6, c7, c8, c9, c10⟩ := id hC
  obtain ⟨⟨t0, t1, t2, t3⟩, tb, tt, tw⟩ := hT
  refine ⟨t0, c2, t1, c4, t2, c6, fun t ht => ?_, fun b hb => ?_⟩
  · obtain ⟨q1, q2, q3⟩ := tt t ht
    obtain ⟨y1, y2, y3⟩ := c9 t ht
    rw [q1, q2, q3]
    exact ⟨by omega, by omega, by omega⟩
  · obtain ⟨⟨q1, q2, q3, q4⟩, -⟩ := tb b hb
    obtain ⟨a1, a2, a3, -, -⟩ := eS_r (bj := bj) hC hb i
    unfold bk
    rw [q1, q2, q3, q4]
    exact ⟨(c10 b hb).1, a1, a2, by omega, by omega⟩
theorem s_goT (hC : CO h n nb L s) (hbj : 0 ≤ bj ∧ bj ≤ 7) (hi : s + i < L) (hT : TR h g n nb L s bj i) (hq : ∀ g', scT g g' → TR h g' n nb L s bj (i + 1) → (∀ b : Nat, b < nb → g 149 14 = (b : Int) → g' 149 15 = (eF h n bj s b i : Int)) → Q (aI (eU h n bj s i nb : Int)) (sT g')) : wp 125 (am_ju 125 0) [aP 149, aP 151, aI bj, aX, aX, aX, aX, aX, aX, aX] [] (sT g) Q := by
  obtain ⟨c1, c2, c3, c4, c5, c6, c7, c8, c9, c10⟩ := id hC
  obtain ⟨⟨t0, t1, t2, t3⟩, tb, tt, tw⟩ := id hT
  obtain ⟨r0, r1, r2, r3, r4, r5, r6, r7⟩ := TR_RO hC hT
  have eso : sortI h ((s + i : Nat) : Int) = h 89 ((s + i : Nat) : Int) := by unfold sortI; rw [if_pos ⟨by omega, by omega, by omega⟩]
  have hso : g 151 (66 + ((s + i : Nat) : Int)) = sortI h ((s + i : Nat) : Int) := by rw [eso]; exact tw (s + i) hi
  refine s_goes (so := sortI h ((s + i : Nat) : Int)) (st := ((s + i : Nat) : Int)) (nb := nb) (n := n) kd_151 (by decide) ln_151 c4 t1 t0 c2 r6 r7 hbj t3 ⟨by omega, by omega⟩ hso (fun h' hG => ?_)
  have e0 : h00 g 151 = g 151 := by unfold h00; rw [up_ne (by decide), up_ne (by decide)]
  have emC : ∀ b : Nat, b < nb → mC (h00 g) 151 b n (sortI h ((s + i : Nat) : Int)) (jl (sortI h ((s + i : Nat) : Int)) bj) = cy h (h 82 b) (sortI h ((s + i : Nat) : Int)) (jl (sortI h ((s + i : Nat) : Int)) bj) (eS h n bj s b i).1 (eS h n bj s b i).2.1 (eS h n bj s b i).2.2.1 (eS h n bj s b i).2.2.2 := fun b hb => by
    obtain ⟨⟨q1, q2, q3, q4⟩, q5⟩ := tb b hb
    rw [(mC_c e0 b).1]
    exact mC_g c4 tt q1 ⟨q2, q3, q4⟩ q5
  have efL : ∀ B : Nat, B ≤ nb → fL (h00 g) 151 n (sortI h ((s + i : Nat) : Int)) (jl (sortI h ((s + i : Nat) : Int)) bj) B = eU h n bj s i B := by
    intro B
    induction B with
    | zero => intro _; rfl
    | succ B ih => intro hB; rw [fL, eU, ih (by omega), emC B (by omega)]; rfl
  rw [efL nb (Nat.le_refl _)]
  have hsc : scT g (up h' 151 3 (((s + i : Nat) : Int) + 1)) := by
    refine ⟨fun a q1 q2 => ?_, fun k q1 q2 => ?_⟩
    · rw [up_ne q1, hG.2.2.2.1 a q1 q2]; unfold h00; rw [up_ne q2, up_ne q2]
    · rw [up_ne (by decide), hG.2.2.2.2.1 k q1 q2]; unfold h00; rw [up_k q2, up_k q1]
  have lo : ∀ k : Int, k < 6 ∨ 66 ≤ k → h' 151 k = g 151 k := fun k q => by
    rcases hG.2.1 k with z | ⟨u, z1, z2⟩ | z
    · omega
    · omega
    · rw [z, e0]
  refine hq _ hsc ⟨⟨?_, ?_, ?_, ?_⟩, fun b hb => ⟨?_, ?_⟩, fun t ht => ?_, fun k hk => ?_⟩ (fun b hb hw => ?_)
  · rw [up_k (by decide), lo 0 (by decide)]; exact t0
  · rw [up_k (by decide), lo 1 (by decide)]; exact t1
  · rw [up_k (by decide), lo 2 (by decide)]; exact t2
  · rw [up_s]; omega
  · have z := hG.1 b hb
    rw [emC b hb, e0] at z
    rw [up_k (by omega), up_k (by omega), up_k (by omega), up_k (by omega), eS_s, z.1, z.2.1, z.2.2.1, z.2.2.2]
    exact ⟨(tb b hb).1.1, rfl, rfl, rfl⟩
  · have z := GI_S c4 (show (0 : Int) ≤ ((s + i : Nat) : Int) by omega) c2 hb hG
    rw [emC b hb] at z
    rw [eS_s, ← z]
    exact setF_c (fun t ht => by rw [up_k (by omega)])
  · have z : ∀ m : Int, 0 ≤ m → m ≤ 4 → h' 151 (18 + 6 * t + m) = g 151 (18 + 6 * t + m) := fun m m0 m1 => by
      rcases hG.2.1 (18 + 6 * t + m) with z | ⟨u, z1, z2⟩ | z
      · omega
      · omega
      · rw [z, e0]
    rw [up_k (by omega), up_k (by omega), up_k (by omega), z 0 (by decide) (by decide), z 1 (by decide) (by decide), z 2 (by decide) (by decide)]
    exact tt t ht
  · rw [up_k (by omega), lo _ (by omega)]; exact tw k hk
  · have h14 : h00 g 149 14 = (b : Int) := by unfold h00; rw [up_k (by decide), up_k (by decide), hw]
    have z := hG.2.2.2.2.2.2
    rw [h14] at z
    rw [up_ne (by decide), z]
    by_cases y : gvB (h00 g) 151 b n (sortI h ((s + i : Nat) : Int)) (jl (sortI h ((s + i : Nat) : Int)) bj) = true
    · rw [if_pos ⟨by omega, by omega, y⟩, emC b hb]; rfl
    · rw [if_neg (fun q => y q.2.2)]
      have y' : gvB (h00 g) 151 b n (sortI h ((s + i : Nat) : Int)) (jl (sortI h ((s + i : Nat) : Int)) bj) = false := by simpa using y
      have m0 := gv_f y'
      have : eF h n bj s b i = 0 := by
        show (cy h (h 82 b) (sortI h ((s + i : Nat) : Int)) (jl (sortI h ((s + i : Nat) : Int)) bj) (eS h n bj s b i).1 (eS h n bj s b i).2.1 (eS h n bj s b i).2.2.1 (eS h n bj s b i).2.2.2).2.2.2.2 = 0
        rw [← emC b hb, m0]
        split <;> rfl
      rw [this]
      unfold h00
      rw [up_s]
      rfl
end EX2
