theorem b01 (c : Prop) [Decidable c] : ((if c then (1 : Int) else 0) = 0) = ¬ c := by by_cases h : c <;> simp [h]
section T1
variable {h : am_F} {Q : am_V → am_S → Prop} {c d i j k n v w x : Int}
theorem s_isBelow : wp 12 (am_ju 12 0) [aI x, aI n] [] (sT h) Q ↔ Q (aI (if 0 ≤ x ∧ x < n then 1 else 0)) (sT h) := by
  simp only [ju_12_0, ju_12_7, ju_12_8, r_iLD0, r_IF2, r_iLD1, r_IC3, r_iCONST, r_GOTO, r_zRET, w8_0, w8_1, w8_2, w8_3, w8_4, nl_I, nl_P, nl_X, pu_I, pu_J, pu_V]
  by_cases h1 : x < 0
  · simp [h1, show ¬ 0 ≤ x by omega, r_zRET]
  · by_cases h2 : n ≤ x
    · simp [h1, h2, show ¬ x < n by omega, r_zRET]
    · simp [h1, h2, show 0 ≤ x by omega, show x < n by omega, r_zRET]
theorem s_hasBag (hk : kd c = 2) : wp 28 (am_ju 28 0) [aP c, aI x] [] (sT h) Q ↔ Q (aI (if 0 ≤ x ∧ x < h c 6 then 1 else 0)) (sT h) := by
  simp only [ju_28_0, r_iLD1, r_aLD0, r_gI, cl_12, r_zRET, w8_0, w8_1, w8_2, w8_3, w8_4, nl_I, nl_P, nl_X, pu_I, pu_J, pu_V, hk, s_isBelow]
  sorry
end T1
