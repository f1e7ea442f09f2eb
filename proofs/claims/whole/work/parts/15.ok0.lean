def am_ok (m a n : Nat) : Bool := ((((am_pr m).drop a).take n).zipIdx).all (fun q => am_chk m (a + q.2) q.1)
theorem am_ok_of {m a n i : Nat} {x : am_I} (h : am_ok m a n = true) (h1 : a ≤ i) (h2 : i < a + n) (hx : (am_pr m)[i]? = some x) : am_chk m i x = true := by
  unfold am_ok at h
  have hm : (x, i - a) ∈ (((am_pr m).drop a).take n).zipIdx := by
    refine List.mem_of_getElem? (i := i - a) ?_
    rw [List.getElem?_zipIdx, List.getElem?_take_of_lt (by omega), List.getElem?_drop, show a + (i - a) = i by omega, hx]
    simp
  have := List.all_eq_true.mp h _ hm
  rwa [show a + (i - a) = i by omega] at this
theorem ok_0_0 : am_ok 0 0 33 = true := by decide +kernel
theorem okm_0 {i : Nat} {x : am_I} (hx : (am_pr 0)[i]? = some x) : am_chk 0 i x = true := by
  have hl : i < 33 := (List.getElem?_eq_some_iff.mp hx).1
  exact am_ok_of ok_0_0 (by omega) (by omega) hx
theorem ok_1_0 : am_ok 1 0 10 = true := by decide +kernel
theorem okm_1 {i : Nat} {x : am_I} (hx : (am_pr 1)[i]? = some x) : am_chk 1 i x = true := by
  have hl : i < 10 := (List.getElem?_eq_some_iff.mp hx).1
  exact am_ok_of ok_1_0 (by omega) (by omega) hx
theorem ok_2_0 : am_ok 2 0 25 = true := by decide +kernel
theorem okm_2 {i : Nat} {x : am_I} (hx : (am_pr 2)[i]? = some x) : am_chk 2 i x = true := by
  have hl : i < 25 := (List.getElem?_eq_some_iff.mp hx).1
  exact am_ok_of ok_2_0 (by omega) (by omega) hx
theorem ok_3_0 : am_ok 3 0 27 = true := by decide +kernel
theorem okm_3 {i : Nat} {x : am_I} (hx : (am_pr 3)[i]? = some x) : am_chk 3 i x = true := by
  have hl : i < 27 := (List.getElem?_eq_some_iff.mp hx).1
  exact am_ok_of ok_3_0 (by omega) (by omega) hx
theorem ok_4_0 : am_ok 4 0 23 = true := by decide +kernel
theorem okm_4 {i : Nat} {x : am_I} (hx : (am_pr 4)[i]? = some x) : am_chk 4 i x = true := by
  have hl : i < 23 := (List.getElem?_eq_some_iff.mp hx).1
  exact am_ok_of ok_4_0 (by omega) (by omega) hx
theorem ok_5_0 : am_ok 5 0 27 = true := by decide +kernel
theorem okm_5 {i : Nat} {x : am_I} (hx : (am_pr 5)[i]? = some x) : am_chk 5 i x = true := by
  have hl : i < 27 := (List.getElem?_eq_some_iff.mp hx).1
  exact am_ok_of ok_5_0 (by omega) (by omega) hx
theorem ok_6_0 : am_ok 6 0 13 = true := by decide +kernel
theorem okm_6 {i : Nat} {x : am_I} (hx : (am_pr 6)[i]? = some x) : am_chk 6 i x = true := by
  have hl : i < 13 := (List.getElem?_eq_some_iff.mp hx).1
  exact am_ok_of ok_6_0 (by omega) (by omega) hx
theorem ok_7_0 : am_ok 7 0 16 = true := by decide +kernel
theorem okm_7 {i : Nat} {x : am_I} (hx : (am_pr 7)[i]? = some x) : am_chk 7 i x = true := by
  have hl : i < 16 := (List.getElem?_eq_some_iff.mp hx).1
  exact am_ok_of ok_7_0 (by omega) (by omega) hx
theorem ok_8_0 : am_ok 8 0 41 = true := by decide +kernel
theorem okm_8 {i : Nat} {x : am_I} (hx : (am_pr 8)[i]? = some x) : am_chk 8 i x = true := by
  have hl : i < 41 := (List.getElem?_eq_some_iff.mp hx).1
  exact am_ok_of ok_8_0 (by omega) (by omega) hx
theorem ok_9_0 : am_ok 9 0 21 = true := by decide +kernel
theorem okm_9 {i : Nat} {x : am_I} (hx : (am_pr 9)[i]? = some x) : am_chk 9 i x = true := by
  have hl : i < 21 := (List.getElem?_eq_some_iff.mp hx).1
  exact am_ok_of ok_9_0 (by omega) (by omega) hx
theorem ok_10_0 : am_ok 10 0 60 = true := by decide +kernel
theorem ok_10_60 : am_ok 10 60 22 = true := by decide +kernel
theorem okm_10 {i : Nat} {x : am_I} (hx : (am_pr 10)[i]? = some x) : am_chk 10 i x = true := by
  have hl : i < 82 := (List.getElem?_eq_some_iff.mp hx).1
  by_cases h60 : i < 60
  · exact am_ok_of ok_10_0 (by omega) (by omega) hx
  exact am_ok_of ok_10_60 (by omega) (by omega) hx
theorem ok_11_0 : am_ok 11 0 60 = true := by decide +kernel
theorem ok_11_60 : am_ok 11 60 8 = true := by decide +kernel
theorem okm_11 {i : Nat} {x : am_I} (hx : (am_pr 11)[i]? = some x) : am_chk 11 i x = true := by
  have hl : i < 68 := (List.getElem?_eq_some_iff.mp hx).1
  by_cases h60 : i < 60
  · exact am_ok_of ok_11_0 (by omega) (by omega) hx
  exact am_ok_of ok_11_60 (by omega) (by omega) hx
theorem ok_12_0 : am_ok 12 0 9 = true := by decide +kernel
theorem okm_12 {i : Nat} {x : am_I} (hx : (am_pr 12)[i]? = some x) : am_chk 12 i x = true := by
  have hl : i < 9 := (List.getElem?_eq_some_iff.mp hx).1
  exact am_ok_of ok_12_0 (by omega) (by omega) hx
theorem ok_13_0 : am_ok 13 0 21 = true := by decide +kernel
theorem okm_13 {i : Nat} {x : am_I} (hx : (am_pr 13)[i]? = some x) : am_chk 13 i x = true := by
  have hl : i < 21 := (List.getElem?_eq_some_iff.mp hx).1
  exact am_ok_of ok_13_0 (by omega) (by omega) hx
theorem ok_14_0 : am_ok 14 0 18 = true := by decide +kernel
theorem okm_14 {i : Nat} {x : am_I} (hx : (am_pr 14)[i]? = some x) : am_chk 14 i x = true := by
  have hl : i < 18 := (List.getElem?_eq_some_iff.mp hx).1
  exact am_ok_of ok_14_0 (by omega) (by omega) hx
theorem ok_15_0 : am_ok 15 0 15 = true := by decide +kernel
theorem okm_15 {i : Nat} {x : am_I} (hx : (am_pr 15)[i]? = some x) : am_chk 15 i x = true := by
  have hl : i < 15 := (List.getElem?_eq_some_iff.mp hx).1
  exact am_ok_of ok_15_0 (by omega) (by omega) hx
theorem ok_16_0 : am_ok 16 0 25 = true := by decide +kernel
theorem okm_16 {i : Nat} {x : am_I} (hx : (am_pr 16)[i]? = some x) : am_chk 16 i x = true := by
  have hl : i < 25 := (List.getElem?_eq_some_iff.mp hx).1
  exact am_ok_of ok_16_0 (by omega) (by omega) hx
theorem ok_17_0 : am_ok 17 0 10 = true := by decide +kernel
theorem okm_17 {i : Nat} {x : am_I} (hx : (am_pr 17)[i]? = some x) : am_chk 17 i x = true := by
  have hl : i < 10 := (List.getElem?_eq_some_iff.mp hx).1
  exact am_ok_of ok_17_0 (by omega) (by omega) hx
theorem ok_18_0 : am_ok 18 0 6 = true := by decide +kernel
theorem okm_18 {i : Nat} {x : am_I} (hx : (am_pr 18)[i]? = some x) : am_chk 18 i x = true := by
  have hl : i < 6 := (List.getElem?_eq_some_iff.mp hx).1
  exact am_ok_of ok_18_0 (by omega) (by omega) hx
theorem ok_19_0 : am_ok 19 0 41 = true := by decide +kernel
theorem okm_19 {i : Nat} {x : am_I} (hx : (am_pr 19)[i]? = some x) : am_chk 19 i x = true := by
  have hl : i < 41 := (List.getElem?_eq_some_iff.mp hx).1
  exact am_ok_of ok_19_0 (by omega) (by omega) hx
theorem ok_20_0 : am_ok 20 0 26 = true := by decide +kernel
theorem okm_20 {i : Nat} {x : am_I} (hx : (am_pr 20)[i]? = some x) : am_chk 20 i x = true := by
  have hl : i < 26 := (List.getElem?_eq_some_iff.mp hx).1
  exact am_ok_of ok_20_0 (by omega) (by omega) hx
theorem ok_21_0 : am_ok 21 0 18 = true := by decide +kernel
theorem okm_21 {i : Nat} {x : am_I} (hx : (am_pr 21)[i]? = some x) : am_chk 21 i x = true := by
  have hl : i < 18 := (List.getElem?_eq_some_iff.mp hx).1
  exact am_ok_of ok_21_0 (by omega) (by omega) hx
theorem ok_22_0 : am_ok 22 0 42 = true := by decide +kernel
theorem okm_22 {i : Nat} {x : am_I} (hx : (am_pr 22)[i]? = some x) : am_chk 22 i x = true := by
  have hl : i < 42 := (List.getElem?_eq_some_iff.mp hx).1
  exact am_ok_of ok_22_0 (by omega) (by omega) hx
theorem ok_23_0 : am_ok 23 0 21 = true := by decide +kernel
theorem okm_23 {i : Nat} {x : am_I} (hx : (am_pr 23)[i]? = some x) : am_chk 23 i x = true := by
  have hl : i < 21 := (List.getElem?_eq_some_iff.mp hx).1
  exact am_ok_of ok_23_0 (by omega) (by omega) hx
theorem ok_24_0 : am_ok 24 0 49 = true := by decide +kernel
theorem okm_24 {i : Nat} {x : am_I} (hx : (am_pr 24)[i]? = some x) : am_chk 24 i x = true := by
  have hl : i < 49 := (List.getElem?_eq_some_iff.mp hx).1
  exact am_ok_of ok_24_0 (by omega) (by omega) hx
theorem ok_25_0 : am_ok 25 0 6 = true := by decide +kernel
theorem okm_25 {i : Nat} {x : am_I} (hx : (am_pr 25)[i]? = some x) : am_chk 25 i x = true := by
  have hl : i < 6 := (List.getElem?_eq_some_iff.mp hx).1
  exact am_ok_of ok_25_0 (by omega) (by omega) hx
theorem ok_26_0 : am_ok 26 0 60 = true := by decide +kernel
theorem ok_26_60 : am_ok 26 60 43 = true := by decide +kernel
theorem okm_26 {i : Nat} {x : am_I} (hx : (am_pr 26)[i]? = some x) : am_chk 26 i x = true := by
  have hl : i < 103 := (List.getElem?_eq_some_iff.mp hx).1
  by_cases h60 : i < 60
  · exact am_ok_of ok_26_0 (by omega) (by omega) hx
  exact am_ok_of ok_26_60 (by omega) (by omega) hx
theorem ok_27_0 : am_ok 27 0 5 = true := by decide +kernel
theorem okm_27 {i : Nat} {x : am_I} (hx : (am_pr 27)[i]? = some x) : am_chk 27 i x = true := by
  have hl : i < 5 := (List.getElem?_eq_some_iff.mp hx).1
  exact am_ok_of ok_27_0 (by omega) (by omega) hx
theorem ok_28_0 : am_ok 28 0 5 = true := by decide +kernel
theorem okm_28 {i : Nat} {x : am_I} (hx : (am_pr 28)[i]? = some x) : am_chk 28 i x = true := by
  have hl : i < 5 := (List.getElem?_eq_some_iff.mp hx).1
  exact am_ok_of ok_28_0 (by omega) (by omega) hx
theorem ok_29_0 : am_ok 29 0 10 = true := by decide +kernel
theorem okm_29 {i : Nat} {x : am_I} (hx : (am_pr 29)[i]? = some x) : am_chk 29 i x = true := by
  have hl : i < 10 := (List.getElem?_eq_some_iff.mp hx).1
  exact am_ok_of ok_29_0 (by omega) (by omega) hx
theorem ok_30_0 : am_ok 30 0 13 = true := by decide +kernel
theorem okm_30 {i : Nat} {x : am_I} (hx : (am_pr 30)[i]? = some x) : am_chk 30 i x = true := by
  have hl : i < 13 := (List.getElem?_eq_some_iff.mp hx).1
  exact am_ok_of ok_30_0 (by omega) (by omega) hx
theorem ok_31_0 : am_ok 31 0 31 = true := by decide +kernel
theorem okm_31 {i : Nat} {x : am_I} (hx : (am_pr 31)[i]? = some x) : am_chk 31 i x = true := by
  have hl : i < 31 := (List.getElem?_eq_some_iff.mp hx).1
  exact am_ok_of ok_31_0 (by omega) (by omega) hx
theorem ok_32_0 : am_ok 32 0 10 = true := by decide +kernel
theorem okm_32 {i : Nat} {x : am_I} (hx : (am_pr 32)[i]? = some x) : am_chk 32 i x = true := by
  have hl : i < 10 := (List.getElem?_eq_some_iff.mp hx).1
  exact am_ok_of ok_32_0 (by omega) (by omega) hx
theorem ok_33_0 : am_ok 33 0 10 = true := by decide +kernel
theorem okm_33 {i : Nat} {x : am_I} (hx : (am_pr 33)[i]? = some x) : am_chk 33 i x = true := by
  have hl : i < 10 := (List.getElem?_eq_some_iff.mp hx).1
  exact am_ok_of ok_33_0 (by omega) (by omega) hx
theorem ok_34_0 : am_ok 34 0 11 = true := by decide +kernel
theorem okm_34 {i : Nat} {x : am_I} (hx : (am_pr 34)[i]? = some x) : am_chk 34 i x = true := by
  have hl : i < 11 := (List.getElem?_eq_some_iff.mp hx).1
  exact am_ok_of ok_34_0 (by omega) (by omega) hx
theorem ok_35_0 : am_ok 35 0 24 = true := by decide +kernel
theorem okm_35 {i : Nat} {x : am_I} (hx : (am_pr 35)[i]? = some x) : am_chk 35 i x = true := by
  have hl : i < 24 := (List.getElem?_eq_some_iff.mp hx).1
  exact am_ok_of ok_35_0 (by omega) (by omega) hx
theorem ok_36_0 : am_ok 36 0 34 = true := by decide +kernel
theorem okm_36 {i : Nat} {x : am_I} (hx : (am_pr 36)[i]? = some x) : am_chk 36 i x = true := by
  have hl : i < 34 := (List.getElem?_eq_some_iff.mp hx).1
  exact am_ok_of ok_36_0 (by omega) (by omega) hx
theorem ok_37_0 : am_ok 37 0 15 = true := by decide +kernel
theorem okm_37 {i : Nat} {x : am_I} (hx : (am_pr 37)[i]? = some x) : am_chk 37 i x = true := by
  have hl : i < 15 := (List.getElem?_eq_some_iff.mp hx).1
  exact am_ok_of ok_37_0 (by omega) (by omega) hx
theorem ok_38_0 : am_ok 38 0 24 = true := by decide +kernel
theorem okm_38 {i : Nat} {x : am_I} (hx : (am_pr 38)[i]? = some x) : am_chk 38 i x = true := by
  have hl : i < 24 := (List.getElem?_eq_some_iff.mp hx).1
  exact am_ok_of ok_38_0 (by omega) (by omega) hx
theorem ok_39_0 : am_ok 39 0 26 = true := by decide +kernel
theorem okm_39 {i : Nat} {x : am_I} (hx : (am_pr 39)[i]? = some x) : am_chk 39 i x = true := by
  have hl : i < 26 := (List.getElem?_eq_some_iff.mp hx).1
  exact am_ok_of ok_39_0 (by omega) (by omega) hx
theorem ok_40_0 : am_ok 40 0 22 = true := by decide +kernel
theorem okm_40 {i : Nat} {x : am_I} (hx : (am_pr 40)[i]? = some x) : am_chk 40 i x = true := by
  have hl : i < 22 := (List.getElem?_eq_some_iff.mp hx).1
  exact am_ok_of ok_40_0 (by omega) (by omega) hx
theorem ok_41_0 : am_ok 41 0 22 = true := by decide +kernel
theorem okm_41 {i : Nat} {x : am_I} (hx : (am_pr 41)[i]? = some x) : am_chk 41 i x = true := by
  have hl : i < 22 := (List.getElem?_eq_some_iff.mp hx).1
  exact am_ok_of ok_41_0 (by omega) (by omega) hx
theorem ok_42_0 : am_ok 42 0 40 = true := by decide +kernel
theorem okm_42 {i : Nat} {x : am_I} (hx : (am_pr 42)[i]? = some x) : am_chk 42 i x = true := by
  have hl : i < 40 := (List.getElem?_eq_some_iff.mp hx).1
  exact am_ok_of ok_42_0 (by omega) (by omega) hx
theorem ok_43_0 : am_ok 43 0 8 = true := by decide +kernel
theorem okm_43 {i : Nat} {x : am_I} (hx : (am_pr 43)[i]? = some x) : am_chk 43 i x = true := by
  have hl : i < 8 := (List.getElem?_eq_some_iff.mp hx).1
  exact am_ok_of ok_43_0 (by omega) (by omega) hx
theorem ok_44_0 : am_ok 44 0 50 = true := by decide +kernel
theorem okm_44 {i : Nat} {x : am_I} (hx : (am_pr 44)[i]? = some x) : am_chk 44 i x = true := by
  have hl : i < 50 := (List.getElem?_eq_some_iff.mp hx).1
  exact am_ok_of ok_44_0 (by omega) (by omega) hx
theorem ok_45_0 : am_ok 45 0 29 = true := by decide +kernel
theorem okm_45 {i : Nat} {x : am_I} (hx : (am_pr 45)[i]? = some x) : am_chk 45 i x = true := by
  have hl : i < 29 := (List.getElem?_eq_some_iff.mp hx).1
  exact am_ok_of ok_45_0 (by omega) (by omega) hx
theorem ok_46_0 : am_ok 46 0 32 = true := by decide +kernel
theorem okm_46 {i : Nat} {x : am_I} (hx : (am_pr 46)[i]? = some x) : am_chk 46 i x = true := by
  have hl : i < 32 := (List.getElem?_eq_some_iff.mp hx).1
  exact am_ok_of ok_46_0 (by omega) (by omega) hx
theorem ok_47_0 : am_ok 47 0 16 = true := by decide +kernel
theorem okm_47 {i : Nat} {x : am_I} (hx : (am_pr 47)[i]? = some x) : am_chk 47 i x = true := by
  have hl : i < 16 := (List.getElem?_eq_some_iff.mp hx).1
  exact am_ok_of ok_47_0 (by omega) (by omega) hx
theorem ok_48_0 : am_ok 48 0 44 = true := by decide +kernel
theorem okm_48 {i : Nat} {x : am_I} (hx : (am_pr 48)[i]? = some x) : am_chk 48 i x = true := by
  have hl : i < 44 := (List.getElem?_eq_some_iff.mp hx).1
  exact am_ok_of ok_48_0 (by omega) (by omega) hx
theorem ok_49_0 : am_ok 49 0 31 = true := by decide +kernel
theorem okm_49 {i : Nat} {x : am_I} (hx : (am_pr 49)[i]? = some x) : am_chk 49 i x = true := by
  have hl : i < 31 := (List.getElem?_eq_some_iff.mp hx).1
  exact am_ok_of ok_49_0 (by omega) (by omega) hx
theorem ok_50_0 : am_ok 50 0 12 = true := by decide +kernel
theorem okm_50 {i : Nat} {x : am_I} (hx : (am_pr 50)[i]? = some x) : am_chk 50 i x = true := by
  have hl : i < 12 := (List.getElem?_eq_some_iff.mp hx).1
  exact am_ok_of ok_50_0 (by omega) (by omega) hx
theorem ok_51_0 : am_ok 51 0 34 = true := by decide +kernel
theorem okm_51 {i : Nat} {x : am_I} (hx : (am_pr 51)[i]? = some x) : am_chk 51 i x = true := by
  have hl : i < 34 := (List.getElem?_eq_some_iff.mp hx).1
  exact am_ok_of ok_51_0 (by omega) (by omega) hx
theorem ok_52_0 : am_ok 52 0 27 = true := by decide +kernel
theorem okm_52 {i : Nat} {x : am_I} (hx : (am_pr 52)[i]? = some x) : am_chk 52 i x = true := by
  have hl : i < 27 := (List.getElem?_eq_some_iff.mp hx).1
  exact am_ok_of ok_52_0 (by omega) (by omega) hx
theorem ok_53_0 : am_ok 53 0 60 = true := by decide +kernel
theorem ok_53_60 : am_ok 53 60 31 = true := by decide +kernel
theorem okm_53 {i : Nat} {x : am_I} (hx : (am_pr 53)[i]? = some x) : am_chk 53 i x = true := by
  have hl : i < 91 := (List.getElem?_eq_some_iff.mp hx).1
  by_cases h60 : i < 60
  · exact am_ok_of ok_53_0 (by omega) (by omega) hx
  exact am_ok_of ok_53_60 (by omega) (by omega) hx
theorem ok_54_0 : am_ok 54 0 17 = true := by decide +kernel
theorem okm_54 {i : Nat} {x : am_I} (hx : (am_pr 54)[i]? = some x) : am_chk 54 i x = true := by
  have hl : i < 17 := (List.getElem?_eq_some_iff.mp hx).1
  exact am_ok_of ok_54_0 (by omega) (by omega) hx
theorem ok_55_0 : am_ok 55 0 42 = true := by decide +kernel
theorem okm_55 {i : Nat} {x : am_I} (hx : (am_pr 55)[i]? = some x) : am_chk 55 i x = true := by
  have hl : i < 42 := (List.getElem?_eq_some_iff.mp hx).1
  exact am_ok_of ok_55_0 (by omega) (by omega) hx
theorem ok_56_0 : am_ok 56 0 37 = true := by decide +kernel
theorem okm_56 {i : Nat} {x : am_I} (hx : (am_pr 56)[i]? = some x) : am_chk 56 i x = true := by
  have hl : i < 37 := (List.getElem?_eq_some_iff.mp hx).1
  exact am_ok_of ok_56_0 (by omega) (by omega) hx
theorem ok_57_0 : am_ok 57 0 32 = true := by decide +kernel
theorem okm_57 {i : Nat} {x : am_I} (hx : (am_pr 57)[i]? = some x) : am_chk 57 i x = true := by
  have hl : i < 32 := (List.getElem?_eq_some_iff.mp hx).1
  exact am_ok_of ok_57_0 (by omega) (by omega) hx
theorem ok_58_0 : am_ok 58 0 56 = true := by decide +kernel
theorem okm_58 {i : Nat} {x : am_I} (hx : (am_pr 58)[i]? = some x) : am_chk 58 i x = true := by
  have hl : i < 56 := (List.getElem?_eq_some_iff.mp hx).1
  exact am_ok_of ok_58_0 (by omega) (by omega) hx
theorem ok_59_0 : am_ok 59 0 23 = true := by decide +kernel
theorem okm_59 {i : Nat} {x : am_I} (hx : (am_pr 59)[i]? = some x) : am_chk 59 i x = true := by
  have hl : i < 23 := (List.getElem?_eq_some_iff.mp hx).1
  exact am_ok_of ok_59_0 (by omega) (by omega) hx
theorem ok_60_0 : am_ok 60 0 46 = true := by decide +kernel
theorem okm_60 {i : Nat} {x : am_I} (hx : (am_pr 60)[i]? = some x) : am_chk 60 i x = true := by
  have hl : i < 46 := (List.getElem?_eq_some_iff.mp hx).1
  exact am_ok_of ok_60_0 (by omega) (by omega) hx
theorem ok_61_0 : am_ok 61 0 19 = true := by decide +kernel
theorem okm_61 {i : Nat} {x : am_I} (hx : (am_pr 61)[i]? = some x) : am_chk 61 i x = true := by
  have hl : i < 19 := (List.getElem?_eq_some_iff.mp hx).1
  exact am_ok_of ok_61_0 (by omega) (by omega) hx
theorem ok_62_0 : am_ok 62 0 38 = true := by decide +kernel
theorem okm_62 {i : Nat} {x : am_I} (hx : (am_pr 62)[i]? = some x) : am_chk 62 i x = true := by
  have hl : i < 38 := (List.getElem?_eq_some_iff.mp hx).1
  exact am_ok_of ok_62_0 (by omega) (by omega) hx
theorem ok_63_0 : am_ok 63 0 38 = true := by decide +kernel
theorem okm_63 {i : Nat} {x : am_I} (hx : (am_pr 63)[i]? = some x) : am_chk 63 i x = true := by
  have hl : i < 38 := (List.getElem?_eq_some_iff.mp hx).1
  exact am_ok_of ok_63_0 (by omega) (by omega) hx
theorem ok_64_0 : am_ok 64 0 18 = true := by decide +kernel
theorem okm_64 {i : Nat} {x : am_I} (hx : (am_pr 64)[i]? = some x) : am_chk 64 i x = true := by
  have hl : i < 18 := (List.getElem?_eq_some_iff.mp hx).1
  exact am_ok_of ok_64_0 (by omega) (by omega) hx
theorem ok_65_0 : am_ok 65 0 23 = true := by decide +kernel
theorem okm_65 {i : Nat} {x : am_I} (hx : (am_pr 65)[i]? = some x) : am_chk 65 i x = true := by
  have hl : i < 23 := (List.getElem?_eq_some_iff.mp hx).1
  exact am_ok_of ok_65_0 (by omega) (by omega) hx
theorem ok_66_0 : am_ok 66 0 28 = true := by decide +kernel
theorem okm_66 {i : Nat} {x : am_I} (hx : (am_pr 66)[i]? = some x) : am_chk 66 i x = true := by
  have hl : i < 28 := (List.getElem?_eq_some_iff.mp hx).1
  exact am_ok_of ok_66_0 (by omega) (by omega) hx
theorem ok_67_0 : am_ok 67 0 40 = true := by decide +kernel
theorem okm_67 {i : Nat} {x : am_I} (hx : (am_pr 67)[i]? = some x) : am_chk 67 i x = true := by
  have hl : i < 40 := (List.getElem?_eq_some_iff.mp hx).1
  exact am_ok_of ok_67_0 (by omega) (by omega) hx
theorem ok_68_0 : am_ok 68 0 14 = true := by decide +kernel
theorem okm_68 {i : Nat} {x : am_I} (hx : (am_pr 68)[i]? = some x) : am_chk 68 i x = true := by
  have hl : i < 14 := (List.getElem?_eq_some_iff.mp hx).1
  exact am_ok_of ok_68_0 (by omega) (by omega) hx
theorem ok_69_0 : am_ok 69 0 5 = true := by decide +kernel
theorem okm_69 {i : Nat} {x : am_I} (hx : (am_pr 69)[i]? = some x) : am_chk 69 i x = true := by
  have hl : i < 5 := (List.getElem?_eq_some_iff.mp hx).1
  exact am_ok_of ok_69_0 (by omega) (by omega) hx
theorem ok_70_0 : am_ok 70 0 44 = true := by decide +kernel
theorem okm_70 {i : Nat} {x : am_I} (hx : (am_pr 70)[i]? = some x) : am_chk 70 i x = true := by
  have hl : i < 44 := (List.getElem?_eq_some_iff.mp hx).1
  exact am_ok_of ok_70_0 (by omega) (by omega) hx
theorem ok_71_0 : am_ok 71 0 11 = true := by decide +kernel
theorem okm_71 {i : Nat} {x : am_I} (hx : (am_pr 71)[i]? = some x) : am_chk 71 i x = true := by
  have hl : i < 11 := (List.getElem?_eq_some_iff.mp hx).1
  exact am_ok_of ok_71_0 (by omega) (by omega) hx
theorem ok_72_0 : am_ok 72 0 10 = true := by decide +kernel
theorem okm_72 {i : Nat} {x : am_I} (hx : (am_pr 72)[i]? = some x) : am_chk 72 i x = true := by
  have hl : i < 10 := (List.getElem?_eq_some_iff.mp hx).1
  exact am_ok_of ok_72_0 (by omega) (by omega) hx
theorem ok_73_0 : am_ok 73 0 13 = true := by decide +kernel
theorem okm_73 {i : Nat} {x : am_I} (hx : (am_pr 73)[i]? = some x) : am_chk 73 i x = true := by
  have hl : i < 13 := (List.getElem?_eq_some_iff.mp hx).1
  exact am_ok_of ok_73_0 (by omega) (by omega) hx
theorem ok_74_0 : am_ok 74 0 19 = true := by decide +kernel
theorem okm_74 {i : Nat} {x : am_I} (hx : (am_pr 74)[i]? = some x) : am_chk 74 i x = true := by
  have hl : i < 19 := (List.getElem?_eq_some_iff.mp hx).1
  exact am_ok_of ok_74_0 (by omega) (by omega) hx
theorem ok_75_0 : am_ok 75 0 32 = true := by decide +kernel
theorem okm_75 {i : Nat} {x : am_I} (hx : (am_pr 75)[i]? = some x) : am_chk 75 i x = true := by
  have hl : i < 32 := (List.getElem?_eq_some_iff.mp hx).1
  exact am_ok_of ok_75_0 (by omega) (by omega) hx
theorem ok_76_0 : am_ok 76 0 27 = true := by decide +kernel
theorem okm_76 {i : Nat} {x : am_I} (hx : (am_pr 76)[i]? = some x) : am_chk 76 i x = true := by
  have hl : i < 27 := (List.getElem?_eq_some_iff.mp hx).1
  exact am_ok_of ok_76_0 (by omega) (by omega) hx
theorem ok_77_0 : am_ok 77 0 10 = true := by decide +kernel
theorem okm_77 {i : Nat} {x : am_I} (hx : (am_pr 77)[i]? = some x) : am_chk 77 i x = true := by
  have hl : i < 10 := (List.getElem?_eq_some_iff.mp hx).1
  exact am_ok_of ok_77_0 (by omega) (by omega) hx
theorem ok_78_0 : am_ok 78 0 60 = true := by decide +kernel
theorem ok_78_60 : am_ok 78 60 32 = true := by decide +kernel
theorem okm_78 {i : Nat} {x : am_I} (hx : (am_pr 78)[i]? = some x) : am_chk 78 i x = true := by
  have hl : i < 92 := (List.getElem?_eq_some_iff.mp hx).1
  by_cases h60 : i < 60
  · exact am_ok_of ok_78_0 (by omega) (by omega) hx
  exact am_ok_of ok_78_60 (by omega) (by omega) hx
theorem ok_79_0 : am_ok 79 0 15 = true := by decide +kernel
theorem okm_79 {i : Nat} {x : am_I} (hx : (am_pr 79)[i]? = some x) : am_chk 79 i x = true := by
  have hl : i < 15 := (List.getElem?_eq_some_iff.mp hx).1
  exact am_ok_of ok_79_0 (by omega) (by omega) hx
theorem ok_80_0 : am_ok 80 0 12 = true := by decide +kernel
theorem okm_80 {i : Nat} {x : am_I} (hx : (am_pr 80)[i]? = some x) : am_chk 80 i x = true := by
  have hl : i < 12 := (List.getElem?_eq_some_iff.mp hx).1
  exact am_ok_of ok_80_0 (by omega) (by omega) hx
theorem ok_81_0 : am_ok 81 0 54 = true := by decide +kernel
theorem okm_81 {i : Nat} {x : am_I} (hx : (am_pr 81)[i]? = some x) : am_chk 81 i x = true := by
  have hl : i < 54 := (List.getElem?_eq_some_iff.mp hx).1
  exact am_ok_of ok_81_0 (by omega) (by omega) hx
theorem ok_82_0 : am_ok 82 0 60 = true := by decide +kernel
theorem ok_82_60 : am_ok 82 60 5 = true := by decide +kernel
theorem okm_82 {i : Nat} {x : am_I} (hx : (am_pr 82)[i]? = some x) : am_chk 82 i x = true := by
  have hl : i < 65 := (List.getElem?_eq_some_iff.mp hx).1
  by_cases h60 : i < 60
  · exact am_ok_of ok_82_0 (by omega) (by omega) hx
  exact am_ok_of ok_82_60 (by omega) (by omega) hx
