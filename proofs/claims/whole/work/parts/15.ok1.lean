theorem ok_83_0 : am_ok 83 0 31 = true := by decide +kernel
theorem okm_83 {i : Nat} {x : am_I} (hx : (am_pr 83)[i]? = some x) : am_chk 83 i x = true := by
  have hl : i < 31 := (List.getElem?_eq_some_iff.mp hx).1
  exact am_ok_of ok_83_0 (by omega) (by omega) hx
theorem ok_84_0 : am_ok 84 0 60 = true := by decide +kernel
theorem ok_84_60 : am_ok 84 60 1 = true := by decide +kernel
theorem okm_84 {i : Nat} {x : am_I} (hx : (am_pr 84)[i]? = some x) : am_chk 84 i x = true := by
  have hl : i < 61 := (List.getElem?_eq_some_iff.mp hx).1
  by_cases h60 : i < 60
  · exact am_ok_of ok_84_0 (by omega) (by omega) hx
  exact am_ok_of ok_84_60 (by omega) (by omega) hx
theorem ok_85_0 : am_ok 85 0 47 = true := by decide +kernel
theorem okm_85 {i : Nat} {x : am_I} (hx : (am_pr 85)[i]? = some x) : am_chk 85 i x = true := by
  have hl : i < 47 := (List.getElem?_eq_some_iff.mp hx).1
  exact am_ok_of ok_85_0 (by omega) (by omega) hx
theorem ok_86_0 : am_ok 86 0 27 = true := by decide +kernel
theorem okm_86 {i : Nat} {x : am_I} (hx : (am_pr 86)[i]? = some x) : am_chk 86 i x = true := by
  have hl : i < 27 := (List.getElem?_eq_some_iff.mp hx).1
  exact am_ok_of ok_86_0 (by omega) (by omega) hx
theorem ok_87_0 : am_ok 87 0 39 = true := by decide +kernel
theorem okm_87 {i : Nat} {x : am_I} (hx : (am_pr 87)[i]? = some x) : am_chk 87 i x = true := by
  have hl : i < 39 := (List.getElem?_eq_some_iff.mp hx).1
  exact am_ok_of ok_87_0 (by omega) (by omega) hx
theorem ok_88_0 : am_ok 88 0 25 = true := by decide +kernel
theorem okm_88 {i : Nat} {x : am_I} (hx : (am_pr 88)[i]? = some x) : am_chk 88 i x = true := by
  have hl : i < 25 := (List.getElem?_eq_some_iff.mp hx).1
  exact am_ok_of ok_88_0 (by omega) (by omega) hx
theorem ok_89_0 : am_ok 89 0 23 = true := by decide +kernel
theorem okm_89 {i : Nat} {x : am_I} (hx : (am_pr 89)[i]? = some x) : am_chk 89 i x = true := by
  have hl : i < 23 := (List.getElem?_eq_some_iff.mp hx).1
  exact am_ok_of ok_89_0 (by omega) (by omega) hx
theorem ok_90_0 : am_ok 90 0 14 = true := by decide +kernel
theorem okm_90 {i : Nat} {x : am_I} (hx : (am_pr 90)[i]? = some x) : am_chk 90 i x = true := by
  have hl : i < 14 := (List.getElem?_eq_some_iff.mp hx).1
  exact am_ok_of ok_90_0 (by omega) (by omega) hx
theorem ok_91_0 : am_ok 91 0 22 = true := by decide +kernel
theorem okm_91 {i : Nat} {x : am_I} (hx : (am_pr 91)[i]? = some x) : am_chk 91 i x = true := by
  have hl : i < 22 := (List.getElem?_eq_some_iff.mp hx).1
  exact am_ok_of ok_91_0 (by omega) (by omega) hx
theorem ok_92_0 : am_ok 92 0 22 = true := by decide +kernel
theorem okm_92 {i : Nat} {x : am_I} (hx : (am_pr 92)[i]? = some x) : am_chk 92 i x = true := by
  have hl : i < 22 := (List.getElem?_eq_some_iff.mp hx).1
  exact am_ok_of ok_92_0 (by omega) (by omega) hx
theorem ok_93_0 : am_ok 93 0 16 = true := by decide +kernel
theorem okm_93 {i : Nat} {x : am_I} (hx : (am_pr 93)[i]? = some x) : am_chk 93 i x = true := by
  have hl : i < 16 := (List.getElem?_eq_some_iff.mp hx).1
  exact am_ok_of ok_93_0 (by omega) (by omega) hx
theorem ok_94_0 : am_ok 94 0 56 = true := by decide +kernel
theorem okm_94 {i : Nat} {x : am_I} (hx : (am_pr 94)[i]? = some x) : am_chk 94 i x = true := by
  have hl : i < 56 := (List.getElem?_eq_some_iff.mp hx).1
  exact am_ok_of ok_94_0 (by omega) (by omega) hx
theorem ok_95_0 : am_ok 95 0 24 = true := by decide +kernel
theorem okm_95 {i : Nat} {x : am_I} (hx : (am_pr 95)[i]? = some x) : am_chk 95 i x = true := by
  have hl : i < 24 := (List.getElem?_eq_some_iff.mp hx).1
  exact am_ok_of ok_95_0 (by omega) (by omega) hx
theorem ok_96_0 : am_ok 96 0 19 = true := by decide +kernel
theorem okm_96 {i : Nat} {x : am_I} (hx : (am_pr 96)[i]? = some x) : am_chk 96 i x = true := by
  have hl : i < 19 := (List.getElem?_eq_some_iff.mp hx).1
  exact am_ok_of ok_96_0 (by omega) (by omega) hx
theorem ok_97_0 : am_ok 97 0 60 = true := by decide +kernel
theorem ok_97_60 : am_ok 97 60 56 = true := by decide +kernel
theorem okm_97 {i : Nat} {x : am_I} (hx : (am_pr 97)[i]? = some x) : am_chk 97 i x = true := by
  have hl : i < 116 := (List.getElem?_eq_some_iff.mp hx).1
  by_cases h60 : i < 60
  · exact am_ok_of ok_97_0 (by omega) (by omega) hx
  exact am_ok_of ok_97_60 (by omega) (by omega) hx
theorem ok_98_0 : am_ok 98 0 60 = true := by decide +kernel
theorem ok_98_60 : am_ok 98 60 2 = true := by decide +kernel
theorem okm_98 {i : Nat} {x : am_I} (hx : (am_pr 98)[i]? = some x) : am_chk 98 i x = true := by
  have hl : i < 62 := (List.getElem?_eq_some_iff.mp hx).1
  by_cases h60 : i < 60
  · exact am_ok_of ok_98_0 (by omega) (by omega) hx
  exact am_ok_of ok_98_60 (by omega) (by omega) hx
theorem ok_99_0 : am_ok 99 0 49 = true := by decide +kernel
theorem okm_99 {i : Nat} {x : am_I} (hx : (am_pr 99)[i]? = some x) : am_chk 99 i x = true := by
  have hl : i < 49 := (List.getElem?_eq_some_iff.mp hx).1
  exact am_ok_of ok_99_0 (by omega) (by omega) hx
theorem ok_100_0 : am_ok 100 0 16 = true := by decide +kernel
theorem okm_100 {i : Nat} {x : am_I} (hx : (am_pr 100)[i]? = some x) : am_chk 100 i x = true := by
  have hl : i < 16 := (List.getElem?_eq_some_iff.mp hx).1
  exact am_ok_of ok_100_0 (by omega) (by omega) hx
theorem ok_101_0 : am_ok 101 0 15 = true := by decide +kernel
theorem okm_101 {i : Nat} {x : am_I} (hx : (am_pr 101)[i]? = some x) : am_chk 101 i x = true := by
  have hl : i < 15 := (List.getElem?_eq_some_iff.mp hx).1
  exact am_ok_of ok_101_0 (by omega) (by omega) hx
theorem ok_102_0 : am_ok 102 0 19 = true := by decide +kernel
theorem okm_102 {i : Nat} {x : am_I} (hx : (am_pr 102)[i]? = some x) : am_chk 102 i x = true := by
  have hl : i < 19 := (List.getElem?_eq_some_iff.mp hx).1
  exact am_ok_of ok_102_0 (by omega) (by omega) hx
theorem ok_103_0 : am_ok 103 0 26 = true := by decide +kernel
theorem okm_103 {i : Nat} {x : am_I} (hx : (am_pr 103)[i]? = some x) : am_chk 103 i x = true := by
  have hl : i < 26 := (List.getElem?_eq_some_iff.mp hx).1
  exact am_ok_of ok_103_0 (by omega) (by omega) hx
theorem ok_104_0 : am_ok 104 0 18 = true := by decide +kernel
theorem okm_104 {i : Nat} {x : am_I} (hx : (am_pr 104)[i]? = some x) : am_chk 104 i x = true := by
  have hl : i < 18 := (List.getElem?_eq_some_iff.mp hx).1
  exact am_ok_of ok_104_0 (by omega) (by omega) hx
theorem ok_105_0 : am_ok 105 0 43 = true := by decide +kernel
theorem okm_105 {i : Nat} {x : am_I} (hx : (am_pr 105)[i]? = some x) : am_chk 105 i x = true := by
  have hl : i < 43 := (List.getElem?_eq_some_iff.mp hx).1
  exact am_ok_of ok_105_0 (by omega) (by omega) hx
theorem ok_106_0 : am_ok 106 0 29 = true := by decide +kernel
theorem okm_106 {i : Nat} {x : am_I} (hx : (am_pr 106)[i]? = some x) : am_chk 106 i x = true := by
  have hl : i < 29 := (List.getElem?_eq_some_iff.mp hx).1
  exact am_ok_of ok_106_0 (by omega) (by omega) hx
theorem ok_107_0 : am_ok 107 0 31 = true := by decide +kernel
theorem okm_107 {i : Nat} {x : am_I} (hx : (am_pr 107)[i]? = some x) : am_chk 107 i x = true := by
  have hl : i < 31 := (List.getElem?_eq_some_iff.mp hx).1
  exact am_ok_of ok_107_0 (by omega) (by omega) hx
theorem ok_108_0 : am_ok 108 0 32 = true := by decide +kernel
theorem okm_108 {i : Nat} {x : am_I} (hx : (am_pr 108)[i]? = some x) : am_chk 108 i x = true := by
  have hl : i < 32 := (List.getElem?_eq_some_iff.mp hx).1
  exact am_ok_of ok_108_0 (by omega) (by omega) hx
theorem ok_109_0 : am_ok 109 0 10 = true := by decide +kernel
theorem okm_109 {i : Nat} {x : am_I} (hx : (am_pr 109)[i]? = some x) : am_chk 109 i x = true := by
  have hl : i < 10 := (List.getElem?_eq_some_iff.mp hx).1
  exact am_ok_of ok_109_0 (by omega) (by omega) hx
theorem ok_110_0 : am_ok 110 0 29 = true := by decide +kernel
theorem okm_110 {i : Nat} {x : am_I} (hx : (am_pr 110)[i]? = some x) : am_chk 110 i x = true := by
  have hl : i < 29 := (List.getElem?_eq_some_iff.mp hx).1
  exact am_ok_of ok_110_0 (by omega) (by omega) hx
theorem ok_111_0 : am_ok 111 0 24 = true := by decide +kernel
theorem okm_111 {i : Nat} {x : am_I} (hx : (am_pr 111)[i]? = some x) : am_chk 111 i x = true := by
  have hl : i < 24 := (List.getElem?_eq_some_iff.mp hx).1
  exact am_ok_of ok_111_0 (by omega) (by omega) hx
theorem ok_112_0 : am_ok 112 0 17 = true := by decide +kernel
theorem okm_112 {i : Nat} {x : am_I} (hx : (am_pr 112)[i]? = some x) : am_chk 112 i x = true := by
  have hl : i < 17 := (List.getElem?_eq_some_iff.mp hx).1
  exact am_ok_of ok_112_0 (by omega) (by omega) hx
theorem ok_113_0 : am_ok 113 0 12 = true := by decide +kernel
theorem okm_113 {i : Nat} {x : am_I} (hx : (am_pr 113)[i]? = some x) : am_chk 113 i x = true := by
  have hl : i < 12 := (List.getElem?_eq_some_iff.mp hx).1
  exact am_ok_of ok_113_0 (by omega) (by omega) hx
theorem ok_114_0 : am_ok 114 0 30 = true := by decide +kernel
theorem okm_114 {i : Nat} {x : am_I} (hx : (am_pr 114)[i]? = some x) : am_chk 114 i x = true := by
  have hl : i < 30 := (List.getElem?_eq_some_iff.mp hx).1
  exact am_ok_of ok_114_0 (by omega) (by omega) hx
theorem ok_115_0 : am_ok 115 0 29 = true := by decide +kernel
theorem okm_115 {i : Nat} {x : am_I} (hx : (am_pr 115)[i]? = some x) : am_chk 115 i x = true := by
  have hl : i < 29 := (List.getElem?_eq_some_iff.mp hx).1
  exact am_ok_of ok_115_0 (by omega) (by omega) hx
theorem ok_116_0 : am_ok 116 0 19 = true := by decide +kernel
theorem okm_116 {i : Nat} {x : am_I} (hx : (am_pr 116)[i]? = some x) : am_chk 116 i x = true := by
  have hl : i < 19 := (List.getElem?_eq_some_iff.mp hx).1
  exact am_ok_of ok_116_0 (by omega) (by omega) hx
theorem ok_117_0 : am_ok 117 0 42 = true := by decide +kernel
theorem okm_117 {i : Nat} {x : am_I} (hx : (am_pr 117)[i]? = some x) : am_chk 117 i x = true := by
  have hl : i < 42 := (List.getElem?_eq_some_iff.mp hx).1
  exact am_ok_of ok_117_0 (by omega) (by omega) hx
theorem ok_118_0 : am_ok 118 0 60 = true := by decide +kernel
theorem ok_118_60 : am_ok 118 60 47 = true := by decide +kernel
theorem okm_118 {i : Nat} {x : am_I} (hx : (am_pr 118)[i]? = some x) : am_chk 118 i x = true := by
  have hl : i < 107 := (List.getElem?_eq_some_iff.mp hx).1
  by_cases h60 : i < 60
  · exact am_ok_of ok_118_0 (by omega) (by omega) hx
  exact am_ok_of ok_118_60 (by omega) (by omega) hx
theorem ok_119_0 : am_ok 119 0 12 = true := by decide +kernel
theorem okm_119 {i : Nat} {x : am_I} (hx : (am_pr 119)[i]? = some x) : am_chk 119 i x = true := by
  have hl : i < 12 := (List.getElem?_eq_some_iff.mp hx).1
  exact am_ok_of ok_119_0 (by omega) (by omega) hx
theorem ok_120_0 : am_ok 120 0 60 = true := by decide +kernel
theorem ok_120_60 : am_ok 120 60 60 = true := by decide +kernel
theorem ok_120_120 : am_ok 120 120 27 = true := by decide +kernel
theorem okm_120 {i : Nat} {x : am_I} (hx : (am_pr 120)[i]? = some x) : am_chk 120 i x = true := by
  have hl : i < 147 := (List.getElem?_eq_some_iff.mp hx).1
  by_cases h60 : i < 60
  · exact am_ok_of ok_120_0 (by omega) (by omega) hx
  by_cases h120 : i < 120
  · exact am_ok_of ok_120_60 (by omega) (by omega) hx
  exact am_ok_of ok_120_120 (by omega) (by omega) hx
theorem ok_121_0 : am_ok 121 0 7 = true := by decide +kernel
theorem okm_121 {i : Nat} {x : am_I} (hx : (am_pr 121)[i]? = some x) : am_chk 121 i x = true := by
  have hl : i < 7 := (List.getElem?_eq_some_iff.mp hx).1
  exact am_ok_of ok_121_0 (by omega) (by omega) hx
theorem ok_122_0 : am_ok 122 0 45 = true := by decide +kernel
theorem okm_122 {i : Nat} {x : am_I} (hx : (am_pr 122)[i]? = some x) : am_chk 122 i x = true := by
  have hl : i < 45 := (List.getElem?_eq_some_iff.mp hx).1
  exact am_ok_of ok_122_0 (by omega) (by omega) hx
theorem ok_123_0 : am_ok 123 0 36 = true := by decide +kernel
theorem okm_123 {i : Nat} {x : am_I} (hx : (am_pr 123)[i]? = some x) : am_chk 123 i x = true := by
  have hl : i < 36 := (List.getElem?_eq_some_iff.mp hx).1
  exact am_ok_of ok_123_0 (by omega) (by omega) hx
theorem ok_124_0 : am_ok 124 0 35 = true := by decide +kernel
theorem okm_124 {i : Nat} {x : am_I} (hx : (am_pr 124)[i]? = some x) : am_chk 124 i x = true := by
  have hl : i < 35 := (List.getElem?_eq_some_iff.mp hx).1
  exact am_ok_of ok_124_0 (by omega) (by omega) hx
theorem ok_125_0 : am_ok 125 0 60 = true := by decide +kernel
theorem ok_125_60 : am_ok 125 60 60 = true := by decide +kernel
theorem ok_125_120 : am_ok 125 120 16 = true := by decide +kernel
theorem okm_125 {i : Nat} {x : am_I} (hx : (am_pr 125)[i]? = some x) : am_chk 125 i x = true := by
  have hl : i < 136 := (List.getElem?_eq_some_iff.mp hx).1
  by_cases h60 : i < 60
  · exact am_ok_of ok_125_0 (by omega) (by omega) hx
  by_cases h120 : i < 120
  · exact am_ok_of ok_125_60 (by omega) (by omega) hx
  exact am_ok_of ok_125_120 (by omega) (by omega) hx
theorem ok_126_0 : am_ok 126 0 60 = true := by decide +kernel
theorem okm_126 {i : Nat} {x : am_I} (hx : (am_pr 126)[i]? = some x) : am_chk 126 i x = true := by
  have hl : i < 60 := (List.getElem?_eq_some_iff.mp hx).1
  exact am_ok_of ok_126_0 (by omega) (by omega) hx
theorem ok_127_0 : am_ok 127 0 28 = true := by decide +kernel
theorem okm_127 {i : Nat} {x : am_I} (hx : (am_pr 127)[i]? = some x) : am_chk 127 i x = true := by
  have hl : i < 28 := (List.getElem?_eq_some_iff.mp hx).1
  exact am_ok_of ok_127_0 (by omega) (by omega) hx
theorem ok_128_0 : am_ok 128 0 19 = true := by decide +kernel
theorem okm_128 {i : Nat} {x : am_I} (hx : (am_pr 128)[i]? = some x) : am_chk 128 i x = true := by
  have hl : i < 19 := (List.getElem?_eq_some_iff.mp hx).1
  exact am_ok_of ok_128_0 (by omega) (by omega) hx
theorem ok_129_0 : am_ok 129 0 60 = true := by decide +kernel
theorem ok_129_60 : am_ok 129 60 60 = true := by decide +kernel
theorem ok_129_120 : am_ok 129 120 7 = true := by decide +kernel
theorem okm_129 {i : Nat} {x : am_I} (hx : (am_pr 129)[i]? = some x) : am_chk 129 i x = true := by
  have hl : i < 127 := (List.getElem?_eq_some_iff.mp hx).1
  by_cases h60 : i < 60
  · exact am_ok_of ok_129_0 (by omega) (by omega) hx
  by_cases h120 : i < 120
  · exact am_ok_of ok_129_60 (by omega) (by omega) hx
  exact am_ok_of ok_129_120 (by omega) (by omega) hx
theorem ok_130_0 : am_ok 130 0 12 = true := by decide +kernel
theorem okm_130 {i : Nat} {x : am_I} (hx : (am_pr 130)[i]? = some x) : am_chk 130 i x = true := by
  have hl : i < 12 := (List.getElem?_eq_some_iff.mp hx).1
  exact am_ok_of ok_130_0 (by omega) (by omega) hx
theorem ok_131_0 : am_ok 131 0 12 = true := by decide +kernel
theorem okm_131 {i : Nat} {x : am_I} (hx : (am_pr 131)[i]? = some x) : am_chk 131 i x = true := by
  have hl : i < 12 := (List.getElem?_eq_some_iff.mp hx).1
  exact am_ok_of ok_131_0 (by omega) (by omega) hx
theorem ok_132_0 : am_ok 132 0 16 = true := by decide +kernel
theorem okm_132 {i : Nat} {x : am_I} (hx : (am_pr 132)[i]? = some x) : am_chk 132 i x = true := by
  have hl : i < 16 := (List.getElem?_eq_some_iff.mp hx).1
  exact am_ok_of ok_132_0 (by omega) (by omega) hx
theorem ok_133_0 : am_ok 133 0 16 = true := by decide +kernel
theorem okm_133 {i : Nat} {x : am_I} (hx : (am_pr 133)[i]? = some x) : am_chk 133 i x = true := by
  have hl : i < 16 := (List.getElem?_eq_some_iff.mp hx).1
  exact am_ok_of ok_133_0 (by omega) (by omega) hx
theorem ok_134_0 : am_ok 134 0 32 = true := by decide +kernel
theorem okm_134 {i : Nat} {x : am_I} (hx : (am_pr 134)[i]? = some x) : am_chk 134 i x = true := by
  have hl : i < 32 := (List.getElem?_eq_some_iff.mp hx).1
  exact am_ok_of ok_134_0 (by omega) (by omega) hx
theorem ok_135_0 : am_ok 135 0 45 = true := by decide +kernel
theorem okm_135 {i : Nat} {x : am_I} (hx : (am_pr 135)[i]? = some x) : am_chk 135 i x = true := by
  have hl : i < 45 := (List.getElem?_eq_some_iff.mp hx).1
  exact am_ok_of ok_135_0 (by omega) (by omega) hx
theorem ok_136_0 : am_ok 136 0 7 = true := by decide +kernel
theorem okm_136 {i : Nat} {x : am_I} (hx : (am_pr 136)[i]? = some x) : am_chk 136 i x = true := by
  have hl : i < 7 := (List.getElem?_eq_some_iff.mp hx).1
  exact am_ok_of ok_136_0 (by omega) (by omega) hx
theorem ok_137_0 : am_ok 137 0 13 = true := by decide +kernel
theorem okm_137 {i : Nat} {x : am_I} (hx : (am_pr 137)[i]? = some x) : am_chk 137 i x = true := by
  have hl : i < 13 := (List.getElem?_eq_some_iff.mp hx).1
  exact am_ok_of ok_137_0 (by omega) (by omega) hx
theorem ok_138_0 : am_ok 138 0 30 = true := by decide +kernel
theorem okm_138 {i : Nat} {x : am_I} (hx : (am_pr 138)[i]? = some x) : am_chk 138 i x = true := by
  have hl : i < 30 := (List.getElem?_eq_some_iff.mp hx).1
  exact am_ok_of ok_138_0 (by omega) (by omega) hx
theorem ok_139_0 : am_ok 139 0 10 = true := by decide +kernel
theorem okm_139 {i : Nat} {x : am_I} (hx : (am_pr 139)[i]? = some x) : am_chk 139 i x = true := by
  have hl : i < 10 := (List.getElem?_eq_some_iff.mp hx).1
  exact am_ok_of ok_139_0 (by omega) (by omega) hx
theorem ok_140_0 : am_ok 140 0 18 = true := by decide +kernel
theorem okm_140 {i : Nat} {x : am_I} (hx : (am_pr 140)[i]? = some x) : am_chk 140 i x = true := by
  have hl : i < 18 := (List.getElem?_eq_some_iff.mp hx).1
  exact am_ok_of ok_140_0 (by omega) (by omega) hx
theorem ok_141_0 : am_ok 141 0 16 = true := by decide +kernel
theorem okm_141 {i : Nat} {x : am_I} (hx : (am_pr 141)[i]? = some x) : am_chk 141 i x = true := by
  have hl : i < 16 := (List.getElem?_eq_some_iff.mp hx).1
  exact am_ok_of ok_141_0 (by omega) (by omega) hx
theorem ok_142_0 : am_ok 142 0 60 = true := by decide +kernel
theorem ok_142_60 : am_ok 142 60 4 = true := by decide +kernel
theorem okm_142 {i : Nat} {x : am_I} (hx : (am_pr 142)[i]? = some x) : am_chk 142 i x = true := by
  have hl : i < 64 := (List.getElem?_eq_some_iff.mp hx).1
  by_cases h60 : i < 60
  · exact am_ok_of ok_142_0 (by omega) (by omega) hx
  exact am_ok_of ok_142_60 (by omega) (by omega) hx
theorem ok_143_0 : am_ok 143 0 58 = true := by decide +kernel
theorem okm_143 {i : Nat} {x : am_I} (hx : (am_pr 143)[i]? = some x) : am_chk 143 i x = true := by
  have hl : i < 58 := (List.getElem?_eq_some_iff.mp hx).1
  exact am_ok_of ok_143_0 (by omega) (by omega) hx
theorem ok_144_0 : am_ok 144 0 52 = true := by decide +kernel
theorem okm_144 {i : Nat} {x : am_I} (hx : (am_pr 144)[i]? = some x) : am_chk 144 i x = true := by
  have hl : i < 52 := (List.getElem?_eq_some_iff.mp hx).1
  exact am_ok_of ok_144_0 (by omega) (by omega) hx
theorem ok_145_0 : am_ok 145 0 55 = true := by decide +kernel
theorem okm_145 {i : Nat} {x : am_I} (hx : (am_pr 145)[i]? = some x) : am_chk 145 i x = true := by
  have hl : i < 55 := (List.getElem?_eq_some_iff.mp hx).1
  exact am_ok_of ok_145_0 (by omega) (by omega) hx
theorem ok_146_0 : am_ok 146 0 60 = true := by decide +kernel
theorem ok_146_60 : am_ok 146 60 3 = true := by decide +kernel
theorem okm_146 {i : Nat} {x : am_I} (hx : (am_pr 146)[i]? = some x) : am_chk 146 i x = true := by
  have hl : i < 63 := (List.getElem?_eq_some_iff.mp hx).1
  by_cases h60 : i < 60
  · exact am_ok_of ok_146_0 (by omega) (by omega) hx
  exact am_ok_of ok_146_60 (by omega) (by omega) hx
theorem ok_147_0 : am_ok 147 0 20 = true := by decide +kernel
theorem okm_147 {i : Nat} {x : am_I} (hx : (am_pr 147)[i]? = some x) : am_chk 147 i x = true := by
  have hl : i < 20 := (List.getElem?_eq_some_iff.mp hx).1
  exact am_ok_of ok_147_0 (by omega) (by omega) hx
theorem ok_148_0 : am_ok 148 0 13 = true := by decide +kernel
theorem okm_148 {i : Nat} {x : am_I} (hx : (am_pr 148)[i]? = some x) : am_chk 148 i x = true := by
  have hl : i < 13 := (List.getElem?_eq_some_iff.mp hx).1
  exact am_ok_of ok_148_0 (by omega) (by omega) hx
theorem ok_149_0 : am_ok 149 0 35 = true := by decide +kernel
theorem okm_149 {i : Nat} {x : am_I} (hx : (am_pr 149)[i]? = some x) : am_chk 149 i x = true := by
  have hl : i < 35 := (List.getElem?_eq_some_iff.mp hx).1
  exact am_ok_of ok_149_0 (by omega) (by omega) hx
theorem ok_150_0 : am_ok 150 0 19 = true := by decide +kernel
theorem okm_150 {i : Nat} {x : am_I} (hx : (am_pr 150)[i]? = some x) : am_chk 150 i x = true := by
  have hl : i < 19 := (List.getElem?_eq_some_iff.mp hx).1
  exact am_ok_of ok_150_0 (by omega) (by omega) hx
theorem ok_151_0 : am_ok 151 0 57 = true := by decide +kernel
theorem okm_151 {i : Nat} {x : am_I} (hx : (am_pr 151)[i]? = some x) : am_chk 151 i x = true := by
  have hl : i < 57 := (List.getElem?_eq_some_iff.mp hx).1
  exact am_ok_of ok_151_0 (by omega) (by omega) hx
theorem ok_152_0 : am_ok 152 0 47 = true := by decide +kernel
theorem okm_152 {i : Nat} {x : am_I} (hx : (am_pr 152)[i]? = some x) : am_chk 152 i x = true := by
  have hl : i < 47 := (List.getElem?_eq_some_iff.mp hx).1
  exact am_ok_of ok_152_0 (by omega) (by omega) hx
theorem ok_153_0 : am_ok 153 0 30 = true := by decide +kernel
theorem okm_153 {i : Nat} {x : am_I} (hx : (am_pr 153)[i]? = some x) : am_chk 153 i x = true := by
  have hl : i < 30 := (List.getElem?_eq_some_iff.mp hx).1
  exact am_ok_of ok_153_0 (by omega) (by omega) hx
theorem ok_154_0 : am_ok 154 0 56 = true := by decide +kernel
theorem okm_154 {i : Nat} {x : am_I} (hx : (am_pr 154)[i]? = some x) : am_chk 154 i x = true := by
  have hl : i < 56 := (List.getElem?_eq_some_iff.mp hx).1
  exact am_ok_of ok_154_0 (by omega) (by omega) hx
theorem ok_155_0 : am_ok 155 0 21 = true := by decide +kernel
theorem okm_155 {i : Nat} {x : am_I} (hx : (am_pr 155)[i]? = some x) : am_chk 155 i x = true := by
  have hl : i < 21 := (List.getElem?_eq_some_iff.mp hx).1
  exact am_ok_of ok_155_0 (by omega) (by omega) hx
theorem ok_156_0 : am_ok 156 0 46 = true := by decide +kernel
theorem okm_156 {i : Nat} {x : am_I} (hx : (am_pr 156)[i]? = some x) : am_chk 156 i x = true := by
  have hl : i < 46 := (List.getElem?_eq_some_iff.mp hx).1
  exact am_ok_of ok_156_0 (by omega) (by omega) hx
theorem ok_157_0 : am_ok 157 0 19 = true := by decide +kernel
theorem okm_157 {i : Nat} {x : am_I} (hx : (am_pr 157)[i]? = some x) : am_chk 157 i x = true := by
  have hl : i < 19 := (List.getElem?_eq_some_iff.mp hx).1
  exact am_ok_of ok_157_0 (by omega) (by omega) hx
theorem ok_158_0 : am_ok 158 0 15 = true := by decide +kernel
theorem okm_158 {i : Nat} {x : am_I} (hx : (am_pr 158)[i]? = some x) : am_chk 158 i x = true := by
  have hl : i < 15 := (List.getElem?_eq_some_iff.mp hx).1
  exact am_ok_of ok_158_0 (by omega) (by omega) hx
theorem ok_159_0 : am_ok 159 0 43 = true := by decide +kernel
theorem okm_159 {i : Nat} {x : am_I} (hx : (am_pr 159)[i]? = some x) : am_chk 159 i x = true := by
  have hl : i < 43 := (List.getElem?_eq_some_iff.mp hx).1
  exact am_ok_of ok_159_0 (by omega) (by omega) hx
theorem ok_160_0 : am_ok 160 0 60 = true := by decide +kernel
theorem ok_160_60 : am_ok 160 60 60 = true := by decide +kernel
theorem ok_160_120 : am_ok 160 120 20 = true := by decide +kernel
theorem okm_160 {i : Nat} {x : am_I} (hx : (am_pr 160)[i]? = some x) : am_chk 160 i x = true := by
  have hl : i < 140 := (List.getElem?_eq_some_iff.mp hx).1
  by_cases h60 : i < 60
  · exact am_ok_of ok_160_0 (by omega) (by omega) hx
  by_cases h120 : i < 120
  · exact am_ok_of ok_160_60 (by omega) (by omega) hx
  exact am_ok_of ok_160_120 (by omega) (by omega) hx
theorem ok_161_0 : am_ok 161 0 39 = true := by decide +kernel
theorem okm_161 {i : Nat} {x : am_I} (hx : (am_pr 161)[i]? = some x) : am_chk 161 i x = true := by
  have hl : i < 39 := (List.getElem?_eq_some_iff.mp hx).1
  exact am_ok_of ok_161_0 (by omega) (by omega) hx
