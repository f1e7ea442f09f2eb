set_option maxRecDepth 100000 in
theorem okm_231 {i : Nat} {x : am_I} (hx : (am_pr 231)[i]? = some x) : am_chk 231 i x = true := by
  have hl : i < 895 := (List.getElem?_eq_some_iff.mp hx).1
  by_cases h60 : i < 60
  · exact am_ok_of ok_231_0 (by omega) (by omega) hx
  by_cases h120 : i < 120
  · exact am_ok_of ok_231_60 (by omega) (by omega) hx
  by_cases h180 : i < 180
  · exact am_ok_of ok_231_120 (by omega) (by omega) hx
  by_cases h240 : i < 240
  · exact am_ok_of ok_231_180 (by omega) (by omega) hx
  by_cases h300 : i < 300
  · exact am_ok_of ok_231_240 (by omega) (by omega) hx
  by_cases h360 : i < 360
  · exact am_ok_of ok_231_300 (by omega) (by omega) hx
  by_cases h420 : i < 420
  · exact am_ok_of ok_231_360 (by omega) (by omega) hx
  by_cases h480 : i < 480
  · exact am_ok_of ok_231_420 (by omega) (by omega) hx
  by_cases h540 : i < 540
  · exact am_ok_of ok_231_480 (by omega) (by omega) hx
  by_cases h600 : i < 600
  · exact am_ok_of ok_231_540 (by omega) (by omega) hx
  by_cases h660 : i < 660
  · exact am_ok_of ok_231_600 (by omega) (by omega) hx
  by_cases h720 : i < 720
  · exact am_ok_of ok_231_660 (by omega) (by omega) hx
  by_cases h780 : i < 780
  · exact am_ok_of ok_231_720 (by omega) (by omega) hx
  by_cases h840 : i < 840
  · exact am_ok_of ok_231_780 (by omega) (by omega) hx
  exact am_ok_of ok_231_840 (by omega) (by omega) hx
theorem am_all : am_All := by
  intro m i a h
  match m, h with
  | 0, h => exact okm_0 h
  | 1, h => exact okm_1 h
  | 2, h => exact okm_2 h
  | 3, h => exact okm_3 h
  | 4, h => exact okm_4 h
  | 5, h => exact okm_5 h
  | 6, h => exact okm_6 h
  | 7, h => exact okm_7 h
  | 8, h => exact okm_8 h
  | 9, h => exact okm_9 h
  | 10, h => exact okm_10 h
  | 11, h => exact okm_11 h
  | 12, h => exact okm_12 h
  | 13, h => exact okm_13 h
  | 14, h => exact okm_14 h
  | 15, h => exact okm_15 h
  | 16, h => exact okm_16 h
  | 17, h => exact okm_17 h
  | 18, h => exact okm_18 h
  | 19, h => exact okm_19 h
  | 20, h => exact okm_20 h
  | 21, h => exact okm_21 h
  | 22, h => exact okm_22 h
  | 23, h => exact okm_23 h
  | 24, h => exact okm_24 h
  | 25, h => exact okm_25 h
  | 26, h => exact okm_26 h
  | 27, h => exact okm_27 h
  | 28, h => exact okm_28 h
  | 29, h => exact okm_29 h
  | 30, h => exact okm_30 h
  | 31, h => exact okm_31 h
  | 32, h => exact okm_32 h
  | 33, h => exact okm_33 h
  | 34, h => exact okm_34 h
  | 35, h => exact okm_35 h
  | 36, h => exact okm_36 h
  | 37, h => exact okm_37 h
  | 38, h => exact okm_38 h
  | 39, h => exact okm_39 h
  | 40, h => exact okm_40 h
  | 41, h => exact okm_41 h
  | 42, h => exact okm_42 h
  | 43, h => exact okm_43 h
  | 44, h => exact okm_44 h
  | 45, h => exact okm_45 h
  | 46, h => exact okm_46 h
  | 47, h => exact okm_47 h
  | 48, h => exact okm_48 h
  | 49, h => exact okm_49 h
  | 50, h => exact okm_50 h
  | 51, h => exact okm_51 h
  | 52, h => exact okm_52 h
  | 53, h => exact okm_53 h
  | 54, h => exact okm_54 h
  | 55, h => exact okm_55 h
  | 56, h => exact okm_56 h
  | 57, h => exact okm_57 h
  | 58, h => exact okm_58 h
  | 59, h => exact okm_59 h
  | 60, h => exact okm_60 h
  | 61, h => exact okm_61 h
  | 62, h => exact okm_62 h
  | 63, h => exact okm_63 h
  | 64, h => exact okm_64 h
  | 65, h => exact okm_65 h
  | 66, h => exact okm_66 h
  | 67, h => exact okm_67 h
  | 68, h => exact okm_68 h
  | 69, h => exact okm_69 h
  | 70, h => exact okm_70 h
  | 71, h => exact okm_71 h
  | 72, h => exact okm_72 h
  | 73, h => exact okm_73 h
  | 74, h => exact okm_74 h
  | 75, h => exact okm_75 h
  | 76, h => exact okm_76 h
  | 77, h => exact okm_77 h
  | 78, h => exact okm_78 h
  | 79, h => exact okm_79 h
  | 80, h => exact okm_80 h
  | 81, h => exact okm_81 h
  | 82, h => exact okm_82 h
  | 83, h => exact okm_83 h
  | 84, h => exact okm_84 h
  | 85, h => exact okm_85 h
  | 86, h => exact okm_86 h
  | 87, h => exact okm_87 h
  | 88, h => exact okm_88 h
  | 89, h => exact okm_89 h
  | 90, h => exact okm_90 h
  | 91, h => exact okm_91 h
  | 92, h => exact okm_92 h
  | 93, h => exact okm_93 h
  | 94, h => exact okm_94 h
  | 95, h => exact okm_95 h
  | 96, h => exact okm_96 h
  | 97, h => exact okm_97 h
  | 98, h => exact okm_98 h
  | 99, h => exact okm_99 h
  | 100, h => exact okm_100 h
  | 101, h => exact okm_101 h
  | 102, h => exact okm_102 h
  | 103, h => exact okm_103 h
  | 104, h => exact okm_104 h
  | 105, h => exact okm_105 h
  | 106, h => exact okm_106 h
  | 107, h => exact okm_107 h
  | 108, h => exact okm_108 h
  | 109, h => exact okm_109 h
  | 110, h => exact okm_110 h
  | 111, h => exact okm_111 h
  | 112, h => exact okm_112 h
  | 113, h => exact okm_113 h
  | 114, h => exact okm_114 h
  | 115, h => exact okm_115 h
  | 116, h => exact okm_116 h
  | 117, h => exact okm_117 h
  | 118, h => exact okm_118 h
  | 119, h => exact okm_119 h
  | 120, h => exact okm_120 h
  | 121, h => exact okm_121 h
  | 122, h => exact okm_122 h
  | 123, h => exact okm_123 h
  | 124, h => exact okm_124 h
  | 125, h => exact okm_125 h
  | 126, h => exact okm_126 h
  | 127, h => exact okm_127 h
  | 128, h => exact okm_128 h
  | 129, h => exact okm_129 h
  | 130, h => exact okm_130 h
  | 131, h => exact okm_131 h
  | 132, h => exact okm_132 h
  | 133, h => exact okm_133 h
  | 134, h => exact okm_134 h
  | 135, h => exact okm_135 h
  | 136, h => exact okm_136 h
  | 137, h => exact okm_137 h
  | 138, h => exact okm_138 h
  | 139, h => exact okm_139 h
  | 140, h => exact okm_140 h
  | 141, h => exact okm_141 h
  | 142, h => exact okm_142 h
  | 143, h => exact okm_143 h
  | 144, h => exact okm_144 h
  | 145, h => exact okm_145 h
  | 146, h => exact okm_146 h
  | 147, h => exact okm_147 h
  | 148, h => exact okm_148 h
  | 149, h => exact okm_149 h
  | 150, h => exact okm_150 h
  | 151, h => exact okm_151 h
  | 152, h => exact okm_152 h
  | 153, h => exact okm_153 h
  | 154, h => exact okm_154 h
  | 155, h => exact okm_155 h
  | 156, h => exact okm_156 h
  | 157, h => exact okm_157 h
  | 158, h => exact okm_158 h
  | 159, h => exact okm_159 h
  | 160, h => exact okm_160 h
  | 161, h => exact okm_161 h
  | 162, h => exact okm_162 h
  | 163, h => exact okm_163 h
  | 164, h => exact okm_164 h
  | 165, h => exact okm_165 h
  | 166, h => exact okm_166 h
  | 167, h => exact okm_167 h
  | 168, h => exact okm_168 h
  | 169, h => exact okm_169 h
  | 170, h => exact okm_170 h
  | 171, h => exact okm_171 h
  | 172, h => exact okm_172 h
  | 173, h => exact okm_173 h
  | 174, h => exact okm_174 h
  | 175, h => exact okm_175 h
  | 176, h => exact okm_176 h
  | 177, h => exact okm_177 h
  | 178, h => exact okm_178 h
  | 179, h => exact okm_179 h
  | 180, h => exact okm_180 h
  | 181, h => exact okm_181 h
  | 182, h => exact okm_182 h
  | 183, h => exact okm_183 h
  | 184, h => exact okm_184 h
  | 185, h => exact okm_185 h
  | 186, h => exact okm_186 h
  | 187, h => exact okm_187 h
  | 188, h => exact okm_188 h
  | 189, h => exact okm_189 h
  | 190, h => exact okm_190 h
  | 191, h => exact okm_191 h
  | 192, h => exact okm_192 h
  | 193, h => exact okm_193 h
  | 194, h => exact okm_194 h
  | 195, h => exact okm_195 h
  | 196, h => exact okm_196 h
  | 197, h => exact okm_197 h
  | 198, h => exact okm_198 h
  | 199, h => exact okm_199 h
  | 200, h => exact okm_200 h
  | 201, h => exact okm_201 h
  | 202, h => exact okm_202 h
  | 203, h => exact okm_203 h
  | 204, h => exact okm_204 h
  | 205, h => exact okm_205 h
  | 206, h => exact okm_206 h
  | 207, h => exact okm_207 h
  | 208, h => exact okm_208 h
  | 209, h => exact okm_209 h
  | 210, h => exact okm_210 h
  | 211, h => exact okm_211 h
  | 212, h => exact okm_212 h
  | 213, h => exact okm_213 h
  | 214, h => exact okm_214 h
  | 215, h => exact okm_215 h
  | 216, h => exact okm_216 h
  | 217, h => exact okm_217 h
  | 218, h => exact okm_218 h
  | 219, h => exact okm_219 h
  | 220, h => exact okm_220 h
  | 221, h => exact okm_221 h
  | 222, h => exact okm_222 h
  | 223, h => exact okm_223 h
  | 224, h => exact okm_224 h
  | 225, h => exact okm_225 h
  | 226, h => exact okm_226 h
  | 227, h => exact okm_227 h
  | 228, h => exact okm_228 h
  | 229, h => exact okm_229 h
  | 230, h => exact okm_230 h
  | 231, h => exact okm_231 h
  | n + 232, h => exact absurd h (by show ¬ (am_PR.getD (n + 232) [])[i]? = some a; rw [List.getD_eq_getElem?_getD, List.getElem?_eq_none (l := am_PR) (i := n + 232) (by rw [show am_PR.length = 232 from rfl]; omega)]; simp)
