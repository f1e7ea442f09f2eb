theorem ok_162_0 : am_ok 162 0 4 = true := by decide +kernel
theorem okm_162 {i : Nat} {x : am_I} (hx : (am_pr 162)[i]? = some x) : am_chk 162 i x = true := by
  have hl : i < 4 := (List.getElem?_eq_some_iff.mp hx).1
  exact am_ok_of ok_162_0 (by omega) (by omega) hx
theorem ok_163_0 : am_ok 163 0 60 = true := by decide +kernel
theorem ok_163_60 : am_ok 163 60 2 = true := by decide +kernel
theorem okm_163 {i : Nat} {x : am_I} (hx : (am_pr 163)[i]? = some x) : am_chk 163 i x = true := by
  have hl : i < 62 := (List.getElem?_eq_some_iff.mp hx).1
  by_cases h60 : i < 60
  · exact am_ok_of ok_163_0 (by omega) (by omega) hx
  exact am_ok_of ok_163_60 (by omega) (by omega) hx
theorem ok_164_0 : am_ok 164 0 43 = true := by decide +kernel
theorem okm_164 {i : Nat} {x : am_I} (hx : (am_pr 164)[i]? = some x) : am_chk 164 i x = true := by
  have hl : i < 43 := (List.getElem?_eq_some_iff.mp hx).1
  exact am_ok_of ok_164_0 (by omega) (by omega) hx
theorem ok_165_0 : am_ok 165 0 41 = true := by decide +kernel
theorem okm_165 {i : Nat} {x : am_I} (hx : (am_pr 165)[i]? = some x) : am_chk 165 i x = true := by
  have hl : i < 41 := (List.getElem?_eq_some_iff.mp hx).1
  exact am_ok_of ok_165_0 (by omega) (by omega) hx
theorem ok_166_0 : am_ok 166 0 20 = true := by decide +kernel
theorem okm_166 {i : Nat} {x : am_I} (hx : (am_pr 166)[i]? = some x) : am_chk 166 i x = true := by
  have hl : i < 20 := (List.getElem?_eq_some_iff.mp hx).1
  exact am_ok_of ok_166_0 (by omega) (by omega) hx
theorem ok_167_0 : am_ok 167 0 21 = true := by decide +kernel
theorem okm_167 {i : Nat} {x : am_I} (hx : (am_pr 167)[i]? = some x) : am_chk 167 i x = true := by
  have hl : i < 21 := (List.getElem?_eq_some_iff.mp hx).1
  exact am_ok_of ok_167_0 (by omega) (by omega) hx
theorem ok_168_0 : am_ok 168 0 30 = true := by decide +kernel
theorem okm_168 {i : Nat} {x : am_I} (hx : (am_pr 168)[i]? = some x) : am_chk 168 i x = true := by
  have hl : i < 30 := (List.getElem?_eq_some_iff.mp hx).1
  exact am_ok_of ok_168_0 (by omega) (by omega) hx
theorem ok_169_0 : am_ok 169 0 47 = true := by decide +kernel
theorem okm_169 {i : Nat} {x : am_I} (hx : (am_pr 169)[i]? = some x) : am_chk 169 i x = true := by
  have hl : i < 47 := (List.getElem?_eq_some_iff.mp hx).1
  exact am_ok_of ok_169_0 (by omega) (by omega) hx
theorem ok_170_0 : am_ok 170 0 60 = true := by decide +kernel
theorem ok_170_60 : am_ok 170 60 30 = true := by decide +kernel
theorem okm_170 {i : Nat} {x : am_I} (hx : (am_pr 170)[i]? = some x) : am_chk 170 i x = true := by
  have hl : i < 90 := (List.getElem?_eq_some_iff.mp hx).1
  by_cases h60 : i < 60
  · exact am_ok_of ok_170_0 (by omega) (by omega) hx
  exact am_ok_of ok_170_60 (by omega) (by omega) hx
theorem ok_171_0 : am_ok 171 0 23 = true := by decide +kernel
theorem okm_171 {i : Nat} {x : am_I} (hx : (am_pr 171)[i]? = some x) : am_chk 171 i x = true := by
  have hl : i < 23 := (List.getElem?_eq_some_iff.mp hx).1
  exact am_ok_of ok_171_0 (by omega) (by omega) hx
theorem ok_172_0 : am_ok 172 0 39 = true := by decide +kernel
theorem okm_172 {i : Nat} {x : am_I} (hx : (am_pr 172)[i]? = some x) : am_chk 172 i x = true := by
  have hl : i < 39 := (List.getElem?_eq_some_iff.mp hx).1
  exact am_ok_of ok_172_0 (by omega) (by omega) hx
theorem ok_173_0 : am_ok 173 0 17 = true := by decide +kernel
theorem okm_173 {i : Nat} {x : am_I} (hx : (am_pr 173)[i]? = some x) : am_chk 173 i x = true := by
  have hl : i < 17 := (List.getElem?_eq_some_iff.mp hx).1
  exact am_ok_of ok_173_0 (by omega) (by omega) hx
theorem ok_174_0 : am_ok 174 0 20 = true := by decide +kernel
theorem okm_174 {i : Nat} {x : am_I} (hx : (am_pr 174)[i]? = some x) : am_chk 174 i x = true := by
  have hl : i < 20 := (List.getElem?_eq_some_iff.mp hx).1
  exact am_ok_of ok_174_0 (by omega) (by omega) hx
theorem ok_175_0 : am_ok 175 0 22 = true := by decide +kernel
theorem okm_175 {i : Nat} {x : am_I} (hx : (am_pr 175)[i]? = some x) : am_chk 175 i x = true := by
  have hl : i < 22 := (List.getElem?_eq_some_iff.mp hx).1
  exact am_ok_of ok_175_0 (by omega) (by omega) hx
theorem ok_176_0 : am_ok 176 0 60 = true := by decide +kernel
theorem ok_176_60 : am_ok 176 60 15 = true := by decide +kernel
theorem okm_176 {i : Nat} {x : am_I} (hx : (am_pr 176)[i]? = some x) : am_chk 176 i x = true := by
  have hl : i < 75 := (List.getElem?_eq_some_iff.mp hx).1
  by_cases h60 : i < 60
  · exact am_ok_of ok_176_0 (by omega) (by omega) hx
  exact am_ok_of ok_176_60 (by omega) (by omega) hx
theorem ok_177_0 : am_ok 177 0 16 = true := by decide +kernel
theorem okm_177 {i : Nat} {x : am_I} (hx : (am_pr 177)[i]? = some x) : am_chk 177 i x = true := by
  have hl : i < 16 := (List.getElem?_eq_some_iff.mp hx).1
  exact am_ok_of ok_177_0 (by omega) (by omega) hx
theorem ok_178_0 : am_ok 178 0 23 = true := by decide +kernel
theorem okm_178 {i : Nat} {x : am_I} (hx : (am_pr 178)[i]? = some x) : am_chk 178 i x = true := by
  have hl : i < 23 := (List.getElem?_eq_some_iff.mp hx).1
  exact am_ok_of ok_178_0 (by omega) (by omega) hx
theorem ok_179_0 : am_ok 179 0 44 = true := by decide +kernel
theorem okm_179 {i : Nat} {x : am_I} (hx : (am_pr 179)[i]? = some x) : am_chk 179 i x = true := by
  have hl : i < 44 := (List.getElem?_eq_some_iff.mp hx).1
  exact am_ok_of ok_179_0 (by omega) (by omega) hx
theorem ok_180_0 : am_ok 180 0 49 = true := by decide +kernel
theorem okm_180 {i : Nat} {x : am_I} (hx : (am_pr 180)[i]? = some x) : am_chk 180 i x = true := by
  have hl : i < 49 := (List.getElem?_eq_some_iff.mp hx).1
  exact am_ok_of ok_180_0 (by omega) (by omega) hx
theorem ok_181_0 : am_ok 181 0 28 = true := by decide +kernel
theorem okm_181 {i : Nat} {x : am_I} (hx : (am_pr 181)[i]? = some x) : am_chk 181 i x = true := by
  have hl : i < 28 := (List.getElem?_eq_some_iff.mp hx).1
  exact am_ok_of ok_181_0 (by omega) (by omega) hx
theorem ok_182_0 : am_ok 182 0 49 = true := by decide +kernel
theorem okm_182 {i : Nat} {x : am_I} (hx : (am_pr 182)[i]? = some x) : am_chk 182 i x = true := by
  have hl : i < 49 := (List.getElem?_eq_some_iff.mp hx).1
  exact am_ok_of ok_182_0 (by omega) (by omega) hx
theorem ok_183_0 : am_ok 183 0 25 = true := by decide +kernel
theorem okm_183 {i : Nat} {x : am_I} (hx : (am_pr 183)[i]? = some x) : am_chk 183 i x = true := by
  have hl : i < 25 := (List.getElem?_eq_some_iff.mp hx).1
  exact am_ok_of ok_183_0 (by omega) (by omega) hx
theorem ok_184_0 : am_ok 184 0 32 = true := by decide +kernel
theorem okm_184 {i : Nat} {x : am_I} (hx : (am_pr 184)[i]? = some x) : am_chk 184 i x = true := by
  have hl : i < 32 := (List.getElem?_eq_some_iff.mp hx).1
  exact am_ok_of ok_184_0 (by omega) (by omega) hx
theorem ok_185_0 : am_ok 185 0 33 = true := by decide +kernel
theorem okm_185 {i : Nat} {x : am_I} (hx : (am_pr 185)[i]? = some x) : am_chk 185 i x = true := by
  have hl : i < 33 := (List.getElem?_eq_some_iff.mp hx).1
  exact am_ok_of ok_185_0 (by omega) (by omega) hx
theorem ok_186_0 : am_ok 186 0 40 = true := by decide +kernel
theorem okm_186 {i : Nat} {x : am_I} (hx : (am_pr 186)[i]? = some x) : am_chk 186 i x = true := by
  have hl : i < 40 := (List.getElem?_eq_some_iff.mp hx).1
  exact am_ok_of ok_186_0 (by omega) (by omega) hx
theorem ok_187_0 : am_ok 187 0 54 = true := by decide +kernel
theorem okm_187 {i : Nat} {x : am_I} (hx : (am_pr 187)[i]? = some x) : am_chk 187 i x = true := by
  have hl : i < 54 := (List.getElem?_eq_some_iff.mp hx).1
  exact am_ok_of ok_187_0 (by omega) (by omega) hx
theorem ok_188_0 : am_ok 188 0 60 = true := by decide +kernel
theorem ok_188_60 : am_ok 188 60 40 = true := by decide +kernel
theorem okm_188 {i : Nat} {x : am_I} (hx : (am_pr 188)[i]? = some x) : am_chk 188 i x = true := by
  have hl : i < 100 := (List.getElem?_eq_some_iff.mp hx).1
  by_cases h60 : i < 60
  · exact am_ok_of ok_188_0 (by omega) (by omega) hx
  exact am_ok_of ok_188_60 (by omega) (by omega) hx
theorem ok_189_0 : am_ok 189 0 53 = true := by decide +kernel
theorem okm_189 {i : Nat} {x : am_I} (hx : (am_pr 189)[i]? = some x) : am_chk 189 i x = true := by
  have hl : i < 53 := (List.getElem?_eq_some_iff.mp hx).1
  exact am_ok_of ok_189_0 (by omega) (by omega) hx
theorem ok_190_0 : am_ok 190 0 60 = true := by decide +kernel
theorem ok_190_60 : am_ok 190 60 17 = true := by decide +kernel
theorem okm_190 {i : Nat} {x : am_I} (hx : (am_pr 190)[i]? = some x) : am_chk 190 i x = true := by
  have hl : i < 77 := (List.getElem?_eq_some_iff.mp hx).1
  by_cases h60 : i < 60
  · exact am_ok_of ok_190_0 (by omega) (by omega) hx
  exact am_ok_of ok_190_60 (by omega) (by omega) hx
theorem ok_191_0 : am_ok 191 0 60 = true := by decide +kernel
theorem ok_191_60 : am_ok 191 60 1 = true := by decide +kernel
theorem okm_191 {i : Nat} {x : am_I} (hx : (am_pr 191)[i]? = some x) : am_chk 191 i x = true := by
  have hl : i < 61 := (List.getElem?_eq_some_iff.mp hx).1
  by_cases h60 : i < 60
  · exact am_ok_of ok_191_0 (by omega) (by omega) hx
  exact am_ok_of ok_191_60 (by omega) (by omega) hx
theorem ok_192_0 : am_ok 192 0 52 = true := by decide +kernel
theorem okm_192 {i : Nat} {x : am_I} (hx : (am_pr 192)[i]? = some x) : am_chk 192 i x = true := by
  have hl : i < 52 := (List.getElem?_eq_some_iff.mp hx).1
  exact am_ok_of ok_192_0 (by omega) (by omega) hx
theorem ok_193_0 : am_ok 193 0 46 = true := by decide +kernel
theorem okm_193 {i : Nat} {x : am_I} (hx : (am_pr 193)[i]? = some x) : am_chk 193 i x = true := by
  have hl : i < 46 := (List.getElem?_eq_some_iff.mp hx).1
  exact am_ok_of ok_193_0 (by omega) (by omega) hx
theorem ok_194_0 : am_ok 194 0 32 = true := by decide +kernel
theorem okm_194 {i : Nat} {x : am_I} (hx : (am_pr 194)[i]? = some x) : am_chk 194 i x = true := by
  have hl : i < 32 := (List.getElem?_eq_some_iff.mp hx).1
  exact am_ok_of ok_194_0 (by omega) (by omega) hx
theorem ok_195_0 : am_ok 195 0 58 = true := by decide +kernel
theorem okm_195 {i : Nat} {x : am_I} (hx : (am_pr 195)[i]? = some x) : am_chk 195 i x = true := by
  have hl : i < 58 := (List.getElem?_eq_some_iff.mp hx).1
  exact am_ok_of ok_195_0 (by omega) (by omega) hx
theorem ok_196_0 : am_ok 196 0 41 = true := by decide +kernel
theorem okm_196 {i : Nat} {x : am_I} (hx : (am_pr 196)[i]? = some x) : am_chk 196 i x = true := by
  have hl : i < 41 := (List.getElem?_eq_some_iff.mp hx).1
  exact am_ok_of ok_196_0 (by omega) (by omega) hx
theorem ok_197_0 : am_ok 197 0 60 = true := by decide +kernel
theorem ok_197_60 : am_ok 197 60 9 = true := by decide +kernel
theorem okm_197 {i : Nat} {x : am_I} (hx : (am_pr 197)[i]? = some x) : am_chk 197 i x = true := by
  have hl : i < 69 := (List.getElem?_eq_some_iff.mp hx).1
  by_cases h60 : i < 60
  · exact am_ok_of ok_197_0 (by omega) (by omega) hx
  exact am_ok_of ok_197_60 (by omega) (by omega) hx
theorem ok_198_0 : am_ok 198 0 25 = true := by decide +kernel
theorem okm_198 {i : Nat} {x : am_I} (hx : (am_pr 198)[i]? = some x) : am_chk 198 i x = true := by
  have hl : i < 25 := (List.getElem?_eq_some_iff.mp hx).1
  exact am_ok_of ok_198_0 (by omega) (by omega) hx
theorem ok_199_0 : am_ok 199 0 21 = true := by decide +kernel
theorem okm_199 {i : Nat} {x : am_I} (hx : (am_pr 199)[i]? = some x) : am_chk 199 i x = true := by
  have hl : i < 21 := (List.getElem?_eq_some_iff.mp hx).1
  exact am_ok_of ok_199_0 (by omega) (by omega) hx
theorem ok_200_0 : am_ok 200 0 10 = true := by decide +kernel
theorem okm_200 {i : Nat} {x : am_I} (hx : (am_pr 200)[i]? = some x) : am_chk 200 i x = true := by
  have hl : i < 10 := (List.getElem?_eq_some_iff.mp hx).1
  exact am_ok_of ok_200_0 (by omega) (by omega) hx
theorem ok_201_0 : am_ok 201 0 10 = true := by decide +kernel
theorem okm_201 {i : Nat} {x : am_I} (hx : (am_pr 201)[i]? = some x) : am_chk 201 i x = true := by
  have hl : i < 10 := (List.getElem?_eq_some_iff.mp hx).1
  exact am_ok_of ok_201_0 (by omega) (by omega) hx
theorem ok_202_0 : am_ok 202 0 12 = true := by decide +kernel
theorem okm_202 {i : Nat} {x : am_I} (hx : (am_pr 202)[i]? = some x) : am_chk 202 i x = true := by
  have hl : i < 12 := (List.getElem?_eq_some_iff.mp hx).1
  exact am_ok_of ok_202_0 (by omega) (by omega) hx
theorem ok_203_0 : am_ok 203 0 12 = true := by decide +kernel
theorem okm_203 {i : Nat} {x : am_I} (hx : (am_pr 203)[i]? = some x) : am_chk 203 i x = true := by
  have hl : i < 12 := (List.getElem?_eq_some_iff.mp hx).1
  exact am_ok_of ok_203_0 (by omega) (by omega) hx
theorem ok_204_0 : am_ok 204 0 12 = true := by decide +kernel
theorem okm_204 {i : Nat} {x : am_I} (hx : (am_pr 204)[i]? = some x) : am_chk 204 i x = true := by
  have hl : i < 12 := (List.getElem?_eq_some_iff.mp hx).1
  exact am_ok_of ok_204_0 (by omega) (by omega) hx
theorem ok_205_0 : am_ok 205 0 18 = true := by decide +kernel
theorem okm_205 {i : Nat} {x : am_I} (hx : (am_pr 205)[i]? = some x) : am_chk 205 i x = true := by
  have hl : i < 18 := (List.getElem?_eq_some_iff.mp hx).1
  exact am_ok_of ok_205_0 (by omega) (by omega) hx
theorem ok_206_0 : am_ok 206 0 20 = true := by decide +kernel
theorem okm_206 {i : Nat} {x : am_I} (hx : (am_pr 206)[i]? = some x) : am_chk 206 i x = true := by
  have hl : i < 20 := (List.getElem?_eq_some_iff.mp hx).1
  exact am_ok_of ok_206_0 (by omega) (by omega) hx
theorem ok_207_0 : am_ok 207 0 11 = true := by decide +kernel
theorem okm_207 {i : Nat} {x : am_I} (hx : (am_pr 207)[i]? = some x) : am_chk 207 i x = true := by
  have hl : i < 11 := (List.getElem?_eq_some_iff.mp hx).1
  exact am_ok_of ok_207_0 (by omega) (by omega) hx
theorem ok_208_0 : am_ok 208 0 49 = true := by decide +kernel
theorem okm_208 {i : Nat} {x : am_I} (hx : (am_pr 208)[i]? = some x) : am_chk 208 i x = true := by
  have hl : i < 49 := (List.getElem?_eq_some_iff.mp hx).1
  exact am_ok_of ok_208_0 (by omega) (by omega) hx
theorem ok_209_0 : am_ok 209 0 60 = true := by decide +kernel
theorem ok_209_60 : am_ok 209 60 13 = true := by decide +kernel
theorem okm_209 {i : Nat} {x : am_I} (hx : (am_pr 209)[i]? = some x) : am_chk 209 i x = true := by
  have hl : i < 73 := (List.getElem?_eq_some_iff.mp hx).1
  by_cases h60 : i < 60
  · exact am_ok_of ok_209_0 (by omega) (by omega) hx
  exact am_ok_of ok_209_60 (by omega) (by omega) hx
theorem ok_210_0 : am_ok 210 0 5 = true := by decide +kernel
theorem okm_210 {i : Nat} {x : am_I} (hx : (am_pr 210)[i]? = some x) : am_chk 210 i x = true := by
  have hl : i < 5 := (List.getElem?_eq_some_iff.mp hx).1
  exact am_ok_of ok_210_0 (by omega) (by omega) hx
theorem ok_211_0 : am_ok 211 0 5 = true := by decide +kernel
theorem okm_211 {i : Nat} {x : am_I} (hx : (am_pr 211)[i]? = some x) : am_chk 211 i x = true := by
  have hl : i < 5 := (List.getElem?_eq_some_iff.mp hx).1
  exact am_ok_of ok_211_0 (by omega) (by omega) hx
theorem ok_212_0 : am_ok 212 0 35 = true := by decide +kernel
theorem okm_212 {i : Nat} {x : am_I} (hx : (am_pr 212)[i]? = some x) : am_chk 212 i x = true := by
  have hl : i < 35 := (List.getElem?_eq_some_iff.mp hx).1
  exact am_ok_of ok_212_0 (by omega) (by omega) hx
theorem ok_213_0 : am_ok 213 0 60 = true := by decide +kernel
theorem ok_213_60 : am_ok 213 60 3 = true := by decide +kernel
theorem okm_213 {i : Nat} {x : am_I} (hx : (am_pr 213)[i]? = some x) : am_chk 213 i x = true := by
  have hl : i < 63 := (List.getElem?_eq_some_iff.mp hx).1
  by_cases h60 : i < 60
  · exact am_ok_of ok_213_0 (by omega) (by omega) hx
  exact am_ok_of ok_213_60 (by omega) (by omega) hx
theorem ok_214_0 : am_ok 214 0 60 = true := by decide +kernel
theorem ok_214_60 : am_ok 214 60 28 = true := by decide +kernel
theorem okm_214 {i : Nat} {x : am_I} (hx : (am_pr 214)[i]? = some x) : am_chk 214 i x = true := by
  have hl : i < 88 := (List.getElem?_eq_some_iff.mp hx).1
  by_cases h60 : i < 60
  · exact am_ok_of ok_214_0 (by omega) (by omega) hx
  exact am_ok_of ok_214_60 (by omega) (by omega) hx
theorem ok_215_0 : am_ok 215 0 19 = true := by decide +kernel
theorem okm_215 {i : Nat} {x : am_I} (hx : (am_pr 215)[i]? = some x) : am_chk 215 i x = true := by
  have hl : i < 19 := (List.getElem?_eq_some_iff.mp hx).1
  exact am_ok_of ok_215_0 (by omega) (by omega) hx
theorem ok_216_0 : am_ok 216 0 19 = true := by decide +kernel
theorem okm_216 {i : Nat} {x : am_I} (hx : (am_pr 216)[i]? = some x) : am_chk 216 i x = true := by
  have hl : i < 19 := (List.getElem?_eq_some_iff.mp hx).1
  exact am_ok_of ok_216_0 (by omega) (by omega) hx
theorem ok_217_0 : am_ok 217 0 12 = true := by decide +kernel
theorem okm_217 {i : Nat} {x : am_I} (hx : (am_pr 217)[i]? = some x) : am_chk 217 i x = true := by
  have hl : i < 12 := (List.getElem?_eq_some_iff.mp hx).1
  exact am_ok_of ok_217_0 (by omega) (by omega) hx
theorem ok_218_0 : am_ok 218 0 59 = true := by decide +kernel
theorem okm_218 {i : Nat} {x : am_I} (hx : (am_pr 218)[i]? = some x) : am_chk 218 i x = true := by
  have hl : i < 59 := (List.getElem?_eq_some_iff.mp hx).1
  exact am_ok_of ok_218_0 (by omega) (by omega) hx
theorem ok_219_0 : am_ok 219 0 22 = true := by decide +kernel
theorem okm_219 {i : Nat} {x : am_I} (hx : (am_pr 219)[i]? = some x) : am_chk 219 i x = true := by
  have hl : i < 22 := (List.getElem?_eq_some_iff.mp hx).1
  exact am_ok_of ok_219_0 (by omega) (by omega) hx
theorem ok_220_0 : am_ok 220 0 60 = true := by decide +kernel
theorem ok_220_60 : am_ok 220 60 6 = true := by decide +kernel
theorem okm_220 {i : Nat} {x : am_I} (hx : (am_pr 220)[i]? = some x) : am_chk 220 i x = true := by
  have hl : i < 66 := (List.getElem?_eq_some_iff.mp hx).1
  by_cases h60 : i < 60
  · exact am_ok_of ok_220_0 (by omega) (by omega) hx
  exact am_ok_of ok_220_60 (by omega) (by omega) hx
theorem ok_221_0 : am_ok 221 0 15 = true := by decide +kernel
theorem okm_221 {i : Nat} {x : am_I} (hx : (am_pr 221)[i]? = some x) : am_chk 221 i x = true := by
  have hl : i < 15 := (List.getElem?_eq_some_iff.mp hx).1
  exact am_ok_of ok_221_0 (by omega) (by omega) hx
theorem ok_222_0 : am_ok 222 0 16 = true := by decide +kernel
theorem okm_222 {i : Nat} {x : am_I} (hx : (am_pr 222)[i]? = some x) : am_chk 222 i x = true := by
  have hl : i < 16 := (List.getElem?_eq_some_iff.mp hx).1
  exact am_ok_of ok_222_0 (by omega) (by omega) hx
theorem ok_223_0 : am_ok 223 0 22 = true := by decide +kernel
theorem okm_223 {i : Nat} {x : am_I} (hx : (am_pr 223)[i]? = some x) : am_chk 223 i x = true := by
  have hl : i < 22 := (List.getElem?_eq_some_iff.mp hx).1
  exact am_ok_of ok_223_0 (by omega) (by omega) hx
theorem ok_224_0 : am_ok 224 0 43 = true := by decide +kernel
theorem okm_224 {i : Nat} {x : am_I} (hx : (am_pr 224)[i]? = some x) : am_chk 224 i x = true := by
  have hl : i < 43 := (List.getElem?_eq_some_iff.mp hx).1
  exact am_ok_of ok_224_0 (by omega) (by omega) hx
theorem ok_225_0 : am_ok 225 0 26 = true := by decide +kernel
theorem okm_225 {i : Nat} {x : am_I} (hx : (am_pr 225)[i]? = some x) : am_chk 225 i x = true := by
  have hl : i < 26 := (List.getElem?_eq_some_iff.mp hx).1
  exact am_ok_of ok_225_0 (by omega) (by omega) hx
theorem ok_226_0 : am_ok 226 0 22 = true := by decide +kernel
theorem okm_226 {i : Nat} {x : am_I} (hx : (am_pr 226)[i]? = some x) : am_chk 226 i x = true := by
  have hl : i < 22 := (List.getElem?_eq_some_iff.mp hx).1
  exact am_ok_of ok_226_0 (by omega) (by omega) hx
theorem ok_227_0 : am_ok 227 0 28 = true := by decide +kernel
theorem okm_227 {i : Nat} {x : am_I} (hx : (am_pr 227)[i]? = some x) : am_chk 227 i x = true := by
  have hl : i < 28 := (List.getElem?_eq_some_iff.mp hx).1
  exact am_ok_of ok_227_0 (by omega) (by omega) hx
theorem ok_228_0 : am_ok 228 0 32 = true := by decide +kernel
theorem okm_228 {i : Nat} {x : am_I} (hx : (am_pr 228)[i]? = some x) : am_chk 228 i x = true := by
  have hl : i < 32 := (List.getElem?_eq_some_iff.mp hx).1
  exact am_ok_of ok_228_0 (by omega) (by omega) hx
theorem ok_229_0 : am_ok 229 0 57 = true := by decide +kernel
theorem okm_229 {i : Nat} {x : am_I} (hx : (am_pr 229)[i]? = some x) : am_chk 229 i x = true := by
  have hl : i < 57 := (List.getElem?_eq_some_iff.mp hx).1
  exact am_ok_of ok_229_0 (by omega) (by omega) hx
theorem ok_230_0 : am_ok 230 0 60 = true := by decide +kernel
theorem ok_230_60 : am_ok 230 60 39 = true := by decide +kernel
theorem okm_230 {i : Nat} {x : am_I} (hx : (am_pr 230)[i]? = some x) : am_chk 230 i x = true := by
  have hl : i < 99 := (List.getElem?_eq_some_iff.mp hx).1
  by_cases h60 : i < 60
  · exact am_ok_of ok_230_0 (by omega) (by omega) hx
  exact am_ok_of ok_230_60 (by omega) (by omega) hx
theorem ok_231_0 : am_ok 231 0 60 = true := by decide +kernel
theorem ok_231_60 : am_ok 231 60 60 = true := by decide +kernel
theorem ok_231_120 : am_ok 231 120 60 = true := by decide +kernel
theorem ok_231_180 : am_ok 231 180 60 = true := by decide +kernel
theorem ok_231_240 : am_ok 231 240 60 = true := by decide +kernel
theorem ok_231_300 : am_ok 231 300 60 = true := by decide +kernel
theorem ok_231_360 : am_ok 231 360 60 = true := by decide +kernel
theorem ok_231_420 : am_ok 231 420 60 = true := by decide +kernel
theorem ok_231_480 : am_ok 231 480 60 = true := by decide +kernel
theorem ok_231_540 : am_ok 231 540 60 = true := by decide +kernel
theorem ok_231_600 : am_ok 231 600 60 = true := by decide +kernel
theorem ok_231_660 : am_ok 231 660 60 = true := by decide +kernel
theorem ok_231_720 : am_ok 231 720 60 = true := by decide +kernel
theorem ok_231_780 : am_ok 231 780 60 = true := by decide +kernel
theorem ok_231_840 : am_ok 231 840 55 = true := by decide +kernel
