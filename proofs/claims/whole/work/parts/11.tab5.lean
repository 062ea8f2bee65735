/-! tables of methods -/
set_option maxRecDepth 100000 in
theorem zmok_200 : zmOK 200 := zmOK_of (n := 65) (fun pc h => by
  show zp200 pc = none
  unfold zp200
  rw [zble_t h]
  rfl) (by decide +kernel) (by rfl) (by decide +kernel)
set_option maxRecDepth 100000 in
theorem zmok_201 : zmOK 201 := zmOK_of (n := 40) (fun pc h => by
  show zp201 pc = none
  unfold zp201
  rw [zble_t h]
  rfl) (by decide +kernel) (by rfl) (by decide +kernel)
set_option maxRecDepth 100000 in
theorem zmok_202 : zmOK 202 := zmOK_of (n := 105) (fun pc h => by
  show zp202 pc = none
  unfold zp202
  rw [zble_t h]
  rfl) (by decide +kernel) (by rfl) (by decide +kernel)
set_option maxRecDepth 100000 in
theorem zmok_203 : zmOK 203 := zmOK_of (n := 102) (fun pc h => by
  show zp203 pc = none
  unfold zp203
  rw [zble_t h]
  rfl) (by decide +kernel) (by rfl) (by decide +kernel)
set_option maxRecDepth 100000 in
theorem zmok_204 : zmOK 204 := zmOK_of (n := 72) (fun pc h => by
  show zp204 pc = none
  unfold zp204
  rw [zble_t h]
  rfl) (by decide +kernel) (by rfl) (by decide +kernel)
set_option maxRecDepth 100000 in
theorem zmok_205 : zmOK 205 := zmOK_of (n := 57) (fun pc h => by
  show zp205 pc = none
  unfold zp205
  rw [zble_t h]
  rfl) (by decide +kernel) (by rfl) (by decide +kernel)
set_option maxRecDepth 100000 in
theorem zmok_206 : zmOK 206 := zmOK_of (n := 54) (fun pc h => by
  show zp206 pc = none
  unfold zp206
  rw [zble_t h]
  rfl) (by decide +kernel) (by rfl) (by decide +kernel)
set_option maxRecDepth 100000 in
theorem zmok_207 : zmOK 207 := zmOK_of (n := 209) (fun pc h => by
  show zp207 pc = none
  unfold zp207
  rw [zble_t h]
  rfl) (by decide +kernel) (by rfl) (by decide +kernel)
set_option maxRecDepth 100000 in
theorem zmok_208 : zmOK 208 := zmOK_of (n := 142) (fun pc h => by
  show zp208 pc = none
  unfold zp208
  rw [zble_t h]
  rfl) (by decide +kernel) (by rfl) (by decide +kernel)
set_option maxRecDepth 100000 in
theorem zmok_209 : zmOK 209 := zmOK_of (n := 113) (fun pc h => by
  show zp209 pc = none
  unfold zp209
  rw [zble_t h]
  rfl) (by decide +kernel) (by rfl) (by decide +kernel)
set_option maxRecDepth 100000 in
theorem zmok_210 : zmOK 210 := zmOK_of (n := 19) (fun pc h => by
  show zp210 pc = none
  unfold zp210
  rw [zble_t h]
  rfl) (by decide +kernel) (by rfl) (by decide +kernel)
set_option maxRecDepth 100000 in
theorem zmok_211 : zmOK 211 := zmOK_of (n := 41) (fun pc h => by
  show zp211 pc = none
  unfold zp211
  rw [zble_t h]
  rfl) (by decide +kernel) (by rfl) (by decide +kernel)
set_option maxRecDepth 100000 in
theorem zmok_212 : zmOK 212 := zmOK_of (n := 190) (fun pc h => by
  show zp212 pc = none
  unfold zp212
  rw [zble_t h]
  rfl) (by decide +kernel) (by rfl) (by decide +kernel)
set_option maxRecDepth 100000 in
theorem zmok_213 : zmOK 213 := zmOK_of (n := 101) (fun pc h => by
  show zp213 pc = none
  unfold zp213
  rw [zble_t h]
  rfl) (by decide +kernel) (by rfl) (by decide +kernel)
set_option maxRecDepth 100000 in
theorem zmok_214 : zmOK 214 := zmOK_of (n := 75) (fun pc h => by
  show zp214 pc = none
  unfold zp214
  rw [zble_t h]
  rfl) (by decide +kernel) (by rfl) (by decide +kernel)
set_option maxRecDepth 100000 in
theorem zmok_215 : zmOK 215 := zmOK_of (n := 154) (fun pc h => by
  show zp215 pc = none
  unfold zp215
  rw [zble_t h]
  rfl) (by decide +kernel) (by rfl) (by decide +kernel)
set_option maxRecDepth 100000 in
theorem zmok_216 : zmOK 216 := zmOK_of (n := 22) (fun pc h => by
  show zp216 pc = none
  unfold zp216
  rw [zble_t h]
  rfl) (by decide +kernel) (by rfl) (by decide +kernel)
set_option maxRecDepth 100000 in
theorem zmok_217 : zmOK 217 := zmOK_of (n := 15) (fun pc h => by
  show zp217 pc = none
  unfold zp217
  rw [zble_t h]
  rfl) (by decide +kernel) (by rfl) (by decide +kernel)
set_option maxRecDepth 100000 in
theorem zmok_218 : zmOK 218 := zmOK_of (n := 97) (fun pc h => by
  show zp218 pc = none
  unfold zp218
  rw [zble_t h]
  rfl) (by decide +kernel) (by rfl) (by decide +kernel)
set_option maxRecDepth 100000 in
theorem zmok_219 : zmOK 219 := zmOK_of (n := 119) (fun pc h => by
  show zp219 pc = none
  unfold zp219
  rw [zble_t h]
  rfl) (by decide +kernel) (by rfl) (by decide +kernel)
set_option maxRecDepth 100000 in
theorem zmok_220 : zmOK 220 := zmOK_of (n := 81) (fun pc h => by
  show zp220 pc = none
  unfold zp220
  rw [zble_t h]
  rfl) (by decide +kernel) (by rfl) (by decide +kernel)
set_option maxRecDepth 100000 in
theorem zmok_221 : zmOK 221 := zmOK_of (n := 46) (fun pc h => by
  show zp221 pc = none
  unfold zp221
  rw [zble_t h]
  rfl) (by decide +kernel) (by rfl) (by decide +kernel)
set_option maxRecDepth 100000 in
theorem zmok_222 : zmOK 222 := zmOK_of (n := 23) (fun pc h => by
  show zp222 pc = none
  unfold zp222
  rw [zble_t h]
  rfl) (by decide +kernel) (by rfl) (by decide +kernel)
set_option maxRecDepth 100000 in
theorem zmok_223 : zmOK 223 := zmOK_of (n := 34) (fun pc h => by
  show zp223 pc = none
  unfold zp223
  rw [zble_t h]
  rfl) (by decide +kernel) (by rfl) (by decide +kernel)
set_option maxRecDepth 100000 in
theorem zmok_224 : zmOK 224 := zmOK_of (n := 128) (fun pc h => by
  show zp224 pc = none
  unfold zp224
  rw [zble_t h]
  rfl) (by decide +kernel) (by rfl) (by decide +kernel)
set_option maxRecDepth 100000 in
theorem zmok_225 : zmOK 225 := zmOK_of (n := 181) (fun pc h => by
  show zp225 pc = none
  unfold zp225
  rw [zble_t h]
  rfl) (by decide +kernel) (by rfl) (by decide +kernel)
set_option maxRecDepth 100000 in
theorem zmok_226 : zmOK 226 := zmOK_of (n := 14) (fun pc h => by
  show zp226 pc = none
  unfold zp226
  rw [zble_t h]
  rfl) (by decide +kernel) (by rfl) (by decide +kernel)
set_option maxRecDepth 100000 in
theorem zmok_227 : zmOK 227 := zmOK_of (n := 14) (fun pc h => by
  show zp227 pc = none
  unfold zp227
  rw [zble_t h]
  rfl) (by decide +kernel) (by rfl) (by decide +kernel)
set_option maxRecDepth 100000 in
theorem zmok_228 : zmOK 228 := zmOK_of (n := 156) (fun pc h => by
  show zp228 pc = none
  unfold zp228
  rw [zble_t h]
  rfl) (by decide +kernel) (by rfl) (by decide +kernel)
set_option maxRecDepth 100000 in
theorem zmok_229 : zmOK 229 := zmOK_of (n := 21) (fun pc h => by
  show zp229 pc = none
  unfold zp229
  rw [zble_t h]
  rfl) (by decide +kernel) (by rfl) (by decide +kernel)
set_option maxRecDepth 100000 in
theorem zmok_230 : zmOK 230 := zmOK_of (n := 11) (fun pc h => by
  show zp230 pc = none
  unfold zp230
  rw [zble_t h]
  rfl) (by decide +kernel) (by rfl) (by decide +kernel)
set_option maxRecDepth 100000 in
theorem zmok_231 : zmOK 231 := zmOK_of (n := 15) (fun pc h => by
  show zp231 pc = none
  unfold zp231
  rw [zble_t h]
  rfl) (by decide +kernel) (by rfl) (by decide +kernel)
set_option maxRecDepth 100000 in
theorem zmok_232 : zmOK 232 := zmOK_of (n := 19) (fun pc h => by
  show zp232 pc = none
  unfold zp232
  rw [zble_t h]
  rfl) (by decide +kernel) (by rfl) (by decide +kernel)
set_option maxRecDepth 100000 in
theorem zmok_233 : zmOK 233 := zmOK_of (n := 25) (fun pc h => by
  show zp233 pc = none
  unfold zp233
  rw [zble_t h]
  rfl) (by decide +kernel) (by rfl) (by decide +kernel)
set_option maxRecDepth 100000 in
theorem zmok_234 : zmOK 234 := zmOK_of (n := 15) (fun pc h => by
  show zp234 pc = none
  unfold zp234
  rw [zble_t h]
  rfl) (by decide +kernel) (by rfl) (by decide +kernel)
set_option maxRecDepth 100000 in
theorem zmok_235 : zmOK 235 := zmOK_of (n := 10) (fun pc h => by
  show zp235 pc = none
  unfold zp235
  rw [zble_t h]
  rfl) (by decide +kernel) (by rfl) (by decide +kernel)
set_option maxRecDepth 100000 in
theorem zmok_236 : zmOK 236 := zmOK_of (n := 18) (fun pc h => by
  show zp236 pc = none
  unfold zp236
  rw [zble_t h]
  rfl) (by decide +kernel) (by rfl) (by decide +kernel)
