/-! THE TABLES ARE CHECKED: each instruction against the bytes and the words, by the kernel -/
set_option maxRecDepth 100000 in
theorem zq_204 : zz_cka 204 0 zm_204 = true := by decide +kernel
theorem zn_204 : zz_ckm 204 = true := by decide +kernel
set_option maxRecDepth 100000 in
theorem zq_205 : zz_cka 205 0 zm_205 = true := by decide +kernel
theorem zn_205 : zz_ckm 205 = true := by decide +kernel
set_option maxRecDepth 100000 in
theorem zq_206 : zz_cka 206 0 zm_206 = true := by decide +kernel
theorem zn_206 : zz_ckm 206 = true := by decide +kernel
set_option maxRecDepth 100000 in
theorem zq_207 : zz_cka 207 0 zm_207 = true := by decide +kernel
theorem zn_207 : zz_ckm 207 = true := by decide +kernel
set_option maxRecDepth 100000 in
theorem zq_208_0 : zz_cka 208 0 zm_208_0 = true := by decide +kernel
set_option maxRecDepth 100000 in
theorem zq_208_1 : zz_cka 208 66 zm_208_1 = true := by decide +kernel
theorem zq_208 : zz_cka 208 0 zm_208 = true := zz_cka_cat zq_208_0 (by decide +kernel) (zq_208_1)
theorem zn_208 : zz_ckm 208 = true := by decide +kernel
set_option maxRecDepth 100000 in
theorem zq_209 : zz_cka 209 0 zm_209 = true := by decide +kernel
theorem zn_209 : zz_ckm 209 = true := by decide +kernel
set_option maxRecDepth 100000 in
theorem zq_210 : zz_cka 210 0 zm_210 = true := by decide +kernel
theorem zn_210 : zz_ckm 210 = true := by decide +kernel
set_option maxRecDepth 100000 in
theorem zq_211_0 : zz_cka 211 0 zm_211_0 = true := by decide +kernel
set_option maxRecDepth 100000 in
theorem zq_211_1 : zz_cka 211 65 zm_211_1 = true := by decide +kernel
theorem zq_211 : zz_cka 211 0 zm_211 = true := zz_cka_cat zq_211_0 (by decide +kernel) (zq_211_1)
theorem zn_211 : zz_ckm 211 = true := by decide +kernel
set_option maxRecDepth 100000 in
theorem zq_212_0 : zz_cka 212 0 zm_212_0 = true := by decide +kernel
set_option maxRecDepth 100000 in
theorem zq_212_1 : zz_cka 212 74 zm_212_1 = true := by decide +kernel
set_option maxRecDepth 100000 in
theorem zq_212_2 : zz_cka 212 159 zm_212_2 = true := by decide +kernel
theorem zq_212 : zz_cka 212 0 zm_212 = true := zz_cka_cat zq_212_0 (by decide +kernel) (zz_cka_cat zq_212_1 (by decide +kernel) (zq_212_2))
theorem zn_212 : zz_ckm 212 = true := by decide +kernel
set_option maxRecDepth 100000 in
theorem zq_213_0 : zz_cka 213 0 zm_213_0 = true := by decide +kernel
set_option maxRecDepth 100000 in
theorem zq_213_1 : zz_cka 213 66 zm_213_1 = true := by decide +kernel
set_option maxRecDepth 100000 in
theorem zq_213_2 : zz_cka 213 130 zm_213_2 = true := by decide +kernel
theorem zq_213 : zz_cka 213 0 zm_213 = true := zz_cka_cat zq_213_0 (by decide +kernel) (zz_cka_cat zq_213_1 (by decide +kernel) (zq_213_2))
theorem zn_213 : zz_ckm 213 = true := by decide +kernel
set_option maxRecDepth 100000 in
theorem zq_214_0 : zz_cka 214 0 zm_214_0 = true := by decide +kernel
set_option maxRecDepth 100000 in
theorem zq_214_1 : zz_cka 214 66 zm_214_1 = true := by decide +kernel
theorem zq_214 : zz_cka 214 0 zm_214 = true := zz_cka_cat zq_214_0 (by decide +kernel) (zq_214_1)
theorem zn_214 : zz_ckm 214 = true := by decide +kernel
set_option maxRecDepth 100000 in
theorem zq_215 : zz_cka 215 0 zm_215 = true := by decide +kernel
theorem zn_215 : zz_ckm 215 = true := by decide +kernel
set_option maxRecDepth 100000 in
theorem zq_216_0 : zz_cka 216 0 zm_216_0 = true := by decide +kernel
set_option maxRecDepth 100000 in
theorem zq_216_1 : zz_cka 216 70 zm_216_1 = true := by decide +kernel
set_option maxRecDepth 100000 in
theorem zq_216_2 : zz_cka 216 146 zm_216_2 = true := by decide +kernel
theorem zq_216 : zz_cka 216 0 zm_216 = true := zz_cka_cat zq_216_0 (by decide +kernel) (zz_cka_cat zq_216_1 (by decide +kernel) (zq_216_2))
theorem zn_216 : zz_ckm 216 = true := by decide +kernel
set_option maxRecDepth 100000 in
theorem zq_217 : zz_cka 217 0 zm_217 = true := by decide +kernel
theorem zn_217 : zz_ckm 217 = true := by decide +kernel
set_option maxRecDepth 100000 in
theorem zq_218 : zz_cka 218 0 zm_218 = true := by decide +kernel
theorem zn_218 : zz_ckm 218 = true := by decide +kernel
set_option maxRecDepth 100000 in
theorem zq_219 : zz_cka 219 0 zm_219 = true := by decide +kernel
theorem zn_219 : zz_ckm 219 = true := by decide +kernel
set_option maxRecDepth 100000 in
theorem zq_220 : zz_cka 220 0 zm_220 = true := by decide +kernel
theorem zn_220 : zz_ckm 220 = true := by decide +kernel
set_option maxRecDepth 100000 in
theorem zq_221 : zz_cka 221 0 zm_221 = true := by decide +kernel
theorem zn_221 : zz_ckm 221 = true := by decide +kernel
set_option maxRecDepth 100000 in
theorem zq_222 : zz_cka 222 0 zm_222 = true := by decide +kernel
theorem zn_222 : zz_ckm 222 = true := by decide +kernel
set_option maxRecDepth 100000 in
theorem zq_223 : zz_cka 223 0 zm_223 = true := by decide +kernel
theorem zn_223 : zz_ckm 223 = true := by decide +kernel
set_option maxRecDepth 100000 in
theorem zq_224 : zz_cka 224 0 zm_224 = true := by decide +kernel
theorem zn_224 : zz_ckm 224 = true := by decide +kernel
set_option maxRecDepth 100000 in
theorem zq_225 : zz_cka 225 0 zm_225 = true := by decide +kernel
theorem zn_225 : zz_ckm 225 = true := by decide +kernel
