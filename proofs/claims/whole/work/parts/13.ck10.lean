/-! THE TABLES ARE CHECKED: each instruction against the bytes and the words, by the kernel -/
set_option maxRecDepth 100000 in
theorem zq_226_0 : zz_cka 226 0 zm_226_0 = true := by decide +kernel
set_option maxRecDepth 100000 in
theorem zq_226_1 : zz_cka 226 67 zm_226_1 = true := by decide +kernel
theorem zq_226 : zz_cka 226 0 zm_226 = true := zz_cka_cat zq_226_0 (by decide +kernel) (zq_226_1)
theorem zn_226 : zz_ckm 226 = true := by decide +kernel
set_option maxRecDepth 100000 in
theorem zq_227 : zz_cka 227 0 zm_227 = true := by decide +kernel
theorem zn_227 : zz_ckm 227 = true := by decide +kernel
set_option maxRecDepth 100000 in
theorem zq_228 : zz_cka 228 0 zm_228 = true := by decide +kernel
theorem zn_228 : zz_ckm 228 = true := by decide +kernel
set_option maxRecDepth 100000 in
theorem zq_229_0 : zz_cka 229 0 zm_229_0 = true := by decide +kernel
set_option maxRecDepth 100000 in
theorem zq_229_1 : zz_cka 229 70 zm_229_1 = true := by decide +kernel
set_option maxRecDepth 100000 in
theorem zq_229_2 : zz_cka 229 144 zm_229_2 = true := by decide +kernel
set_option maxRecDepth 100000 in
theorem zq_229_3 : zz_cka 229 221 zm_229_3 = true := by decide +kernel
theorem zq_229 : zz_cka 229 0 zm_229 = true := zz_cka_cat zq_229_0 (by decide +kernel) (zz_cka_cat zq_229_1 (by decide +kernel) (zz_cka_cat zq_229_2 (by decide +kernel) (zq_229_3)))
theorem zn_229 : zz_ckm 229 = true := by decide +kernel
set_option maxRecDepth 100000 in
theorem zq_230_0 : zz_cka 230 0 zm_230_0 = true := by decide +kernel
set_option maxRecDepth 100000 in
theorem zq_230_1 : zz_cka 230 74 zm_230_1 = true := by decide +kernel
set_option maxRecDepth 100000 in
theorem zq_230_2 : zz_cka 230 153 zm_230_2 = true := by decide +kernel
set_option maxRecDepth 100000 in
theorem zq_230_3 : zz_cka 230 227 zm_230_3 = true := by decide +kernel
set_option maxRecDepth 100000 in
theorem zq_230_4 : zz_cka 230 303 zm_230_4 = true := by decide +kernel
theorem zq_230 : zz_cka 230 0 zm_230 = true := zz_cka_cat zq_230_0 (by decide +kernel) (zz_cka_cat zq_230_1 (by decide +kernel) (zz_cka_cat zq_230_2 (by decide +kernel) (zz_cka_cat zq_230_3 (by decide +kernel) (zq_230_4))))
theorem zn_230 : zz_ckm 230 = true := by decide +kernel
set_option maxRecDepth 100000 in
theorem zq_231_0 : zz_cka 231 0 zm_231_0 = true := by decide +kernel
set_option maxRecDepth 100000 in
theorem zq_231_1 : zz_cka 231 69 zm_231_1 = true := by decide +kernel
set_option maxRecDepth 100000 in
theorem zq_231_2 : zz_cka 231 141 zm_231_2 = true := by decide +kernel
theorem zq_231 : zz_cka 231 0 zm_231 = true := zz_cka_cat zq_231_0 (by decide +kernel) (zz_cka_cat zq_231_1 (by decide +kernel) (zq_231_2))
theorem zn_231 : zz_ckm 231 = true := by decide +kernel
set_option maxRecDepth 100000 in
theorem zq_232 : zz_cka 232 0 zm_232 = true := by decide +kernel
theorem zn_232 : zz_ckm 232 = true := by decide +kernel
set_option maxRecDepth 100000 in
theorem zq_233 : zz_cka 233 0 zm_233 = true := by decide +kernel
theorem zn_233 : zz_ckm 233 = true := by decide +kernel
set_option maxRecDepth 100000 in
theorem zq_234 : zz_cka 234 0 zm_234 = true := by decide +kernel
theorem zn_234 : zz_ckm 234 = true := by decide +kernel
set_option maxRecDepth 100000 in
theorem zq_235 : zz_cka 235 0 zm_235 = true := by decide +kernel
theorem zn_235 : zz_ckm 235 = true := by decide +kernel
set_option maxRecDepth 100000 in
theorem zq_236 : zz_cka 236 0 zm_236 = true := by decide +kernel
theorem zn_236 : zz_ckm 236 = true := by decide +kernel
set_option maxRecDepth 100000 in
theorem zq_237 : zz_cka 237 0 zm_237 = true := by decide +kernel
theorem zn_237 : zz_ckm 237 = true := by decide +kernel
set_option maxRecDepth 100000 in
theorem zq_238 : zz_cka 238 0 zm_238 = true := by decide +kernel
theorem zn_238 : zz_ckm 238 = true := by decide +kernel
set_option maxRecDepth 100000 in
theorem zq_239_0 : zz_cka 239 0 zm_239_0 = true := by decide +kernel
set_option maxRecDepth 100000 in
theorem zq_239_1 : zz_cka 239 71 zm_239_1 = true := by decide +kernel
theorem zq_239 : zz_cka 239 0 zm_239 = true := zz_cka_cat zq_239_0 (by decide +kernel) (zq_239_1)
theorem zn_239 : zz_ckm 239 = true := by decide +kernel
set_option maxRecDepth 100000 in
theorem zq_240 : zz_cka 240 0 zm_240 = true := by decide +kernel
theorem zn_240 : zz_ckm 240 = true := by decide +kernel
set_option maxRecDepth 100000 in
theorem zq_241 : zz_cka 241 0 zm_241 = true := by decide +kernel
theorem zn_241 : zz_ckm 241 = true := by decide +kernel
set_option maxRecDepth 100000 in
theorem zq_242_0 : zz_cka 242 0 zm_242_0 = true := by decide +kernel
set_option maxRecDepth 100000 in
theorem zq_242_1 : zz_cka 242 64 zm_242_1 = true := by decide +kernel
set_option maxRecDepth 100000 in
theorem zq_242_2 : zz_cka 242 128 zm_242_2 = true := by decide +kernel
set_option maxRecDepth 100000 in
theorem zq_242_3 : zz_cka 242 193 zm_242_3 = true := by decide +kernel
theorem zq_242 : zz_cka 242 0 zm_242 = true := zz_cka_cat zq_242_0 (by decide +kernel) (zz_cka_cat zq_242_1 (by decide +kernel) (zz_cka_cat zq_242_2 (by decide +kernel) (zq_242_3)))
theorem zn_242 : zz_ckm 242 = true := by decide +kernel
