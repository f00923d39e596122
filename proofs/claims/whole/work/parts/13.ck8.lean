/-! THE TABLES ARE CHECKED: each instruction against the bytes and the words, by the kernel -/
set_option maxRecDepth 100000 in
theorem zq_178_0 : zz_cka 178 0 zm_178_0 = true := by decide +kernel
set_option maxRecDepth 100000 in
theorem zq_178_1 : zz_cka 178 59 zm_178_1 = true := by decide +kernel
theorem zq_178 : zz_cka 178 0 zm_178 = true := zz_cka_cat zq_178_0 (by decide +kernel) (zq_178_1)
theorem zn_178 : zz_ckm 178 = true := by decide +kernel
set_option maxRecDepth 100000 in
theorem zq_179_0 : zz_cka 179 0 zm_179_0 = true := by decide +kernel
set_option maxRecDepth 100000 in
theorem zq_179_1 : zz_cka 179 67 zm_179_1 = true := by decide +kernel
theorem zq_179 : zz_cka 179 0 zm_179 = true := zz_cka_cat zq_179_0 (by decide +kernel) (zq_179_1)
theorem zn_179 : zz_ckm 179 = true := by decide +kernel
set_option maxRecDepth 100000 in
theorem zq_180 : zz_cka 180 0 zm_180 = true := by decide +kernel
theorem zn_180 : zz_ckm 180 = true := by decide +kernel
set_option maxRecDepth 100000 in
theorem zq_181 : zz_cka 181 0 zm_181 = true := by decide +kernel
theorem zn_181 : zz_ckm 181 = true := by decide +kernel
set_option maxRecDepth 100000 in
theorem zq_182 : zz_cka 182 0 zm_182 = true := by decide +kernel
theorem zn_182 : zz_ckm 182 = true := by decide +kernel
set_option maxRecDepth 100000 in
theorem zq_183_0 : zz_cka 183 0 zm_183_0 = true := by decide +kernel
set_option maxRecDepth 100000 in
theorem zq_183_1 : zz_cka 183 92 zm_183_1 = true := by decide +kernel
theorem zq_183 : zz_cka 183 0 zm_183 = true := zz_cka_cat zq_183_0 (by decide +kernel) (zq_183_1)
theorem zn_183 : zz_ckm 183 = true := by decide +kernel
set_option maxRecDepth 100000 in
theorem zq_184 : zz_cka 184 0 zm_184 = true := by decide +kernel
theorem zn_184 : zz_ckm 184 = true := by decide +kernel
set_option maxRecDepth 100000 in
theorem zq_185 : zz_cka 185 0 zm_185 = true := by decide +kernel
theorem zn_185 : zz_ckm 185 = true := by decide +kernel
set_option maxRecDepth 100000 in
theorem zq_186 : zz_cka 186 0 zm_186 = true := by decide +kernel
theorem zn_186 : zz_ckm 186 = true := by decide +kernel
set_option maxRecDepth 100000 in
theorem zq_187 : zz_cka 187 0 zm_187 = true := by decide +kernel
theorem zn_187 : zz_ckm 187 = true := by decide +kernel
set_option maxRecDepth 100000 in
theorem zq_188 : zz_cka 188 0 zm_188 = true := by decide +kernel
theorem zn_188 : zz_ckm 188 = true := by decide +kernel
set_option maxRecDepth 100000 in
theorem zq_189 : zz_cka 189 0 zm_189 = true := by decide +kernel
theorem zn_189 : zz_ckm 189 = true := by decide +kernel
set_option maxRecDepth 100000 in
theorem zq_190 : zz_cka 190 0 zm_190 = true := by decide +kernel
theorem zn_190 : zz_ckm 190 = true := by decide +kernel
set_option maxRecDepth 100000 in
theorem zq_191 : zz_cka 191 0 zm_191 = true := by decide +kernel
theorem zn_191 : zz_ckm 191 = true := by decide +kernel
set_option maxRecDepth 100000 in
theorem zq_192 : zz_cka 192 0 zm_192 = true := by decide +kernel
theorem zn_192 : zz_ckm 192 = true := by decide +kernel
set_option maxRecDepth 100000 in
theorem zq_193 : zz_cka 193 0 zm_193 = true := by decide +kernel
theorem zn_193 : zz_ckm 193 = true := by decide +kernel
set_option maxRecDepth 100000 in
theorem zq_194_0 : zz_cka 194 0 zm_194_0 = true := by decide +kernel
set_option maxRecDepth 100000 in
theorem zq_194_1 : zz_cka 194 71 zm_194_1 = true := by decide +kernel
theorem zq_194 : zz_cka 194 0 zm_194 = true := zz_cka_cat zq_194_0 (by decide +kernel) (zq_194_1)
theorem zn_194 : zz_ckm 194 = true := by decide +kernel
set_option maxRecDepth 100000 in
theorem zq_195 : zz_cka 195 0 zm_195 = true := by decide +kernel
theorem zn_195 : zz_ckm 195 = true := by decide +kernel
set_option maxRecDepth 100000 in
theorem zq_196 : zz_cka 196 0 zm_196 = true := by decide +kernel
theorem zn_196 : zz_ckm 196 = true := by decide +kernel
set_option maxRecDepth 100000 in
theorem zq_197_0 : zz_cka 197 0 zm_197_0 = true := by decide +kernel
set_option maxRecDepth 100000 in
theorem zq_197_1 : zz_cka 197 57 zm_197_1 = true := by decide +kernel
theorem zq_197 : zz_cka 197 0 zm_197 = true := zz_cka_cat zq_197_0 (by decide +kernel) (zq_197_1)
theorem zn_197 : zz_ckm 197 = true := by decide +kernel
set_option maxRecDepth 100000 in
theorem zq_198_0 : zz_cka 198 0 zm_198_0 = true := by decide +kernel
set_option maxRecDepth 100000 in
theorem zq_198_1 : zz_cka 198 69 zm_198_1 = true := by decide +kernel
theorem zq_198 : zz_cka 198 0 zm_198 = true := zz_cka_cat zq_198_0 (by decide +kernel) (zq_198_1)
theorem zn_198 : zz_ckm 198 = true := by decide +kernel
set_option maxRecDepth 100000 in
theorem zq_199_0 : zz_cka 199 0 zm_199_0 = true := by decide +kernel
set_option maxRecDepth 100000 in
theorem zq_199_1 : zz_cka 199 59 zm_199_1 = true := by decide +kernel
theorem zq_199 : zz_cka 199 0 zm_199 = true := zz_cka_cat zq_199_0 (by decide +kernel) (zq_199_1)
theorem zn_199 : zz_ckm 199 = true := by decide +kernel
set_option maxRecDepth 100000 in
theorem zq_200 : zz_cka 200 0 zm_200 = true := by decide +kernel
theorem zn_200 : zz_ckm 200 = true := by decide +kernel
set_option maxRecDepth 100000 in
theorem zq_201 : zz_cka 201 0 zm_201 = true := by decide +kernel
theorem zn_201 : zz_ckm 201 = true := by decide +kernel
set_option maxRecDepth 100000 in
theorem zq_202 : zz_cka 202 0 zm_202 = true := by decide +kernel
theorem zn_202 : zz_ckm 202 = true := by decide +kernel
set_option maxRecDepth 100000 in
theorem zq_203_0 : zz_cka 203 0 zm_203_0 = true := by decide +kernel
set_option maxRecDepth 100000 in
theorem zq_203_1 : zz_cka 203 70 zm_203_1 = true := by decide +kernel
theorem zq_203 : zz_cka 203 0 zm_203 = true := zz_cka_cat zq_203_0 (by decide +kernel) (zq_203_1)
theorem zn_203 : zz_ckm 203 = true := by decide +kernel
