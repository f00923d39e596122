/-! THE TABLES ARE CHECKED: each instruction against the bytes and the words, by the kernel -/
set_option maxRecDepth 100000 in
theorem zq_154 : zz_cka 154 0 zm_154 = true := by decide +kernel
theorem zn_154 : zz_ckm 154 = true := by decide +kernel
set_option maxRecDepth 100000 in
theorem zq_155 : zz_cka 155 0 zm_155 = true := by decide +kernel
theorem zn_155 : zz_ckm 155 = true := by decide +kernel
set_option maxRecDepth 100000 in
theorem zq_156 : zz_cka 156 0 zm_156 = true := by decide +kernel
theorem zn_156 : zz_ckm 156 = true := by decide +kernel
set_option maxRecDepth 100000 in
theorem zq_157 : zz_cka 157 0 zm_157 = true := by decide +kernel
theorem zn_157 : zz_ckm 157 = true := by decide +kernel
set_option maxRecDepth 100000 in
theorem zq_158_0 : zz_cka 158 0 zm_158_0 = true := by decide +kernel
set_option maxRecDepth 100000 in
theorem zq_158_1 : zz_cka 158 74 zm_158_1 = true := by decide +kernel
set_option maxRecDepth 100000 in
theorem zq_158_2 : zz_cka 158 144 zm_158_2 = true := by decide +kernel
theorem zq_158 : zz_cka 158 0 zm_158 = true := zz_cka_cat zq_158_0 (by decide +kernel) (zz_cka_cat zq_158_1 (by decide +kernel) (zq_158_2))
theorem zn_158 : zz_ckm 158 = true := by decide +kernel
set_option maxRecDepth 100000 in
theorem zq_159 : zz_cka 159 0 zm_159 = true := by decide +kernel
theorem zn_159 : zz_ckm 159 = true := by decide +kernel
set_option maxRecDepth 100000 in
theorem zq_160_0 : zz_cka 160 0 zm_160_0 = true := by decide +kernel
set_option maxRecDepth 100000 in
theorem zq_160_1 : zz_cka 160 66 zm_160_1 = true := by decide +kernel
theorem zq_160 : zz_cka 160 0 zm_160 = true := zz_cka_cat zq_160_0 (by decide +kernel) (zq_160_1)
theorem zn_160 : zz_ckm 160 = true := by decide +kernel
set_option maxRecDepth 100000 in
theorem zq_161 : zz_cka 161 0 zm_161 = true := by decide +kernel
theorem zn_161 : zz_ckm 161 = true := by decide +kernel
set_option maxRecDepth 100000 in
theorem zq_162 : zz_cka 162 0 zm_162 = true := by decide +kernel
theorem zn_162 : zz_ckm 162 = true := by decide +kernel
set_option maxRecDepth 100000 in
theorem zq_163_0 : zz_cka 163 0 zm_163_0 = true := by decide +kernel
set_option maxRecDepth 100000 in
theorem zq_163_1 : zz_cka 163 62 zm_163_1 = true := by decide +kernel
theorem zq_163 : zz_cka 163 0 zm_163 = true := zz_cka_cat zq_163_0 (by decide +kernel) (zq_163_1)
theorem zn_163 : zz_ckm 163 = true := by decide +kernel
set_option maxRecDepth 100000 in
theorem zq_164 : zz_cka 164 0 zm_164 = true := by decide +kernel
theorem zn_164 : zz_ckm 164 = true := by decide +kernel
set_option maxRecDepth 100000 in
theorem zq_165_0 : zz_cka 165 0 zm_165_0 = true := by decide +kernel
set_option maxRecDepth 100000 in
theorem zq_165_1 : zz_cka 165 72 zm_165_1 = true := by decide +kernel
theorem zq_165 : zz_cka 165 0 zm_165 = true := zz_cka_cat zq_165_0 (by decide +kernel) (zq_165_1)
theorem zn_165 : zz_ckm 165 = true := by decide +kernel
set_option maxRecDepth 100000 in
theorem zq_166 : zz_cka 166 0 zm_166 = true := by decide +kernel
theorem zn_166 : zz_ckm 166 = true := by decide +kernel
set_option maxRecDepth 100000 in
theorem zq_167 : zz_cka 167 0 zm_167 = true := by decide +kernel
theorem zn_167 : zz_ckm 167 = true := by decide +kernel
set_option maxRecDepth 100000 in
theorem zq_168_0 : zz_cka 168 0 zm_168_0 = true := by decide +kernel
set_option maxRecDepth 100000 in
theorem zq_168_1 : zz_cka 168 68 zm_168_1 = true := by decide +kernel
theorem zq_168 : zz_cka 168 0 zm_168 = true := zz_cka_cat zq_168_0 (by decide +kernel) (zq_168_1)
theorem zn_168 : zz_ckm 168 = true := by decide +kernel
set_option maxRecDepth 100000 in
theorem zq_169 : zz_cka 169 0 zm_169 = true := by decide +kernel
theorem zn_169 : zz_ckm 169 = true := by decide +kernel
set_option maxRecDepth 100000 in
theorem zq_170_0 : zz_cka 170 0 zm_170_0 = true := by decide +kernel
set_option maxRecDepth 100000 in
theorem zq_170_1 : zz_cka 170 79 zm_170_1 = true := by decide +kernel
theorem zq_170 : zz_cka 170 0 zm_170 = true := zz_cka_cat zq_170_0 (by decide +kernel) (zq_170_1)
theorem zn_170 : zz_ckm 170 = true := by decide +kernel
set_option maxRecDepth 100000 in
theorem zq_171 : zz_cka 171 0 zm_171 = true := by decide +kernel
theorem zn_171 : zz_ckm 171 = true := by decide +kernel
set_option maxRecDepth 100000 in
theorem zq_172_0 : zz_cka 172 0 zm_172_0 = true := by decide +kernel
set_option maxRecDepth 100000 in
theorem zq_172_1 : zz_cka 172 78 zm_172_1 = true := by decide +kernel
set_option maxRecDepth 100000 in
theorem zq_172_2 : zz_cka 172 139 zm_172_2 = true := by decide +kernel
theorem zq_172 : zz_cka 172 0 zm_172 = true := zz_cka_cat zq_172_0 (by decide +kernel) (zz_cka_cat zq_172_1 (by decide +kernel) (zq_172_2))
theorem zn_172 : zz_ckm 172 = true := by decide +kernel
set_option maxRecDepth 100000 in
theorem zq_173 : zz_cka 173 0 zm_173 = true := by decide +kernel
theorem zn_173 : zz_ckm 173 = true := by decide +kernel
set_option maxRecDepth 100000 in
theorem zq_174_0 : zz_cka 174 0 zm_174_0 = true := by decide +kernel
set_option maxRecDepth 100000 in
theorem zq_174_1 : zz_cka 174 71 zm_174_1 = true := by decide +kernel
set_option maxRecDepth 100000 in
theorem zq_174_2 : zz_cka 174 139 zm_174_2 = true := by decide +kernel
set_option maxRecDepth 100000 in
theorem zq_174_3 : zz_cka 174 196 zm_174_3 = true := by decide +kernel
theorem zq_174 : zz_cka 174 0 zm_174 = true := zz_cka_cat zq_174_0 (by decide +kernel) (zz_cka_cat zq_174_1 (by decide +kernel) (zz_cka_cat zq_174_2 (by decide +kernel) (zq_174_3)))
theorem zn_174 : zz_ckm 174 = true := by decide +kernel
set_option maxRecDepth 100000 in
theorem zq_175 : zz_cka 175 0 zm_175 = true := by decide +kernel
theorem zn_175 : zz_ckm 175 = true := by decide +kernel
set_option maxRecDepth 100000 in
theorem zq_176 : zz_cka 176 0 zm_176 = true := by decide +kernel
theorem zn_176 : zz_ckm 176 = true := by decide +kernel
set_option maxRecDepth 100000 in
theorem zq_177 : zz_cka 177 0 zm_177 = true := by decide +kernel
theorem zn_177 : zz_ckm 177 = true := by decide +kernel
