/-! THE TABLES ARE CHECKED: each instruction against the bytes and the words, by the kernel -/
set_option maxRecDepth 100000 in
theorem zq_124_0 : zz_cka 124 0 zm_124_0 = true := by decide +kernel
set_option maxRecDepth 100000 in
theorem zq_124_1 : zz_cka 124 81 zm_124_1 = true := by decide +kernel
theorem zq_124 : zz_cka 124 0 zm_124 = true := zz_cka_cat zq_124_0 (by decide +kernel) (zq_124_1)
theorem zn_124 : zz_ckm 124 = true := by decide +kernel
set_option maxRecDepth 100000 in
theorem zq_125 : zz_cka 125 0 zm_125 = true := by decide +kernel
theorem zn_125 : zz_ckm 125 = true := by decide +kernel
set_option maxRecDepth 100000 in
theorem zq_126 : zz_cka 126 0 zm_126 = true := by decide +kernel
theorem zn_126 : zz_ckm 126 = true := by decide +kernel
set_option maxRecDepth 100000 in
theorem zq_127_0 : zz_cka 127 0 zm_127_0 = true := by decide +kernel
set_option maxRecDepth 100000 in
theorem zq_127_1 : zz_cka 127 77 zm_127_1 = true := by decide +kernel
theorem zq_127 : zz_cka 127 0 zm_127 = true := zz_cka_cat zq_127_0 (by decide +kernel) (zq_127_1)
theorem zn_127 : zz_ckm 127 = true := by decide +kernel
set_option maxRecDepth 100000 in
theorem zq_128 : zz_cka 128 0 zm_128 = true := by decide +kernel
theorem zn_128 : zz_ckm 128 = true := by decide +kernel
set_option maxRecDepth 100000 in
theorem zq_129 : zz_cka 129 0 zm_129 = true := by decide +kernel
theorem zn_129 : zz_ckm 129 = true := by decide +kernel
set_option maxRecDepth 100000 in
theorem zq_130 : zz_cka 130 0 zm_130 = true := by decide +kernel
theorem zn_130 : zz_ckm 130 = true := by decide +kernel
set_option maxRecDepth 100000 in
theorem zq_131 : zz_cka 131 0 zm_131 = true := by decide +kernel
theorem zn_131 : zz_ckm 131 = true := by decide +kernel
set_option maxRecDepth 100000 in
theorem zq_132 : zz_cka 132 0 zm_132 = true := by decide +kernel
theorem zn_132 : zz_ckm 132 = true := by decide +kernel
set_option maxRecDepth 100000 in
theorem zq_133 : zz_cka 133 0 zm_133 = true := by decide +kernel
theorem zn_133 : zz_ckm 133 = true := by decide +kernel
set_option maxRecDepth 100000 in
theorem zq_134 : zz_cka 134 0 zm_134 = true := by decide +kernel
theorem zn_134 : zz_ckm 134 = true := by decide +kernel
set_option maxRecDepth 100000 in
theorem zq_135 : zz_cka 135 0 zm_135 = true := by decide +kernel
theorem zn_135 : zz_ckm 135 = true := by decide +kernel
set_option maxRecDepth 100000 in
theorem zq_136 : zz_cka 136 0 zm_136 = true := by decide +kernel
theorem zn_136 : zz_ckm 136 = true := by decide +kernel
set_option maxRecDepth 100000 in
theorem zq_137 : zz_cka 137 0 zm_137 = true := by decide +kernel
theorem zn_137 : zz_ckm 137 = true := by decide +kernel
set_option maxRecDepth 100000 in
theorem zq_138 : zz_cka 138 0 zm_138 = true := by decide +kernel
theorem zn_138 : zz_ckm 138 = true := by decide +kernel
set_option maxRecDepth 100000 in
theorem zq_139 : zz_cka 139 0 zm_139 = true := by decide +kernel
theorem zn_139 : zz_ckm 139 = true := by decide +kernel
set_option maxRecDepth 100000 in
theorem zq_140 : zz_cka 140 0 zm_140 = true := by decide +kernel
theorem zn_140 : zz_ckm 140 = true := by decide +kernel
set_option maxRecDepth 100000 in
theorem zq_141 : zz_cka 141 0 zm_141 = true := by decide +kernel
theorem zn_141 : zz_ckm 141 = true := by decide +kernel
set_option maxRecDepth 100000 in
theorem zq_142 : zz_cka 142 0 zm_142 = true := by decide +kernel
theorem zn_142 : zz_ckm 142 = true := by decide +kernel
set_option maxRecDepth 100000 in
theorem zq_143 : zz_cka 143 0 zm_143 = true := by decide +kernel
theorem zn_143 : zz_ckm 143 = true := by decide +kernel
set_option maxRecDepth 100000 in
theorem zq_144 : zz_cka 144 0 zm_144 = true := by decide +kernel
theorem zn_144 : zz_ckm 144 = true := by decide +kernel
set_option maxRecDepth 100000 in
theorem zq_145_0 : zz_cka 145 0 zm_145_0 = true := by decide +kernel
set_option maxRecDepth 100000 in
theorem zq_145_1 : zz_cka 145 70 zm_145_1 = true := by decide +kernel
set_option maxRecDepth 100000 in
theorem zq_145_2 : zz_cka 145 141 zm_145_2 = true := by decide +kernel
theorem zq_145 : zz_cka 145 0 zm_145 = true := zz_cka_cat zq_145_0 (by decide +kernel) (zz_cka_cat zq_145_1 (by decide +kernel) (zq_145_2))
theorem zn_145 : zz_ckm 145 = true := by decide +kernel
set_option maxRecDepth 100000 in
theorem zq_146 : zz_cka 146 0 zm_146 = true := by decide +kernel
theorem zn_146 : zz_ckm 146 = true := by decide +kernel
set_option maxRecDepth 100000 in
theorem zq_147_0 : zz_cka 147 0 zm_147_0 = true := by decide +kernel
set_option maxRecDepth 100000 in
theorem zq_147_1 : zz_cka 147 57 zm_147_1 = true := by decide +kernel
set_option maxRecDepth 100000 in
theorem zq_147_2 : zz_cka 147 120 zm_147_2 = true := by decide +kernel
set_option maxRecDepth 100000 in
theorem zq_147_3 : zz_cka 147 195 zm_147_3 = true := by decide +kernel
theorem zq_147 : zz_cka 147 0 zm_147 = true := zz_cka_cat zq_147_0 (by decide +kernel) (zz_cka_cat zq_147_1 (by decide +kernel) (zz_cka_cat zq_147_2 (by decide +kernel) (zq_147_3)))
theorem zn_147 : zz_ckm 147 = true := by decide +kernel
set_option maxRecDepth 100000 in
theorem zq_148 : zz_cka 148 0 zm_148 = true := by decide +kernel
theorem zn_148 : zz_ckm 148 = true := by decide +kernel
set_option maxRecDepth 100000 in
theorem zq_149 : zz_cka 149 0 zm_149 = true := by decide +kernel
theorem zn_149 : zz_ckm 149 = true := by decide +kernel
set_option maxRecDepth 100000 in
theorem zq_150 : zz_cka 150 0 zm_150 = true := by decide +kernel
theorem zn_150 : zz_ckm 150 = true := by decide +kernel
set_option maxRecDepth 100000 in
theorem zq_151 : zz_cka 151 0 zm_151 = true := by decide +kernel
theorem zn_151 : zz_ckm 151 = true := by decide +kernel
set_option maxRecDepth 100000 in
theorem zq_152 : zz_cka 152 0 zm_152 = true := by decide +kernel
theorem zn_152 : zz_ckm 152 = true := by decide +kernel
set_option maxRecDepth 100000 in
theorem zq_153 : zz_cka 153 0 zm_153 = true := by decide +kernel
theorem zn_153 : zz_ckm 153 = true := by decide +kernel
