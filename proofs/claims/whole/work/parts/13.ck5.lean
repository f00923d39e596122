/-! THE TABLES ARE CHECKED: each instruction against the bytes and the words, by the kernel -/
set_option maxRecDepth 100000 in
theorem zq_94 : zz_cka 94 0 zm_94 = true := by decide +kernel
theorem zn_94 : zz_ckm 94 = true := by decide +kernel
set_option maxRecDepth 100000 in
theorem zq_95 : zz_cka 95 0 zm_95 = true := by decide +kernel
theorem zn_95 : zz_ckm 95 = true := by decide +kernel
set_option maxRecDepth 100000 in
theorem zq_96 : zz_cka 96 0 zm_96 = true := by decide +kernel
theorem zn_96 : zz_ckm 96 = true := by decide +kernel
set_option maxRecDepth 100000 in
theorem zq_97_0 : zz_cka 97 0 zm_97_0 = true := by decide +kernel
set_option maxRecDepth 100000 in
theorem zq_97_1 : zz_cka 97 64 zm_97_1 = true := by decide +kernel
theorem zq_97 : zz_cka 97 0 zm_97 = true := zz_cka_cat zq_97_0 (by decide +kernel) (zq_97_1)
theorem zn_97 : zz_ckm 97 = true := by decide +kernel
set_option maxRecDepth 100000 in
theorem zq_98 : zz_cka 98 0 zm_98 = true := by decide +kernel
theorem zn_98 : zz_ckm 98 = true := by decide +kernel
set_option maxRecDepth 100000 in
theorem zq_99 : zz_cka 99 0 zm_99 = true := by decide +kernel
theorem zn_99 : zz_ckm 99 = true := by decide +kernel
set_option maxRecDepth 100000 in
theorem zq_100_0 : zz_cka 100 0 zm_100_0 = true := by decide +kernel
set_option maxRecDepth 100000 in
theorem zq_100_1 : zz_cka 100 78 zm_100_1 = true := by decide +kernel
theorem zq_100 : zz_cka 100 0 zm_100 = true := zz_cka_cat zq_100_0 (by decide +kernel) (zq_100_1)
theorem zn_100 : zz_ckm 100 = true := by decide +kernel
set_option maxRecDepth 100000 in
theorem zq_101 : zz_cka 101 0 zm_101 = true := by decide +kernel
theorem zn_101 : zz_ckm 101 = true := by decide +kernel
set_option maxRecDepth 100000 in
theorem zq_102 : zz_cka 102 0 zm_102 = true := by decide +kernel
theorem zn_102 : zz_ckm 102 = true := by decide +kernel
set_option maxRecDepth 100000 in
theorem zq_103 : zz_cka 103 0 zm_103 = true := by decide +kernel
theorem zn_103 : zz_ckm 103 = true := by decide +kernel
set_option maxRecDepth 100000 in
theorem zq_104_0 : zz_cka 104 0 zm_104_0 = true := by decide +kernel
set_option maxRecDepth 100000 in
theorem zq_104_1 : zz_cka 104 72 zm_104_1 = true := by decide +kernel
set_option maxRecDepth 100000 in
theorem zq_104_2 : zz_cka 104 151 zm_104_2 = true := by decide +kernel
theorem zq_104 : zz_cka 104 0 zm_104 = true := zz_cka_cat zq_104_0 (by decide +kernel) (zz_cka_cat zq_104_1 (by decide +kernel) (zq_104_2))
theorem zn_104 : zz_ckm 104 = true := by decide +kernel
set_option maxRecDepth 100000 in
theorem zq_105 : zz_cka 105 0 zm_105 = true := by decide +kernel
theorem zn_105 : zz_ckm 105 = true := by decide +kernel
set_option maxRecDepth 100000 in
theorem zq_106 : zz_cka 106 0 zm_106 = true := by decide +kernel
theorem zn_106 : zz_ckm 106 = true := by decide +kernel
set_option maxRecDepth 100000 in
theorem zq_107 : zz_cka 107 0 zm_107 = true := by decide +kernel
theorem zn_107 : zz_ckm 107 = true := by decide +kernel
set_option maxRecDepth 100000 in
theorem zq_108 : zz_cka 108 0 zm_108 = true := by decide +kernel
theorem zn_108 : zz_ckm 108 = true := by decide +kernel
set_option maxRecDepth 100000 in
theorem zq_109 : zz_cka 109 0 zm_109 = true := by decide +kernel
theorem zn_109 : zz_ckm 109 = true := by decide +kernel
set_option maxRecDepth 100000 in
theorem zq_110 : zz_cka 110 0 zm_110 = true := by decide +kernel
theorem zn_110 : zz_ckm 110 = true := by decide +kernel
set_option maxRecDepth 100000 in
theorem zq_111 : zz_cka 111 0 zm_111 = true := by decide +kernel
theorem zn_111 : zz_ckm 111 = true := by decide +kernel
set_option maxRecDepth 100000 in
theorem zq_112 : zz_cka 112 0 zm_112 = true := by decide +kernel
theorem zn_112 : zz_ckm 112 = true := by decide +kernel
set_option maxRecDepth 100000 in
theorem zq_113 : zz_cka 113 0 zm_113 = true := by decide +kernel
theorem zn_113 : zz_ckm 113 = true := by decide +kernel
set_option maxRecDepth 100000 in
theorem zq_114 : zz_cka 114 0 zm_114 = true := by decide +kernel
theorem zn_114 : zz_ckm 114 = true := by decide +kernel
set_option maxRecDepth 100000 in
theorem zq_115 : zz_cka 115 0 zm_115 = true := by decide +kernel
theorem zn_115 : zz_ckm 115 = true := by decide +kernel
set_option maxRecDepth 100000 in
theorem zq_116 : zz_cka 116 0 zm_116 = true := by decide +kernel
theorem zn_116 : zz_ckm 116 = true := by decide +kernel
set_option maxRecDepth 100000 in
theorem zq_117 : zz_cka 117 0 zm_117 = true := by decide +kernel
theorem zn_117 : zz_ckm 117 = true := by decide +kernel
set_option maxRecDepth 100000 in
theorem zq_118 : zz_cka 118 0 zm_118 = true := by decide +kernel
theorem zn_118 : zz_ckm 118 = true := by decide +kernel
set_option maxRecDepth 100000 in
theorem zq_119 : zz_cka 119 0 zm_119 = true := by decide +kernel
theorem zn_119 : zz_ckm 119 = true := by decide +kernel
set_option maxRecDepth 100000 in
theorem zq_120 : zz_cka 120 0 zm_120 = true := by decide +kernel
theorem zn_120 : zz_ckm 120 = true := by decide +kernel
set_option maxRecDepth 100000 in
theorem zq_121 : zz_cka 121 0 zm_121 = true := by decide +kernel
theorem zn_121 : zz_ckm 121 = true := by decide +kernel
set_option maxRecDepth 100000 in
theorem zq_122 : zz_cka 122 0 zm_122 = true := by decide +kernel
theorem zn_122 : zz_ckm 122 = true := by decide +kernel
set_option maxRecDepth 100000 in
theorem zq_123_0 : zz_cka 123 0 zm_123_0 = true := by decide +kernel
set_option maxRecDepth 100000 in
theorem zq_123_1 : zz_cka 123 77 zm_123_1 = true := by decide +kernel
theorem zq_123 : zz_cka 123 0 zm_123 = true := zz_cka_cat zq_123_0 (by decide +kernel) (zq_123_1)
theorem zn_123 : zz_ckm 123 = true := by decide +kernel
