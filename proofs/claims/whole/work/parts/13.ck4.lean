/-! THE TABLES ARE CHECKED: each instruction against the bytes and the words, by the kernel -/
set_option maxRecDepth 100000 in
theorem zq_69_0 : zz_cka 69 0 zm_69_0 = true := by decide +kernel
set_option maxRecDepth 100000 in
theorem zq_69_1 : zz_cka 69 71 zm_69_1 = true := by decide +kernel
theorem zq_69 : zz_cka 69 0 zm_69 = true := zz_cka_cat zq_69_0 (by decide +kernel) (zq_69_1)
theorem zn_69 : zz_ckm 69 = true := by decide +kernel
set_option maxRecDepth 100000 in
theorem zq_70 : zz_cka 70 0 zm_70 = true := by decide +kernel
theorem zn_70 : zz_ckm 70 = true := by decide +kernel
set_option maxRecDepth 100000 in
theorem zq_71 : zz_cka 71 0 zm_71 = true := by decide +kernel
theorem zn_71 : zz_ckm 71 = true := by decide +kernel
set_option maxRecDepth 100000 in
theorem zq_72_0 : zz_cka 72 0 zm_72_0 = true := by decide +kernel
set_option maxRecDepth 100000 in
theorem zq_72_1 : zz_cka 72 58 zm_72_1 = true := by decide +kernel
theorem zq_72 : zz_cka 72 0 zm_72 = true := zz_cka_cat zq_72_0 (by decide +kernel) (zq_72_1)
theorem zn_72 : zz_ckm 72 = true := by decide +kernel
set_option maxRecDepth 100000 in
theorem zq_73 : zz_cka 73 0 zm_73 = true := by decide +kernel
theorem zn_73 : zz_ckm 73 = true := by decide +kernel
set_option maxRecDepth 100000 in
theorem zq_74 : zz_cka 74 0 zm_74 = true := by decide +kernel
theorem zn_74 : zz_ckm 74 = true := by decide +kernel
set_option maxRecDepth 100000 in
theorem zq_75 : zz_cka 75 0 zm_75 = true := by decide +kernel
theorem zn_75 : zz_ckm 75 = true := by decide +kernel
set_option maxRecDepth 100000 in
theorem zq_76 : zz_cka 76 0 zm_76 = true := by decide +kernel
theorem zn_76 : zz_ckm 76 = true := by decide +kernel
set_option maxRecDepth 100000 in
theorem zq_77 : zz_cka 77 0 zm_77 = true := by decide +kernel
theorem zn_77 : zz_ckm 77 = true := by decide +kernel
set_option maxRecDepth 100000 in
theorem zq_78 : zz_cka 78 0 zm_78 = true := by decide +kernel
theorem zn_78 : zz_ckm 78 = true := by decide +kernel
set_option maxRecDepth 100000 in
theorem zq_79 : zz_cka 79 0 zm_79 = true := by decide +kernel
theorem zn_79 : zz_ckm 79 = true := by decide +kernel
set_option maxRecDepth 100000 in
theorem zq_80 : zz_cka 80 0 zm_80 = true := by decide +kernel
theorem zn_80 : zz_ckm 80 = true := by decide +kernel
set_option maxRecDepth 100000 in
theorem zq_81 : zz_cka 81 0 zm_81 = true := by decide +kernel
theorem zn_81 : zz_ckm 81 = true := by decide +kernel
set_option maxRecDepth 100000 in
theorem zq_82_0 : zz_cka 82 0 zm_82_0 = true := by decide +kernel
set_option maxRecDepth 100000 in
theorem zq_82_1 : zz_cka 82 79 zm_82_1 = true := by decide +kernel
theorem zq_82 : zz_cka 82 0 zm_82 = true := zz_cka_cat zq_82_0 (by decide +kernel) (zq_82_1)
theorem zn_82 : zz_ckm 82 = true := by decide +kernel
set_option maxRecDepth 100000 in
theorem zq_83 : zz_cka 83 0 zm_83 = true := by decide +kernel
theorem zn_83 : zz_ckm 83 = true := by decide +kernel
set_option maxRecDepth 100000 in
theorem zq_84 : zz_cka 84 0 zm_84 = true := by decide +kernel
theorem zn_84 : zz_ckm 84 = true := by decide +kernel
set_option maxRecDepth 100000 in
theorem zq_85 : zz_cka 85 0 zm_85 = true := by decide +kernel
theorem zn_85 : zz_ckm 85 = true := by decide +kernel
set_option maxRecDepth 100000 in
theorem zq_86 : zz_cka 86 0 zm_86 = true := by decide +kernel
theorem zn_86 : zz_ckm 86 = true := by decide +kernel
set_option maxRecDepth 100000 in
theorem zq_87 : zz_cka 87 0 zm_87 = true := by decide +kernel
theorem zn_87 : zz_ckm 87 = true := by decide +kernel
set_option maxRecDepth 100000 in
theorem zq_88 : zz_cka 88 0 zm_88 = true := by decide +kernel
theorem zn_88 : zz_ckm 88 = true := by decide +kernel
set_option maxRecDepth 100000 in
theorem zq_89 : zz_cka 89 0 zm_89 = true := by decide +kernel
theorem zn_89 : zz_ckm 89 = true := by decide +kernel
set_option maxRecDepth 100000 in
theorem zq_90 : zz_cka 90 0 zm_90 = true := by decide +kernel
theorem zn_90 : zz_ckm 90 = true := by decide +kernel
set_option maxRecDepth 100000 in
theorem zq_91 : zz_cka 91 0 zm_91 = true := by decide +kernel
theorem zn_91 : zz_ckm 91 = true := by decide +kernel
set_option maxRecDepth 100000 in
theorem zq_92_0 : zz_cka 92 0 zm_92_0 = true := by decide +kernel
set_option maxRecDepth 100000 in
theorem zq_92_1 : zz_cka 92 78 zm_92_1 = true := by decide +kernel
theorem zq_92 : zz_cka 92 0 zm_92 = true := zz_cka_cat zq_92_0 (by decide +kernel) (zq_92_1)
theorem zn_92 : zz_ckm 92 = true := by decide +kernel
set_option maxRecDepth 100000 in
theorem zq_93_0 : zz_cka 93 0 zm_93_0 = true := by decide +kernel
set_option maxRecDepth 100000 in
theorem zq_93_1 : zz_cka 93 76 zm_93_1 = true := by decide +kernel
theorem zq_93 : zz_cka 93 0 zm_93 = true := zz_cka_cat zq_93_0 (by decide +kernel) (zq_93_1)
theorem zn_93 : zz_ckm 93 = true := by decide +kernel
