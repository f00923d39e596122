/-! THE TABLES ARE CHECKED: each instruction against the bytes and the words, by the kernel -/
set_option maxRecDepth 100000 in
theorem zq_1_0 : zz_cka 1 0 zm_1_0 = true := by decide +kernel
set_option maxRecDepth 100000 in
theorem zq_1_1 : zz_cka 1 84 zm_1_1 = true := by decide +kernel
set_option maxRecDepth 100000 in
theorem zq_1_2 : zz_cka 1 160 zm_1_2 = true := by decide +kernel
theorem zq_1 : zz_cka 1 0 zm_1 = true := zz_cka_cat zq_1_0 (by decide +kernel) (zz_cka_cat zq_1_1 (by decide +kernel) (zq_1_2))
theorem zn_1 : zz_ckm 1 = true := by decide +kernel
set_option maxRecDepth 100000 in
theorem zq_2_0 : zz_cka 2 0 zm_2_0 = true := by decide +kernel
set_option maxRecDepth 100000 in
theorem zq_2_1 : zz_cka 2 73 zm_2_1 = true := by decide +kernel
theorem zq_2 : zz_cka 2 0 zm_2 = true := zz_cka_cat zq_2_0 (by decide +kernel) (zq_2_1)
theorem zn_2 : zz_ckm 2 = true := by decide +kernel
set_option maxRecDepth 100000 in
theorem zq_3 : zz_cka 3 0 zm_3 = true := by decide +kernel
theorem zn_3 : zz_ckm 3 = true := by decide +kernel
set_option maxRecDepth 100000 in
theorem zq_4 : zz_cka 4 0 zm_4 = true := by decide +kernel
theorem zn_4 : zz_ckm 4 = true := by decide +kernel
set_option maxRecDepth 100000 in
theorem zq_5 : zz_cka 5 0 zm_5 = true := by decide +kernel
theorem zn_5 : zz_ckm 5 = true := by decide +kernel
set_option maxRecDepth 100000 in
theorem zq_6 : zz_cka 6 0 zm_6 = true := by decide +kernel
theorem zn_6 : zz_ckm 6 = true := by decide +kernel
set_option maxRecDepth 100000 in
theorem zq_7 : zz_cka 7 0 zm_7 = true := by decide +kernel
theorem zn_7 : zz_ckm 7 = true := by decide +kernel
set_option maxRecDepth 100000 in
theorem zq_8 : zz_cka 8 0 zm_8 = true := by decide +kernel
theorem zn_8 : zz_ckm 8 = true := by decide +kernel
set_option maxRecDepth 100000 in
theorem zq_9 : zz_cka 9 0 zm_9 = true := by decide +kernel
theorem zn_9 : zz_ckm 9 = true := by decide +kernel
set_option maxRecDepth 100000 in
theorem zq_10 : zz_cka 10 0 zm_10 = true := by decide +kernel
theorem zn_10 : zz_ckm 10 = true := by decide +kernel
set_option maxRecDepth 100000 in
theorem zq_11 : zz_cka 11 0 zm_11 = true := by decide +kernel
theorem zn_11 : zz_ckm 11 = true := by decide +kernel
set_option maxRecDepth 100000 in
theorem zq_12 : zz_cka 12 0 zm_12 = true := by decide +kernel
theorem zn_12 : zz_ckm 12 = true := by decide +kernel
set_option maxRecDepth 100000 in
theorem zq_13 : zz_cka 13 0 zm_13 = true := by decide +kernel
theorem zn_13 : zz_ckm 13 = true := by decide +kernel
set_option maxRecDepth 100000 in
theorem zq_14 : zz_cka 14 0 zm_14 = true := by decide +kernel
theorem zn_14 : zz_ckm 14 = true := by decide +kernel
set_option maxRecDepth 100000 in
theorem zq_15 : zz_cka 15 0 zm_15 = true := by decide +kernel
theorem zn_15 : zz_ckm 15 = true := by decide +kernel
set_option maxRecDepth 100000 in
theorem zq_16 : zz_cka 16 0 zm_16 = true := by decide +kernel
theorem zn_16 : zz_ckm 16 = true := by decide +kernel
set_option maxRecDepth 100000 in
theorem zq_17 : zz_cka 17 0 zm_17 = true := by decide +kernel
theorem zn_17 : zz_ckm 17 = true := by decide +kernel
set_option maxRecDepth 100000 in
theorem zq_18 : zz_cka 18 0 zm_18 = true := by decide +kernel
theorem zn_18 : zz_ckm 18 = true := by decide +kernel
set_option maxRecDepth 100000 in
theorem zq_19 : zz_cka 19 0 zm_19 = true := by decide +kernel
theorem zn_19 : zz_ckm 19 = true := by decide +kernel
set_option maxRecDepth 100000 in
theorem zq_20 : zz_cka 20 0 zm_20 = true := by decide +kernel
theorem zn_20 : zz_ckm 20 = true := by decide +kernel
set_option maxRecDepth 100000 in
theorem zq_21 : zz_cka 21 0 zm_21 = true := by decide +kernel
theorem zn_21 : zz_ckm 21 = true := by decide +kernel
set_option maxRecDepth 100000 in
theorem zq_22_0 : zz_cka 22 0 zm_22_0 = true := by decide +kernel
set_option maxRecDepth 100000 in
theorem zq_22_1 : zz_cka 22 76 zm_22_1 = true := by decide +kernel
theorem zq_22 : zz_cka 22 0 zm_22 = true := zz_cka_cat zq_22_0 (by decide +kernel) (zq_22_1)
theorem zn_22 : zz_ckm 22 = true := by decide +kernel
set_option maxRecDepth 100000 in
theorem zq_23 : zz_cka 23 0 zm_23 = true := by decide +kernel
theorem zn_23 : zz_ckm 23 = true := by decide +kernel
set_option maxRecDepth 100000 in
theorem zq_24 : zz_cka 24 0 zm_24 = true := by decide +kernel
theorem zn_24 : zz_ckm 24 = true := by decide +kernel
set_option maxRecDepth 100000 in
theorem zq_25 : zz_cka 25 0 zm_25 = true := by decide +kernel
theorem zn_25 : zz_ckm 25 = true := by decide +kernel
set_option maxRecDepth 100000 in
theorem zq_26 : zz_cka 26 0 zm_26 = true := by decide +kernel
theorem zn_26 : zz_ckm 26 = true := by decide +kernel
set_option maxRecDepth 100000 in
theorem zq_27 : zz_cka 27 0 zm_27 = true := by decide +kernel
theorem zn_27 : zz_ckm 27 = true := by decide +kernel
set_option maxRecDepth 100000 in
theorem zq_28 : zz_cka 28 0 zm_28 = true := by decide +kernel
theorem zn_28 : zz_ckm 28 = true := by decide +kernel
set_option maxRecDepth 100000 in
theorem zq_29 : zz_cka 29 0 zm_29 = true := by decide +kernel
theorem zn_29 : zz_ckm 29 = true := by decide +kernel
set_option maxRecDepth 100000 in
theorem zq_30 : zz_cka 30 0 zm_30 = true := by decide +kernel
theorem zn_30 : zz_ckm 30 = true := by decide +kernel
set_option maxRecDepth 100000 in
theorem zq_31 : zz_cka 31 0 zm_31 = true := by decide +kernel
theorem zn_31 : zz_ckm 31 = true := by decide +kernel
set_option maxRecDepth 100000 in
theorem zq_32 : zz_cka 32 0 zm_32 = true := by decide +kernel
theorem zn_32 : zz_ckm 32 = true := by decide +kernel
set_option maxRecDepth 100000 in
theorem zq_33_0 : zz_cka 33 0 zm_33_0 = true := by decide +kernel
set_option maxRecDepth 100000 in
theorem zq_33_1 : zz_cka 33 66 zm_33_1 = true := by decide +kernel
theorem zq_33 : zz_cka 33 0 zm_33 = true := zz_cka_cat zq_33_0 (by decide +kernel) (zq_33_1)
theorem zn_33 : zz_ckm 33 = true := by decide +kernel
set_option maxRecDepth 100000 in
theorem zq_34 : zz_cka 34 0 zm_34 = true := by decide +kernel
theorem zn_34 : zz_ckm 34 = true := by decide +kernel
set_option maxRecDepth 100000 in
theorem zq_35 : zz_cka 35 0 zm_35 = true := by decide +kernel
theorem zn_35 : zz_ckm 35 = true := by decide +kernel
set_option maxRecDepth 100000 in
theorem zq_36 : zz_cka 36 0 zm_36 = true := by decide +kernel
theorem zn_36 : zz_ckm 36 = true := by decide +kernel
