/-! THE TABLES ARE CHECKED: each instruction against the bytes and the words, by the kernel -/
set_option maxRecDepth 100000 in
theorem zq_37 : zz_cka 37 0 zm_37 = true := by decide +kernel
theorem zn_37 : zz_ckm 37 = true := by decide +kernel
set_option maxRecDepth 100000 in
theorem zq_38 : zz_cka 38 0 zm_38 = true := by decide +kernel
theorem zn_38 : zz_ckm 38 = true := by decide +kernel
set_option maxRecDepth 100000 in
theorem zq_39 : zz_cka 39 0 zm_39 = true := by decide +kernel
theorem zn_39 : zz_ckm 39 = true := by decide +kernel
set_option maxRecDepth 100000 in
theorem zq_40 : zz_cka 40 0 zm_40 = true := by decide +kernel
theorem zn_40 : zz_ckm 40 = true := by decide +kernel
set_option maxRecDepth 100000 in
theorem zq_41 : zz_cka 41 0 zm_41 = true := by decide +kernel
theorem zn_41 : zz_ckm 41 = true := by decide +kernel
set_option maxRecDepth 100000 in
theorem zq_42 : zz_cka 42 0 zm_42 = true := by decide +kernel
theorem zn_42 : zz_ckm 42 = true := by decide +kernel
set_option maxRecDepth 100000 in
theorem zq_43 : zz_cka 43 0 zm_43 = true := by decide +kernel
theorem zn_43 : zz_ckm 43 = true := by decide +kernel
set_option maxRecDepth 100000 in
theorem zq_44_0 : zz_cka 44 0 zm_44_0 = true := by decide +kernel
set_option maxRecDepth 100000 in
theorem zq_44_1 : zz_cka 44 76 zm_44_1 = true := by decide +kernel
set_option maxRecDepth 100000 in
theorem zq_44_2 : zz_cka 44 149 zm_44_2 = true := by decide +kernel
theorem zq_44 : zz_cka 44 0 zm_44 = true := zz_cka_cat zq_44_0 (by decide +kernel) (zz_cka_cat zq_44_1 (by decide +kernel) (zq_44_2))
theorem zn_44 : zz_ckm 44 = true := by decide +kernel
set_option maxRecDepth 100000 in
theorem zq_45 : zz_cka 45 0 zm_45 = true := by decide +kernel
theorem zn_45 : zz_ckm 45 = true := by decide +kernel
set_option maxRecDepth 100000 in
theorem zq_46 : zz_cka 46 0 zm_46 = true := by decide +kernel
theorem zn_46 : zz_ckm 46 = true := by decide +kernel
set_option maxRecDepth 100000 in
theorem zq_47 : zz_cka 47 0 zm_47 = true := by decide +kernel
theorem zn_47 : zz_ckm 47 = true := by decide +kernel
set_option maxRecDepth 100000 in
theorem zq_48 : zz_cka 48 0 zm_48 = true := by decide +kernel
theorem zn_48 : zz_ckm 48 = true := by decide +kernel
set_option maxRecDepth 100000 in
theorem zq_49 : zz_cka 49 0 zm_49 = true := by decide +kernel
theorem zn_49 : zz_ckm 49 = true := by decide +kernel
set_option maxRecDepth 100000 in
theorem zq_50 : zz_cka 50 0 zm_50 = true := by decide +kernel
theorem zn_50 : zz_ckm 50 = true := by decide +kernel
set_option maxRecDepth 100000 in
theorem zq_51 : zz_cka 51 0 zm_51 = true := by decide +kernel
theorem zn_51 : zz_ckm 51 = true := by decide +kernel
set_option maxRecDepth 100000 in
theorem zq_52 : zz_cka 52 0 zm_52 = true := by decide +kernel
theorem zn_52 : zz_ckm 52 = true := by decide +kernel
set_option maxRecDepth 100000 in
theorem zq_53 : zz_cka 53 0 zm_53 = true := by decide +kernel
theorem zn_53 : zz_ckm 53 = true := by decide +kernel
set_option maxRecDepth 100000 in
theorem zq_54 : zz_cka 54 0 zm_54 = true := by decide +kernel
theorem zn_54 : zz_ckm 54 = true := by decide +kernel
set_option maxRecDepth 100000 in
theorem zq_55_0 : zz_cka 55 0 zm_55_0 = true := by decide +kernel
set_option maxRecDepth 100000 in
theorem zq_55_1 : zz_cka 55 102 zm_55_1 = true := by decide +kernel
set_option maxRecDepth 100000 in
theorem zq_55_2 : zz_cka 55 179 zm_55_2 = true := by decide +kernel
theorem zq_55 : zz_cka 55 0 zm_55 = true := zz_cka_cat zq_55_0 (by decide +kernel) (zz_cka_cat zq_55_1 (by decide +kernel) (zq_55_2))
theorem zn_55 : zz_ckm 55 = true := by decide +kernel
set_option maxRecDepth 100000 in
theorem zq_56 : zz_cka 56 0 zm_56 = true := by decide +kernel
theorem zn_56 : zz_ckm 56 = true := by decide +kernel
set_option maxRecDepth 100000 in
theorem zq_57 : zz_cka 57 0 zm_57 = true := by decide +kernel
theorem zn_57 : zz_ckm 57 = true := by decide +kernel
set_option maxRecDepth 100000 in
theorem zq_58 : zz_cka 58 0 zm_58 = true := by decide +kernel
theorem zn_58 : zz_ckm 58 = true := by decide +kernel
set_option maxRecDepth 100000 in
theorem zq_59 : zz_cka 59 0 zm_59 = true := by decide +kernel
theorem zn_59 : zz_ckm 59 = true := by decide +kernel
set_option maxRecDepth 100000 in
theorem zq_60 : zz_cka 60 0 zm_60 = true := by decide +kernel
theorem zn_60 : zz_ckm 60 = true := by decide +kernel
set_option maxRecDepth 100000 in
theorem zq_61 : zz_cka 61 0 zm_61 = true := by decide +kernel
theorem zn_61 : zz_ckm 61 = true := by decide +kernel
set_option maxRecDepth 100000 in
theorem zq_62 : zz_cka 62 0 zm_62 = true := by decide +kernel
theorem zn_62 : zz_ckm 62 = true := by decide +kernel
set_option maxRecDepth 100000 in
theorem zq_63 : zz_cka 63 0 zm_63 = true := by decide +kernel
theorem zn_63 : zz_ckm 63 = true := by decide +kernel
set_option maxRecDepth 100000 in
theorem zq_64 : zz_cka 64 0 zm_64 = true := by decide +kernel
theorem zn_64 : zz_ckm 64 = true := by decide +kernel
set_option maxRecDepth 100000 in
theorem zq_65 : zz_cka 65 0 zm_65 = true := by decide +kernel
theorem zn_65 : zz_ckm 65 = true := by decide +kernel
set_option maxRecDepth 100000 in
theorem zq_66 : zz_cka 66 0 zm_66 = true := by decide +kernel
theorem zn_66 : zz_ckm 66 = true := by decide +kernel
set_option maxRecDepth 100000 in
theorem zq_67 : zz_cka 67 0 zm_67 = true := by decide +kernel
theorem zn_67 : zz_ckm 67 = true := by decide +kernel
set_option maxRecDepth 100000 in
theorem zq_68 : zz_cka 68 0 zm_68 = true := by decide +kernel
theorem zn_68 : zz_ckm 68 = true := by decide +kernel
