/-! THE TABLES ARE CHECKED: each instruction against the bytes and the words, by the kernel -/
theorem zo_0_w : ∀ w ∈ u_ws (zz_nth "" zz_R 0) (zz_T 0) (zz_nth 0 zz_N 0), w ∈ zz_ws := by
  have h : u_ws (zz_nth "" zz_R 0) (zz_T 0) (zz_nth 0 zz_N 0) = ([323, 325, 327, 329, 331, 333, 335, 337, 339, 341, 343, 345, 347, 349, 351, 353] : List Nat).filterMap (fun i => lw_tbl[i]?) := by decide +kernel
  have h2 : (u_ws (zz_nth "" zz_R 0) (zz_T 0) (zz_nth 0 zz_N 0)).all goodWord = true := by decide +kernel
  intro w hw
  have g := List.all_eq_true.mp h2 w hw
  rw [h] at hw
  obtain ⟨i, -, hi⟩ := List.mem_filterMap.mp hw
  exact List.mem_filter.mpr ⟨List.mem_of_getElem? hi, g⟩
theorem zo_0 : zz_okc 0 := ⟨rfl, zo_0_w, by decide +kernel, by decide +kernel, zz_has_in (p := 83) (by decide +kernel), zz_has_in (p := 67) (by decide +kernel), by decide +kernel⟩
theorem zo_1_w : ∀ w ∈ u_ws (zz_nth "" zz_R 1) (zz_T 1) (zz_nth 0 zz_N 1), w ∈ zz_ws := by
  have h : u_ws (zz_nth "" zz_R 1) (zz_T 1) (zz_nth 0 zz_N 1) = ([132, 134, 136, 138, 140, 142, 144, 146, 148, 150, 152, 154, 156, 158, 160, 162] : List Nat).filterMap (fun i => lw_tbl[i]?) := by decide +kernel
  have h2 : (u_ws (zz_nth "" zz_R 1) (zz_T 1) (zz_nth 0 zz_N 1)).all goodWord = true := by decide +kernel
  intro w hw
  have g := List.all_eq_true.mp h2 w hw
  rw [h] at hw
  obtain ⟨i, -, hi⟩ := List.mem_filterMap.mp hw
  exact List.mem_filter.mpr ⟨List.mem_of_getElem? hi, g⟩
theorem zo_1 : zz_okc 1 := ⟨rfl, zo_1_w, by decide +kernel, by decide +kernel, zz_has_in (p := 93) (by decide +kernel), zz_has_in (p := 68) (by decide +kernel), by decide +kernel⟩
theorem zo_2_w : ∀ w ∈ u_ws (zz_nth "" zz_R 2) (zz_T 2) (zz_nth 0 zz_N 2), w ∈ zz_ws := by
  have h : u_ws (zz_nth "" zz_R 2) (zz_T 2) (zz_nth 0 zz_N 2) = ([178, 180] : List Nat).filterMap (fun i => lw_tbl[i]?) := by decide +kernel
  have h2 : (u_ws (zz_nth "" zz_R 2) (zz_T 2) (zz_nth 0 zz_N 2)).all goodWord = true := by decide +kernel
  intro w hw
  have g := List.all_eq_true.mp h2 w hw
  rw [h] at hw
  obtain ⟨i, -, hi⟩ := List.mem_filterMap.mp hw
  exact List.mem_filter.mpr ⟨List.mem_of_getElem? hi, g⟩
theorem zo_2 : zz_okc 2 := ⟨rfl, zo_2_w, by decide +kernel, by decide +kernel, zz_has_in (p := 168) (by decide +kernel), zz_has_in (p := 69) (by decide +kernel), by decide +kernel⟩
theorem zo_3_w : ∀ w ∈ u_ws (zz_nth "" zz_R 3) (zz_T 3) (zz_nth 0 zz_N 3), w ∈ zz_ws := by
  have h : u_ws (zz_nth "" zz_R 3) (zz_T 3) (zz_nth 0 zz_N 3) = ([195, 197] : List Nat).filterMap (fun i => lw_tbl[i]?) := by decide +kernel
  have h2 : (u_ws (zz_nth "" zz_R 3) (zz_T 3) (zz_nth 0 zz_N 3)).all goodWord = true := by decide +kernel
  intro w hw
  have g := List.all_eq_true.mp h2 w hw
  rw [h] at hw
  obtain ⟨i, -, hi⟩ := List.mem_filterMap.mp hw
  exact List.mem_filter.mpr ⟨List.mem_of_getElem? hi, g⟩
theorem zo_3 : zz_okc 3 := ⟨rfl, zo_3_w, by decide +kernel, by decide +kernel, zz_has_in (p := 185) (by decide +kernel), zz_has_in (p := 70) (by decide +kernel), by decide +kernel⟩
theorem zo_4_w : ∀ w ∈ u_ws (zz_nth "" zz_R 4) (zz_T 4) (zz_nth 0 zz_N 4), w ∈ zz_ws := by
  have h : u_ws (zz_nth "" zz_R 4) (zz_T 4) (zz_nth 0 zz_N 4) = ([229, 231, 233, 235, 237] : List Nat).filterMap (fun i => lw_tbl[i]?) := by decide +kernel
  have h2 : (u_ws (zz_nth "" zz_R 4) (zz_T 4) (zz_nth 0 zz_N 4)).all goodWord = true := by decide +kernel
  intro w hw
  have g := List.all_eq_true.mp h2 w hw
  rw [h] at hw
  obtain ⟨i, -, hi⟩ := List.mem_filterMap.mp hw
  exact List.mem_filter.mpr ⟨List.mem_of_getElem? hi, g⟩
theorem zo_4 : zz_okc 4 := ⟨rfl, zo_4_w, by decide +kernel, by decide +kernel, zz_has_in (p := 201) (by decide +kernel), zz_has_in (p := 71) (by decide +kernel), by decide +kernel⟩
theorem zo_5_w : ∀ w ∈ u_ws (zz_nth "" zz_R 5) (zz_T 5) (zz_nth 0 zz_N 5), w ∈ zz_ws := by
  have h : u_ws (zz_nth "" zz_R 5) (zz_T 5) (zz_nth 0 zz_N 5) = ([217, 219] : List Nat).filterMap (fun i => lw_tbl[i]?) := by decide +kernel
  have h2 : (u_ws (zz_nth "" zz_R 5) (zz_T 5) (zz_nth 0 zz_N 5)).all goodWord = true := by decide +kernel
  intro w hw
  have g := List.all_eq_true.mp h2 w hw
  rw [h] at hw
  obtain ⟨i, -, hi⟩ := List.mem_filterMap.mp hw
  exact List.mem_filter.mpr ⟨List.mem_of_getElem? hi, g⟩
theorem zo_5 : zz_okc 5 := ⟨rfl, zo_5_w, by decide +kernel, by decide +kernel, zz_has_in (p := 207) (by decide +kernel), zz_has_in (p := 72) (by decide +kernel), by decide +kernel⟩
theorem zo_6_w : ∀ w ∈ u_ws (zz_nth "" zz_R 6) (zz_T 6) (zz_nth 0 zz_N 6), w ∈ zz_ws := by
  have h : u_ws (zz_nth "" zz_R 6) (zz_T 6) (zz_nth 0 zz_N 6) = ([254, 256, 258, 260] : List Nat).filterMap (fun i => lw_tbl[i]?) := by decide +kernel
  have h2 : (u_ws (zz_nth "" zz_R 6) (zz_T 6) (zz_nth 0 zz_N 6)).all goodWord = true := by decide +kernel
  intro w hw
  have g := List.all_eq_true.mp h2 w hw
  rw [h] at hw
  obtain ⟨i, -, hi⟩ := List.mem_filterMap.mp hw
  exact List.mem_filter.mpr ⟨List.mem_of_getElem? hi, g⟩
theorem zo_6 : zz_okc 6 := ⟨rfl, zo_6_w, by decide +kernel, by decide +kernel, zz_has_in (p := 241) (by decide +kernel), zz_has_in (p := 73) (by decide +kernel), by decide +kernel⟩
theorem zo_7_w : ∀ w ∈ u_ws (zz_nth "" zz_R 7) (zz_T 7) (zz_nth 0 zz_N 7), w ∈ zz_ws := by
  have h : u_ws (zz_nth "" zz_R 7) (zz_T 7) (zz_nth 0 zz_N 7) = ([274, 276, 278] : List Nat).filterMap (fun i => lw_tbl[i]?) := by decide +kernel
  have h2 : (u_ws (zz_nth "" zz_R 7) (zz_T 7) (zz_nth 0 zz_N 7)).all goodWord = true := by decide +kernel
  intro w hw
  have g := List.all_eq_true.mp h2 w hw
  rw [h] at hw
  obtain ⟨i, -, hi⟩ := List.mem_filterMap.mp hw
  exact List.mem_filter.mpr ⟨List.mem_of_getElem? hi, g⟩
theorem zo_7 : zz_okc 7 := ⟨rfl, zo_7_w, by decide +kernel, by decide +kernel, zz_has_in (p := 264) (by decide +kernel), zz_has_in (p := 74) (by decide +kernel), by decide +kernel⟩
theorem zo_8_w : ∀ w ∈ u_ws (zz_nth "" zz_R 8) (zz_T 8) (zz_nth 0 zz_N 8), w ∈ zz_ws := by
  have h : u_ws (zz_nth "" zz_R 8) (zz_T 8) (zz_nth 0 zz_N 8) = ([302, 304] : List Nat).filterMap (fun i => lw_tbl[i]?) := by decide +kernel
  have h2 : (u_ws (zz_nth "" zz_R 8) (zz_T 8) (zz_nth 0 zz_N 8)).all goodWord = true := by decide +kernel
  intro w hw
  have g := List.all_eq_true.mp h2 w hw
  rw [h] at hw
  obtain ⟨i, -, hi⟩ := List.mem_filterMap.mp hw
  exact List.mem_filter.mpr ⟨List.mem_of_getElem? hi, g⟩
theorem zo_8 : zz_okc 8 := ⟨rfl, zo_8_w, by decide +kernel, by decide +kernel, zz_has_in (p := 282) (by decide +kernel), zz_has_in (p := 75) (by decide +kernel), by decide +kernel⟩
theorem zo_9_w : ∀ w ∈ u_ws (zz_nth "" zz_R 9) (zz_T 9) (zz_nth 0 zz_N 9), w ∈ zz_ws := by
  have h : u_ws (zz_nth "" zz_R 9) (zz_T 9) (zz_nth 0 zz_N 9) = ([966, 968, 970, 972, 974, 976, 978, 980, 982, 984, 986, 988, 990, 992, 994, 996, 998, 1000, 1002, 1004, 1006, 1008, 1010, 1012, 1014, 1016, 1018, 1020] : List Nat).filterMap (fun i => lw_tbl[i]?) := by decide +kernel
  have h2 : (u_ws (zz_nth "" zz_R 9) (zz_T 9) (zz_nth 0 zz_N 9)).all goodWord = true := by decide +kernel
  intro w hw
  have g := List.all_eq_true.mp h2 w hw
  rw [h] at hw
  obtain ⟨i, -, hi⟩ := List.mem_filterMap.mp hw
  exact List.mem_filter.mpr ⟨List.mem_of_getElem? hi, g⟩
theorem zo_9 : zz_okc 9 := ⟨rfl, zo_9_w, by decide +kernel, by decide +kernel, zz_has_in (p := 933) (by decide +kernel), zz_has_in (p := 77) (by decide +kernel), by decide +kernel⟩
theorem zo_all : ∀ ci, ci < 10 → zz_okc ci := by
  intro ci h
  match ci, h with
  | 0, _ => exact zo_0
  | 1, _ => exact zo_1
  | 2, _ => exact zo_2
  | 3, _ => exact zo_3
  | 4, _ => exact zo_4
  | 5, _ => exact zo_5
  | 6, _ => exact zo_6
  | 7, _ => exact zo_7
  | 8, _ => exact zo_8
  | 9, _ => exact zo_9
  | n + 10, h => exact absurd h (by omega)
theorem zo_w : zz_okw := ⟨zo_all, ⟨zz_has_in (p := 165) (by decide +kernel), zz_has_in (p := 281) (by decide +kernel), zz_has_in (p := 183) (by decide +kernel)⟩, ⟨zz_hasn_in (p := 91) (by decide +kernel), zz_hasn_in (p := 166) (by decide +kernel), zz_hasn_in (p := 223) (by decide +kernel)⟩, ⟨zz_has_in (p := 414) (by decide +kernel), zz_has_in (p := 413) (by decide +kernel), zz_has_in (p := 79) (by decide +kernel)⟩, ⟨zz_has_in (p := 88) (by decide +kernel), zz_has_in (p := 89) (by decide +kernel)⟩, ⟨zz_has_in (p := 76) (by decide +kernel), zz_has_in (p := 288) (by decide +kernel), zz_has_in (p := 289) (by decide +kernel), zz_has_in (p := 375) (by decide +kernel), zz_has_in (p := 376) (by decide +kernel), zz_has_in (p := 804) (by decide +kernel), zz_has_in (p := 805) (by decide +kernel)⟩⟩
theorem zq_all : zz_ckz 0 zz_Cs := ⟨zq_0, zq_1, zq_2, zq_3, zq_4, zq_5, zq_6, zq_7, zq_8, zq_9, zq_10, zq_11, zq_12, zq_13, zq_14, zq_15, zq_16, zq_17, zq_18, zq_19, zq_20, zq_21, zq_22, zq_23, zq_24, zq_25, zq_26, zq_27, zq_28, zq_29, zq_30, zq_31, zq_32, zq_33, zq_34, zq_35, zq_36, zq_37, zq_38, zq_39, zq_40, zq_41, zq_42, zq_43, zq_44, zq_45, zq_46, zq_47, zq_48, zq_49, zq_50, zq_51, zq_52, zq_53, zq_54, zq_55, zq_56, zq_57, zq_58, zq_59, zq_60, zq_61, zq_62, zq_63, zq_64, zq_65, zq_66, zq_67, zq_68, zq_69, zq_70, zq_71, zq_72, zq_73, zq_74, zq_75, zq_76, zq_77, zq_78, zq_79, zq_80, zq_81, zq_82, zq_83, zq_84, zq_85, zq_86, zq_87, zq_88, zq_89, zq_90, zq_91, zq_92, zq_93, zq_94, zq_95, zq_96, zq_97, zq_98, zq_99, zq_100, zq_101, zq_102, zq_103, zq_104, zq_105, zq_106, zq_107, zq_108, zq_109, zq_110, zq_111, zq_112, zq_113, zq_114, zq_115, zq_116, zq_117, zq_118, zq_119, zq_120, zq_121, zq_122, zq_123, zq_124, zq_125, zq_126, zq_127, zq_128, zq_129, zq_130, zq_131, zq_132, zq_133, zq_134, zq_135, zq_136, zq_137, zq_138, zq_139, zq_140, zq_141, zq_142, zq_143, zq_144, zq_145, zq_146, zq_147, zq_148, zq_149, zq_150, zq_151, zq_152, zq_153, zq_154, zq_155, zq_156, zq_157, zq_158, zq_159, zq_160, zq_161, zq_162, zq_163, zq_164, zq_165, zq_166, zq_167, zq_168, zq_169, zq_170, zq_171, zq_172, zq_173, zq_174, zq_175, zq_176, zq_177, zq_178, zq_179, zq_180, zq_181, zq_182, zq_183, zq_184, zq_185, zq_186, zq_187, zq_188, zq_189, zq_190, zq_191, zq_192, zq_193, zq_194, zq_195, zq_196, zq_197, zq_198, zq_199, zq_200, zq_201, zq_202, zq_203, zq_204, zq_205, zq_206, zq_207, zq_208, zq_209, zq_210, zq_211, zq_212, zq_213, zq_214, zq_215, zq_216, zq_217, zq_218, zq_219, zq_220, zq_221, zq_222, zq_223, zq_224, zq_225, zq_226, zq_227, zq_228, zq_229, zq_230, zq_231, zq_232, zq_233, zq_234, zq_235, zq_236, zq_237, zq_238, zq_239, zq_240, zq_241, zq_242, trivial⟩
theorem zn_all : zz_ckn 242 1 := ⟨zn_1, zn_2, zn_3, zn_4, zn_5, zn_6, zn_7, zn_8, zn_9, zn_10, zn_11, zn_12, zn_13, zn_14, zn_15, zn_16, zn_17, zn_18, zn_19, zn_20, zn_21, zn_22, zn_23, zn_24, zn_25, zn_26, zn_27, zn_28, zn_29, zn_30, zn_31, zn_32, zn_33, zn_34, zn_35, zn_36, zn_37, zn_38, zn_39, zn_40, zn_41, zn_42, zn_43, zn_44, zn_45, zn_46, zn_47, zn_48, zn_49, zn_50, zn_51, zn_52, zn_53, zn_54, zn_55, zn_56, zn_57, zn_58, zn_59, zn_60, zn_61, zn_62, zn_63, zn_64, zn_65, zn_66, zn_67, zn_68, zn_69, zn_70, zn_71, zn_72, zn_73, zn_74, zn_75, zn_76, zn_77, zn_78, zn_79, zn_80, zn_81, zn_82, zn_83, zn_84, zn_85, zn_86, zn_87, zn_88, zn_89, zn_90, zn_91, zn_92, zn_93, zn_94, zn_95, zn_96, zn_97, zn_98, zn_99, zn_100, zn_101, zn_102, zn_103, zn_104, zn_105, zn_106, zn_107, zn_108, zn_109, zn_110, zn_111, zn_112, zn_113, zn_114, zn_115, zn_116, zn_117, zn_118, zn_119, zn_120, zn_121, zn_122, zn_123, zn_124, zn_125, zn_126, zn_127, zn_128, zn_129, zn_130, zn_131, zn_132, zn_133, zn_134, zn_135, zn_136, zn_137, zn_138, zn_139, zn_140, zn_141, zn_142, zn_143, zn_144, zn_145, zn_146, zn_147, zn_148, zn_149, zn_150, zn_151, zn_152, zn_153, zn_154, zn_155, zn_156, zn_157, zn_158, zn_159, zn_160, zn_161, zn_162, zn_163, zn_164, zn_165, zn_166, zn_167, zn_168, zn_169, zn_170, zn_171, zn_172, zn_173, zn_174, zn_175, zn_176, zn_177, zn_178, zn_179, zn_180, zn_181, zn_182, zn_183, zn_184, zn_185, zn_186, zn_187, zn_188, zn_189, zn_190, zn_191, zn_192, zn_193, zn_194, zn_195, zn_196, zn_197, zn_198, zn_199, zn_200, zn_201, zn_202, zn_203, zn_204, zn_205, zn_206, zn_207, zn_208, zn_209, zn_210, zn_211, zn_212, zn_213, zn_214, zn_215, zn_216, zn_217, zn_218, zn_219, zn_220, zn_221, zn_222, zn_223, zn_224, zn_225, zn_226, zn_227, zn_228, zn_229, zn_230, zn_231, zn_232, zn_233, zn_234, zn_235, zn_236, zn_237, zn_238, zn_239, zn_240, zn_241, zn_242, trivial⟩
theorem zz_ok : zz_all := by
  refine ⟨fun k pc q h => ?_, fun j h0 h => ?_, zo_w⟩
  · have h1 := zz_ckz_use zz_Cs 0 k zq_all
    rw [Nat.zero_add] at h1
    have h2 := zz_cka_use _ 0 pc q h1 h
    rwa [Nat.zero_add] at h2
  · have h1 := zz_ckn_use 242 1 (j - 1) zn_all (by omega)
    rwa [show 1 + (j - 1) = j by omega] at h1
