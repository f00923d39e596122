/-! THE CELLS AS THE TWO CONSTRUCTORS LEAVE THEM, and the rows that walk a method over them -/
def zSH : List zz_S := [(10, 16, [some 1, some 2, some 3, some 15, some 16, some 17, some 30, some 33, some 36, some 48, some 52, some 55, none, none, none, none]), (3, 6, [some 56, some 58, some 60, some 62, some 64, some 66]), (3, 4, [some 68, some 70, some 72, some 74]), (11, 16, [none, none, none, none, none, some 4, some 5, some 6, some 7, some 8, some 9, some 10, some 11, some 12, some 13, some 14]), (0, 6, []), (0, 6, []), (0, 6, []), (0, 6, []), (0, 6, []), (0, 4, []), (0, 4, []), (0, 40, []), (0, 40, []), (0, 40, []), (0, 40, []), (4, 3, [some 76, some 88, some 100]), (2, 3, []), (12, 2, [some 18, none]), (11, 16, [none, none, none, none, none, some 19, some 20, some 21, some 22, some 23, some 24, some 25, some 26, some 27, some 28, some 29]), (0, 6, []), (0, 6, []), (0, 6, []), (0, 6, []), (0, 6, []), (0, 4, []), (0, 4, []), (0, 40, []), (0, 40, []), (0, 40, []), (0, 40, []), (13, 2, [some 31, some 32]), (0, 12, []), (0, 12, []), (13, 2, [some 34, some 35]), (0, 12, []), (0, 12, []), (14, 5, [some 37, some 39, some 40, some 41, none]), (15, 2, [some 38, none]), (0, 6, []), (0, 6, []), (0, 6, []), (5, 6, [some 42, some 43, some 44, some 45, some 46, some 47]), (0, 6, []), (0, 6, []), (0, 6, []), (0, 6, []), (0, 6, []), (0, 6, []), (16, 4, [some 49, some 51, none, none]), (15, 2, [some 50, none]), (0, 6, []), (0, 6, []), (17, 3, [some 53, some 54, none]), (1, 12, []), (1, 12, []), (0, 6, []), (18, 2, [some 57, none]), (0, 40, []), (18, 2, [some 59, none]), (0, 40, []), (18, 2, [some 61, none]), (0, 40, []), (18, 2, [some 63, none]), (0, 40, []), (18, 2, [some 65, none]), (0, 40, []), (18, 2, [some 67, none]), (0, 40, []), (18, 2, [some 69, none]), (0, 60, []), (18, 2, [some 71, none]), (0, 60, []), (18, 2, [some 73, none]), (0, 60, []), (18, 2, [some 75, none]), (0, 60, []), (11, 16, [none, none, none, none, none, some 77, some 78, some 79, some 80, some 81, some 82, some 83, some 84, some 85, some 86, some 87]), (0, 6, []), (0, 6, []), (0, 6, []), (0, 6, []), (0, 6, []), (0, 4, []), (0, 4, []), (0, 40, []), (0, 40, []), (0, 40, []), (0, 40, []), (11, 16, [none, none, none, none, none, some 89, some 90, some 91, some 92, some 93, some 94, some 95, some 96, some 97, some 98, some 99]), (0, 6, []), (0, 6, []), (0, 6, []), (0, 6, []), (0, 6, []), (0, 4, []), (0, 4, []), (0, 40, []), (0, 40, []), (0, 40, []), (0, 40, []), (11, 16, [none, none, none, none, none, some 101, some 102, some 103, some 104, some 105, some 106, some 107, some 108, some 109, some 110, some 111]), (0, 6, []), (0, 6, []), (0, 6, []), (0, 6, []), (0, 6, []), (0, 4, []), (0, 4, []), (0, 40, []), (0, 40, []), (0, 40, []), (0, 40, []), (19, 28, [some 113, none, some 114, none, some 115, some 116, some 117, some 118, some 119, none, none, none, none, some 120, none, none, none, some 121, none, some 122, none, none, none, some 123, some 124, some 125, some 126, some 127]), (0, 3308, []), (0, 6, []), (0, 8, []), (0, 6, []), (0, 240, []), (0, 4, []), (0, 240, []), (0, 6, []), (0, 18, []), (0, 8, []), (0, 8, []), (0, 144, []), (0, 8, []), (1, 12, []), (1, 12, [])]
/-- the heap behind the constructors: shapes zSH, numbers f, long numbers g -/
def zK (f : Nat → Nat → Int32) (g : Nat → Nat → Int64) : zz_H := (zSH, f, g)
theorem zs_0 : 0 ≠ zz_scr ∧ zz_sh zSH 0 = (10, 16, [some 1, some 2, some 3, some 15, some 16, some 17, some 30, some 33, some 36, some 48, some 52, some 55, none, none, none, none]) := ⟨by decide, rfl⟩
theorem zs_1 : 1 ≠ zz_scr ∧ zz_sh zSH 1 = (3, 6, [some 56, some 58, some 60, some 62, some 64, some 66]) := ⟨by decide, rfl⟩
theorem zs_2 : 2 ≠ zz_scr ∧ zz_sh zSH 2 = (3, 4, [some 68, some 70, some 72, some 74]) := ⟨by decide, rfl⟩
theorem zs_3 : 3 ≠ zz_scr ∧ zz_sh zSH 3 = (11, 16, [none, none, none, none, none, some 4, some 5, some 6, some 7, some 8, some 9, some 10, some 11, some 12, some 13, some 14]) := ⟨by decide, rfl⟩
theorem zs_4 : 4 ≠ zz_scr ∧ zz_sh zSH 4 = (0, 6, []) := ⟨by decide, rfl⟩
theorem zs_5 : 5 ≠ zz_scr ∧ zz_sh zSH 5 = (0, 6, []) := ⟨by decide, rfl⟩
theorem zs_6 : 6 ≠ zz_scr ∧ zz_sh zSH 6 = (0, 6, []) := ⟨by decide, rfl⟩
theorem zs_7 : 7 ≠ zz_scr ∧ zz_sh zSH 7 = (0, 6, []) := ⟨by decide, rfl⟩
theorem zs_8 : 8 ≠ zz_scr ∧ zz_sh zSH 8 = (0, 6, []) := ⟨by decide, rfl⟩
theorem zs_9 : 9 ≠ zz_scr ∧ zz_sh zSH 9 = (0, 4, []) := ⟨by decide, rfl⟩
theorem zs_10 : 10 ≠ zz_scr ∧ zz_sh zSH 10 = (0, 4, []) := ⟨by decide, rfl⟩
theorem zs_11 : 11 ≠ zz_scr ∧ zz_sh zSH 11 = (0, 40, []) := ⟨by decide, rfl⟩
theorem zs_12 : 12 ≠ zz_scr ∧ zz_sh zSH 12 = (0, 40, []) := ⟨by decide, rfl⟩
theorem zs_13 : 13 ≠ zz_scr ∧ zz_sh zSH 13 = (0, 40, []) := ⟨by decide, rfl⟩
theorem zs_14 : 14 ≠ zz_scr ∧ zz_sh zSH 14 = (0, 40, []) := ⟨by decide, rfl⟩
theorem zs_15 : 15 ≠ zz_scr ∧ zz_sh zSH 15 = (4, 3, [some 76, some 88, some 100]) := ⟨by decide, rfl⟩
theorem zs_16 : 16 ≠ zz_scr ∧ zz_sh zSH 16 = (2, 3, []) := ⟨by decide, rfl⟩
theorem zs_17 : 17 ≠ zz_scr ∧ zz_sh zSH 17 = (12, 2, [some 18, none]) := ⟨by decide, rfl⟩
theorem zs_18 : 18 ≠ zz_scr ∧ zz_sh zSH 18 = (11, 16, [none, none, none, none, none, some 19, some 20, some 21, some 22, some 23, some 24, some 25, some 26, some 27, some 28, some 29]) := ⟨by decide, rfl⟩
theorem zs_19 : 19 ≠ zz_scr ∧ zz_sh zSH 19 = (0, 6, []) := ⟨by decide, rfl⟩
theorem zs_20 : 20 ≠ zz_scr ∧ zz_sh zSH 20 = (0, 6, []) := ⟨by decide, rfl⟩
theorem zs_21 : 21 ≠ zz_scr ∧ zz_sh zSH 21 = (0, 6, []) := ⟨by decide, rfl⟩
theorem zs_22 : 22 ≠ zz_scr ∧ zz_sh zSH 22 = (0, 6, []) := ⟨by decide, rfl⟩
theorem zs_23 : 23 ≠ zz_scr ∧ zz_sh zSH 23 = (0, 6, []) := ⟨by decide, rfl⟩
theorem zs_24 : 24 ≠ zz_scr ∧ zz_sh zSH 24 = (0, 4, []) := ⟨by decide, rfl⟩
theorem zs_25 : 25 ≠ zz_scr ∧ zz_sh zSH 25 = (0, 4, []) := ⟨by decide, rfl⟩
theorem zs_26 : 26 ≠ zz_scr ∧ zz_sh zSH 26 = (0, 40, []) := ⟨by decide, rfl⟩
theorem zs_27 : 27 ≠ zz_scr ∧ zz_sh zSH 27 = (0, 40, []) := ⟨by decide, rfl⟩
theorem zs_28 : 28 ≠ zz_scr ∧ zz_sh zSH 28 = (0, 40, []) := ⟨by decide, rfl⟩
theorem zs_29 : 29 ≠ zz_scr ∧ zz_sh zSH 29 = (0, 40, []) := ⟨by decide, rfl⟩
theorem zs_30 : 30 ≠ zz_scr ∧ zz_sh zSH 30 = (13, 2, [some 31, some 32]) := ⟨by decide, rfl⟩
theorem zs_31 : 31 ≠ zz_scr ∧ zz_sh zSH 31 = (0, 12, []) := ⟨by decide, rfl⟩
theorem zs_32 : 32 ≠ zz_scr ∧ zz_sh zSH 32 = (0, 12, []) := ⟨by decide, rfl⟩
theorem zs_33 : 33 ≠ zz_scr ∧ zz_sh zSH 33 = (13, 2, [some 34, some 35]) := ⟨by decide, rfl⟩
theorem zs_34 : 34 ≠ zz_scr ∧ zz_sh zSH 34 = (0, 12, []) := ⟨by decide, rfl⟩
theorem zs_35 : 35 ≠ zz_scr ∧ zz_sh zSH 35 = (0, 12, []) := ⟨by decide, rfl⟩
theorem zs_36 : 36 ≠ zz_scr ∧ zz_sh zSH 36 = (14, 5, [some 37, some 39, some 40, some 41, none]) := ⟨by decide, rfl⟩
theorem zs_37 : 37 ≠ zz_scr ∧ zz_sh zSH 37 = (15, 2, [some 38, none]) := ⟨by decide, rfl⟩
theorem zs_38 : 38 ≠ zz_scr ∧ zz_sh zSH 38 = (0, 6, []) := ⟨by decide, rfl⟩
theorem zs_39 : 39 ≠ zz_scr ∧ zz_sh zSH 39 = (0, 6, []) := ⟨by decide, rfl⟩
theorem zs_40 : 40 ≠ zz_scr ∧ zz_sh zSH 40 = (0, 6, []) := ⟨by decide, rfl⟩
theorem zs_41 : 41 ≠ zz_scr ∧ zz_sh zSH 41 = (5, 6, [some 42, some 43, some 44, some 45, some 46, some 47]) := ⟨by decide, rfl⟩
theorem zs_42 : 42 ≠ zz_scr ∧ zz_sh zSH 42 = (0, 6, []) := ⟨by decide, rfl⟩
theorem zs_43 : 43 ≠ zz_scr ∧ zz_sh zSH 43 = (0, 6, []) := ⟨by decide, rfl⟩
theorem zs_44 : 44 ≠ zz_scr ∧ zz_sh zSH 44 = (0, 6, []) := ⟨by decide, rfl⟩
theorem zs_45 : 45 ≠ zz_scr ∧ zz_sh zSH 45 = (0, 6, []) := ⟨by decide, rfl⟩
theorem zs_46 : 46 ≠ zz_scr ∧ zz_sh zSH 46 = (0, 6, []) := ⟨by decide, rfl⟩
theorem zs_47 : 47 ≠ zz_scr ∧ zz_sh zSH 47 = (0, 6, []) := ⟨by decide, rfl⟩
theorem zs_48 : 48 ≠ zz_scr ∧ zz_sh zSH 48 = (16, 4, [some 49, some 51, none, none]) := ⟨by decide, rfl⟩
theorem zs_49 : 49 ≠ zz_scr ∧ zz_sh zSH 49 = (15, 2, [some 50, none]) := ⟨by decide, rfl⟩
theorem zs_50 : 50 ≠ zz_scr ∧ zz_sh zSH 50 = (0, 6, []) := ⟨by decide, rfl⟩
theorem zs_51 : 51 ≠ zz_scr ∧ zz_sh zSH 51 = (0, 6, []) := ⟨by decide, rfl⟩
theorem zs_52 : 52 ≠ zz_scr ∧ zz_sh zSH 52 = (17, 3, [some 53, some 54, none]) := ⟨by decide, rfl⟩
theorem zs_53 : 53 ≠ zz_scr ∧ zz_sh zSH 53 = (1, 12, []) := ⟨by decide, rfl⟩
theorem zs_54 : 54 ≠ zz_scr ∧ zz_sh zSH 54 = (1, 12, []) := ⟨by decide, rfl⟩
theorem zs_55 : 55 ≠ zz_scr ∧ zz_sh zSH 55 = (0, 6, []) := ⟨by decide, rfl⟩
theorem zs_56 : 56 ≠ zz_scr ∧ zz_sh zSH 56 = (18, 2, [some 57, none]) := ⟨by decide, rfl⟩
theorem zs_57 : 57 ≠ zz_scr ∧ zz_sh zSH 57 = (0, 40, []) := ⟨by decide, rfl⟩
theorem zs_58 : 58 ≠ zz_scr ∧ zz_sh zSH 58 = (18, 2, [some 59, none]) := ⟨by decide, rfl⟩
theorem zs_59 : 59 ≠ zz_scr ∧ zz_sh zSH 59 = (0, 40, []) := ⟨by decide, rfl⟩
theorem zs_60 : 60 ≠ zz_scr ∧ zz_sh zSH 60 = (18, 2, [some 61, none]) := ⟨by decide, rfl⟩
theorem zs_61 : 61 ≠ zz_scr ∧ zz_sh zSH 61 = (0, 40, []) := ⟨by decide, rfl⟩
theorem zs_62 : 62 ≠ zz_scr ∧ zz_sh zSH 62 = (18, 2, [some 63, none]) := ⟨by decide, rfl⟩
theorem zs_63 : 63 ≠ zz_scr ∧ zz_sh zSH 63 = (0, 40, []) := ⟨by decide, rfl⟩
theorem zs_64 : 64 ≠ zz_scr ∧ zz_sh zSH 64 = (18, 2, [some 65, none]) := ⟨by decide, rfl⟩
theorem zs_65 : 65 ≠ zz_scr ∧ zz_sh zSH 65 = (0, 40, []) := ⟨by decide, rfl⟩
theorem zs_66 : 66 ≠ zz_scr ∧ zz_sh zSH 66 = (18, 2, [some 67, none]) := ⟨by decide, rfl⟩
theorem zs_67 : 67 ≠ zz_scr ∧ zz_sh zSH 67 = (0, 40, []) := ⟨by decide, rfl⟩
theorem zs_68 : 68 ≠ zz_scr ∧ zz_sh zSH 68 = (18, 2, [some 69, none]) := ⟨by decide, rfl⟩
theorem zs_69 : 69 ≠ zz_scr ∧ zz_sh zSH 69 = (0, 60, []) := ⟨by decide, rfl⟩
theorem zs_70 : 70 ≠ zz_scr ∧ zz_sh zSH 70 = (18, 2, [some 71, none]) := ⟨by decide, rfl⟩
theorem zs_71 : 71 ≠ zz_scr ∧ zz_sh zSH 71 = (0, 60, []) := ⟨by decide, rfl⟩
theorem zs_72 : 72 ≠ zz_scr ∧ zz_sh zSH 72 = (18, 2, [some 73, none]) := ⟨by decide, rfl⟩
theorem zs_73 : 73 ≠ zz_scr ∧ zz_sh zSH 73 = (0, 60, []) := ⟨by decide, rfl⟩
theorem zs_74 : 74 ≠ zz_scr ∧ zz_sh zSH 74 = (18, 2, [some 75, none]) := ⟨by decide, rfl⟩
theorem zs_75 : 75 ≠ zz_scr ∧ zz_sh zSH 75 = (0, 60, []) := ⟨by decide, rfl⟩
theorem zs_76 : 76 ≠ zz_scr ∧ zz_sh zSH 76 = (11, 16, [none, none, none, none, none, some 77, some 78, some 79, some 80, some 81, some 82, some 83, some 84, some 85, some 86, some 87]) := ⟨by decide, rfl⟩
theorem zs_77 : 77 ≠ zz_scr ∧ zz_sh zSH 77 = (0, 6, []) := ⟨by decide, rfl⟩
theorem zs_78 : 78 ≠ zz_scr ∧ zz_sh zSH 78 = (0, 6, []) := ⟨by decide, rfl⟩
theorem zs_79 : 79 ≠ zz_scr ∧ zz_sh zSH 79 = (0, 6, []) := ⟨by decide, rfl⟩
theorem zs_80 : 80 ≠ zz_scr ∧ zz_sh zSH 80 = (0, 6, []) := ⟨by decide, rfl⟩
theorem zs_81 : 81 ≠ zz_scr ∧ zz_sh zSH 81 = (0, 6, []) := ⟨by decide, rfl⟩
theorem zs_82 : 82 ≠ zz_scr ∧ zz_sh zSH 82 = (0, 4, []) := ⟨by decide, rfl⟩
theorem zs_83 : 83 ≠ zz_scr ∧ zz_sh zSH 83 = (0, 4, []) := ⟨by decide, rfl⟩
theorem zs_84 : 84 ≠ zz_scr ∧ zz_sh zSH 84 = (0, 40, []) := ⟨by decide, rfl⟩
theorem zs_85 : 85 ≠ zz_scr ∧ zz_sh zSH 85 = (0, 40, []) := ⟨by decide, rfl⟩
theorem zs_86 : 86 ≠ zz_scr ∧ zz_sh zSH 86 = (0, 40, []) := ⟨by decide, rfl⟩
theorem zs_87 : 87 ≠ zz_scr ∧ zz_sh zSH 87 = (0, 40, []) := ⟨by decide, rfl⟩
theorem zs_88 : 88 ≠ zz_scr ∧ zz_sh zSH 88 = (11, 16, [none, none, none, none, none, some 89, some 90, some 91, some 92, some 93, some 94, some 95, some 96, some 97, some 98, some 99]) := ⟨by decide, rfl⟩
theorem zs_89 : 89 ≠ zz_scr ∧ zz_sh zSH 89 = (0, 6, []) := ⟨by decide, rfl⟩
theorem zs_90 : 90 ≠ zz_scr ∧ zz_sh zSH 90 = (0, 6, []) := ⟨by decide, rfl⟩
theorem zs_91 : 91 ≠ zz_scr ∧ zz_sh zSH 91 = (0, 6, []) := ⟨by decide, rfl⟩
theorem zs_92 : 92 ≠ zz_scr ∧ zz_sh zSH 92 = (0, 6, []) := ⟨by decide, rfl⟩
theorem zs_93 : 93 ≠ zz_scr ∧ zz_sh zSH 93 = (0, 6, []) := ⟨by decide, rfl⟩
theorem zs_94 : 94 ≠ zz_scr ∧ zz_sh zSH 94 = (0, 4, []) := ⟨by decide, rfl⟩
theorem zs_95 : 95 ≠ zz_scr ∧ zz_sh zSH 95 = (0, 4, []) := ⟨by decide, rfl⟩
theorem zs_96 : 96 ≠ zz_scr ∧ zz_sh zSH 96 = (0, 40, []) := ⟨by decide, rfl⟩
theorem zs_97 : 97 ≠ zz_scr ∧ zz_sh zSH 97 = (0, 40, []) := ⟨by decide, rfl⟩
theorem zs_98 : 98 ≠ zz_scr ∧ zz_sh zSH 98 = (0, 40, []) := ⟨by decide, rfl⟩
theorem zs_99 : 99 ≠ zz_scr ∧ zz_sh zSH 99 = (0, 40, []) := ⟨by decide, rfl⟩
theorem zs_100 : 100 ≠ zz_scr ∧ zz_sh zSH 100 = (11, 16, [none, none, none, none, none, some 101, some 102, some 103, some 104, some 105, some 106, some 107, some 108, some 109, some 110, some 111]) := ⟨by decide, rfl⟩
theorem zs_101 : 101 ≠ zz_scr ∧ zz_sh zSH 101 = (0, 6, []) := ⟨by decide, rfl⟩
theorem zs_102 : 102 ≠ zz_scr ∧ zz_sh zSH 102 = (0, 6, []) := ⟨by decide, rfl⟩
theorem zs_103 : 103 ≠ zz_scr ∧ zz_sh zSH 103 = (0, 6, []) := ⟨by decide, rfl⟩
theorem zs_104 : 104 ≠ zz_scr ∧ zz_sh zSH 104 = (0, 6, []) := ⟨by decide, rfl⟩
theorem zs_105 : 105 ≠ zz_scr ∧ zz_sh zSH 105 = (0, 6, []) := ⟨by decide, rfl⟩
theorem zs_106 : 106 ≠ zz_scr ∧ zz_sh zSH 106 = (0, 4, []) := ⟨by decide, rfl⟩
theorem zs_107 : 107 ≠ zz_scr ∧ zz_sh zSH 107 = (0, 4, []) := ⟨by decide, rfl⟩
theorem zs_108 : 108 ≠ zz_scr ∧ zz_sh zSH 108 = (0, 40, []) := ⟨by decide, rfl⟩
theorem zs_109 : 109 ≠ zz_scr ∧ zz_sh zSH 109 = (0, 40, []) := ⟨by decide, rfl⟩
theorem zs_110 : 110 ≠ zz_scr ∧ zz_sh zSH 110 = (0, 40, []) := ⟨by decide, rfl⟩
theorem zs_111 : 111 ≠ zz_scr ∧ zz_sh zSH 111 = (0, 40, []) := ⟨by decide, rfl⟩
theorem zs_112 : 112 ≠ zz_scr ∧ zz_sh zSH 112 = (19, 28, [some 113, none, some 114, none, some 115, some 116, some 117, some 118, some 119, none, none, none, none, some 120, none, none, none, some 121, none, some 122, none, none, none, some 123, some 124, some 125, some 126, some 127]) := ⟨by decide, rfl⟩
theorem zs_113 : 113 ≠ zz_scr ∧ zz_sh zSH 113 = (0, 3308, []) := ⟨by decide, rfl⟩
theorem zs_114 : 114 ≠ zz_scr ∧ zz_sh zSH 114 = (0, 6, []) := ⟨by decide, rfl⟩
theorem zs_115 : 115 ≠ zz_scr ∧ zz_sh zSH 115 = (0, 8, []) := ⟨by decide, rfl⟩
theorem zs_116 : 116 ≠ zz_scr ∧ zz_sh zSH 116 = (0, 6, []) := ⟨by decide, rfl⟩
theorem zs_117 : 117 ≠ zz_scr ∧ zz_sh zSH 117 = (0, 240, []) := ⟨by decide, rfl⟩
theorem zs_118 : 118 ≠ zz_scr ∧ zz_sh zSH 118 = (0, 4, []) := ⟨by decide, rfl⟩
theorem zs_119 : 119 ≠ zz_scr ∧ zz_sh zSH 119 = (0, 240, []) := ⟨by decide, rfl⟩
theorem zs_120 : 120 ≠ zz_scr ∧ zz_sh zSH 120 = (0, 6, []) := ⟨by decide, rfl⟩
theorem zs_121 : 121 ≠ zz_scr ∧ zz_sh zSH 121 = (0, 18, []) := ⟨by decide, rfl⟩
theorem zs_122 : 122 ≠ zz_scr ∧ zz_sh zSH 122 = (0, 8, []) := ⟨by decide, rfl⟩
theorem zs_123 : 123 ≠ zz_scr ∧ zz_sh zSH 123 = (0, 8, []) := ⟨by decide, rfl⟩
theorem zs_124 : 124 ≠ zz_scr ∧ zz_sh zSH 124 = (0, 144, []) := ⟨by decide, rfl⟩
theorem zs_125 : 125 ≠ zz_scr ∧ zz_sh zSH 125 = (0, 8, []) := ⟨by decide, rfl⟩
theorem zs_126 : 126 ≠ zz_scr ∧ zz_sh zSH 126 = (1, 12, []) := ⟨by decide, rfl⟩
theorem zs_127 : 127 ≠ zz_scr ∧ zz_sh zSH 127 = (1, 12, []) := ⟨by decide, rfl⟩
/-! cells of a kind: a Strip at r (its cells behind it, n of them), Paths, Orders, a House, an array of n ints -/
def zs_C (a : Nat) (s : zz_S) : Prop := a ≠ zz_scr ∧ zz_sh zSH a = s
def zs_S (r n : Nat) : Prop := zs_C r (18, 2, [some (r + 1), none]) ∧ zs_C (r + 1) (0, n, [])
def zs_P (r : Nat) : Prop := zs_C r (13, 2, [some (r + 1), some (r + 2)]) ∧ zs_C (r + 1) (0, 12, []) ∧ zs_C (r + 2) (0, 12, [])
def zs_O (r : Nat) : Prop := zs_C r (15, 2, [some (r + 1), none]) ∧ zs_C (r + 1) (0, 6, [])
def zs_I (r n : Nat) : Prop := zs_C r (0, n, [])
def zs_H (r : Nat) : Prop := zs_C r (11, 16, [none, none, none, none, none, some (r + 1), some (r + 2), some (r + 3), some (r + 4), some (r + 5), some (r + 6), some (r + 7), some (r + 8), some (r + 9), some (r + 10), some (r + 11)]) ∧ zs_C (r + 1) (0, 6, []) ∧ zs_C (r + 2) (0, 6, []) ∧ zs_C (r + 3) (0, 6, []) ∧ zs_C (r + 4) (0, 6, []) ∧ zs_C (r + 5) (0, 6, []) ∧ zs_C (r + 6) (0, 4, []) ∧ zs_C (r + 7) (0, 4, []) ∧ zs_C (r + 8) (0, 40, []) ∧ zs_C (r + 9) (0, 40, []) ∧ zs_C (r + 10) (0, 40, []) ∧ zs_C (r + 11) (0, 40, [])
theorem zs_S_row : ∀ r, r < 6 → zs_S (56 + 2 * r) 40 := by
  intro r h
  have : r = 0 ∨ r = 1 ∨ r = 2 ∨ r = 3 ∨ r = 4 ∨ r = 5 := by omega
  rcases this with rfl | rfl | rfl | rfl | rfl | rfl <;> exact ⟨⟨by decide, rfl⟩, by decide, rfl⟩
theorem zs_S_text : ∀ t, t < 4 → zs_S (68 + 2 * t) 60 := by
  intro r h
  have : r = 0 ∨ r = 1 ∨ r = 2 ∨ r = 3 := by omega
  rcases this with rfl | rfl | rfl | rfl <;> exact ⟨⟨by decide, rfl⟩, by decide, rfl⟩
theorem zs_H_kept : ∀ k, k < 3 → zs_H (76 + 12 * k) := by
  intro r h
  have : r = 0 ∨ r = 1 ∨ r = 2 := by omega
  rcases this with rfl | rfl | rfl <;> exact ⟨⟨by decide, rfl⟩, ⟨by decide, rfl⟩, ⟨by decide, rfl⟩, ⟨by decide, rfl⟩, ⟨by decide, rfl⟩, ⟨by decide, rfl⟩, ⟨by decide, rfl⟩, ⟨by decide, rfl⟩, ⟨by decide, rfl⟩, ⟨by decide, rfl⟩, ⟨by decide, rfl⟩, by decide, rfl⟩
theorem zs_H_3 : zs_H 3 := ⟨⟨by decide, rfl⟩, ⟨by decide, rfl⟩, ⟨by decide, rfl⟩, ⟨by decide, rfl⟩, ⟨by decide, rfl⟩, ⟨by decide, rfl⟩, ⟨by decide, rfl⟩, ⟨by decide, rfl⟩, ⟨by decide, rfl⟩, ⟨by decide, rfl⟩, ⟨by decide, rfl⟩, by decide, rfl⟩
theorem zs_H_18 : zs_H 18 := ⟨⟨by decide, rfl⟩, ⟨by decide, rfl⟩, ⟨by decide, rfl⟩, ⟨by decide, rfl⟩, ⟨by decide, rfl⟩, ⟨by decide, rfl⟩, ⟨by decide, rfl⟩, ⟨by decide, rfl⟩, ⟨by decide, rfl⟩, ⟨by decide, rfl⟩, ⟨by decide, rfl⟩, by decide, rfl⟩
theorem zs_P_30 : zs_P 30 := ⟨⟨by decide, rfl⟩, ⟨by decide, rfl⟩, by decide, rfl⟩
theorem zs_P_33 : zs_P 33 := ⟨⟨by decide, rfl⟩, ⟨by decide, rfl⟩, by decide, rfl⟩
theorem zs_O_37 : zs_O 37 := ⟨⟨by decide, rfl⟩, by decide, rfl⟩
theorem zs_O_49 : zs_O 49 := ⟨⟨by decide, rfl⟩, by decide, rfl⟩
theorem zz_in_ix {i : Int32} {n : Nat} (h : zz_in i n) : zz_ix i < n := by
  have : zz_ix i = i.toInt.toNat := rfl
  omega
/-- an array of Strips: the rows (1), the texts (2) -/
def zs_R (r n : Nat) : Prop := (r = 1 ∧ n = 6) ∨ (r = 2 ∧ n = 4)
theorem zs_R_sh {r n : Nat} (h : zs_R r n) : ∃ l, zs_C r (3, n, l) := by
  rcases h with ⟨rfl, rfl⟩ | ⟨rfl, rfl⟩
  · exact ⟨_, by decide, rfl⟩
  · exact ⟨_, by decide, rfl⟩
theorem zs_R_at {r n : Nat} (h : zs_R r n) {j : Nat} (hj : j < n) : zz_rf zSH r j = some (44 + 12 * r + 2 * j) := by
  rcases h with ⟨rfl, rfl⟩ | ⟨rfl, rfl⟩
  · have : j = 0 ∨ j = 1 ∨ j = 2 ∨ j = 3 ∨ j = 4 ∨ j = 5 := by omega
    rcases this with rfl | rfl | rfl | rfl | rfl | rfl <;> rfl
  · have : j = 0 ∨ j = 1 ∨ j = 2 ∨ j = 3 := by omega
    rcases this with rfl | rfl | rfl | rfl <;> rfl
theorem zs_R_S {r n : Nat} (h : zs_R r n) {j : Nat} (hj : j < n) : ∃ q, zs_S (44 + 12 * r + 2 * j) q := by
  rcases h with ⟨rfl, rfl⟩ | ⟨rfl, rfl⟩
  · exact ⟨40, by have := zs_S_row j hj; rwa [show 44 + 12 * 1 + 2 * j = 56 + 2 * j by omega]⟩
  · exact ⟨60, by have := zs_S_text j hj; rwa [show 44 + 12 * 2 + 2 * j = 68 + 2 * j by omega]⟩
theorem zs_at_1 {j : Nat} (hj : j < 6) : zz_rf zSH 1 j = some (56 + 2 * j) := by
  have := zs_R_at (Or.inl ⟨rfl, rfl⟩) hj
  rw [this]
theorem zs_at_2 {j : Nat} (hj : j < 4) : zz_rf zSH 2 j = some (68 + 2 * j) := by
  have := zs_R_at (Or.inr ⟨rfl, rfl⟩) hj
  rw [this]
theorem zs_at_15 {j : Nat} (hj : j < 3) : zz_rf zSH 15 j = some (76 + 12 * j) := by
  have : j = 0 ∨ j = 1 ∨ j = 2 := by omega
  rcases this with rfl | rfl | rfl <;> rfl
theorem zs_at_41 {j : Nat} (hj : j < 6) : zz_rf zSH 41 j = some (42 + j) := by
  have : j = 0 ∨ j = 1 ∨ j = 2 ∨ j = 3 ∨ j = 4 ∨ j = 5 := by omega
  rcases this with rfl | rfl | rfl | rfl | rfl | rfl <;> rfl
theorem zs_I_41 {j : Nat} (hj : j < 6) : zs_I (42 + j) 6 := by
  have : j = 0 ∨ j = 1 ∨ j = 2 ∨ j = 3 ∨ j = 4 ∨ j = 5 := by omega
  rcases this with rfl | rfl | rfl | rfl | rfl | rfl <;> exact ⟨by decide, rfl⟩
/-! a stretch of instructions without heap, at once -/
def zz_lc (ins : Instr) (aux : List Nat) : Option (Nat × Value) := match ins, aux with
  | .ldc _, [v, _] => some (2, .int (nI v))
  | .ldc_w _, [v, _] => some (3, .int (nI v))
  | .ldc2_w _, [v, _] => some (3, .long (lN v))
  | _, _ => none
def zz_rn (k : Nat) (c : List zz_I) : Nat → Nat → List Value → List Value → zz_P
  | 0, pc, L, S => some (pc, L, S)
  | n + 1, pc, L, S => match zz_nth none c pc with
    | some (ins, _, aux) => match zz_p ins pc (zz_fgt (zz_fg k pc) L) S with
      | some (pc', L', S') => zz_rn k c n pc' L' S'
      | none => match zz_lc ins aux with
        | some (len, v) => zz_rn k c n (pc + len) (zz_fgt (zz_fg k pc) L) (v :: S)
        | none => none
    | none => none
section ZX
variable {k pc pc' n j : Nat} {c : List zz_I} {L L' L1 S S' : List Value} {h : zz_H} {f : Nat → Nat → Int32} {g : Nat → Nat → Int64} {a ln : Nat} {rs : List (Option Nat)} {aux : List Nat} {len : Nat}
theorem zx_st0 {o : zz_O} (hk : ∀ pc, zz_cd k pc = zz_nth none c pc) {ins : Instr} (hc : zz_nth none c pc = some (ins, len, aux)) (hf : zz_fgt (zz_fg k pc) L = L1) (ho : (match zz_p ins pc L1 S with
    | some (pc', L', S') => some (.inl (pc', L', S', h))
    | none => match zz_h ins aux k pc L1 S h with
      | some q => some (.inl q)
      | none => match zz_r ins (zz_m k).2.2.2.1 S with
        | some v => some (.inr (.inl v))
        | none => match zz_c ins aux S h with
          | some q => some (.inr (.inr q))
          | none => none) = o) : zz_stp k pc L S h = o := by
  unfold zz_stp zz_st0
  rw [hk, hc, hf]
  exact ho
theorem zx_run (hk : ∀ pc, zz_cd k pc = zz_nth none c pc) : ∀ (n pc : Nat) (L S : List Value) {pc' : Nat} {L' S' : List Value}, zz_rn k c n pc L S = some (pc', L', S') → zz_ev k pc L S h = zz_ev k pc' L' S' h
  | 0, pc, L, S, pc', L', S', hr => by
    simp only [zz_rn, Option.some.injEq, Prod.mk.injEq] at hr
    obtain ⟨rfl, rfl, rfl⟩ := hr
    rfl
  | n + 1, pc, L, S, pc', L', S', hr => by
    rw [zz_rn] at hr
    cases hc : zz_nth none c pc with
    | none => rw [hc] at hr; simp at hr
    | some q =>
      obtain ⟨ins, len, aux⟩ := q
      rw [hc] at hr
      simp only at hr
      cases hp : zz_p ins pc (zz_fgt (zz_fg k pc) L) S with
      | some q =>
        obtain ⟨p1, L1, S1⟩ := q
        rw [hp] at hr
        rw [zz_ev_next (zx_st0 (h := h) hk hc rfl (by rw [hp]))]
        exact zx_run hk n p1 L1 S1 hr
      | none =>
        rw [hp] at hr
        simp only at hr
        cases hl : zz_lc ins aux with
        | none => rw [hl] at hr; simp at hr
        | some q =>
          obtain ⟨l1, v⟩ := q
          rw [hl] at hr
          have hh : zz_h ins aux k pc (zz_fgt (zz_fg k pc) L) S h = some (pc + l1, zz_fgt (zz_fg k pc) L, v :: S, h) := by
            unfold zz_lc at hl
            split at hl
            · cases hl; rfl
            · cases hl; rfl
            · cases hl; rfl
            · cases hl
          rw [zz_ev_next (zx_st0 (h := h) hk hc rfl (by rw [hp, hh]))]
          exact zx_run hk n _ _ _ hr
/-- a guard, and behind it -/
theorem zx_g {α : Type} {c : Prop} [Decidable c] {a b : Option α} (e : c → a = b) : (if c then a else none) = (if c then b else none) := by
  split
  · exact e (by assumption)
  · rfl
theorem zx_d {α : Type} {c : Prop} [Decidable c] {a b : Option α} (e : ¬ c → a = b) : (if c then none else a) = (if c then none else b) := by
  split
  · rfl
  · exact e (by assumption)
theorem zx_next_if {q : Prop} [Decidable q] {r : Nat × List Value × List Value × zz_H} (hs : zz_stp k pc L S h = if q then some (.inl r) else none) : zz_ev k pc L S h = if q then zz_ev k r.1 r.2.1 r.2.2.1 r.2.2.2 else none := by
  by_cases hq : q
  · rw [if_pos hq] at hs ⊢
    exact zz_ev_next hs
  · rw [if_neg hq] at hs ⊢
    exact zz_ev_stuck hs
theorem zx_iald (hk : ∀ pc, zz_cd k pc = zz_nth none c pc) (hc : zz_nth none c pc = some (.iaload, 1, [])) (hf : zz_fgt (zz_fg k pc) L = L1) (hs : zs_C a (0, ln, rs)) {i : Int32} : zz_ev k pc L (.int i :: .ref a :: S) (zK f g) = if zz_in i ln then zz_ev k (pc + 1) L1 (.int (f a (zz_ix i)) :: S) (zK f g) else none := by
  refine zx_next_if (r := (pc + 1, L1, .int (f a (zz_ix i)) :: S, zK f g)) (zx_st0 hk hc hf ?_)
  have h1 : zz_kd zSH a = 0 := by unfold zz_kd; rw [hs.2]
  have h2 : zz_ln zSH a = ln := by unfold zz_ln; rw [hs.2]
  simp only [zz_p, zz_h, zz_iald, zK, h1, h2, if_neg hs.1, true_and]
  rcases Decidable.em (zz_in i ln) with hq | hq
  · simp only [if_pos hq]
  · simp only [if_neg hq]
    rfl
theorem zx_bald (hk : ∀ pc, zz_cd k pc = zz_nth none c pc) (hc : zz_nth none c pc = some (.baload, 1, [])) (hf : zz_fgt (zz_fg k pc) L = L1) (hs : zs_C a (2, ln, rs)) {i : Int32} : zz_ev k pc L (.int i :: .ref a :: S) (zK f g) = if zz_in i ln then zz_ev k (pc + 1) L1 (.int (f a (zz_ix i)) :: S) (zK f g) else none := by
  refine zx_next_if (r := (pc + 1, L1, .int (f a (zz_ix i)) :: S, zK f g)) (zx_st0 hk hc hf ?_)
  have h1 : zz_kd zSH a = 2 := by unfold zz_kd; rw [hs.2]
  have h2 : zz_ln zSH a = ln := by unfold zz_ln; rw [hs.2]
  simp only [zz_p, zz_h, zz_bald, zK, h1, h2, hs.1, true_and, ne_eq, not_false_eq_true]
  rcases Decidable.em (zz_in i ln) with hq | hq
  · simp only [if_pos hq]
  · simp only [if_neg hq]
    rfl
theorem zx_lald (hk : ∀ pc, zz_cd k pc = zz_nth none c pc) (hc : zz_nth none c pc = some (.laload, 1, [])) (hf : zz_fgt (zz_fg k pc) L = L1) (hs : zs_C a (1, ln, rs)) {i : Int32} : zz_ev k pc L (.int i :: .ref a :: S) (zK f g) = if zz_in i ln then zz_ev k (pc + 1) L1 (.long (g a (zz_ix i)) :: S) (zK f g) else none := by
  refine zx_next_if (r := (pc + 1, L1, .long (g a (zz_ix i)) :: S, zK f g)) (zx_st0 hk hc hf ?_)
  have h1 : zz_kd zSH a = 1 := by unfold zz_kd; rw [hs.2]
  have h2 : zz_ln zSH a = ln := by unfold zz_ln; rw [hs.2]
  simp only [zz_p, zz_h, zz_lald, zK, h1, h2, hs.1, true_and, ne_eq, not_false_eq_true]
  rcases Decidable.em (zz_in i ln) with hq | hq
  · simp only [if_pos hq]
  · simp only [if_neg hq]
    rfl
theorem zx_iast (hk : ∀ pc, zz_cd k pc = zz_nth none c pc) (hc : zz_nth none c pc = some (.iastore, 1, [])) (hf : zz_fgt (zz_fg k pc) L = L1) (hs : zs_C a (0, ln, rs)) {i x : Int32} : zz_ev k pc L (.int x :: .int i :: .ref a :: S) (zK f g) = if zz_in i ln then zz_ev k (pc + 1) L1 S (zK (zz_u f a (zz_ix i) x) g) else none := by
  refine zx_next_if (r := (pc + 1, L1, S, zK (zz_u f a (zz_ix i) x) g)) (zx_st0 hk hc hf ?_)
  have h1 : zz_kd zSH a = 0 := by unfold zz_kd; rw [hs.2]
  have h2 : zz_ln zSH a = ln := by unfold zz_ln; rw [hs.2]
  simp only [zz_p, zz_h, zz_iast, zK, h1, h2, hs.1, true_and, ne_eq, not_false_eq_true]
  rcases Decidable.em (zz_in i ln) with hq | hq
  · simp only [if_pos hq]
  · simp only [if_neg hq]
    rfl
theorem zx_bast (hk : ∀ pc, zz_cd k pc = zz_nth none c pc) (hc : zz_nth none c pc = some (.bastore, 1, [])) (hf : zz_fgt (zz_fg k pc) L = L1) (hs : zs_C a (2, ln, rs)) {i x : Int32} (hb : zz_bz x) : zz_ev k pc L (.int x :: .int i :: .ref a :: S) (zK f g) = if zz_in i ln then zz_ev k (pc + 1) L1 S (zK (zz_u f a (zz_ix i) x) g) else none := by
  refine zx_next_if (r := (pc + 1, L1, S, zK (zz_u f a (zz_ix i) x) g)) (zx_st0 hk hc hf ?_)
  have h1 : zz_kd zSH a = 2 := by unfold zz_kd; rw [hs.2]
  have h2 : zz_ln zSH a = ln := by unfold zz_ln; rw [hs.2]
  simp only [zz_p, zz_h, zz_bast, zK, h1, h2, hs.1, hb, true_and, and_true, ne_eq, not_false_eq_true]
  rcases Decidable.em (zz_in i ln) with hq | hq
  · simp only [if_pos hq]
  · simp only [if_neg hq]
    rfl
theorem zx_last (hk : ∀ pc, zz_cd k pc = zz_nth none c pc) (hc : zz_nth none c pc = some (.lastore, 1, [])) (hf : zz_fgt (zz_fg k pc) L = L1) (hs : zs_C a (1, ln, rs)) {i : Int32} {x : Int64} : zz_ev k pc L (.long x :: .int i :: .ref a :: S) (zK f g) = if zz_in i ln then zz_ev k (pc + 1) L1 S (zK f (zz_u g a (zz_ix i) x)) else none := by
  refine zx_next_if (r := (pc + 1, L1, S, zK f (zz_u g a (zz_ix i) x))) (zx_st0 hk hc hf ?_)
  have h1 : zz_kd zSH a = 1 := by unfold zz_kd; rw [hs.2]
  have h2 : zz_ln zSH a = ln := by unfold zz_ln; rw [hs.2]
  simp only [zz_p, zz_h, zz_last, zK, h1, h2, hs.1, true_and, ne_eq, not_false_eq_true]
  rcases Decidable.em (zz_in i ln) with hq | hq
  · simp only [if_pos hq]
  · simp only [if_neg hq]
    rfl
/-- a reference out of an array: b is what stands there -/
theorem zx_aald {kd : Nat} (hk : ∀ pc, zz_cd k pc = zz_nth none c pc) (hc : zz_nth none c pc = some (.aaload, 1, [])) (hf : zz_fgt (zz_fg k pc) L = L1) (hs : zs_C a (kd, ln, rs)) (hkd : kd = 3 ∨ kd = 4 ∨ kd = 5) {i : Int32} {b : Nat} (hb : zz_ix i < ln → zz_rf zSH a (zz_ix i) = some b) (hn : zz_ix i < ln → b ≠ zz_scr) : zz_ev k pc L (.int i :: .ref a :: S) (zK f g) = if zz_in i ln then zz_ev k (pc + 1) L1 (.ref b :: S) (zK f g) else none := by
  refine zx_next_if (r := (pc + 1, L1, .ref b :: S, zK f g)) (zx_st0 hk hc hf ?_)
  have h1 : zz_kd zSH a = kd := by unfold zz_kd; rw [hs.2]
  have h2 : zz_ln zSH a = ln := by unfold zz_ln; rw [hs.2]
  by_cases hi : zz_in i ln
  · simp only [zz_p, zz_h, zz_aald, zK, h1, h2, hs.1, hkd, hi, true_and, ne_eq, not_false_eq_true, if_true, hb (zz_in_ix hi), hn (zz_in_ix hi), if_false]
    rw [if_pos hi, if_pos hi]
  · simp only [zz_p, zz_h, zz_aald, zK, h1, h2, hs.1, hkd, hi, and_false, if_false]
    rfl
theorem zx_alen {kd : Nat} (hk : ∀ pc, zz_cd k pc = zz_nth none c pc) (hc : zz_nth none c pc = some (.arraylength, 1, [])) (hf : zz_fgt (zz_fg k pc) L = L1) (hs : zs_C a (kd, ln, rs)) (hkd : kd < 6) : zz_ev k pc L (.ref a :: S) (zK f g) = zz_ev k (pc + 1) L1 (.int (nI ln) :: S) (zK f g) := by
  refine zz_ev_next (zx_st0 hk hc hf ?_)
  have h1 : zz_kd zSH a = kd := by unfold zz_kd; rw [hs.2]
  have h2 : zz_ln zSH a = ln := by unfold zz_ln; rw [hs.2]
  simp only [zz_p, zz_h, zz_alen, zK, h1, h2, if_neg hs.1, if_pos hkd]
theorem zx_slen (hk : ∀ pc, zz_cd 0 pc = zz_nth none c pc) (hc : zz_nth none c pc = some (.arraylength, 1, [])) (hf : zz_fgt (zz_fg 0 pc) L = L1) : zz_ev 0 pc L (.ref zz_scr :: S) (zK f g) = zz_ev 0 (pc + 1) L1 (.int (f (zz_scr + 1) 0) :: S) (zK f g) := by
  refine zz_ev_next (zx_st0 hk hc hf ?_)
  simp only [zz_p, zz_h, zz_alen, zK, if_true]
theorem zx_sld (hk : ∀ pc, zz_cd 0 pc = zz_nth none c pc) (hc : zz_nth none c pc = some (.iaload, 1, [])) (hf : zz_fgt (zz_fg 0 pc) L = L1) {i : Int32} : zz_ev 0 pc L (.int i :: .ref zz_scr :: S) (zK f g) = if zz_in i (f (zz_scr + 1) 0).toNatClampNeg then zz_ev 0 (pc + 1) L1 (.int (f zz_scr (zz_ix i)) :: S) (zK f g) else none := by
  refine zx_next_if (r := (pc + 1, L1, .int (f zz_scr (zz_ix i)) :: S, zK f g)) (zx_st0 hk hc hf ?_)
  simp only [zz_p, zz_h, zz_iald, zK, if_true, true_and]
  rcases Decidable.em (zz_in i (f (zz_scr + 1) 0).toNatClampNeg) with hq | hq
  · simp only [if_pos hq]
  · simp only [if_neg hq]
    rfl
variable {ci sl wp N idx : Nat}
theorem zx_getI (hk : ∀ pc, zz_cd k pc = zz_nth none c pc) (hc : zz_nth none c pc = some (.getfield idx, 3, [ci, sl, 0, wp])) (hf : zz_fgt (zz_fg k pc) L = L1) (hs : zs_C a (10 + ci, N, rs)) : zz_ev k pc L (.ref a :: S) (zK f g) = zz_ev k (pc + 3) L1 (.int (f a sl) :: S) (zK f g) := by
  refine zz_ev_next (zx_st0 hk hc hf ?_)
  have h1 : zz_kd zSH a = 10 + ci := by unfold zz_kd; rw [hs.2]
  simp only [zz_p, zz_h, zz_getf, zK, h1, hs.1, ne_eq, not_false_eq_true, and_self, if_true]
theorem zx_getJ (hk : ∀ pc, zz_cd k pc = zz_nth none c pc) (hc : zz_nth none c pc = some (.getfield idx, 3, [ci, sl, 1, wp])) (hf : zz_fgt (zz_fg k pc) L = L1) (hs : zs_C a (10 + ci, N, rs)) : zz_ev k pc L (.ref a :: S) (zK f g) = zz_ev k (pc + 3) L1 (.long (g a sl) :: S) (zK f g) := by
  refine zz_ev_next (zx_st0 hk hc hf ?_)
  have h1 : zz_kd zSH a = 10 + ci := by unfold zz_kd; rw [hs.2]
  simp only [zz_p, zz_h, zz_getf, zK, h1, hs.1, ne_eq, not_false_eq_true, and_self, if_true]
theorem zx_getA {b : Nat} (hk : ∀ pc, zz_cd k pc = zz_nth none c pc) (hc : zz_nth none c pc = some (.getfield idx, 3, [ci, sl, 2, wp])) (hf : zz_fgt (zz_fg k pc) L = L1) (hs : zs_C a (10 + ci, N, rs)) (hr : zz_nth none rs sl = some b) (hb : b ≠ zz_scr) : zz_ev k pc L (.ref a :: S) (zK f g) = zz_ev k (pc + 3) L1 (.ref b :: S) (zK f g) := by
  refine zz_ev_next (zx_st0 hk hc hf ?_)
  have h1 : zz_kd zSH a = 10 + ci := by unfold zz_kd; rw [hs.2]
  have h2 : zz_rf zSH a sl = some b := by unfold zz_rf; rw [hs.2]; exact hr
  simp only [zz_p, zz_h, zz_getf, zK, h1, hs.1, ne_eq, not_false_eq_true, and_self, if_true, h2, if_neg hb]
theorem zx_putI (hk : ∀ pc, zz_cd k pc = zz_nth none c pc) (hc : zz_nth none c pc = some (.putfield idx, 3, [ci, sl, 0, wp])) (hf : zz_fgt (zz_fg k pc) L = L1) (hs : zs_C a (10 + ci, N, rs)) {x : Int32} : zz_ev k pc L (.int x :: .ref a :: S) (zK f g) = zz_ev k (pc + 3) L1 S (zK (zz_u f a sl x) g) := by
  refine zz_ev_next (zx_st0 hk hc hf ?_)
  have h1 : zz_kd zSH a = 10 + ci := by unfold zz_kd; rw [hs.2]
  simp only [zz_p, zz_h, zz_putf, zK, h1, hs.1, ne_eq, not_false_eq_true, and_self, if_true]
theorem zx_putJ (hk : ∀ pc, zz_cd k pc = zz_nth none c pc) (hc : zz_nth none c pc = some (.putfield idx, 3, [ci, sl, 1, wp])) (hf : zz_fgt (zz_fg k pc) L = L1) (hs : zs_C a (10 + ci, N, rs)) {x : Int64} : zz_ev k pc L (.long x :: .ref a :: S) (zK f g) = zz_ev k (pc + 3) L1 S (zK f (zz_u g a sl x)) := by
  refine zz_ev_next (zx_st0 hk hc hf ?_)
  have h1 : zz_kd zSH a = 10 + ci := by unfold zz_kd; rw [hs.2]
  simp only [zz_p, zz_h, zz_putf, zK, h1, hs.1, ne_eq, not_false_eq_true, and_self, if_true]
theorem zx_copyI {b nb : Nat} {rb : List (Option Nat)} (hk : ∀ pc, zz_cd k pc = zz_nth none c pc) (hc : zz_nth none c pc = some (.invokestatic idx, 3, [1000, wp])) (hf : zz_fgt (zz_fg k pc) L = L1) (hs : zs_C a (0, ln, rs)) (hb : zs_C b (0, nb, rb)) (hct : zz_cat S ≤ 8) {n dp sp : Int32} : zz_ev k pc L (.int n :: .int dp :: .ref b :: .int sp :: .ref a :: S) (zK f g) = if 0 ≤ sp.toInt ∧ 0 ≤ dp.toInt ∧ 0 ≤ n.toInt ∧ zz_ix sp + zz_ix n ≤ ln ∧ zz_ix dp + zz_ix n ≤ nb then zz_ev k (pc + 3) L1 S (zK (zz_cp f a (zz_ix sp) b (zz_ix dp) (zz_ix n)) g) else none := by
  refine zx_next_if (r := (pc + 3, L1, S, zK (zz_cp f a (zz_ix sp) b (zz_ix dp) (zz_ix n)) g)) (zx_st0 hk hc hf ?_)
  have h1 : zz_kd zSH a = 0 := by unfold zz_kd; rw [hs.2]
  have h2 : zz_ln zSH a = ln := by unfold zz_ln; rw [hs.2]
  have h3 : zz_kd zSH b = 0 := by unfold zz_kd; rw [hb.2]
  have h4 : zz_ln zSH b = nb := by unfold zz_ln; rw [hb.2]
  simp only [zz_p, zz_h, zz_copy, zz_r, zz_c, zK, h1, h2, h3, h4, hs.1, hb.1, hct, ne_eq, not_false_eq_true, true_and, and_self, if_true]
  rcases Decidable.em (0 ≤ sp.toInt ∧ 0 ≤ dp.toInt ∧ 0 ≤ n.toInt ∧ zz_ix sp + zz_ix n ≤ ln ∧ zz_ix dp + zz_ix n ≤ nb) with hq | hq
  · simp only [if_pos hq]
  · simp only [if_neg hq]
theorem zx_copyL {b nb : Nat} {rb : List (Option Nat)} (hk : ∀ pc, zz_cd k pc = zz_nth none c pc) (hc : zz_nth none c pc = some (.invokestatic idx, 3, [1000, wp])) (hf : zz_fgt (zz_fg k pc) L = L1) (hs : zs_C a (1, ln, rs)) (hb : zs_C b (1, nb, rb)) (hct : zz_cat S ≤ 8) {n dp sp : Int32} : zz_ev k pc L (.int n :: .int dp :: .ref b :: .int sp :: .ref a :: S) (zK f g) = if 0 ≤ sp.toInt ∧ 0 ≤ dp.toInt ∧ 0 ≤ n.toInt ∧ zz_ix sp + zz_ix n ≤ ln ∧ zz_ix dp + zz_ix n ≤ nb then zz_ev k (pc + 3) L1 S (zK f (zz_cp g a (zz_ix sp) b (zz_ix dp) (zz_ix n))) else none := by
  refine zx_next_if (r := (pc + 3, L1, S, zK f (zz_cp g a (zz_ix sp) b (zz_ix dp) (zz_ix n)))) (zx_st0 hk hc hf ?_)
  have h1 : zz_kd zSH a = 1 := by unfold zz_kd; rw [hs.2]
  have h2 : zz_ln zSH a = ln := by unfold zz_ln; rw [hs.2]
  have h3 : zz_kd zSH b = 1 := by unfold zz_kd; rw [hb.2]
  have h4 : zz_ln zSH b = nb := by unfold zz_ln; rw [hb.2]
  simp only [zz_p, zz_h, zz_copy, zz_r, zz_c, zK, h1, h2, h3, h4, hs.1, hb.1, hct, ne_eq, not_false_eq_true, true_and, and_self, if_true, Nat.succ_ne_self, if_false]
  rcases Decidable.em (0 ≤ sp.toInt ∧ 0 ≤ dp.toInt ∧ 0 ≤ n.toInt ∧ zz_ix sp + zz_ix n ≤ ln ∧ zz_ix dp + zz_ix n ≤ nb) with hq | hq
  · simp only [if_pos hq]
  · simp only [if_neg hq]
/-! divisions -/
theorem zx_divI (hk : ∀ pc, zz_cd k pc = zz_nth none c pc) {ins : Instr} {op : Int32 → Int32 → Int32} (hc : zz_nth none c pc = some (ins, len, aux)) (hf : zz_fgt (zz_fg k pc) L = L1) (hp : ∀ S, zz_p ins pc L1 S = zz_divi op pc L1 S) (hh : ∀ S, zz_h ins aux k pc L1 S h = none ∧ zz_r ins (zz_m k).2.2.2.1 S = none ∧ zz_c ins aux S h = none) {x y : Int32} : zz_ev k pc L (.int y :: .int x :: S) h = if y = 0 then none else zz_ev k (pc + 1) L1 (.int (op x y) :: S) h := by
  by_cases hy : y = 0
  · rw [if_pos hy]
    refine zz_ev_stuck (zx_st0 hk hc hf ?_)
    rw [hp, zz_divi, if_pos hy, (hh _).1, (hh _).2.1, (hh _).2.2]
  · rw [if_neg hy]
    refine zz_ev_next (zx_st0 hk hc hf ?_)
    rw [hp, zz_divi, if_neg hy]
theorem zx_divL (hk : ∀ pc, zz_cd k pc = zz_nth none c pc) {ins : Instr} {op : Int64 → Int64 → Int64} (hc : zz_nth none c pc = some (ins, len, aux)) (hf : zz_fgt (zz_fg k pc) L = L1) (hp : ∀ S, zz_p ins pc L1 S = zz_divl op pc L1 S) (hh : ∀ S, zz_h ins aux k pc L1 S h = none ∧ zz_r ins (zz_m k).2.2.2.1 S = none ∧ zz_c ins aux S h = none) {x y : Int64} : zz_ev k pc L (.long y :: .long x :: S) h = if y = 0 then none else zz_ev k (pc + 1) L1 (.long (op x y) :: S) h := by
  by_cases hy : y = 0
  · rw [if_pos hy]
    refine zz_ev_stuck (zx_st0 hk hc hf ?_)
    rw [hp, zz_divl, if_pos hy, (hh _).1, (hh _).2.1, (hh _).2.2]
  · rw [if_neg hy]
    refine zz_ev_next (zx_st0 hk hc hf ?_)
    rw [hp, zz_divl, if_neg hy]
/-! branches: cnd the condition as a proposition -/
theorem zx_icmp (hk : ∀ pc, zz_cd k pc = zz_nth none c pc) {cnd : Jvm.ClassFile.Cond} {off : Int} (hc : zz_nth none c pc = some (.if_icmp cnd off, 3, [])) (hf : zz_fgt (zz_fg k pc) L = L1) {x y : Int32} {P : Prop} [Decidable P] (hP : zz_cnd cnd x y = true ↔ P) {t : Nat} (ht : zz_tg pc off = t) : zz_ev k pc L (.int y :: .int x :: S) h = if P then zz_ev k t L1 S h else zz_ev k (pc + 3) L1 S h := by
  rw [zz_ev_next (pc' := if zz_cnd cnd x y = true then zz_tg pc off else pc + 3) (L' := L1) (S' := S) (h' := h) (zx_st0 hk hc hf rfl), zz_ev_if, ht]
  by_cases hq : P
  · rw [if_pos hq, if_pos (hP.mpr hq)]
  · rw [if_neg hq, if_neg (fun q => hq (hP.mp q))]
theorem zx_ifc (hk : ∀ pc, zz_cd k pc = zz_nth none c pc) {cnd : Jvm.ClassFile.Cond} {off : Int} (hc : zz_nth none c pc = some (.ifCond cnd off, 3, [])) (hf : zz_fgt (zz_fg k pc) L = L1) {x : Int32} {P : Prop} [Decidable P] (hP : zz_cnd cnd x 0 = true ↔ P) {t : Nat} (ht : zz_tg pc off = t) : zz_ev k pc L (.int x :: S) h = if P then zz_ev k t L1 S h else zz_ev k (pc + 3) L1 S h := by
  rw [zz_ev_next (pc' := if zz_cnd cnd x 0 = true then zz_tg pc off else pc + 3) (L' := L1) (S' := S) (h' := h) (zx_st0 hk hc hf rfl), zz_ev_if, ht]
  by_cases hq : P
  · rw [if_pos hq, if_pos (hP.mpr hq)]
  · rw [if_neg hq, if_neg (fun q => hq (hP.mp q))]
theorem zc_eq {x y : Int32} : zz_cnd .eq x y = true ↔ x = y := by simp [zz_cnd]
theorem zc_ne {x y : Int32} : zz_cnd .ne x y = true ↔ ¬ x = y := by simp [zz_cnd]
theorem zc_lt {x y : Int32} : zz_cnd .lt x y = true ↔ x < y := by simp [zz_cnd]
theorem zc_ge {x y : Int32} : zz_cnd .ge x y = true ↔ y ≤ x := by simp [zz_cnd]
theorem zc_gt {x y : Int32} : zz_cnd .gt x y = true ↔ y < x := by simp [zz_cnd]
theorem zc_le {x y : Int32} : zz_cnd .le x y = true ↔ x ≤ y := by simp [zz_cnd]
/-- both ways of a branch, each walked on -/
theorem zx_if {α : Type} {P : Prop} [Decidable P] {a b a' b' : α} (h1 : P → a = a') (h2 : ¬ P → b = b') : (if P then a else b) = (if P then a' else b') := by
  split
  · exact h1 (by assumption)
  · exact h2 (by assumption)
/-! returns and calls -/
theorem zx_reti (hk : ∀ pc, zz_cd k pc = zz_nth none c pc) (hc : zz_nth none c pc = some (.ireturn, 1, [])) (hr : (zz_m k).2.2.2.1 = some .int) {x : Int32} : zz_ev k pc L [.int x] h = some (some (.int x), h) := by
  refine zz_ev_ret (zx_st0 hk hc rfl ?_)
  simp only [zz_p, zz_h, zz_r, hr]
theorem zx_retz (hk : ∀ pc, zz_cd k pc = zz_nth none c pc) (hc : zz_nth none c pc = some (.ireturn, 1, [])) (hr : (zz_m k).2.2.2.1 = some .boolean) {x : Int32} (hb : zz_bz x) : zz_ev k pc L [.int x] h = some (some (.int x), h) := by
  refine zz_ev_ret (zx_st0 hk hc rfl ?_)
  simp only [zz_p, zz_h, zz_r, hr, if_pos hb]
theorem zx_retl (hk : ∀ pc, zz_cd k pc = zz_nth none c pc) (hc : zz_nth none c pc = some (.lreturn, 1, [])) (hr : (zz_m k).2.2.2.1 = some .long) {x : Int64} : zz_ev k pc L [.long x] h = some (some (.long x), h) := by
  refine zz_ev_ret (zx_st0 hk hc rfl ?_)
  simp only [zz_p, zz_h, zz_r, hr]
theorem zx_retv (hk : ∀ pc, zz_cd k pc = zz_nth none c pc) (hc : zz_nth none c pc = some (.return_, 1, [])) (hr : (zz_m k).2.2.2.1 = none) : zz_ev k pc L [] h = some (none, h) := by
  refine zz_ev_ret (zx_st0 hk hc rfl ?_)
  simp only [zz_p, zz_h, zz_r, hr]
end ZX
