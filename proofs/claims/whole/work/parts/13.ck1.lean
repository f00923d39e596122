/-! THE TABLES ARE CHECKED: each instruction against the bytes and the words, by the kernel -/
def zz_cka (k : Nat) : Nat → List zz_I → Bool
  | _, [] => true
  | i, none :: l => zz_cka k (i + 1) l
  | i, some q :: l => zz_ck k i q && zz_cka k (i + 1) l
theorem zz_cka_use {k : Nat} : ∀ (l : List zz_I) (i j : Nat) (q : Instr × Nat × List Nat), zz_cka k i l = true → zz_nth none l j = some q → zz_ck k (i + j) q = true
  | [], i, j, q, _, h => by simp [zz_nth] at h
  | none :: l, i, 0, q, _, h => by simp [zz_nth] at h
  | none :: l, i, j + 1, q, hc, h => by
    have := zz_cka_use l (i + 1) j q (by simpa [zz_cka] using hc) (by simpa [zz_nth] using h)
    rwa [show i + (j + 1) = i + 1 + j by omega]
  | some e :: l, i, 0, q, hc, h => by
    simp only [zz_nth, Option.some.injEq] at h
    subst h
    simp only [zz_cka, Bool.and_eq_true] at hc
    exact hc.1
  | some e :: l, i, j + 1, q, hc, h => by
    simp only [zz_cka, Bool.and_eq_true] at hc
    have := zz_cka_use l (i + 1) j q hc.2 (by simpa [zz_nth] using h)
    rwa [show i + (j + 1) = i + 1 + j by omega]
theorem zz_cka_cat {k i j : Nat} {l1 l2 : List zz_I} (h1 : zz_cka k i l1 = true) (hl : i + l1.length = j) (h2 : zz_cka k j l2 = true) : zz_cka k i (l1 ++ l2) = true := by
  induction l1 generalizing i with
  | nil => simp at hl; subst hl; exact h2
  | cons a l ih =>
    cases a with
    | none => exact ih (i := i + 1) h1 (by simp at hl; omega)
    | some q =>
      simp only [zz_cka, Bool.and_eq_true] at h1
      show (zz_ck k i q && zz_cka k (i + 1) (l ++ l2)) = true
      rw [h1.1, ih (i := i + 1) h1.2 (by simp at hl; omega)]
      rfl
def zz_ckz : Nat → List (List zz_I) → Prop
  | _, [] => True
  | i, c :: cs => zz_cka i 0 c = true ∧ zz_ckz (i + 1) cs
theorem zz_ckz_use : ∀ (l : List (List zz_I)) (i k : Nat), zz_ckz i l → zz_cka (i + k) 0 (zz_nth [] l k) = true
  | [], i, k, _ => by simp [zz_nth, zz_cka]
  | c :: cs, i, 0, h => h.1
  | c :: cs, i, k + 1, h => by
    have := zz_ckz_use cs (i + 1) k h.2
    rwa [show i + (k + 1) = i + 1 + k by omega]
def zz_ckn : Nat → Nat → Prop
  | 0, _ => True
  | n + 1, i => zz_ckm i = true ∧ zz_ckn n (i + 1)
theorem zz_ckn_use : ∀ (n i j : Nat), zz_ckn n i → j < n → zz_ckm (i + j) = true
  | 0, _, _, _, h => absurd h (Nat.not_lt_zero _)
  | n + 1, i, 0, h, _ => h.1
  | n + 1, i, j + 1, h, hj => by
    have := zz_ckn_use n (i + 1) j h.2 (by omega)
    rwa [show i + (j + 1) = i + 1 + j by omega]
set_option maxRecDepth 100000 in
theorem zq_0_0 : zz_cka 0 0 zm_0_0 = true := by decide +kernel
set_option maxRecDepth 100000 in
theorem zq_0_1 : zz_cka 0 227 zm_0_1 = true := by decide +kernel
set_option maxRecDepth 100000 in
theorem zq_0_2 : zz_cka 0 258 zm_0_2 = true := by decide +kernel
set_option maxRecDepth 100000 in
theorem zq_0_3 : zz_cka 0 285 zm_0_3 = true := by decide +kernel
set_option maxRecDepth 100000 in
theorem zq_0_4 : zz_cka 0 316 zm_0_4 = true := by decide +kernel
set_option maxRecDepth 100000 in
theorem zq_0_5 : zz_cka 0 347 zm_0_5 = true := by decide +kernel
set_option maxRecDepth 100000 in
theorem zq_0_6 : zz_cka 0 376 zm_0_6 = true := by decide +kernel
set_option maxRecDepth 100000 in
theorem zq_0_7 : zz_cka 0 403 zm_0_7 = true := by decide +kernel
set_option maxRecDepth 100000 in
theorem zq_0_8 : zz_cka 0 434 zm_0_8 = true := by decide +kernel
set_option maxRecDepth 100000 in
theorem zq_0_9 : zz_cka 0 465 zm_0_9 = true := by decide +kernel
set_option maxRecDepth 100000 in
theorem zq_0_10 : zz_cka 0 496 zm_0_10 = true := by decide +kernel
set_option maxRecDepth 100000 in
theorem zq_0_11 : zz_cka 0 527 zm_0_11 = true := by decide +kernel
set_option maxRecDepth 100000 in
theorem zq_0_12 : zz_cka 0 562 zm_0_12 = true := by decide +kernel
set_option maxRecDepth 100000 in
theorem zq_0_13 : zz_cka 0 589 zm_0_13 = true := by decide +kernel
set_option maxRecDepth 100000 in
theorem zq_0_14 : zz_cka 0 624 zm_0_14 = true := by decide +kernel
set_option maxRecDepth 100000 in
theorem zq_0_15 : zz_cka 0 655 zm_0_15 = true := by decide +kernel
set_option maxRecDepth 100000 in
theorem zq_0_16 : zz_cka 0 686 zm_0_16 = true := by decide +kernel
set_option maxRecDepth 100000 in
theorem zq_0_17 : zz_cka 0 717 zm_0_17 = true := by decide +kernel
set_option maxRecDepth 100000 in
theorem zq_0_18 : zz_cka 0 750 zm_0_18 = true := by decide +kernel
set_option maxRecDepth 100000 in
theorem zq_0_19 : zz_cka 0 783 zm_0_19 = true := by decide +kernel
set_option maxRecDepth 100000 in
theorem zq_0_20 : zz_cka 0 816 zm_0_20 = true := by decide +kernel
set_option maxRecDepth 100000 in
theorem zq_0_21 : zz_cka 0 847 zm_0_21 = true := by decide +kernel
set_option maxRecDepth 100000 in
theorem zq_0_22 : zz_cka 0 878 zm_0_22 = true := by decide +kernel
set_option maxRecDepth 100000 in
theorem zq_0_23 : zz_cka 0 909 zm_0_23 = true := by decide +kernel
set_option maxRecDepth 100000 in
theorem zq_0_24 : zz_cka 0 938 zm_0_24 = true := by decide +kernel
set_option maxRecDepth 100000 in
theorem zq_0_25 : zz_cka 0 967 zm_0_25 = true := by decide +kernel
set_option maxRecDepth 100000 in
theorem zq_0_26 : zz_cka 0 996 zm_0_26 = true := by decide +kernel
set_option maxRecDepth 100000 in
theorem zq_0_27 : zz_cka 0 1027 zm_0_27 = true := by decide +kernel
set_option maxRecDepth 100000 in
theorem zq_0_28 : zz_cka 0 1058 zm_0_28 = true := by decide +kernel
set_option maxRecDepth 100000 in
theorem zq_0_29 : zz_cka 0 1091 zm_0_29 = true := by decide +kernel
set_option maxRecDepth 100000 in
theorem zq_0_30 : zz_cka 0 1122 zm_0_30 = true := by decide +kernel
set_option maxRecDepth 100000 in
theorem zq_0_31 : zz_cka 0 1151 zm_0_31 = true := by decide +kernel
set_option maxRecDepth 100000 in
theorem zq_0_32 : zz_cka 0 1188 zm_0_32 = true := by decide +kernel
set_option maxRecDepth 100000 in
theorem zq_0_33 : zz_cka 0 1219 zm_0_33 = true := by decide +kernel
set_option maxRecDepth 100000 in
theorem zq_0_34 : zz_cka 0 1252 zm_0_34 = true := by decide +kernel
set_option maxRecDepth 100000 in
theorem zq_0_35 : zz_cka 0 1281 zm_0_35 = true := by decide +kernel
set_option maxRecDepth 100000 in
theorem zq_0_36 : zz_cka 0 1312 zm_0_36 = true := by decide +kernel
set_option maxRecDepth 100000 in
theorem zq_0_37 : zz_cka 0 1339 zm_0_37 = true := by decide +kernel
set_option maxRecDepth 100000 in
theorem zq_0_38 : zz_cka 0 1370 zm_0_38 = true := by decide +kernel
set_option maxRecDepth 100000 in
theorem zq_0_39 : zz_cka 0 1411 zm_0_39 = true := by decide +kernel
set_option maxRecDepth 100000 in
theorem zq_0_40 : zz_cka 0 1448 zm_0_40 = true := by decide +kernel
set_option maxRecDepth 100000 in
theorem zq_0_41 : zz_cka 0 1485 zm_0_41 = true := by decide +kernel
theorem zq_0 : zz_cka 0 0 zm_0 = true := zz_cka_cat zq_0_0 (by decide +kernel) (zz_cka_cat zq_0_1 (by decide +kernel) (zz_cka_cat zq_0_2 (by decide +kernel) (zz_cka_cat zq_0_3 (by decide +kernel) (zz_cka_cat zq_0_4 (by decide +kernel) (zz_cka_cat zq_0_5 (by decide +kernel) (zz_cka_cat zq_0_6 (by decide +kernel) (zz_cka_cat zq_0_7 (by decide +kernel) (zz_cka_cat zq_0_8 (by decide +kernel) (zz_cka_cat zq_0_9 (by decide +kernel) (zz_cka_cat zq_0_10 (by decide +kernel) (zz_cka_cat zq_0_11 (by decide +kernel) (zz_cka_cat zq_0_12 (by decide +kernel) (zz_cka_cat zq_0_13 (by decide +kernel) (zz_cka_cat zq_0_14 (by decide +kernel) (zz_cka_cat zq_0_15 (by decide +kernel) (zz_cka_cat zq_0_16 (by decide +kernel) (zz_cka_cat zq_0_17 (by decide +kernel) (zz_cka_cat zq_0_18 (by decide +kernel) (zz_cka_cat zq_0_19 (by decide +kernel) (zz_cka_cat zq_0_20 (by decide +kernel) (zz_cka_cat zq_0_21 (by decide +kernel) (zz_cka_cat zq_0_22 (by decide +kernel) (zz_cka_cat zq_0_23 (by decide +kernel) (zz_cka_cat zq_0_24 (by decide +kernel) (zz_cka_cat zq_0_25 (by decide +kernel) (zz_cka_cat zq_0_26 (by decide +kernel) (zz_cka_cat zq_0_27 (by decide +kernel) (zz_cka_cat zq_0_28 (by decide +kernel) (zz_cka_cat zq_0_29 (by decide +kernel) (zz_cka_cat zq_0_30 (by decide +kernel) (zz_cka_cat zq_0_31 (by decide +kernel) (zz_cka_cat zq_0_32 (by decide +kernel) (zz_cka_cat zq_0_33 (by decide +kernel) (zz_cka_cat zq_0_34 (by decide +kernel) (zz_cka_cat zq_0_35 (by decide +kernel) (zz_cka_cat zq_0_36 (by decide +kernel) (zz_cka_cat zq_0_37 (by decide +kernel) (zz_cka_cat zq_0_38 (by decide +kernel) (zz_cka_cat zq_0_39 (by decide +kernel) (zz_cka_cat zq_0_40 (by decide +kernel) (zq_0_41)))))))))))))))))))))))))))))))))))))))))
