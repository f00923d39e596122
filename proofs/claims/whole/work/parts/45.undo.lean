/-! UNDO, KEEP, ON -/
def hBk (H : zHo) (n : Nat) : zHo := (hP H, n, hQ H)
theorem hBk_C {H : zHo} {n : Nat} : hC (hBk H n) = hQ H n := rfl
theorem hBk_D {H : zHo} : hBk H (hD H) = H := rfl
theorem i32_ac (a b : Int32) : a + b - b = a := by grind
/-- one deed taken back -/
theorem l_77 {f : Nat → Nat → Int32} {g : Nat → Nat → Int64} {W : zW} (hW : wfW W) {H : zHo} {d : Nat} (hd : d < 40) (hw : wfH (wP W) (hBk H (d + 1))) (h : XH f 3 W (hBk H (d + 1))) : ∃ f', zz_ca 77 [.ref 3, .int (nI d)] (zK f g) = some (none, zK f' g) ∧ (∀ a, a < 3 ∨ 8 < a → f' a = f a) ∧ (∀ v, XH (zz_u f' 3 4 v) 3 W (hBk H d) ↔ v = nI d) := by
  have hP6 := hW.1
  obtain ⟨x0, x1, x2, x3, x4, x5, x6, x7⟩ := h
  rw [hBk_C] at x2 x3
  have hl := x7 d (Nat.lt_succ_self d)
  have hq := (hw.2.2 d (Nat.le_succ d))
  -- what is wanted of the cells
  have fin : ∀ f' : Nat → Nat → Int32, (∀ a, a < 3 ∨ 8 < a → f' a = f a) → (∀ j, j ≠ 2 → j ≠ 3 → f' 3 j = f 3 j) → f' 4 = f 4 → f' 6 = f 6 → f' 3 2 = nI (qS (hQ H d)) → f' 3 3 = qH (hQ H d) → (∀ p < wP W, f' 5 p = nI (qR (hQ H d) p) ∧ f' 7 p = qY (hQ H d) p ∧ f' 8 p = qT (hQ H d) p) → (∀ v, XH (zz_u f' 3 4 v) 3 W (hBk H d) ↔ v = nI d) := by
    intro f' e1 e2 e4 e6 e3 e5 e7 v
    constructor
    · intro q
      have := q.2.2.2.2.1
      rwa [zu_s] at this
    · intro q
      subst q
      refine ⟨by rw [zu_i (by decide), e2 0 (by decide) (by decide)]; exact x0, by rw [zu_i (by decide), e2 1 (by decide) (by decide)]; exact x1, by rw [zu_i (by decide)]; exact e3, by rw [zu_i (by decide)]; exact e5, zu_s, fun p hp => ?_, fun s hs => ?_, fun k hk => ?_⟩
      · have y := x5 p hp
        have z := e7 p hp
        rw [hBk_C]
        exact ⟨by rw [zu_c (by decide)]; show f' 4 p = _; rw [e4]; exact y.1, by rw [zu_c (by decide)]; exact z.1, by rw [zu_c (by decide)]; show f' 6 p = _; rw [e6]; exact y.2.2.1, by rw [zu_c (by decide)]; exact z.2.1, by rw [zu_c (by decide)]; exact z.2.2⟩
      · rw [zu_c (by decide), zu_c (by decide), e1 _ (by decide), e1 _ (by decide)]; exact x6 s hs
      · have hk : k < d := hk
        rw [zu_c (by decide), zu_c (by decide), zu_c (by decide), zu_c (by decide), e1 _ (by decide), e1 _ (by decide), e1 _ (by decide), e1 _ (by decide)]; exact x7 k (by show k < d + 1; omega)
  rcases hl with ⟨w0, p, hp, w1, w2, w3, w4, w5, w6, w7⟩ | ⟨w0, w1, w2, w3⟩ | ⟨w0, i, hi, w1, w2, w3, w4⟩
  · -- a step
    have w3 : qS (hQ H (d + 1)) = qS (hQ H d) := w3
    have w4 : qH (hQ H (d + 1)) = qH (hQ H d) := w4
    have w5 : qY (hQ H (d + 1)) p = qY (hQ H d) p + f (3 + 11) d := w5
    have w6 : qT (hQ H (d + 1)) p = qT (hQ H d) p + nI 1 := w6
    have y7 : f 7 p = qY (hQ H d) p + f 14 d := by rw [← w5]; exact (x5 p hp).2.2.2.1
    have y8 : f 8 p = qT (hQ H d) p + nI 1 := by rw [← w6]; exact (x5 p hp).2.2.2.2
    have w0 : f 11 d = nI 0 := w0
    have w1 : f 12 d = nI p := w1
    have w2 : f 13 d = nI (qR (hQ H d) p) := w2
    refine ⟨zz_u (zz_u (zz_u f 5 p (nI (qR (hQ H d) p))) 7 p (qY (hQ H d) p)) 8 p (qT (hQ H d) p), ?_, fun a ha => by rw [zu_c (by omega), zu_c (by omega), zu_c (by omega)], fin _ (fun a ha => by rw [zu_c (by omega), zu_c (by omega), zu_c (by omega)]) (fun j _ _ => by rw [zu_c (by decide), zu_c (by decide), zu_c (by decide)]) (by rw [zu_c (by decide), zu_c (by decide), zu_c (by decide)]) (by rw [zu_c (by decide), zu_c (by decide), zu_c (by decide)]) (by rw [zu_c (by decide), zu_c (by decide), zu_c (by decide), ← w3]; exact x2) (by rw [zu_c (by decide), zu_c (by decide), zu_c (by decide), ← w4]; exact x3) (fun x hx => ?_)⟩
    · simp (disch := first | omega | assumption) only [x_77_0, x_77_40, x_77_80, x_77_84, x_77_87, e_77, nI_add, pk_mul, z_in, z_ix, nI_leI, nI_ltI, nI_eq, z_eq0, z_lt0, z_0le, z_0lt, z_le0, z_n9, z_n1, z_m1lt, z_m9lt, z_m9le, z_m1le, zB_0, zB_1, zz_bi_s, zz_bv_s, zz_bl_s, if_pos, if_neg, if_true, if_false, true_and, and_true, not_true_eq_false, not_false_eq_true, ite_self, w0, w1, w2, zu_c, y7, y8, i32_ac]
    · rw [zu_c (by decide), zu_c (by decide), zu_if, zu_c (by decide), zu_if, zu_if, zu_c (by decide), zu_c (by decide)]
      by_cases e : x = p
      · rw [if_pos e, if_pos e, if_pos e, e]; exact ⟨rfl, rfl, rfl⟩
      · rw [if_neg e, if_neg e, if_neg e]
        have z := w7 x hx e
        have z1 : qR (hQ H (d + 1)) x = qR (hQ H d) x := z.1
        have z2 : qY (hQ H (d + 1)) x = qY (hQ H d) x := z.2.1
        have z3 : qT (hQ H (d + 1)) x = qT (hQ H d) x := z.2.2
        have y := x5 x hx
        rw [← z1, ← z2, ← z3]; exact ⟨y.2.1, y.2.2.2.1, y.2.2.2.2⟩
  · -- an hour
    have w0 : f 11 d = nI 1 := w0
    have w1 : qS (hQ H (d + 1)) = qS (hQ H d) := w1
    have w2 : qH (hQ H (d + 1)) = qH (hQ H d) + nI 1 := w2
    have y3 : f 3 3 = qH (hQ H d) + nI 1 := by rw [← w2]; exact x3
    have key : ∃ f', zz_ca 78 [.ref 3] (zK f g) = some (none, zK f' g) ∧ (∀ x, x ≠ 3 → x ≠ 5 → x ≠ 7 → f' x = f x) ∧ (∀ j, j ≠ 3 → f' 3 j = f 3 j) ∧ f' 3 3 = qH (hQ H d) ∧ ∀ p < wP W, f' 5 p = nI (qR (hQ H d) p) ∧ f' 7 p = qY (hQ H d) p := by
      rw [e_78, x_78_0]
      refine z_loop (fun i (f' : Nat → Nat → Int32) => zz_ev 78 2 [.ref 3, .int (nI i), .null] [] (zK f' g))
        (fun i f' => (∀ x, x ≠ 5 → x ≠ 7 → f' x = f x) ∧ ∀ p < wP W, f' 5 p = (if p < i then nI (qR (hQ H d) p) else f 5 p) ∧ f' 7 p = (if p < i then qY (hQ H d) p else f 7 p))
        (fun x => ∃ f', x = some (none, zK f' g) ∧ (∀ x, x ≠ 3 → x ≠ 5 → x ≠ 7 → f' x = f x) ∧ (∀ j, j ≠ 3 → f' 3 j = f 3 j) ∧ f' 3 3 = qH (hQ H d) ∧ ∀ p < wP W, f' 5 p = nI (qR (hQ H d) p) ∧ f' 7 p = qY (hQ H d) p) (wP W) ?_ ?_ 0 f (by omega) ⟨fun _ _ _ => rfl, fun p hp => ⟨by rw [if_neg (by omega)], by rw [if_neg (by omega)]⟩⟩
      · intro i f1 hi ⟨k1, k2⟩
        left
        have m0 : f1 3 0 = nI (wP W) := by rw [k1 3 (by decide) (by decide)]; exact x0
        have y := x5 i hi
        have z := w3 i hi
        have z1 : qR (hQ H (d + 1)) i = (qR (hQ H d) i + hP H i) % 12 := z.1
        have z2 : qY (hQ H (d + 1)) i = qY (hQ H d) i + nI ((qR (hQ H d) i + hP H i) / 12) := z.2.1
        have m := k2 i hi
        rw [if_neg (by omega), if_neg (by omega)] at m
        have m5 : f1 5 i = nI ((qR (hQ H d) i + hP H i) % 12) := by rw [m.1, ← z1]; exact y.2.1
        have m7 : f1 7 i = qY (hQ H d) i + nI ((qR (hQ H d) i + hP H i) / 12) := by rw [m.2, ← z2]; exact y.2.2.2.1
        have m6 : f1 6 i = nI (hP H i) := by rw [k1 6 (by decide) (by decide)]; exact y.2.2.1
        have hr : qR (hQ H d) i < 12 := hq.2 i hi
        have hv : hP H i < 10 := hw.1 i hi
        by_cases q : qR (hQ H d) i + hP H i < 12
        · have r1 : (qR (hQ H d) i + hP H i) % 12 = qR (hQ H d) i + hP H i := Nat.mod_eq_of_lt q
          have r2 : (qR (hQ H d) i + hP H i) / 12 = 0 := Nat.div_eq_of_lt q
          have r3 : nI (qR (hQ H d) i + hP H i) - nI (hP H i) = nI (qR (hQ H d) i) := by rw [pk_sub (by omega), Nat.add_sub_cancel]
          rw [r1] at m5; rw [r2] at m7
          have m7' : f1 7 i = qY (hQ H d) i := by rw [m7, show nI 0 = 0 from rfl, Int32.add_zero]
          refine ⟨zz_u f1 5 i (nI (qR (hQ H d) i)), ?_, fun x q1 q2 => by rw [zu_c q1]; exact k1 x q1 q2, fun p hp => ?_⟩
          · rw [x_78_2, m0]; simp (disch := first | omega | assumption) only [nI_add, pk_mul, z_in, z_ix, nI_leI, nI_ltI, nI_eq, z_eq0, z_lt0, z_0le, z_0lt, z_le0, z_n9, z_n1, z_m1lt, z_m9lt, z_m9le, z_m1le, zB_0, zB_1, zz_bi_s, zz_bv_s, zz_bl_s, if_pos, if_neg, if_true, if_false, true_and, and_true, not_true_eq_false, not_false_eq_true, ite_self, m5, m6, r3, x_78_41, hi_78_2]
          · rw [zu_if, zu_c (by decide)]
            have w := k2 p hp
            by_cases e : p = i
            · subst e; rw [if_pos rfl, if_pos (by omega), if_pos (by omega)]; exact ⟨rfl, m7'⟩
            · rw [if_neg e, w.1, w.2]
              by_cases e2 : p < i
              · rw [if_pos e2, if_pos e2, if_pos (by omega), if_pos (by omega)]; exact ⟨rfl, rfl⟩
              · rw [if_neg e2, if_neg e2, if_neg (by omega), if_neg (by omega)]; exact ⟨rfl, rfl⟩
        · have r1 : (qR (hQ H d) i + hP H i) % 12 = qR (hQ H d) i + hP H i - 12 := by omega
          have r2 : (qR (hQ H d) i + hP H i) / 12 = 1 := by omega
          have r4 : ¬ 0 ≤ nI (qR (hQ H d) i + hP H i - 12) - nI (hP H i) := by
            have := pk_sneg (a := qR (hQ H d) i + hP H i - 12) (b := hP H i) (by omega) (by omega)
            rw [Int32.lt_iff_toInt_lt] at this; rw [Int32.le_iff_toInt_le]; omega
          have r3 : nI (qR (hQ H d) i + hP H i - 12) - nI (hP H i) + nI 12 = nI (qR (hQ H d) i) := by
            have a1 : nI (qR (hQ H d) i + hP H i - 12) = nI (qR (hQ H d) i) + nI (hP H i) - nI 12 := by rw [nI_add, pk_sub (by omega)]
            rw [a1]; grind
          rw [r1] at m5; rw [r2] at m7
          refine ⟨zz_u (zz_u f1 7 i (qY (hQ H d) i)) 5 i (nI (qR (hQ H d) i)), ?_, fun x q1 q2 => by rw [zu_c q1, zu_c q2]; exact k1 x q1 q2, fun p hp => ?_⟩
          · rw [x_78_2, m0]; simp (disch := first | omega | assumption) only [nI_add, pk_mul, z_in, z_ix, nI_leI, nI_ltI, nI_eq, z_eq0, z_lt0, z_0le, z_0lt, z_le0, z_n9, z_n1, z_m1lt, z_m9lt, z_m9le, z_m1le, zB_0, zB_1, zz_bi_s, zz_bv_s, zz_bl_s, if_pos, if_neg, if_true, if_false, true_and, and_true, not_true_eq_false, not_false_eq_true, ite_self, m5, m6, m7, r3, r4, i32_ac, x_78_41, hi_78_2]
          · rw [zu_if, zu_c (by decide), zu_c (by decide), zu_if]
            have w := k2 p hp
            by_cases e : p = i
            · subst e; rw [if_pos rfl, if_pos rfl, if_pos (by omega), if_pos (by omega)]; exact ⟨rfl, rfl⟩
            · rw [if_neg e, if_neg e, w.1, w.2]
              by_cases e2 : p < i
              · rw [if_pos e2, if_pos e2, if_pos (by omega), if_pos (by omega)]; exact ⟨rfl, rfl⟩
              · rw [if_neg e2, if_neg e2, if_neg (by omega), if_neg (by omega)]; exact ⟨rfl, rfl⟩
      · intro f1 ⟨k1, k2⟩
        have m0 : f1 3 0 = nI (wP W) := by rw [k1 3 (by decide) (by decide)]; exact x0
        have m3 : f1 3 3 = qH (hQ H d) + nI 1 := by rw [k1 3 (by decide) (by decide)]; exact y3
        refine ⟨zz_u f1 3 3 (qH (hQ H d)), ?_, fun x q1 q2 q3 => by rw [zu_c q1, k1 x q2 q3], fun j hj => by rw [zu_i hj, k1 3 (by decide) (by decide)], zu_s, fun p hp => ?_⟩
        · rw [x_78_2, m0]; simp (disch := first | omega | assumption) only [nI_add, pk_mul, z_in, z_ix, nI_leI, nI_ltI, nI_eq, z_eq0, z_lt0, z_0le, z_0lt, z_le0, z_n9, z_n1, z_m1lt, z_m9lt, z_m9le, z_m1le, zB_0, zB_1, zz_bi_s, zz_bv_s, zz_bl_s, if_pos, if_neg, if_true, if_false, true_and, and_true, not_true_eq_false, not_false_eq_true, ite_self, m3, i32_ac]
        · have w := k2 p hp
          rw [if_pos hp, if_pos hp] at w
          rw [zu_c (by decide), zu_c (by decide)]; exact w
    obtain ⟨f', e1, e2, e3, e4, e5⟩ := key
    refine ⟨f', ?_, fun a ha => e2 a (by omega) (by omega) (by omega), fin f' (fun a ha => e2 a (by omega) (by omega) (by omega)) (fun j _ q => e3 j q) (e2 4 (by decide) (by decide) (by decide)) (e2 6 (by decide) (by decide) (by decide)) (by rw [e3 2 (by decide), ← w1]; exact x2) e4 (fun p hp => ⟨(e5 p hp).1, (e5 p hp).2, ?_⟩)⟩
    · simp (disch := first | omega | assumption) only [x_77_0, x_77_40, x_77_80, x_77_84, x_77_87, e_77, nI_add, pk_mul, z_in, z_ix, nI_leI, nI_ltI, nI_eq, z_eq0, z_lt0, z_0le, z_0lt, z_le0, z_n9, z_n1, z_m1lt, z_m9lt, z_m9le, z_m1le, zB_0, zB_1, zz_bi_s, zz_bv_s, zz_bl_s, if_pos, if_neg, if_true, if_false, true_and, and_true, not_true_eq_false, not_false_eq_true, ite_self, w0, e1]
    · have z3 : qT (hQ H (d + 1)) p = qT (hQ H d) p := (w3 p hp).2.2
      rw [e2 8 (by decide) (by decide) (by decide), ← z3]; exact (x5 p hp).2.2.2.2
  · -- a door turned
    have w0 : f 11 d = nI 2 := w0
    have w1 : f 12 d = nI i := w1
    have w2 : qS (hQ H (d + 1)) = qS (hQ H d) ^^^ 2 ^ i := w2
    have w3 : qH (hQ H (d + 1)) = qH (hQ H d) := w3
    have y2 : f 3 2 = nI (qS (hQ H d) ^^^ 2 ^ i) := by rw [← w2]; exact x2
    have e : qS (hQ H d) ^^^ 2 ^ i ^^^ 2 ^ i = qS (hQ H d) := by rw [Nat.xor_assoc, Nat.xor_self, Nat.xor_zero]
    refine ⟨zz_u f 3 2 (nI (qS (hQ H d))), ?_, fun a ha => zu_c (by omega), fin _ (fun a ha => zu_c (by omega)) (fun j q _ => zu_i q) (zu_c (by decide)) (zu_c (by decide)) zu_s (by rw [zu_i (by decide), ← w3]; exact x3) (fun p hp => ?_)⟩
    · simp (disch := first | omega | assumption) only [x_77_0, x_77_40, x_77_80, x_77_84, x_77_87, e_77, nI_add, pk_mul, z_in, z_ix, nI_leI, nI_ltI, nI_eq, z_eq0, z_lt0, z_0le, z_0lt, z_le0, z_n9, z_n1, z_m1lt, z_m9lt, z_m9le, z_m1le, zB_0, zB_1, zz_bi_s, zz_bv_s, zz_bl_s, if_pos, if_neg, if_true, if_false, true_and, and_true, not_true_eq_false, not_false_eq_true, ite_self, w0, w1, y2, z_1shl, z_xor, e]
    · have z := w4 p hp
      have z1 : qR (hQ H (d + 1)) p = qR (hQ H d) p := z.1
      have z2 : qY (hQ H (d + 1)) p = qY (hQ H d) p := z.2.1
      have z3 : qT (hQ H (d + 1)) p = qT (hQ H d) p := z.2.2
      have y := x5 p hp
      rw [zu_c (by decide), zu_c (by decide), zu_c (by decide), ← z1, ← z2, ← z3]; exact ⟨y.2.1, y.2.2.2.1, y.2.2.2.2⟩
theorem l_76 {W : zW} (hW : wfW W) {H : zHo} {n : Nat} {g : Nat → Nat → Int64} : ∀ (k : Nat) (f : Nat → Nat → Int32), n + k ≤ 40 → wfH (wP W) (hBk H (n + k)) → XH f 3 W (hBk H (n + k)) → ∃ f', zz_ev 76 7 [.ref 3, .int (nI n), .int (nI (n + k) - nI 1)] [] (zK f g) = some (none, zK f' g) ∧ (∀ a, a < 3 ∨ 8 < a → f' a = f a) ∧ XH f' 3 W (hBk H n)
  | 0, f, hk, hw, h => by
    refine ⟨f, ?_, fun _ _ => rfl, h⟩
    rw [x_76_7, if_pos]
    rw [Nat.add_zero, Int32.lt_iff_toInt_lt, Int32.toInt_sub, nI_toInt (by omega), nI_toInt (by decide)]
    rw [Int.bmod_eq_of_le (by omega) (by omega)]; omega
  | k + 1, f, hk, hw, h => by
    rw [← Nat.add_assoc] at hw h ⊢
    obtain ⟨f1, e1, e2, e3⟩ := l_77 (g := g) hW (d := n + k) (by omega) hw h
    have h1 := (e3 (nI (n + k))).mpr rfl
    have hw1 : wfH (wP W) (hBk H (n + k)) := ⟨hw.1, by show n + k ≤ 40; omega, fun d hd => hw.2.2 d (by show d ≤ n + k + 1; have hd : d ≤ n + k := hd; omega)⟩
    obtain ⟨f2, r1, r2, r3⟩ := l_76 hW k (zz_u f1 3 4 (nI (n + k))) (by omega) hw1 h1
    refine ⟨f2, ?_, fun a ha => by rw [r2 a ha, zu_c (by omega), e2 a ha], r3⟩
    rw [pk_sub (by omega), show n + k + 1 - 1 = n + k by omega, x_76_7]
    simp (disch := first | omega | assumption) only [nI_add, pk_mul, z_in, z_ix, nI_leI, nI_ltI, nI_eq, z_eq0, z_lt0, z_0le, z_0lt, z_le0, z_n9, z_n1, z_m1lt, z_m9lt, z_m9le, z_m1le, zB_0, zB_1, zz_bi_s, zz_bv_s, zz_bl_s, if_pos, if_neg, if_true, if_false, true_and, and_true, not_true_eq_false, not_false_eq_true, ite_self, e1, x_76_21]
    rw [show nI (n + k) + -1 = nI (n + k) - nI 1 by rw [Int32.sub_eq_add_neg]; rfl]
    exact r1
theorem sim_undo (A : zA) (hw : wf A) (v : Int32) : zSim A 75 199 [.int v] := by
  have hP6 := wfP hw
  have hD40 := wfD hw
  by_cases h1 : zz_in v (hD (aH A) + 1)
  · obtain ⟨n, hn, -, rfl⟩ := z_inx.mp h1
    have hwb : wfH (wP (aW A)) (hBk (aH A) n) := ⟨hw.2.2.2.1.1, by show n ≤ 40; omega, fun d hd => hw.2.2.2.1.2.2 d (by have hd : d ≤ n := hd; omega)⟩
    refine ⟨.int (nI (hD (aH A) - n)), sH A (hBk (aH A) n), wf_H hw hwb, fun f g h => ?_, fun f g h => ?_⟩
    · obtain ⟨f', e1, e2, e3⟩ := l_76 (g := g) hw.2.2.1 (H := aH A) (n := n) (hD (aH A) - n) f (by omega) (by rw [show n + (hD (aH A) - n) = hD (aH A) by omega, hBk_D]; exact hw.2.2.2.1) (by rw [show n + (hD (aH A) - n) = hD (aH A) by omega, hBk_D]; exact h.2.1)
      rw [show n + (hD (aH A) - n) = hD (aH A) by omega] at e1
      refine ⟨f', g, ?_, CX_H h (fun a ha => e2 a (by omega)) e3, ⟨fun a ha => e2 a (by omega), fun _ _ => rfl⟩⟩
      simp (disch := first | omega | assumption) only [x_75_0, x_75_15, x_75_35, e_75, nI_add, pk_mul, z_in, z_ix, nI_leI, nI_ltI, nI_eq, z_eq0, z_lt0, z_0le, z_0lt, z_le0, z_n9, z_n1, z_m1lt, z_m9lt, z_m9le, z_m1le, zB_0, zB_1, zz_bi_s, zz_bv_s, zz_bl_s, if_pos, if_neg, if_true, if_false, true_and, and_true, not_true_eq_false, not_false_eq_true, ite_self, cxP h, cxS h, cxB h, cxH h, cxD h, cxk h, cxr h, cxp h, cxd h, cxt h, cxa h, cxb h, x_76_0, x_76_21, e_76, e1, pk_sub]
    · have m0 := cmD h
      have e0 : zz_ca 150 [.long (nI n).toInt64, .long 0, .long (nI (hD (aH A))).toInt64] (zK f g) = some (some (.int (nI 1)), zK f g) := by
        rw [nI_l (n := hD (aH A)) (by omega), l_150n f g (nI n) (n := hD (aH A)) (by omega), zB_t h1]
      simp (disch := first | omega | assumption) only [e_199, x_199_0, nI_add, pk_mul, z_in, z_ix, nI_leI, nI_ltI, nI_eq, z_eq0, z_lt0, z_0le, z_0lt, z_le0, z_n9, z_n1, z_m1lt, z_m9lt, z_m9le, z_m1le, zB_0, zB_1, zz_bi_s, zz_bv_s, zz_bl_s, if_pos, if_neg, if_true, if_false, true_and, and_true, not_true_eq_false, not_false_eq_true, ite_self, m0, e0, x_199_13, pk_sub]
      by_cases q : n = hD (aH A)
      · refine ⟨zz_u f 113 0 (nI n), g, ?_, CM_H hw h (fun a ha => zu_c ha) (fun j hj => zu_i (by omega)) ?_, zLo_u (by decide) (by decide)⟩
        · rw [x_199_29]; simp (disch := first | omega | assumption) only [nI_add, pk_mul, z_in, z_ix, nI_leI, nI_ltI, nI_eq, z_eq0, z_lt0, z_0le, z_0lt, z_le0, z_n9, z_n1, z_m1lt, z_m9lt, z_m9le, z_m1le, zB_0, zB_1, zz_bi_s, zz_bv_s, zz_bl_s, if_pos, if_neg, if_true, if_false, true_and, and_true, not_true_eq_false, not_false_eq_true, ite_self, x_199_67]
        · rw [q, zu_self m0]; exact h.2.2.1
      · have key := z_lp (fun k => zz_ev 199 29 [.ref 112, .int (nI n), .int (nI (hD (aH A) - n)), .int (nI k)] [] (zK (fun x i => if x = 113 ∧ 1 ≤ i ∧ i < 1 + k then f 113 (27 + 20 * n + (i - 1)) else f x i) g)) 20 (fun k hk => ?_) 0 (by omega)
        · have hf : ∀ i, 1 ≤ i → i < 21 → zz_u (fun x i => if x = 113 ∧ 1 ≤ i ∧ i < 1 + 20 then f 113 (27 + 20 * n + (i - 1)) else f x i) 113 0 (nI n) 113 i = f 113 (27 + 20 * n + (i - 1)) := fun i q1 q2 => by rw [zu_i (by omega)]; exact if_pos ⟨rfl, q1, by omega⟩
          have hf2 : ∀ i, 21 ≤ i → zz_u (fun x i => if x = 113 ∧ 1 ≤ i ∧ i < 1 + 20 then f 113 (27 + 20 * n + (i - 1)) else f x i) 113 0 (nI n) 113 i = f 113 i := fun i q1 => by rw [zu_i (by omega)]; exact if_neg (by omega)
          have hp := h.2.2.1.2.2.2 n (by omega)
          refine ⟨zz_u (fun x i => if x = 113 ∧ 1 ≤ i ∧ i < 1 + 20 then f 113 (27 + 20 * n + (i - 1)) else f x i) 113 0 (nI n), g, ?_, CM_H hw h (fun a ha => by rw [zu_c ha]; funext y; exact if_neg (fun w => ha w.1)) (fun j hj => hf2 j (by omega)) ⟨zu_s, YQ_1 ?_ ?_ (fun p hp' => ⟨?_, ?_, ?_⟩), fun p hp' => ?_, fun d hd => ?_⟩, ⟨fun a ha => by rw [zu_c (by omega)]; funext y; exact if_neg (fun w => by omega), fun _ _ => rfl⟩⟩
          · refine Eq.trans ?_ (key.trans ?_)
            · congr 2; funext x i; exact (if_neg (fun w => by omega)).symm
            · rw [x_199_29]; simp (disch := first | omega | assumption) only [nI_add, pk_mul, z_in, z_ix, nI_leI, nI_ltI, nI_eq, z_eq0, z_lt0, z_0le, z_0lt, z_le0, z_n9, z_n1, z_m1lt, z_m9lt, z_m9le, z_m1le, zB_0, zB_1, zz_bi_s, zz_bv_s, zz_bl_s, if_pos, if_neg, if_true, if_false, true_and, and_true, not_true_eq_false, not_false_eq_true, ite_self, x_199_67]
          · rw [hf 1 (by omega) (by omega)]; have := hp.1; rw [Nat.zero_add] at this; exact this
          · rw [hf 2 (by omega) (by omega)]; have := hp.2.1; rw [Nat.zero_add] at this; exact this
          · rw [hf _ (by omega) (by omega), show 3 + p - 1 = 2 + p by omega, ← Nat.add_assoc]; have := (hp.2.2 p hp').1; rw [Nat.zero_add] at this; exact this
          · rw [hf _ (by omega) (by omega), show 9 + p - 1 = 8 + p by omega, ← Nat.add_assoc]; have := (hp.2.2 p hp').2.1; rw [Nat.zero_add] at this; exact this
          · rw [hf _ (by omega) (by omega), show 15 + p - 1 = 14 + p by omega, ← Nat.add_assoc]; have := (hp.2.2 p hp').2.2; rw [Nat.zero_add] at this; exact this
          · rw [hf2 _ (by omega)]; exact h.2.2.1.2.2.1 p hp'
          · have hd : d < n := hd
            exact YQ_fr (h.2.2.1.2.2.2 d (by omega)) hP6 (fun j h1 h2 => hf2 j (by omega))
        · show zz_ev 199 29 _ _ _ = zz_ev 199 29 _ _ _
          rw [x_199_29]; simp (disch := first | omega | assumption) only [nI_add, pk_mul, z_in, z_ix, nI_leI, nI_ltI, nI_eq, z_eq0, z_lt0, z_0le, z_0lt, z_le0, z_n9, z_n1, z_m1lt, z_m9lt, z_m9le, z_m1le, zB_0, zB_1, zz_bi_s, zz_bv_s, zz_bl_s, if_pos, if_neg, if_true, if_false, true_and, and_true, not_true_eq_false, not_false_eq_true, ite_self]
          congr 2
          funext x i
          unfold zz_u
          by_cases w : x = 113 ∧ i = 1 + k
          · rw [if_pos w, if_pos (by omega), show i - 1 = k by omega]
          · rw [if_neg w]; dsimp only
            by_cases w2 : x = 113 ∧ 1 ≤ i ∧ i < 1 + k
            · rw [if_pos w2, if_pos (by omega)]
            · rw [if_neg w2, if_neg (by omega)]
  · refine sim_0 hw (.int (-1)) (fun f g h => ?_) (fun f g h => ?_)
    · rcases z_rngL5 (by omega) h1 with h3 | ⟨h3, h4⟩
      · simp (disch := first | omega | assumption) only [x_75_0, x_75_15, x_75_35, e_75, nI_add, pk_mul, z_in, z_ix, nI_leI, nI_ltI, nI_eq, z_eq0, z_lt0, z_0le, z_0lt, z_le0, z_n9, z_n1, z_m1lt, z_m9lt, z_m9le, z_m1le, zB_0, zB_1, zz_bi_s, zz_bv_s, zz_bl_s, if_pos, if_neg, if_true, if_false, true_and, and_true, not_true_eq_false, not_false_eq_true, ite_self, cxP h, cxS h, cxB h, cxH h, cxD h, cxk h, cxr h, cxp h, cxd h, cxt h, cxa h, cxb h, h3]
      · simp (disch := first | omega | assumption) only [x_75_0, x_75_15, x_75_35, e_75, nI_add, pk_mul, z_in, z_ix, nI_leI, nI_ltI, nI_eq, z_eq0, z_lt0, z_0le, z_0lt, z_le0, z_n9, z_n1, z_m1lt, z_m9lt, z_m9le, z_m1le, zB_0, zB_1, zz_bi_s, zz_bv_s, zz_bl_s, if_pos, if_neg, if_true, if_false, true_and, and_true, not_true_eq_false, not_false_eq_true, ite_self, cxP h, cxS h, cxB h, cxH h, cxD h, cxk h, cxr h, cxp h, cxd h, cxt h, cxa h, cxb h, h3, h4]
    · have m0 := cmD h
      have e0 : zz_ca 150 [.long v.toInt64, .long 0, .long (nI (hD (aH A))).toInt64] (zK f g) = some (some (.int (nI 0)), zK f g) := by
        rw [nI_l (n := hD (aH A)) (by omega), l_150n f g v (n := hD (aH A)) (by omega), zB_f h1]
      simp (disch := first | omega | assumption) only [e_199, x_199_0, nI_add, pk_mul, z_in, z_ix, nI_leI, nI_ltI, nI_eq, z_eq0, z_lt0, z_0le, z_0lt, z_le0, z_n9, z_n1, z_m1lt, z_m9lt, z_m9le, z_m1le, zB_0, zB_1, zz_bi_s, zz_bv_s, zz_bl_s, if_pos, if_neg, if_true, if_false, true_and, and_true, not_true_eq_false, not_false_eq_true, ite_self, m0, e0, x_199_13]
