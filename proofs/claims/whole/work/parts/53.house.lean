/-! HOUSE -/
theorem zit_l {c : Nat → Int32} {s q : Nat} {D : zD} (h : zit c s D = .inl q) : q ≤ dP D + 2 := by
  rcases zit_c c s D with ⟨_, _, y⟩ | ⟨_, _, _, y⟩ | ⟨_, _, x, _, _, y⟩ | ⟨_, _, x, x2, _, _, _, y⟩ | ⟨_, _, _, y⟩ | ⟨_, _, x, _, _, y⟩ | ⟨_, _, x, _, _, y⟩ | ⟨_, _, _, y⟩ | ⟨_, _, k, _, _, y⟩ | ⟨_, _, k, _, _, _, y⟩ | ⟨_, _, k, x, _, _, _, _, y⟩ | ⟨_, _, k, x, v, _, _, _, _, y⟩ <;> rw [h] at y <;> cases y <;> omega
theorem zrd_l {c : Nat → Int32} {s q : Nat} : ∀ (n : Nat) (D : zD), wfZ s D → zrd c s n D = .inl q → q ≤ s + 2
  | 0, D, _, h => by cases h
  | n + 1, D, hw, h => by
    rw [zrd_s] at h
    by_cases q1 : s ≤ dP D
    · rw [if_pos q1] at h; cases h
    · rw [if_neg q1] at h
      by_cases q2 : c (dP D) = nI 32
      · rw [if_pos q2] at h; exact zrd_l n (dNext D) (wfZ_next hw (by omega)) h
      · rw [if_neg q2] at h
        cases z : zit c s D with
        | inl w => rw [z] at h; cases h; have := zit_l z; omega
        | inr E => rw [z] at h; exact zrd_l n E (zit_r hw z).1 h
theorem l_43_64 {f : Nat → Nat → Int32} {g : Nat → Nat → Int64} {P : Nat} (h : f 3 0 = nI P) : zz_ev 43 64 [.ref 0, .null, .int (nI 0)] [] (zK f g) = some (some (.int (nI P)), zK (zz_u (zz_u (zz_u f 16 0 (nI 0)) 16 1 (nI 0)) 16 2 (nI 0)) g) := by
  rw [x_43_64]; simp (disch := first | omega | assumption) only [nI_add, pk_mul, z_in, z_ix, nI_leI, nI_ltI, nI_eq, z_eq0, z_lt0, z_0le, z_0lt, z_le0, z_n9, z_n1, z_m1lt, z_m9lt, z_m9le, z_m1le, zB_0, zB_1, zz_bi_s, zz_bv_s, zz_bl_s, if_pos, if_neg, if_true, if_false, true_and, and_true, not_true_eq_false, not_false_eq_true, ite_self]
  rw [x_43_64]; simp (disch := first | omega | assumption) only [nI_add, pk_mul, z_in, z_ix, nI_leI, nI_ltI, nI_eq, z_eq0, z_lt0, z_0le, z_0lt, z_le0, z_n9, z_n1, z_m1lt, z_m9lt, z_m9le, z_m1le, zB_0, zB_1, zz_bi_s, zz_bv_s, zz_bl_s, if_pos, if_neg, if_true, if_false, true_and, and_true, not_true_eq_false, not_false_eq_true, ite_self]
  rw [x_43_64]; simp (disch := first | omega | assumption) only [nI_add, pk_mul, z_in, z_ix, nI_leI, nI_ltI, nI_eq, z_eq0, z_lt0, z_0le, z_0lt, z_le0, z_n9, z_n1, z_m1lt, z_m9lt, z_m9le, z_m1le, zB_0, zB_1, zz_bi_s, zz_bv_s, zz_bl_s, if_pos, if_neg, if_true, if_false, true_and, and_true, not_true_eq_false, not_false_eq_true, ite_self]
  rw [x_43_64]; simp (disch := first | omega | assumption) only [nI_add, pk_mul, z_in, z_ix, nI_leI, nI_ltI, nI_eq, z_eq0, z_lt0, z_0le, z_0lt, z_le0, z_n9, z_n1, z_m1lt, z_m9lt, z_m9le, z_m1le, zB_0, zB_1, zz_bi_s, zz_bv_s, zz_bl_s, if_pos, if_neg, if_true, if_false, true_and, and_true, not_true_eq_false, not_false_eq_true, ite_self, zu_c, h]
def aHs (A : zA) (D : zD) : zA := (aR A, aT A, dW D, dH D, (fun _ => false, (aK A).2), aN A)
theorem wf_hs {A : zA} (hw : wf A) {s : Nat} {D : zD} (h : wfZ s D) : wf (aHs A D) :=
  ⟨hw.1, hw.2.1, h.2.1, ⟨fun p hp => (h.2.2.1 p hp).2, Nat.zero_le _, fun d _ => ⟨h.2.2.2, fun p hp => (h.2.2.1 p hp).1⟩⟩, fun k _ q => by cases q⟩
/-! the reference's -/
theorem l_174_55 (f : Nat → Nat → Int32) (g : Nat → Nat → Int64) : zz_ev 174 55 [.ref 112, .null, .int (nI 0)] [] (zK f g) = zz_ev 174 81 [.ref 112, .null, .int (nI 0)] [] (zK (fun x i => if x = 115 ∧ i < 8 then f 122 i else f x i) g) := by
  have key := z_lp (fun k => zz_ev 174 55 [.ref 112, .null, .int (nI k)] [] (zK (fun x i => if x = 115 ∧ i < k then f 122 i else f x i) g)) 8 (fun k hk => ?_) 0 (by omega)
  · refine Eq.trans ?_ (key.trans ?_)
    · congr 2; funext x i; exact (if_neg (fun q => by omega)).symm
    · rw [x_174_55]; simp (disch := first | omega | assumption) only [nI_add, pk_mul, z_in, z_ix, nI_leI, nI_ltI, nI_eq, z_eq0, z_lt0, z_0le, z_0lt, z_le0, z_n9, z_n1, z_m1lt, z_m9lt, z_m9le, z_m1le, zB_0, zB_1, zz_bi_s, zz_bv_s, zz_bl_s, if_pos, if_neg, if_true, if_false, true_and, and_true, not_true_eq_false, not_false_eq_true, ite_self]
  · show zz_ev 174 55 _ _ _ = zz_ev 174 55 _ _ _
    rw [x_174_55]; simp (disch := first | omega | assumption) only [nI_add, pk_mul, z_in, z_ix, nI_leI, nI_ltI, nI_eq, z_eq0, z_lt0, z_0le, z_0lt, z_le0, z_n9, z_n1, z_m1lt, z_m9lt, z_m9le, z_m1le, zB_0, zB_1, zz_bi_s, zz_bv_s, zz_bl_s, if_pos, if_neg, if_true, if_false, true_and, and_true, not_true_eq_false, not_false_eq_true, ite_self]
    congr 2
    funext x i
    unfold zz_u
    by_cases q : x = 115 ∧ i = k
    · rw [if_pos q, if_pos (by omega), q.2]
    · rw [if_neg q]; dsimp only
      by_cases q2 : x = 115 ∧ i < k
      · rw [if_pos q2, if_pos (by omega)]
      · rw [if_neg q2, if_neg (by omega)]
theorem l_174_81 (f : Nat → Nat → Int32) (g : Nat → Nat → Int64) : zz_ev 174 81 [.ref 112, .null, .int (nI 0)] [] (zK f g) = zz_ev 174 113 [.ref 112, .null, .int (nI 0)] [] (zK (zz_u (fun x i => if x = 113 ∧ i < 827 then nI 0 else f x i) 113 2 (f 112 21)) g) := by
  have key := z_lp (fun k => zz_ev 174 81 [.ref 112, .null, .int (nI k)] [] (zK (fun x i => if x = 113 ∧ i < k then nI 0 else f x i) g)) 827 (fun k hk => ?_) 0 (by omega)
  · refine Eq.trans ?_ (key.trans ?_)
    · congr 2; funext x i; exact (if_neg (fun q => by omega)).symm
    · rw [x_174_81]; simp (disch := first | omega | assumption) only [nI_add, pk_mul, z_in, z_ix, nI_leI, nI_ltI, nI_eq, z_eq0, z_lt0, z_0le, z_0lt, z_le0, z_n9, z_n1, z_m1lt, z_m9lt, z_m9le, z_m1le, zB_0, zB_1, zz_bi_s, zz_bv_s, zz_bl_s, if_pos, if_neg, if_true, if_false, true_and, and_true, not_true_eq_false, not_false_eq_true, ite_self]
  · show zz_ev 174 81 _ _ _ = zz_ev 174 81 _ _ _
    rw [x_174_81]; simp (disch := first | omega | assumption) only [nI_add, pk_mul, z_in, z_ix, nI_leI, nI_ltI, nI_eq, z_eq0, z_lt0, z_0le, z_0lt, z_le0, z_n9, z_n1, z_m1lt, z_m9lt, z_m9le, z_m1le, zB_0, zB_1, zz_bi_s, zz_bv_s, zz_bl_s, if_pos, if_neg, if_true, if_false, true_and, and_true, not_true_eq_false, not_false_eq_true, ite_self]
    congr 2
    funext x i
    unfold zz_u
    by_cases q : x = 113 ∧ i = k
    · rw [if_pos q, if_pos (by omega)]
    · rw [if_neg q]; dsimp only
      by_cases q2 : x = 113 ∧ i < k
      · rw [if_pos q2, if_pos (by omega)]
      · rw [if_neg q2, if_neg (by omega)]
theorem l_174_113 {f : Nat → Nat → Int32} {g : Nat → Nat → Int64} {s : Nat} {D : zD} (hw : wfZ s D) (h1 : f 112 1 = nI (wP (dW D))) (h2 : ∀ p < wP (dW D), f 121 (3 * p) = nI (wK (dW D) p) ∧ f 121 (3 * p + 1) = nI (dR D p) ∧ f 121 (3 * p + 2) = nI (dV D p)) : ∃ f', zz_ev 174 113 [.ref 112, .null, .int (nI 0)] [] (zK f g) = zz_ev 174 180 [.ref 112, .null, .int (nI 1)] [] (zK f' g) ∧ (∀ x, x ≠ 113 → x ≠ 114 → f' x = f x) ∧ (∀ j, j < 3 ∨ (8 < j ∧ j < 21) ∨ 26 < j → f' 113 j = f 113 j) ∧ ∀ p < wP (dW D), f' 114 p = nI (wK (dW D) p) ∧ f' 113 (3 + p) = nI (dR D p) ∧ f' 113 (21 + p) = nI (dV D p) := by
  have hP6 := hw.2.1.1
  refine z_loop (fun i (f' : Nat → Nat → Int32) => zz_ev 174 113 [.ref 112, .null, .int (nI i)] [] (zK f' g))
    (fun i f' => (∀ x, x ≠ 113 → x ≠ 114 → f' x = f x) ∧ (∀ j, j < 3 ∨ (8 < j ∧ j < 21) ∨ 26 < j → f' 113 j = f 113 j) ∧ ∀ p < i, f' 114 p = nI (wK (dW D) p) ∧ f' 113 (3 + p) = nI (dR D p) ∧ f' 113 (21 + p) = nI (dV D p))
    (fun x => ∃ f', x = zz_ev 174 180 [.ref 112, .null, .int (nI 1)] [] (zK f' g) ∧ (∀ x, x ≠ 113 → x ≠ 114 → f' x = f x) ∧ (∀ j, j < 3 ∨ (8 < j ∧ j < 21) ∨ 26 < j → f' 113 j = f 113 j) ∧ ∀ p < wP (dW D), f' 114 p = nI (wK (dW D) p) ∧ f' 113 (3 + p) = nI (dR D p) ∧ f' 113 (21 + p) = nI (dV D p)) (wP (dW D)) ?_ ?_ 0 f (by omega) ⟨fun _ _ _ => rfl, fun _ _ => rfl, fun p hp => absurd hp (Nat.not_lt_zero _)⟩
  · intro i f1 hi ⟨k1, k2, k3⟩
    left
    have m := h2 i hi
    have m0 : f1 112 1 = nI (wP (dW D)) := by rw [k1 112 (by decide) (by decide)]; exact h1
    have m1 : f1 121 (3 * i) = nI (wK (dW D) i) := by rw [k1 121 (by decide) (by decide)]; exact m.1
    have m2 : f1 121 (3 * i + 1) = nI (dR D i) := by rw [k1 121 (by decide) (by decide)]; exact m.2.1
    have m3 : f1 121 (3 * i + 2) = nI (dV D i) := by rw [k1 121 (by decide) (by decide)]; exact m.2.2
    refine ⟨zz_u (zz_u (zz_u f1 114 i (nI (wK (dW D) i))) 113 (3 + i) (nI (dR D i))) 113 (21 + i) (nI (dV D i)), ?_, fun x q1 q2 => by rw [zu_c q1, zu_c q1, zu_c q2]; exact k1 x q1 q2, fun j hj => by rw [zu_i (by omega), zu_i (by omega), zu_c (by decide)]; exact k2 j hj, fun p hp => ?_⟩
    · rw [x_174_113, m0]; simp (disch := first | omega | assumption) only [nI_add, pk_mul, z_in, z_ix, nI_leI, nI_ltI, nI_eq, z_eq0, z_lt0, z_0le, z_0lt, z_le0, z_n9, z_n1, z_m1lt, z_m9lt, z_m9le, z_m1le, zB_0, zB_1, zz_bi_s, zz_bv_s, zz_bl_s, if_pos, if_neg, if_true, if_false, true_and, and_true, not_true_eq_false, not_false_eq_true, ite_self, zu_c, m1, m2, m3]
    · rw [zu_c (by decide), zu_c (by decide), zu_if]
      by_cases e : p = i
      · subst e
        rw [if_pos rfl]
        exact ⟨rfl, by rw [zu_i (by omega), zu_s], zu_s⟩
      · rw [if_neg e, zu_i (by omega), zu_i (by omega), zu_i (by omega), zu_i (by omega), zu_c (by decide)]
        exact k3 p (by omega)
  · intro f1 ⟨k1, k2, k3⟩
    have m0 : f1 112 1 = nI (wP (dW D)) := by rw [k1 112 (by decide) (by decide)]; exact h1
    refine ⟨f1, ?_, k1, k2, k3⟩
    rw [x_174_113, m0]; simp (disch := first | omega | assumption) only [nI_add, pk_mul, z_in, z_ix, nI_leI, nI_ltI, nI_eq, z_eq0, z_lt0, z_0le, z_0lt, z_le0, z_n9, z_n1, z_m1lt, z_m9lt, z_m9le, z_m1le, zB_0, zB_1, zz_bi_s, zz_bv_s, zz_bl_s, if_pos, if_neg, if_true, if_false, true_and, and_true, not_true_eq_false, not_false_eq_true, ite_self]
theorem l_174_180 {f : Nat → Nat → Int32} {g : Nat → Nat → Int64} {P : Nat} (h : f 112 1 = nI P) : zz_ev 174 180 [.ref 112, .null, .int (nI 1)] [] (zK f g) = some (some (.int (nI P)), zK (zz_u (zz_u (zz_u f 113 827 (-1)) 113 1654 (-1)) 113 2481 (-1)) g) := by
  have i1 : zz_ix (nI 827 * nI 1 + nI 0) = 827 := by decide +kernel
  have i2 : zz_ix (nI 827 * nI 2 + nI 0) = 1654 := by decide +kernel
  have i3 : zz_ix (nI 827 * nI 3 + nI 0) = 2481 := by decide +kernel
  have c1 : zz_in (nI 827 * nI 1 + nI 0) 3308 := by decide +kernel
  have c2 : zz_in (nI 827 * nI 2 + nI 0) 3308 := by decide +kernel
  have c3 : zz_in (nI 827 * nI 3 + nI 0) 3308 := by decide +kernel
  rw [x_174_180, if_neg (by decide +kernel), if_pos c1, i1, nI_add]
  rw [x_174_180, if_neg (by decide +kernel), if_pos c2, i2, nI_add]
  rw [x_174_180, if_neg (by decide +kernel), if_pos c3, i3, nI_add]
  rw [x_174_180, if_pos (by decide +kernel), zu_c (by decide), zu_c (by decide), zu_c (by decide), h]
theorem l_174_29 {f : Nat → Nat → Int32} {g : Nat → Nat → Int64} {t s : Nat} {D : zD} (hw : wfZ s D) (h : MD D f) : ∃ f', zz_ev 174 29 [.ref 112, .int (nI t), .null] [.int (-9)] (zK f g) = some (some (.int (nI (wP (dW D)))), zK f' g) ∧ (∀ x, x ≠ 112 → x ≠ 113 → x ≠ 114 → x ≠ 115 → f' x = f x) ∧ (∀ j, j ≠ 1 → j ≠ 3 → f' 112 j = f 112 j) ∧ MW (dW D) f' ∧ MH f' 0 (wP (dW D)) (dH D) ∧ ∀ k < 3, f' 113 (827 * (k + 1)) = -1 := by
  obtain ⟨h1, h2, h3, h4, h5, h6⟩ := h
  have hP6 := hw.2.1.1
  have hS4 := hw.2.1.2.1
  have m20 : zz_u f 112 1 (nI (wP (dW D))) 112 20 = nI (wS (dW D)) := by rw [zu_i (by decide)]; exact h3
  -- behind the stairs and the doors
  have F1 : ∀ x i, x ≠ 112 → x ≠ 113 → x ≠ 115 → (zz_u (fun x i => if x = 113 ∧ i < 827 then nI 0 else (fun x i => if x = 115 ∧ i < 8 then (zz_u (zz_u f 112 1 (nI (wP (dW D)))) 112 3 (nI (wS (dW D)))) 122 i else (zz_u (zz_u f 112 1 (nI (wP (dW D)))) 112 3 (nI (wS (dW D)))) x i) x i) 113 2 (nI (dB D))) x i = f x i := fun x i q1 q2 q3 => by
    rw [zu_c q2]; dsimp only; rw [if_neg (fun w => q2 w.1), if_neg (fun w => q3 w.1), zu_c q1, zu_c q1]
  have F2 : ∀ i, (zz_u (fun x i => if x = 113 ∧ i < 827 then nI 0 else (fun x i => if x = 115 ∧ i < 8 then (zz_u (zz_u f 112 1 (nI (wP (dW D)))) 112 3 (nI (wS (dW D)))) 122 i else (zz_u (zz_u f 112 1 (nI (wP (dW D)))) 112 3 (nI (wS (dW D)))) x i) x i) 113 2 (nI (dB D))) 112 i = zz_u (zz_u f 112 1 (nI (wP (dW D)))) 112 3 (nI (wS (dW D))) 112 i := fun i => by
    rw [zu_c (by decide)]; dsimp only; rw [if_neg (fun w => by omega), if_neg (fun w => by omega)]
  have F3 : ∀ i, i < 8 → (zz_u (fun x i => if x = 113 ∧ i < 827 then nI 0 else (fun x i => if x = 115 ∧ i < 8 then (zz_u (zz_u f 112 1 (nI (wP (dW D)))) 112 3 (nI (wS (dW D)))) 122 i else (zz_u (zz_u f 112 1 (nI (wP (dW D)))) 112 3 (nI (wS (dW D)))) x i) x i) 113 2 (nI (dB D))) 115 i = f 122 i := fun i hi => by
    rw [zu_c (by decide)]; dsimp only; rw [if_neg (fun w => by omega), if_pos ⟨rfl, hi⟩, zu_c (by decide), zu_c (by decide)]
  have F4 : ∀ i, i < 827 → i ≠ 2 → (zz_u (fun x i => if x = 113 ∧ i < 827 then nI 0 else (fun x i => if x = 115 ∧ i < 8 then (zz_u (zz_u f 112 1 (nI (wP (dW D)))) 112 3 (nI (wS (dW D)))) 122 i else (zz_u (zz_u f 112 1 (nI (wP (dW D)))) 112 3 (nI (wS (dW D)))) x i) x i) 113 2 (nI (dB D))) 113 i = nI 0 := fun i hi q => by
    rw [zu_i q]; exact if_pos ⟨rfl, hi⟩
  have F5 : (zz_u (fun x i => if x = 113 ∧ i < 827 then nI 0 else (fun x i => if x = 115 ∧ i < 8 then (zz_u (zz_u f 112 1 (nI (wP (dW D)))) 112 3 (nI (wS (dW D)))) 122 i else (zz_u (zz_u f 112 1 (nI (wP (dW D)))) 112 3 (nI (wS (dW D)))) x i) x i) 113 2 (nI (dB D))) 113 2 = nI (dB D) := zu_s
  have e0 : zz_ev 174 29 [.ref 112, .int (nI t), .null] [.int (-9)] (zK f g) = zz_ev 174 113 [.ref 112, .null, .int (nI 0)] [] (zK (zz_u (fun x i => if x = 113 ∧ i < 827 then nI 0 else (fun x i => if x = 115 ∧ i < 8 then (zz_u (zz_u f 112 1 (nI (wP (dW D)))) 112 3 (nI (wS (dW D)))) 122 i else (zz_u (zz_u f 112 1 (nI (wP (dW D)))) 112 3 (nI (wS (dW D)))) x i) x i) 113 2 (nI (dB D))) g) := by
    rw [x_174_29, if_pos rfl, h2, m20, hi_174_55, l_174_55, l_174_81]
    dsimp only
    rw [if_neg (fun w => by omega), zu_i (by decide), zu_i (by decide), h4]
  generalize (zz_u (fun x i => if x = 113 ∧ i < 827 then nI 0 else (fun x i => if x = 115 ∧ i < 8 then (zz_u (zz_u f 112 1 (nI (wP (dW D)))) 112 3 (nI (wS (dW D)))) 122 i else (zz_u (zz_u f 112 1 (nI (wP (dW D)))) 112 3 (nI (wS (dW D)))) x i) x i) 113 2 (nI (dB D))) = F at F1 F2 F3 F4 F5 e0
  have G1 : F 112 1 = nI (wP (dW D)) := by rw [F2, zu_i (by decide), zu_s]
  have G3 : F 112 3 = nI (wS (dW D)) := by rw [F2, zu_s]
  obtain ⟨f1, r1, r2, r3, r4⟩ := l_174_113 (g := g) hw G1 (fun p hp => by rw [F1 121 _ (by decide) (by decide) (by decide), F1 121 _ (by decide) (by decide) (by decide), F1 121 _ (by decide) (by decide) (by decide)]; exact h5 p hp)
  have r1m : f1 112 1 = nI (wP (dW D)) := by rw [r2 112 (by decide) (by decide)]; exact G1
  have e9 := l_174_180 (g := g) r1m
  have u1 : ∀ x, x ≠ 113 → zz_u (zz_u (zz_u f1 113 827 (-1)) 113 1654 (-1)) 113 2481 (-1) x = f1 x := fun x hx => by rw [zu_c hx, zu_c hx, zu_c hx]
  have u2 : ∀ j, j < 827 → zz_u (zz_u (zz_u f1 113 827 (-1)) 113 1654 (-1)) 113 2481 (-1) 113 j = f1 113 j := fun j hj => by rw [zu_i (by omega), zu_i (by omega), zu_i (by omega)]
  refine ⟨zz_u (zz_u (zz_u f1 113 827 (-1)) 113 1654 (-1)) 113 2481 (-1), by rw [e0, r1, e9], fun x q1 q2 q3 q4 => ?_, fun j q1 q2 => ?_, ⟨?_, ?_, fun p hp => ?_, fun j hj => ?_⟩, ⟨?_, YQ_1 ?_ ?_ (fun p hp => ⟨?_, ?_, ?_⟩), fun p hp => ?_, fun d hd => absurd hd (Nat.not_lt_zero _)⟩, fun k hk => ?_⟩
  · rw [u1 x q2, r2 x q2 q3]; funext i; exact F1 x i q1 q2 q4
  · rw [u1 112 (by decide), r2 112 (by decide) (by decide), F2, zu_i q2, zu_i q1]
  · rw [u1 112 (by decide)]; exact r1m
  · rw [u1 112 (by decide), r2 112 (by decide) (by decide)]; exact G3
  · rw [u1 114 (by decide)]; exact (r4 p hp).1
  · rw [u1 115 (by decide), r2 115 (by decide) (by decide), F3 _ (by omega), F3 _ (by omega)]; exact h6 j hj
  · rw [u2 0 (by decide), r3 0 (by decide)]; exact F4 0 (by decide) (by decide)
  · rw [u2 1 (by decide), r3 1 (by decide)]; exact F4 1 (by decide) (by decide)
  · rw [u2 2 (by decide), r3 2 (by decide)]; exact F5
  · rw [u2 _ (by omega)]; exact (r4 p hp).2.1
  · rw [u2 _ (by omega), r3 _ (by omega)]; exact F4 _ (by omega) (by omega)
  · rw [u2 _ (by omega), r3 _ (by omega)]; exact F4 _ (by omega) (by omega)
  · rw [Nat.zero_add, u2 _ (by omega)]; exact (r4 p hp).2.2
  · obtain rfl | rfl | rfl : k = 0 ∨ k = 1 ∨ k = 2 := by omega
    · show zz_u (zz_u (zz_u f1 113 827 (-1)) 113 1654 (-1)) 113 2481 (-1) 113 827 = -1
      rw [zu_i (by decide), zu_i (by decide), zu_s]
    · show zz_u (zz_u (zz_u f1 113 827 (-1)) 113 1654 (-1)) 113 2481 (-1) 113 1654 = -1
      rw [zu_i (by decide), zu_s]
    · exact zu_s
theorem sim_house (A : zA) (hw : wf A) (v1 : Int32) : zSim A 43 174 [.int v1] := by
  by_cases h1 : zz_in v1 4
  · obtain ⟨t, ht, -, rfl⟩ := z_inx.mp h1
    rcases (hw.2.1 t ht).1 with h2 | ⟨s, hs, h2⟩
    · refine sim_F hw (w := 1) (by decide) (by decide) (fun f g h => ?_) (fun f g h => ?_)
      · have e := (h.2.2.2.2 t ht).1; rw [h2] at e
        simp (disch := first | omega | assumption) only [x_43_0, x_43_4, x_43_18, x_43_26, x_43_40, x_43_62, e_43, l_27, nI_add, pk_mul, z_in, z_ix, nI_leI, nI_ltI, nI_eq, z_eq0, z_lt0, z_0le, z_0lt, z_le0, z_n9, z_n1, z_m1lt, z_m9lt, z_m9le, z_m1le, zB_0, zB_1, zz_bi_s, zz_bv_s, zz_bl_s, if_pos, if_neg, if_true, if_false, true_and, and_true, not_true_eq_false, not_false_eq_true, ite_self, l_17t, e, l_12]
      · have e := (h.2.2.2.2.2 t ht).1; rw [h2] at e
        simp (disch := first | omega | assumption) only [x_174_0, x_174_4, x_174_23, x_174_29, e_174, l_162, nI_add, pk_mul, z_in, z_ix, nI_leI, nI_ltI, nI_eq, z_eq0, z_lt0, z_0le, z_0lt, z_le0, z_n9, z_n1, z_m1lt, z_m9lt, z_m9le, z_m1le, zB_0, zB_1, zz_bi_s, zz_bv_s, zz_bl_s, if_pos, if_neg, if_true, if_false, true_and, and_true, not_true_eq_false, not_false_eq_true, ite_self, e, l_151]
    · by_cases h3 : zrz s (zrd ((aT A).2 t) s 60 d0) = -9
      · cases z : zrd ((aT A).2 t) s 60 d0 with
        | inl q =>
          rw [z] at h3
          have h3 : nI q = -9 := h3
          rw [z_n9 (by have := zrd_l 60 d0 (wfZ_0 s) z; omega)] at h3
          exact h3.elim
        | inr E =>
          have h4 : (if wP (dW E) = 0 then nI s else -9) = -9 := by rw [z] at h3; exact h3
          have hwE : wfZ s E ∧ True := by
            -- out of either reading
            exact ⟨by
              have key : ∀ (n : Nat) (D : zD), wfZ s D → zrd ((aT A).2 t) s n D = .inr E → wfZ s E := by
                intro n
                induction n with
                | zero => intro D hD q; cases q; exact hD
                | succ n ih =>
                  intro D hD q
                  rw [zrd_s] at q
                  by_cases q1 : s ≤ dP D
                  · rw [if_pos q1] at q; cases q; exact hD
                  · rw [if_neg q1] at q
                    by_cases q2 : (aT A).2 t (dP D) = nI 32
                    · rw [if_pos q2] at q; exact ih (dNext D) (wfZ_next hD (by omega)) q
                    · rw [if_neg q2] at q
                      cases y : zit ((aT A).2 t) s D with
                      | inl w => rw [y] at q; cases q
                      | inr E2 => rw [y] at q; exact ih E2 (zit_r hD y).1 q
              exact key 60 d0 (wfZ_0 s) z, trivial⟩
          have hwE := hwE.1
          have hP6 := hwE.2.1.1
          have hS4 := hwE.2.1.2.1
          refine ⟨.int (nI (wP (dW E))), aHs A E, wf_hs hw hwE, fun f g h => ?_, fun f g h => ?_⟩
          · have e := (h.2.2.2.2 t ht).1; rw [h2] at e
            obtain ⟨f1, e1, e2, e3⟩ := l_30 (g := g) (tX hw h ht hs h2)
            have x18 := (e3 E z).2
            rw [h3] at e1
            obtain ⟨f2, y1, y2, y3⟩ := l_44 f1 g zs_H_3 zs_H_18 (by omega)
            have y4 := y3 (dW E) (dH E) hP6 hS4 (Nat.zero_le _) x18
            have e9 := l_43_64 (g := g) y4.1
            have fr : ∀ a, a ≠ 16 → (a < 3 ∨ 14 < a) → (a < 17 ∨ 29 < a) → zz_u (zz_u (zz_u f2 16 0 (nI 0)) 16 1 (nI 0)) 16 2 (nI 0) a = f a := fun a q1 q2 q3 => by rw [zu_c q1, zu_c q1, zu_c q1, y2 a (by omega), e2 a q3]
            refine ⟨zz_u (zz_u (zz_u f2 16 0 (nI 0)) 16 1 (nI 0)) 16 2 (nI 0), g, ?_, ⟨XN_fr h.1 (fr _ (by omega) (by omega) (by omega)) (fr _ (by omega) (by omega) (by omega)) rfl, XH_fr y4 (fun a q1 q2 => by rw [zu_c (by omega), zu_c (by omega), zu_c (by omega)]), fun k hk => ⟨?_, fun q => by cases q⟩, XR_fr h.2.2.2.1 (fun a q1 q2 => fr a (by omega) (by omega) (by omega)), XT_fr h.2.2.2.2 (fun a q1 q2 => fr a (by omega) (by omega) (by omega))⟩, ⟨fun a ha => fr a (by omega) (by omega) (by omega), fun _ _ => rfl⟩⟩
            · simp (disch := first | omega | assumption) only [x_43_0, x_43_4, x_43_18, x_43_26, x_43_40, x_43_62, e_43, l_27, nI_add, pk_mul, z_in, z_ix, nI_leI, nI_ltI, nI_eq, z_eq0, z_lt0, z_0le, z_0lt, z_le0, z_n9, z_n1, z_m1lt, z_m9lt, z_m9le, z_m1le, zB_0, zB_1, zz_bi_s, zz_bv_s, zz_bl_s, if_pos, if_neg, if_true, if_false, true_and, and_true, not_true_eq_false, not_false_eq_true, ite_self, l_17t, e, e1, y1]
              rw [hi_43_64]; exact e9
            · show _ = zB (false = true)
              rw [zB_f (by decide)]
              obtain rfl | rfl | rfl : k = 0 ∨ k = 1 ∨ k = 2 := by omega
              · rw [zu_i (by decide), zu_i (by decide), zu_s]
              · rw [zu_i (by decide), zu_s]
              · exact zu_s
          · have e := (h.2.2.2.2.2 t ht).1; rw [h2] at e
            obtain ⟨f1, e1, e2, e3⟩ := l_165 (g := g) ht hs (hw.2.1 t ht).2 e (h.2.2.2.2.2 t ht).2
            rw [h3] at e1
            obtain ⟨f2, y1, y2, y3, y4, y5, y6⟩ := l_174_29 (g := g) (t := t) hwE (e3 E z).2
            have fr : ∀ a, a ≠ 112 → a ≠ 113 → a ≠ 114 → a ≠ 115 → (a < 121 ∨ 127 < a) → f2 a = f a := fun a q1 q2 q3 q4 q5 => by rw [y2 a q1 q2 q3 q4, e2.1 a q1 q5]
            have fj : ∀ j, j ≠ 1 → j ≠ 3 → (j < 14 ∨ j = 22) → f2 112 j = f 112 j := fun j q1 q2 q3 => by rw [y3 j q1 q2, e2.2.2 j q3]
            refine ⟨f2, g, ?_, ⟨MN_fr h.1 (fj _ (by omega) (by omega) (by omega)) (fj _ (by omega) (by omega) (by omega)) (fj _ (by omega) (by omega) (by omega)) (fr _ (by omega) (by omega) (by omega) (by omega) (by omega)) rfl, y4, y5, fun k hk => ⟨fun _ => y6 k hk, fun q => by cases q⟩, MR_fr h.2.2.2.2.1 (fr _ (by omega) (by omega) (by omega) (by omega) (by omega)) (fr _ (by omega) (by omega) (by omega) (by omega) (by omega)), MT_fr h.2.2.2.2.2 (fr _ (by omega) (by omega) (by omega) (by omega) (by omega)) (fr _ (by omega) (by omega) (by omega) (by omega) (by omega))⟩, ⟨fun a ha => fr a (by omega) (by omega) (by omega) (by omega) (by omega), fun _ _ => rfl⟩⟩
            rw [e_174, x_174_0, l_162, zz_bi_s, x_174_4]; simp (disch := first | omega | assumption) only [nI_add, pk_mul, z_in, z_ix, nI_leI, nI_ltI, nI_eq, z_eq0, z_lt0, z_0le, z_0lt, z_le0, z_n9, z_n1, z_m1lt, z_m9lt, z_m9le, z_m1le, zB_0, zB_1, zz_bi_s, zz_bv_s, zz_bl_s, if_pos, if_neg, if_true, if_false, true_and, and_true, not_true_eq_false, not_false_eq_true, ite_self, e, e1]
            exact y1
      · refine sim_s hw (.int (-4)) (fun f g h => ?_) (fun f g h => ?_)
        · have e := (h.2.2.2.2 t ht).1; rw [h2] at e
          obtain ⟨f', e1, e2, -⟩ := l_30 (g := g) (tX hw h ht hs h2)
          refine ⟨f', g, ?_, ⟨fun a ha => e2 a (by omega), fun _ _ => rfl⟩⟩
          simp (disch := first | omega | assumption) only [x_43_0, x_43_4, x_43_18, x_43_26, x_43_40, x_43_62, e_43, l_27, nI_add, pk_mul, z_in, z_ix, nI_leI, nI_ltI, nI_eq, z_eq0, z_lt0, z_0le, z_0lt, z_le0, z_n9, z_n1, z_m1lt, z_m9lt, z_m9le, z_m1le, zB_0, zB_1, zz_bi_s, zz_bv_s, zz_bl_s, if_pos, if_neg, if_true, if_false, true_and, and_true, not_true_eq_false, not_false_eq_true, ite_self, l_17t, e, e1, h3]
        · have e := (h.2.2.2.2.2 t ht).1; rw [h2] at e
          obtain ⟨f', e1, e2, -⟩ := l_165 (g := g) ht hs (hw.2.1 t ht).2 e (h.2.2.2.2.2 t ht).2
          refine ⟨f', g, ?_, e2⟩
          simp (disch := first | omega | assumption) only [x_174_0, x_174_4, x_174_23, x_174_29, e_174, l_162, nI_add, pk_mul, z_in, z_ix, nI_leI, nI_ltI, nI_eq, z_eq0, z_lt0, z_0le, z_0lt, z_le0, z_n9, z_n1, z_m1lt, z_m9lt, z_m9le, z_m1le, zB_0, zB_1, zz_bi_s, zz_bv_s, zz_bl_s, if_pos, if_neg, if_true, if_false, true_and, and_true, not_true_eq_false, not_false_eq_true, ite_self, e, e1, h3]
  · exact sim_0 hw (.int (-1)) (fun f g h => by simp (disch := first | omega | assumption) only [x_43_0, x_43_4, x_43_18, x_43_26, x_43_40, x_43_62, e_43, l_27, nI_add, pk_mul, z_in, z_ix, nI_leI, nI_ltI, nI_eq, z_eq0, z_lt0, z_0le, z_0lt, z_le0, z_n9, z_n1, z_m1lt, z_m9lt, z_m9le, z_m1le, zB_0, zB_1, zz_bi_s, zz_bv_s, zz_bl_s, if_pos, if_neg, if_true, if_false, true_and, and_true, not_true_eq_false, not_false_eq_true, ite_self, h1]) (fun f g h => by simp (disch := first | omega | assumption) only [x_174_0, x_174_4, x_174_23, x_174_29, e_174, l_162, nI_add, pk_mul, z_in, z_ix, nI_leI, nI_ltI, nI_eq, z_eq0, z_lt0, z_0le, z_0lt, z_le0, z_n9, z_n1, z_m1lt, z_m9lt, z_m9le, z_m1le, zB_0, zB_1, zz_bi_s, zz_bv_s, zz_bl_s, if_pos, if_neg, if_true, if_false, true_and, and_true, not_true_eq_false, not_false_eq_true, ite_self, h1])
