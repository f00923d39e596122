/-! how the reference reads: slots 14 .. 21 of 112, cells 121, 122 -/
def MC (t s : Nat) (c : Nat → Int32) (f : Nat → Nat → Int32) : Prop := t < 4 ∧ s ≤ 60 ∧ (∀ i < 60, zby (c i)) ∧ f 112 14 = nI (60 * t) ∧ f 112 16 = nI s ∧ ∀ i < 60, f 119 (60 * t + i) = c i
def MD (D : zD) (f : Nat → Nat → Int32) : Prop := f 112 15 = nI (dP D) ∧ f 112 18 = nI (wP (dW D)) ∧ f 112 20 = nI (wS (dW D)) ∧ f 112 21 = nI (dB D) ∧ (∀ p < wP (dW D), f 121 (3 * p) = nI (wK (dW D) p) ∧ f 121 (3 * p + 1) = nI (dR D p) ∧ f 121 (3 * p + 2) = nI (dV D p)) ∧ ∀ j < wS (dW D), f 122 (2 * j) = nI (wA (dW D) j) ∧ f 122 (2 * j + 1) = nI (wB (dW D) j)
/-- what reading leaves as it is -/
def zRd (f f' : Nat → Nat → Int32) : Prop := (∀ x, x ≠ 112 → x ≠ 121 → x ≠ 122 → f' x = f x) ∧ ∀ j, j < 15 ∨ j = 16 ∨ 21 < j → f' 112 j = f 112 j
theorem zRd_r {f : Nat → Nat → Int32} : zRd f f := ⟨fun _ _ _ _ => rfl, fun _ _ => rfl⟩
theorem zRd_t {f f' f'' : Nat → Nat → Int32} (h : zRd f f') (h' : zRd f' f'') : zRd f f'' := ⟨fun x a b c => (h'.1 x a b c).trans (h.1 x a b c), fun j hj => (h'.2 j hj).trans (h.2 j hj)⟩
theorem zRd_p {f : Nat → Nat → Int32} {v : Int32} {j : Nat} (hj : j = 15 ∨ j = 18 ∨ j = 20 ∨ j = 21) : zRd f (zz_u f 112 j v) := ⟨fun x a _ _ => zu_c a, fun i hi => zu_i (by omega)⟩
theorem zRd_c {f : Nat → Nat → Int32} {v : Int32} {y i : Nat} (hy : y = 121 ∨ y = 122) : zRd f (zz_u f y i v) := ⟨fun x _ b c => zu_c (by omega), fun j hj => by rw [zu_c (by omega)]⟩
theorem MC_fr {t s : Nat} {c : Nat → Int32} {f f' : Nat → Nat → Int32} (h : MC t s c f) (e : zRd f f') : MC t s c f' := by
  obtain ⟨h1, h2, h3, h4, h5, h6⟩ := h
  exact ⟨h1, h2, h3, by rw [e.2 14 (by omega)]; exact h4, by rw [e.2 16 (by omega)]; exact h5, fun i hi => by rw [e.1 119 (by decide) (by decide) (by decide)]; exact h6 i hi⟩
theorem l_167 {f : Nat → Nat → Int32} {g : Nat → Nat → Int64} {t s a : Nat} {c : Nat → Int32} (h : MC t s c f) (ha : f 112 15 = nI a) (has : a < s) : zz_ca 167 [.ref 112] (zK f g) = some (some (.int (c a)), zK f g) := by
  obtain ⟨h1, h2, h3, h4, h5, h6⟩ := h
  have e := h6 a (by omega)
  rw [e_167, x_167_0]; simp (disch := first | omega | assumption) only [nI_add, pk_mul, z_in, z_ix, nI_leI, nI_ltI, nI_eq, z_eq0, z_lt0, z_0le, z_0lt, z_le0, z_n9, z_n1, z_m1lt, z_m9lt, z_m9le, z_m1le, zB_0, zB_1, zz_bi_s, zz_bv_s, zz_bl_s, if_pos, if_neg, if_true, if_false, true_and, and_true, not_true_eq_false, not_false_eq_true, ite_self, h4, ha, e]
/-- a room's letter that isn't there, or is the one that may not be -/
theorem l_169n {f : Nat → Nat → Int32} {g : Nat → Nat → Int64} {t s a : Nat} {c : Nat → Int32} (h : MC t s c f) (ha : f 112 15 = nI a) (has : a ≤ s) {u : Int32} (hu : zrm c s a = none ∨ ∃ x, zrm c s a = some x ∧ u = nI x) : zz_ca 169 [.ref 112, .int u] (zK f g) = some (some (.int (-9)), zK f g) := by
  have hs60 := h.2.1
  have h5 := h.2.2.2.2.1
  have key : ∀ x, zrm c s a = x → (x = none ∨ ∃ y, x = some y ∧ u = nI y) → zz_ca 169 [.ref 112, .int u] (zK f g) = some (some (.int (-9)), zK f g) := by
    intro x hx hu
    rw [e_169, x_169_0, ha, h5]
    by_cases q : a < s
    · have hb := h.2.2.1 a (by omega)
      have e167 := l_167 (g := g) h ha q
      have e150 := l_150b f g hb (a := 65) (n := 12) (by decide) (by decide) (by decide)
      have e150 : zz_ca 150 [.long (c a).toInt64, .long (lN 65), .long (lN 76)] (zK f g) = some (some (.int (zB (zz_in (c a - nI 65) 12))), zK f g) := e150
      rcases hu with hu | ⟨y, hu, hy⟩
      · rw [hu] at hx
        rcases zrm_none hx with w | w
        · exact absurd q w
        · rw [zB_f w] at e150
          simp (disch := first | omega | assumption) only [nI_add, pk_mul, z_in, z_ix, nI_leI, nI_ltI, nI_eq, z_eq0, z_lt0, z_0le, z_0lt, z_le0, z_n9, z_n1, z_m1lt, z_m9lt, z_m9le, z_m1le, zB_0, zB_1, zz_bi_s, zz_bv_s, zz_bl_s, if_pos, if_neg, if_true, if_false, true_and, and_true, not_true_eq_false, not_false_eq_true, ite_self, e167, x_169_15, e150, x_169_25, x_169_39]
      · rw [hu] at hx
        have r := zrm_some hx
        rw [zB_t (by rw [r.2.2]; exact (z_in (by omega)).mpr r.2.1)] at e150
        have r3 : c a - nI 65 = u := by rw [hy]; exact r.2.2
        simp (disch := first | omega | assumption) only [nI_add, pk_mul, z_in, z_ix, nI_leI, nI_ltI, nI_eq, z_eq0, z_lt0, z_0le, z_0lt, z_le0, z_n9, z_n1, z_m1lt, z_m9lt, z_m9le, z_m1le, zB_0, zB_1, zz_bi_s, zz_bv_s, zz_bl_s, if_pos, if_neg, if_true, if_false, true_and, and_true, not_true_eq_false, not_false_eq_true, ite_self, e167, x_169_15, e150, x_169_25, x_169_32, r3, x_169_39]
    · simp (disch := first | omega | assumption) only [nI_add, pk_mul, z_in, z_ix, nI_leI, nI_ltI, nI_eq, z_eq0, z_lt0, z_0le, z_0lt, z_le0, z_n9, z_n1, z_m1lt, z_m9lt, z_m9le, z_m1le, zB_0, zB_1, zz_bi_s, zz_bv_s, zz_bl_s, if_pos, if_neg, if_true, if_false, true_and, and_true, not_true_eq_false, not_false_eq_true, ite_self, x_169_39]
  exact key _ rfl hu
theorem l_169 {f : Nat → Nat → Int32} {g : Nat → Nat → Int64} {t s a x : Nat} {c : Nat → Int32} (h : MC t s c f) (ha : f 112 15 = nI a) {u : Int32} (hx : zrm c s a = some x) (hu : nI x ≠ u) : zz_ca 169 [.ref 112, .int u] (zK f g) = some (some (.int (nI x)), zK (zz_u f 112 15 (nI (a + 1))) g) := by
  have hs60 := h.2.1
  have h1 := h.1
  have h4 := h.2.2.2.1
  have h5 := h.2.2.2.2.1
  have r := zrm_some hx
  have q := r.1
  have hb := h.2.2.1 a (by omega)
  have e167 := l_167 (g := g) h ha q
  have e150 := l_150b f g hb (a := 65) (n := 12) (by decide) (by decide) (by decide)
  have e150 : zz_ca 150 [.long (c a).toInt64, .long (lN 65), .long (lN 76)] (zK f g) = some (some (.int (zB (zz_in (c a - nI 65) 12))), zK f g) := e150
  rw [zB_t (by rw [r.2.2]; exact (z_in (by omega)).mpr r.2.1)] at e150
  have e14 : zz_u f 112 15 (nI (a + 1)) 112 14 = nI (60 * t) := by rw [zu_i (by decide)]; exact h4
  have e15 : zz_u f 112 15 (nI (a + 1)) 112 15 = nI (a + 1) := zu_s
  have e119 : zz_u f 112 15 (nI (a + 1)) 119 (60 * t + a) = c a := by rw [zu_c (by decide)]; exact h.2.2.2.2.2 a (by omega)
  have idx : nI (60 * t) + nI (a + 1) - nI 1 = nI (60 * t + a) := by rw [nI_add, pk_sub (by omega)]; rfl
  rw [e_169, x_169_0, ha, h5]
  simp (disch := first | omega | assumption) only [e167, x_169_15, e150, x_169_25, x_169_32, r.2.2, hu, zz_bi_s, nI_eq, if_neg, z_eq0]
  rw [ha, nI_add, e14, e15, idx, if_pos ((z_in (by omega)).mpr (by omega)), z_ix (by omega), e119, r.2.2, if_neg (fun w => w)]
theorem MD_place {D : zD} {f : Nat → Nat → Int32} {v : Int32} (h : MD D f) : f 112 18 = nI (wP (dW D)) ∧ zz_u f 112 15 v 112 18 = nI (wP (dW D)) ∧ zz_u f 112 15 v 112 20 = nI (wS (dW D)) ∧ zz_u f 112 15 v 112 21 = nI (dB D) :=
  ⟨h.2.1, by rw [zu_i (by decide)]; exact h.2.1, by rw [zu_i (by decide)]; exact h.2.2.1, by rw [zu_i (by decide)]; exact h.2.2.2.1⟩
/-- an item: whether it is one, how far it was read -/
theorem l_item {f : Nat → Nat → Int32} {g : Nat → Nat → Int64} {t s : Nat} {c : Nat → Int32} (hC : MC t s c f) {D : zD} (hw : wfZ s D) (hD : MD D f) (ha : dP D < s) : ∃ (f' : Nat → Nat → Int32) (b : Nat), zz_ev 165 63 [.ref 112, .null, .int (nI 1)] [.int (c (dP D))] (zK f g) = zz_ev 165 95 [.ref 112, .null, .int (nI 1)] [.int (nI b)] (zK f' g) ∧ zRd f f' ∧ ((b = 0 ∧ ∃ q, zit c s D = .inl q ∧ f' 112 15 = nI q) ∨ (b = 1 ∧ ∃ E, zit c s D = .inr E ∧ MD E f')) := by
  have hs60 := hC.2.1
  have p15 := hD.1
  have p18 := hD.2.1
  have p20 := hD.2.2.1
  have p21 := hD.2.2.2.1
  have hP6 := hw.2.1.1
  have hS4 := hw.2.1.2.1
  have hB := hw.2.2.2
  have e167 := l_167 (g := g) hC p15 ha
  -- a place further
  have C1 := MC_fr hC (zRd_p (f := f) (v := nI (dP D + 1)) (j := 15) (by omega))
  have p1 : zz_u f 112 15 (nI (dP D + 1)) 112 15 = nI (dP D + 1) := zu_s
  have u2 : zz_u (zz_u f 112 15 (nI (dP D + 1))) 112 15 (nI (dP D + 1 + 1)) = zz_u f 112 15 (nI (dP D + 2)) := by
    funext y i; unfold zz_u; by_cases w : y = 112 ∧ i = 15
    · rw [if_pos w, if_pos w]
    · rw [if_neg w, if_neg w, if_neg w]
  have C2 := MC_fr hC (zRd_p (f := f) (v := nI (dP D + 2)) (j := 15) (by omega))
  have p2 : zz_u f 112 15 (nI (dP D + 2)) 112 15 = nI (dP D + 2) := zu_s
  have m9 : ∀ x : Nat, x < 12 → nI x ≠ -9 := fun x hx q => by rw [z_n9 (by omega)] at q; exact q
  rcases zit_c c s D with ⟨h1, h2, z⟩ | ⟨h1, h2, hx, z⟩ | ⟨h1, h2, x, hx, hy, z⟩ | ⟨h1, h2, x, y, hx, hy, e, z⟩ | ⟨h0, h1, hx, z⟩ | ⟨h0, h1, x, hx, ht, z⟩ | ⟨h0, h1, x, hx, ht, z⟩ | ⟨h0, h1, hk, z⟩ | ⟨h0, h1, k, hk, h3, z⟩ | ⟨h0, h1, k, hk, h3, hx, z⟩ | ⟨h0, h1, k, x, hk, h3, hx, hv, z⟩ | ⟨h0, h1, k, x, v, hk, h3, hx, hv, z⟩ <;> rw [z]
  · refine ⟨f, 0, ?_, zRd_r, Or.inl ⟨rfl, _, rfl, p15⟩⟩
    have c168 : zz_ca 168 [.ref 112] (zK f g) = some (some (.int (nI 0)), zK f g) := by
      rw [e_168, x_168_0, p20]; simp (disch := first | omega | assumption) only [nI_add, pk_mul, z_in, z_ix, nI_leI, nI_ltI, nI_eq, z_eq0, z_lt0, z_0le, z_0lt, z_le0, z_n9, z_n1, z_m1lt, z_m9lt, z_m9le, z_m1le, zB_0, zB_1, zz_bi_s, zz_bv_s, zz_bl_s, if_pos, if_neg, if_true, if_false, true_and, and_true, not_true_eq_false, not_false_eq_true, ite_self]
    rw [h1, x_165_63]; simp (disch := first | omega | assumption) only [nI_add, pk_mul, z_in, z_ix, nI_leI, nI_ltI, nI_eq, z_eq0, z_lt0, z_0le, z_0lt, z_le0, z_n9, z_n1, z_m1lt, z_m9lt, z_m9le, z_m1le, zB_0, zB_1, zz_bi_s, zz_bv_s, zz_bl_s, if_pos, if_neg, if_true, if_false, true_and, and_true, not_true_eq_false, not_false_eq_true, ite_self, c168, x_165_72]
  · have c169 := l_169n (g := g) C1 p1 (by omega) (u := -9) (Or.inl hx)
    refine ⟨zz_u f 112 15 (nI (dP D + 1)), 0, ?_, zRd_p (by omega), Or.inl ⟨rfl, _, rfl, zu_s⟩⟩
    have c168 : zz_ca 168 [.ref 112] (zK f g) = some (some (.int (nI 0)), zK (zz_u f 112 15 (nI (dP D + 1))) g) := by
      rw [e_168, x_168_0, p20, p15]; simp (disch := first | omega | assumption) only [nI_add, pk_mul, z_in, z_ix, nI_leI, nI_ltI, nI_eq, z_eq0, z_lt0, z_0le, z_0lt, z_le0, z_n9, z_n1, z_m1lt, z_m9lt, z_m9le, z_m1le, zB_0, zB_1, zz_bi_s, zz_bv_s, zz_bl_s, if_pos, if_neg, if_true, if_false, true_and, and_true, not_true_eq_false, not_false_eq_true, ite_self, c169, x_168_26, x_168_43]
    rw [h1, x_165_63]; simp (disch := first | omega | assumption) only [nI_add, pk_mul, z_in, z_ix, nI_leI, nI_ltI, nI_eq, z_eq0, z_lt0, z_0le, z_0lt, z_le0, z_n9, z_n1, z_m1lt, z_m9lt, z_m9le, z_m1le, zB_0, zB_1, zz_bi_s, zz_bv_s, zz_bl_s, if_pos, if_neg, if_true, if_false, true_and, and_true, not_true_eq_false, not_false_eq_true, ite_self, c168, x_165_72]
  · have hx12 := (zrm_some hx).2.1
    have c169 := l_169 (g := g) C1 p1 (u := -9) hx (m9 x hx12)
    rw [u2] at c169
    have c169b := l_169n (g := g) C2 p2 (by have := (zrm_some hx).1; omega) (u := nI x) (by rcases hy with hy | hy; exact Or.inl hy; exact Or.inr ⟨x, hy, rfl⟩)
    refine ⟨zz_u f 112 15 (nI (dP D + 2)), 0, ?_, zRd_p (by omega), Or.inl ⟨rfl, _, rfl, zu_s⟩⟩
    have c168 : zz_ca 168 [.ref 112] (zK f g) = some (some (.int (nI 0)), zK (zz_u f 112 15 (nI (dP D + 2))) g) := by
      rw [e_168, x_168_0, p20, p15]; simp (disch := first | omega | assumption) only [nI_add, pk_mul, z_in, z_ix, nI_leI, nI_ltI, nI_eq, z_eq0, z_lt0, z_0le, z_0lt, z_le0, z_n9, z_n1, z_m1lt, z_m9lt, z_m9le, z_m1le, zB_0, zB_1, zz_bi_s, zz_bv_s, zz_bl_s, if_pos, if_neg, if_true, if_false, true_and, and_true, not_true_eq_false, not_false_eq_true, ite_self, c169, x_168_26, c169b, x_168_43]
    rw [h1, x_165_63]; simp (disch := first | omega | assumption) only [nI_add, pk_mul, z_in, z_ix, nI_leI, nI_ltI, nI_eq, z_eq0, z_lt0, z_0le, z_0lt, z_le0, z_n9, z_n1, z_m1lt, z_m9lt, z_m9le, z_m1le, zB_0, zB_1, zz_bi_s, zz_bv_s, zz_bl_s, if_pos, if_neg, if_true, if_false, true_and, and_true, not_true_eq_false, not_false_eq_true, ite_self, c168, x_165_72]
  · have hx12 := (zrm_some hx).2.1
    have hy12 := (zrm_some hy).2.1
    have c169 := l_169 (g := g) C1 p1 (u := -9) hx (m9 x hx12)
    rw [u2] at c169
    have c169b := l_169 (g := g) C2 p2 (u := nI x) hy (by rw [Ne, nI_eq (by omega) (by omega)]; exact e)
    have u3 : zz_u (zz_u f 112 15 (nI (dP D + 2))) 112 15 (nI (dP D + 2 + 1)) = zz_u f 112 15 (nI (dP D + 3)) := by
      funext y i; unfold zz_u; by_cases w : y = 112 ∧ i = 15
      · rw [if_pos w, if_pos w]
      · rw [if_neg w, if_neg w, if_neg w]
    rw [u3] at c169b
    have q20 : zz_u f 112 15 (nI (dP D + 3)) 112 20 = nI (wS (dW D)) := by rw [zu_i (by decide)]; exact p20
    have hm : wS (dW D) < 4 := by omega
    refine ⟨zz_u (zz_u (zz_u (zz_u f 112 15 (nI (dP D + 3))) 122 (2 * wS (dW D)) (nI x)) 122 (2 * wS (dW D) + 1) (nI y)) 112 20 (nI (wS (dW D) + 1)), 1, ?_, zRd_t (zRd_t (zRd_t (zRd_p (by omega)) (zRd_c (by omega))) (zRd_c (by omega))) (zRd_p (by omega)), Or.inr ⟨rfl, _, rfl, ?_⟩⟩
    · have c168 : zz_ca 168 [.ref 112] (zK f g) = some (some (.int (nI 1)), zK (zz_u (zz_u (zz_u (zz_u f 112 15 (nI (dP D + 3))) 122 (2 * wS (dW D)) (nI x)) 122 (2 * wS (dW D) + 1) (nI y)) 112 20 (nI (wS (dW D) + 1))) g) := by
        rw [e_168, x_168_0, p20, p15]; simp (disch := first | omega | assumption) only [nI_add, pk_mul, z_in, z_ix, nI_leI, nI_ltI, nI_eq, z_eq0, z_lt0, z_0le, z_0lt, z_le0, z_n9, z_n1, z_m1lt, z_m9lt, z_m9le, z_m1le, zB_0, zB_1, zz_bi_s, zz_bv_s, zz_bl_s, if_pos, if_neg, if_true, if_false, true_and, and_true, not_true_eq_false, not_false_eq_true, ite_self, c169, x_168_26, c169b, x_168_43, q20, zu_c]
      rw [h1, x_165_63]; simp (disch := first | omega | assumption) only [nI_add, pk_mul, z_in, z_ix, nI_leI, nI_ltI, nI_eq, z_eq0, z_lt0, z_0le, z_0lt, z_le0, z_n9, z_n1, z_m1lt, z_m9lt, z_m9le, z_m1le, zB_0, zB_1, zz_bi_s, zz_bv_s, zz_bl_s, if_pos, if_neg, if_true, if_false, true_and, and_true, not_true_eq_false, not_false_eq_true, ite_self, c168, x_165_72]
    · refine ⟨?_, ?_, zu_s, ?_, fun p hp => ?_, fun j hj => ?_⟩
      · simp (disch := omega) only [zu_c, zu_i, zu_s]; rfl
      · simp (disch := omega) only [zu_c, zu_i, zu_s]; exact p18
      · simp (disch := omega) only [zu_c, zu_i, zu_s]; exact p21
      · simp (disch := omega) only [zu_c]; exact hD.2.2.2.2.1 p hp
      · have hj : j < wS (dW D) + 1 := hj
        show _ = nI (zup (wA (dW D)) (wS (dW D)) x j) ∧ _ = nI (zup (wB (dW D)) (wS (dW D)) y j)
        by_cases q : j = wS (dW D)
        · subst q
          rw [zup_s, zup_s]
          exact ⟨by simp (disch := omega) only [zu_c, zu_i, zu_s], by simp (disch := omega) only [zu_c, zu_i, zu_s]⟩
        · rw [zup_n q, zup_n q]
          simp (disch := omega) only [zu_c, zu_i]; exact hD.2.2.2.2.2 j (by omega)
  · have c169 := l_169n (g := g) C1 p1 (by omega) (u := -9) (Or.inl hx)
    have q21 : zz_u f 112 15 (nI (dP D + 1)) 112 21 = nI (dB D) := (MD_place hD).2.2.2
    have q16 : zz_u f 112 15 (nI (dP D + 1)) 112 16 = nI s := C1.2.2.2.2.1
    refine ⟨zz_u (zz_u f 112 15 (nI (dP D + 1))) 112 21 (nI (dB D)), 0, ?_, zRd_t (zRd_p (by omega)) (zRd_p (by omega)), Or.inl ⟨rfl, _, rfl, by rw [zu_i (by decide), zu_s]⟩⟩
    have c57 : zz_ev 170 57 [.ref 112, .null] [] (zK (zz_u f 112 15 (nI (dP D + 1))) g) = some (some (.int (nI 0)), zK (zz_u (zz_u f 112 15 (nI (dP D + 1))) 112 21 (nI (dB D))) g) := by
      rw [x_170_57]; simp (disch := first | omega | assumption) only [nI_add, pk_mul, z_in, z_ix, nI_leI, nI_ltI, nI_eq, z_eq0, z_lt0, z_0le, z_0lt, z_le0, z_n9, z_n1, z_m1lt, z_m9lt, z_m9le, z_m1le, zB_0, zB_1, zz_bi_s, zz_bv_s, zz_bl_s, if_pos, if_neg, if_true, if_false, true_and, and_true, not_true_eq_false, not_false_eq_true, ite_self, c169, x_170_63, q21, x_170_82, z_or, Nat.or_zero]
    have c170 : zz_ca 170 [.ref 112] (zK f g) = some (some (.int (nI 0)), zK (zz_u (zz_u f 112 15 (nI (dP D + 1))) 112 21 (nI (dB D))) g) := by
      rw [e_170, x_170_0, p15, nI_add, p1, q16]
      by_cases w : dP D + 1 < s
      · have e167b := l_167 (g := g) C1 p1 w
        have hb := hC.2.2.1 (dP D + 1) (by omega)
        have e150 := l_150b (zz_u f 112 15 (nI (dP D + 1))) g hb (a := 65) (n := 12) (by decide) (by decide) (by decide)
        have e150 : zz_ca 150 [.long (c (dP D + 1)).toInt64, .long (lN 65), .long (lN 76)] (zK (zz_u f 112 15 (nI (dP D + 1))) g) = some (some (.int (zB (zz_in (c (dP D + 1) - nI 65) 12))), zK (zz_u f 112 15 (nI (dP D + 1))) g) := e150
        rcases zrm_none hx with w2 | w2
        · exact absurd w w2
        · rw [zB_f w2] at e150
          simp (disch := first | omega | assumption) only [nI_add, pk_mul, z_in, z_ix, nI_leI, nI_ltI, nI_eq, z_eq0, z_lt0, z_0le, z_0lt, z_le0, z_n9, z_n1, z_m1lt, z_m9lt, z_m9le, z_m1le, zB_0, zB_1, zz_bi_s, zz_bv_s, zz_bl_s, if_pos, if_neg, if_true, if_false, true_and, and_true, not_true_eq_false, not_false_eq_true, ite_self, e167b, x_170_25, e150, x_170_35, c57]
      · simp (disch := first | omega | assumption) only [nI_add, pk_mul, z_in, z_ix, nI_leI, nI_ltI, nI_eq, z_eq0, z_lt0, z_0le, z_0lt, z_le0, z_n9, z_n1, z_m1lt, z_m9lt, z_m9le, z_m1le, zB_0, zB_1, zz_bi_s, zz_bv_s, zz_bl_s, if_pos, if_neg, if_true, if_false, true_and, and_true, not_true_eq_false, not_false_eq_true, ite_self, c57]
    rw [h1, x_165_63]; rw [h1] at e167; simp (disch := first | omega | assumption) only [nI_add, pk_mul, z_in, z_ix, nI_leI, nI_ltI, nI_eq, z_eq0, z_lt0, z_0le, z_0lt, z_le0, z_n9, z_n1, z_m1lt, z_m9lt, z_m9le, z_m1le, zB_0, zB_1, zz_bi_s, zz_bv_s, zz_bl_s, if_pos, if_neg, if_true, if_false, true_and, and_true, not_true_eq_false, not_false_eq_true, ite_self, e167, x_165_79, c170, x_165_88]
  · have r := zrm_some hx
    have q21 : zz_u f 112 15 (nI (dP D + 1)) 112 21 = nI (dB D) := (MD_place hD).2.2.2
    have q16 : zz_u f 112 15 (nI (dP D + 1)) 112 16 = nI s := C1.2.2.2.2.1
    refine ⟨zz_u f 112 15 (nI (dP D + 1)), 0, ?_, zRd_p (by omega), Or.inl ⟨rfl, _, rfl, zu_s⟩⟩
    have c170 : zz_ca 170 [.ref 112] (zK f g) = some (some (.int (nI 0)), zK (zz_u f 112 15 (nI (dP D + 1))) g) := by
      have e167b := l_167 (g := g) C1 p1 r.1
      have hb := hC.2.2.1 (dP D + 1) (by omega)
      have e150 := l_150b (zz_u f 112 15 (nI (dP D + 1))) g hb (a := 65) (n := 12) (by decide) (by decide) (by decide)
      have e150 : zz_ca 150 [.long (c (dP D + 1)).toInt64, .long (lN 65), .long (lN 76)] (zK (zz_u f 112 15 (nI (dP D + 1))) g) = some (some (.int (zB (zz_in (c (dP D + 1) - nI 65) 12))), zK (zz_u f 112 15 (nI (dP D + 1))) g) := e150
      rw [zB_t (by rw [r.2.2]; exact (z_in (by omega)).mpr r.2.1)] at e150
      have r3 := r.2.2
      have hx12 := r.2.1
      have r1 := r.1
      rw [e_170, x_170_0, p15, nI_add, p1, q16]
      simp (disch := first | omega | assumption) only [nI_add, pk_mul, z_in, z_ix, nI_leI, nI_ltI, nI_eq, z_eq0, z_lt0, z_0le, z_0lt, z_le0, z_n9, z_n1, z_m1lt, z_m9lt, z_m9le, z_m1le, zB_0, zB_1, zz_bi_s, zz_bv_s, zz_bl_s, if_pos, if_neg, if_true, if_false, true_and, and_true, not_true_eq_false, not_false_eq_true, ite_self, e167b, x_170_25, e150, x_170_35, q21, x_170_46, r3, l_171, ht, x_170_52]
    rw [h1, x_165_63]; rw [h1] at e167; simp (disch := first | omega | assumption) only [nI_add, pk_mul, z_in, z_ix, nI_leI, nI_ltI, nI_eq, z_eq0, z_lt0, z_0le, z_0lt, z_le0, z_n9, z_n1, z_m1lt, z_m9lt, z_m9le, z_m1le, zB_0, zB_1, zz_bi_s, zz_bv_s, zz_bl_s, if_pos, if_neg, if_true, if_false, true_and, and_true, not_true_eq_false, not_false_eq_true, ite_self, e167, x_165_79, c170, x_165_88]
  · have r := zrm_some hx
    have q21 : zz_u f 112 15 (nI (dP D + 1)) 112 21 = nI (dB D) := (MD_place hD).2.2.2
    have q21b : zz_u f 112 15 (nI (dP D + 2)) 112 21 = nI (dB D) := (MD_place hD).2.2.2
    have q16 : zz_u f 112 15 (nI (dP D + 1)) 112 16 = nI s := C1.2.2.2.2.1
    have hx12 := r.2.1
    have c169 := l_169 (g := g) C1 p1 (u := -9) hx (m9 x hx12)
    rw [u2] at c169
    refine ⟨zz_u (zz_u f 112 15 (nI (dP D + 2))) 112 21 (nI (dB D ||| 2 ^ x)), 1, ?_, zRd_t (zRd_p (by omega)) (zRd_p (by omega)), Or.inr ⟨rfl, _, rfl, ?_⟩⟩
    · have c170 : zz_ca 170 [.ref 112] (zK f g) = some (some (.int (nI 1)), zK (zz_u (zz_u f 112 15 (nI (dP D + 2))) 112 21 (nI (dB D ||| 2 ^ x))) g) := by
        have e167b := l_167 (g := g) C1 p1 r.1
        have hb := hC.2.2.1 (dP D + 1) (by omega)
        have e150 := l_150b (zz_u f 112 15 (nI (dP D + 1))) g hb (a := 65) (n := 12) (by decide) (by decide) (by decide)
        have e150 : zz_ca 150 [.long (c (dP D + 1)).toInt64, .long (lN 65), .long (lN 76)] (zK (zz_u f 112 15 (nI (dP D + 1))) g) = some (some (.int (zB (zz_in (c (dP D + 1) - nI 65) 12))), zK (zz_u f 112 15 (nI (dP D + 1))) g) := e150
        rw [zB_t (by rw [r.2.2]; exact (z_in (by omega)).mpr r.2.1)] at e150
        have r3 := r.2.2
        have r1 := r.1
        rw [e_170, x_170_0, p15, nI_add, p1, q16]
        simp (disch := first | omega | assumption) only [nI_add, pk_mul, z_in, z_ix, nI_leI, nI_ltI, nI_eq, z_eq0, z_lt0, z_0le, z_0lt, z_le0, z_n9, z_n1, z_m1lt, z_m9lt, z_m9le, z_m1le, zB_0, zB_1, zz_bi_s, zz_bv_s, zz_bl_s, if_pos, if_neg, if_true, if_false, true_and, and_true, not_true_eq_false, not_false_eq_true, ite_self, e167b, x_170_25, e150, x_170_35, q21, x_170_46, r3, l_171, ht, Bool.false_eq_true, x_170_52, x_170_57, c169, x_170_63, q21b, z_1shl, x_170_82, z_or]
      rw [h1, x_165_63]; rw [h1] at e167; simp (disch := first | omega | assumption) only [nI_add, pk_mul, z_in, z_ix, nI_leI, nI_ltI, nI_eq, z_eq0, z_lt0, z_0le, z_0lt, z_le0, z_n9, z_n1, z_m1lt, z_m9lt, z_m9le, z_m1le, zB_0, zB_1, zz_bi_s, zz_bv_s, zz_bl_s, if_pos, if_neg, if_true, if_false, true_and, and_true, not_true_eq_false, not_false_eq_true, ite_self, e167, x_165_79, c170, x_165_88]
    · refine ⟨?_, ?_, ?_, zu_s, fun p hp => ?_, fun j hj => ?_⟩
      · simp (disch := omega) only [zu_i, zu_s]; rfl
      · simp (disch := omega) only [zu_i]; exact p18
      · simp (disch := omega) only [zu_i]; exact p20
      · simp (disch := omega) only [zu_c]; exact hD.2.2.2.2.1 p hp
      · simp (disch := omega) only [zu_c]; exact hD.2.2.2.2.2 j hj
  · refine ⟨f, 0, ?_, zRd_r, Or.inl ⟨rfl, _, rfl, p15⟩⟩
    have e173 := l_173 f g (c (dP D))
    rw [hk] at e173
    have c172 : zz_ca 172 [.ref 112] (zK f g) = some (some (.int (nI 0)), zK f g) := by
      rw [e_172, x_172_0]; simp (disch := first | omega | assumption) only [nI_add, pk_mul, z_in, z_ix, nI_leI, nI_ltI, nI_eq, z_eq0, z_lt0, z_0le, z_0lt, z_le0, z_n9, z_n1, z_m1lt, z_m9lt, z_m9le, z_m1le, zB_0, zB_1, zz_bi_s, zz_bv_s, zz_bl_s, if_pos, if_neg, if_true, if_false, true_and, and_true, not_true_eq_false, not_false_eq_true, ite_self, e167, x_172_4, e173, dI, x_172_7, x_172_23]
    rw [x_165_63, if_neg h0]; simp (disch := first | omega | assumption) only [nI_add, pk_mul, z_in, z_ix, nI_leI, nI_ltI, nI_eq, z_eq0, z_lt0, z_0le, z_0lt, z_le0, z_n9, z_n1, z_m1lt, z_m9lt, z_m9le, z_m1le, zB_0, zB_1, zz_bi_s, zz_bv_s, zz_bl_s, if_pos, if_neg, if_true, if_false, true_and, and_true, not_true_eq_false, not_false_eq_true, ite_self, e167, x_165_79, h1, c172]
  · refine ⟨f, 0, ?_, zRd_r, Or.inl ⟨rfl, _, rfl, p15⟩⟩
    have e173 := l_173 f g (c (dP D))
    have hk6 := zkn_lt hk
    rw [hk] at e173
    have c172 : zz_ca 172 [.ref 112] (zK f g) = some (some (.int (nI 0)), zK f g) := by
      rw [e_172, x_172_0]; simp (disch := first | omega | assumption) only [nI_add, pk_mul, z_in, z_ix, nI_leI, nI_ltI, nI_eq, z_eq0, z_lt0, z_0le, z_0lt, z_le0, z_n9, z_n1, z_m1lt, z_m9lt, z_m9le, z_m1le, zB_0, zB_1, zz_bi_s, zz_bv_s, zz_bl_s, if_pos, if_neg, if_true, if_false, true_and, and_true, not_true_eq_false, not_false_eq_true, ite_self, e167, x_172_4, e173, dI, x_172_7, p18, x_172_23]
    rw [x_165_63, if_neg h0]; simp (disch := first | omega | assumption) only [nI_add, pk_mul, z_in, z_ix, nI_leI, nI_ltI, nI_eq, z_eq0, z_lt0, z_0le, z_0lt, z_le0, z_n9, z_n1, z_m1lt, z_m9lt, z_m9le, z_m1le, zB_0, zB_1, zz_bi_s, zz_bv_s, zz_bl_s, if_pos, if_neg, if_true, if_false, true_and, and_true, not_true_eq_false, not_false_eq_true, ite_self, e167, x_165_79, h1, c172]
  · have c169 := l_169n (g := g) C1 p1 (by omega) (u := -9) (Or.inl hx)
    refine ⟨zz_u f 112 15 (nI (dP D + 1)), 0, ?_, zRd_p (by omega), Or.inl ⟨rfl, _, rfl, zu_s⟩⟩
    have e173 := l_173 f g (c (dP D))
    have hk6 := zkn_lt hk
    rw [hk] at e173
    have c172 : zz_ca 172 [.ref 112] (zK f g) = some (some (.int (nI 0)), zK (zz_u f 112 15 (nI (dP D + 1))) g) := by
      rw [e_172, x_172_0]; simp (disch := first | omega | assumption) only [nI_add, pk_mul, z_in, z_ix, nI_leI, nI_ltI, nI_eq, z_eq0, z_lt0, z_0le, z_0lt, z_le0, z_n9, z_n1, z_m1lt, z_m9lt, z_m9le, z_m1le, zB_0, zB_1, zz_bi_s, zz_bv_s, zz_bl_s, if_pos, if_neg, if_true, if_false, true_and, and_true, not_true_eq_false, not_false_eq_true, ite_self, e167, x_172_4, e173, dI, x_172_7, p18, p15, c169, x_172_41, x_172_76]
    rw [x_165_63, if_neg h0]; simp (disch := first | omega | assumption) only [nI_add, pk_mul, z_in, z_ix, nI_leI, nI_ltI, nI_eq, z_eq0, z_lt0, z_0le, z_0lt, z_le0, z_n9, z_n1, z_m1lt, z_m9lt, z_m9le, z_m1le, zB_0, zB_1, zz_bi_s, zz_bv_s, zz_bl_s, if_pos, if_neg, if_true, if_false, true_and, and_true, not_true_eq_false, not_false_eq_true, ite_self, e167, x_165_79, h1, c172]
  · have r := zrm_some hx
    have hx12 := r.2.1
    have r1 := r.1
    have c169 := l_169 (g := g) C1 p1 (u := -9) hx (m9 x hx12)
    rw [u2] at c169
    refine ⟨zz_u f 112 15 (nI (dP D + 2)), 0, ?_, zRd_p (by omega), Or.inl ⟨rfl, _, rfl, zu_s⟩⟩
    have e173 := l_173 f g (c (dP D))
    have hk6 := zkn_lt hk
    rw [hk] at e173
    have q16 : zz_u f 112 15 (nI (dP D + 2)) 112 16 = nI s := C2.2.2.2.2.1
    have c172 : zz_ca 172 [.ref 112] (zK f g) = some (some (.int (nI 0)), zK (zz_u f 112 15 (nI (dP D + 2))) g) := by
      rw [e_172, x_172_0]
      by_cases w : dP D + 2 < s
      · have e167b := l_167 (g := g) C2 p2 w
        have hb := hC.2.2.1 (dP D + 2) (by omega)
        have e150 := l_150b (zz_u f 112 15 (nI (dP D + 2))) g hb (a := 48) (n := 10) (by decide) (by decide) (by decide)
        have e150 : zz_ca 150 [.long (c (dP D + 2)).toInt64, .long (lN 48), .long (lN 57)] (zK (zz_u f 112 15 (nI (dP D + 2))) g) = some (some (.int (zB (zz_in (c (dP D + 2) - nI 48) 10))), zK (zz_u f 112 15 (nI (dP D + 2))) g) := e150
        rcases zfg_none hv with w2 | w2
        · exact absurd w w2
        · rw [zB_f w2] at e150
          simp (disch := first | omega | assumption) only [nI_add, pk_mul, z_in, z_ix, nI_leI, nI_ltI, nI_eq, z_eq0, z_lt0, z_0le, z_0lt, z_le0, z_n9, z_n1, z_m1lt, z_m9lt, z_m9le, z_m1le, zB_0, zB_1, zz_bi_s, zz_bv_s, zz_bl_s, if_pos, if_neg, if_true, if_false, true_and, and_true, not_true_eq_false, not_false_eq_true, ite_self, e167, x_172_4, e173, dI, x_172_7, p18, p15, c169, x_172_41, p2, q16, e167b, x_172_63, e150, x_172_73, x_172_76]
      · simp (disch := first | omega | assumption) only [nI_add, pk_mul, z_in, z_ix, nI_leI, nI_ltI, nI_eq, z_eq0, z_lt0, z_0le, z_0lt, z_le0, z_n9, z_n1, z_m1lt, z_m9lt, z_m9le, z_m1le, zB_0, zB_1, zz_bi_s, zz_bv_s, zz_bl_s, if_pos, if_neg, if_true, if_false, true_and, and_true, not_true_eq_false, not_false_eq_true, ite_self, e167, x_172_4, e173, dI, x_172_7, p18, p15, c169, x_172_41, p2, q16, x_172_76]
    rw [x_165_63, if_neg h0]; simp (disch := first | omega | assumption) only [nI_add, pk_mul, z_in, z_ix, nI_leI, nI_ltI, nI_eq, z_eq0, z_lt0, z_0le, z_0lt, z_le0, z_n9, z_n1, z_m1lt, z_m9lt, z_m9le, z_m1le, zB_0, zB_1, zz_bi_s, zz_bv_s, zz_bl_s, if_pos, if_neg, if_true, if_false, true_and, and_true, not_true_eq_false, not_false_eq_true, ite_self, e167, x_165_79, h1, c172]
  · have r := zrm_some hx
    have rv := zfg_some hv
    have hx12 := r.2.1
    have hv10 := rv.2.1
    have w := rv.1
    have c169 := l_169 (g := g) C1 p1 (u := -9) hx (m9 x hx12)
    rw [u2] at c169
    have e173 := l_173 f g (c (dP D))
    have hk6 := zkn_lt hk
    rw [hk] at e173
    have hn : wP (dW D) < 6 := by omega
    have q16 : zz_u f 112 15 (nI (dP D + 2)) 112 16 = nI s := C2.2.2.2.2.1
    have q18 : zz_u f 112 15 (nI (dP D + 2)) 112 18 = nI (wP (dW D)) := (MD_place hD).2.1
    have e167b := l_167 (g := g) C2 p2 w
    have hb := hC.2.2.1 (dP D + 2) (by omega)
    have e150 := l_150b (zz_u f 112 15 (nI (dP D + 2))) g hb (a := 48) (n := 10) (by decide) (by decide) (by decide)
    have e150 : zz_ca 150 [.long (c (dP D + 2)).toInt64, .long (lN 48), .long (lN 57)] (zK (zz_u f 112 15 (nI (dP D + 2))) g) = some (some (.int (zB (zz_in (c (dP D + 2) - nI 48) 10))), zK (zz_u f 112 15 (nI (dP D + 2))) g) := e150
    rw [zB_t (by rw [rv.2.2]; exact (z_in (by omega)).mpr rv.2.1)] at e150
    have C3 : MC t s c (zz_u (zz_u (zz_u f 112 15 (nI (dP D + 2))) 121 (3 * wP (dW D)) (nI k)) 121 (3 * wP (dW D) + 1) (nI x)) := MC_fr C2 (zRd_t (zRd_c (by omega)) (zRd_c (by omega)))
    have p3 : zz_u (zz_u (zz_u f 112 15 (nI (dP D + 2))) 121 (3 * wP (dW D)) (nI k)) 121 (3 * wP (dW D) + 1) (nI x) 112 15 = nI (dP D + 2) := by simp (disch := omega) only [zu_c, zu_s]
    have e167c := l_167 (g := g) C3 p3 w
    have rv3 := rv.2.2
    refine ⟨zz_u (zz_u (zz_u (zz_u (zz_u (zz_u f 112 15 (nI (dP D + 2))) 121 (3 * wP (dW D)) (nI k)) 121 (3 * wP (dW D) + 1) (nI x)) 121 (3 * wP (dW D) + 2) (nI v)) 112 18 (nI (wP (dW D) + 1))) 112 15 (nI (dP D + 3)), 1, ?_, zRd_t (zRd_t (zRd_t (zRd_t (zRd_t (zRd_p (by omega)) (zRd_c (by omega))) (zRd_c (by omega))) (zRd_c (by omega))) (zRd_p (by omega))) (zRd_p (by omega)), Or.inr ⟨rfl, _, rfl, ?_⟩⟩
    · have c172 : zz_ca 172 [.ref 112] (zK f g) = some (some (.int (nI 1)), zK (zz_u (zz_u (zz_u (zz_u (zz_u (zz_u f 112 15 (nI (dP D + 2))) 121 (3 * wP (dW D)) (nI k)) 121 (3 * wP (dW D) + 1) (nI x)) 121 (3 * wP (dW D) + 2) (nI v)) 112 18 (nI (wP (dW D) + 1))) 112 15 (nI (dP D + 3))) g) := by
        rw [e_172, x_172_0]
        simp (disch := first | omega | assumption) only [nI_add, pk_mul, z_in, z_ix, nI_leI, nI_ltI, nI_eq, z_eq0, z_lt0, z_0le, z_0lt, z_le0, z_n9, z_n1, z_m1lt, z_m9lt, z_m9le, z_m1le, zB_0, zB_1, zz_bi_s, zz_bv_s, zz_bl_s, if_pos, if_neg, if_true, if_false, true_and, and_true, not_true_eq_false, not_false_eq_true, ite_self, e167, x_172_4, e173, dI, x_172_7, p18, p15, c169, x_172_41, p2, q16, e167b, x_172_63, e150, x_172_73, q18, zu_c, e167c, x_172_120, rv3, zu_i]
      rw [x_165_63, if_neg h0]; simp (disch := first | omega | assumption) only [nI_add, pk_mul, z_in, z_ix, nI_leI, nI_ltI, nI_eq, z_eq0, z_lt0, z_0le, z_0lt, z_le0, z_n9, z_n1, z_m1lt, z_m9lt, z_m9le, z_m1le, zB_0, zB_1, zz_bi_s, zz_bv_s, zz_bl_s, if_pos, if_neg, if_true, if_false, true_and, and_true, not_true_eq_false, not_false_eq_true, ite_self, e167, x_165_79, h1, c172]
    · refine ⟨zu_s, ?_, ?_, ?_, fun p hp => ?_, fun j hj => ?_⟩
      · simp (disch := omega) only [zu_i, zu_s]; rfl
      · simp (disch := omega) only [zu_c, zu_i]; exact p20
      · simp (disch := omega) only [zu_c, zu_i]; exact p21
      · have hp : p < wP (dW D) + 1 := hp
        show _ = nI (zup (wK (dW D)) (wP (dW D)) k p) ∧ _ = nI (zup (dR D) (wP (dW D)) x p) ∧ _ = nI (zup (dV D) (wP (dW D)) v p)
        by_cases q : p = wP (dW D)
        · subst q
          rw [zup_s, zup_s, zup_s]
          exact ⟨by simp (disch := omega) only [zu_c, zu_i, zu_s], by simp (disch := omega) only [zu_c, zu_i, zu_s], by simp (disch := omega) only [zu_c, zu_i, zu_s]⟩
        · rw [zup_n q, zup_n q, zup_n q]
          simp (disch := omega) only [zu_c, zu_i]; exact hD.2.2.2.2.1 p (by omega)
      · simp (disch := omega) only [zu_c]; exact hD.2.2.2.2.2 j hj
