/-! how the program reads: cells 17 .. 29 -/
def XD (D : zD) (f : Nat → Nat → Int32) : Prop := f 17 1 = nI (dP D) ∧ XH f 18 (dW D) (dH D)
/-- a text of s signs c, in a strip behind the reader's cells -/
def XC (r s : Nat) (c : Nat → Int32) (f : Nat → Nat → Int32) : Prop := zs_S r 60 ∧ 29 < r ∧ s ≤ 60 ∧ (∀ i < 60, zby (c i)) ∧ f r 1 = nI s ∧ ∀ i < 60, f (r + 1) i = c i
theorem XC_fr {r s : Nat} {c : Nat → Int32} {f f' : Nat → Nat → Int32} (h : XC r s c f) (e : ∀ x, x < 17 ∨ 29 < x → f' x = f x) : XC r s c f' := by
  obtain ⟨h1, h2, h3, h4, h5, h6⟩ := h
  exact ⟨h1, h2, h3, h4, by rw [e r (by omega)]; exact h5, fun i hi => by rw [e (r + 1) (by omega)]; exact h6 i hi⟩
theorem l_34 {f : Nat → Nat → Int32} {g : Nat → Nat → Int64} {r s : Nat} {c : Nat → Int32} (h : XC r s c f) {i : Nat} (hi : i < 2 ^ 31) : zz_ca 34 [.ref r, .int (nI i)] (zK f g) = some (some (.int (zor (zrm c s i))), zK f g) := by
  obtain ⟨hr, _, hs60, hb, hs, hc⟩ := h
  have e18 := l_18 (g := g) hr (nI i) hs (by omega)
  rw [e_34, x_34_0 f g r _ hr, e18, zz_bi_s, x_34_5 _ _ _ _ _ hr]
  by_cases h1 : i < s
  · have e := hc i (by omega)
    by_cases h2 : zz_in (c i - nI 65) 12
    · obtain ⟨j, hj, hj2, h3⟩ := z_inx.mp h2
      have hz : zrm c s i = some j := by unfold zrm; rw [if_pos ⟨h1, h2⟩, h3, z_ix hj2]
      have e35 : zz_ca 35 [.int (nI j)] (zK f g) = some (some (.int (nI 1)), zK f g) := by rw [l_35, zB_t ((z_in hj2).mpr hj)]
      simp (disch := first | omega | assumption) only [nI_add, pk_mul, z_in, z_ix, nI_leI, nI_ltI, nI_eq, z_eq0, z_lt0, z_0le, z_0lt, z_le0, z_n9, z_n1, z_m1lt, z_m9lt, z_m9le, z_m1le, zB_0, zB_1, zz_bi_s, zz_bv_s, zz_bl_s, if_pos, if_neg, if_true, if_false, true_and, and_true, not_true_eq_false, not_false_eq_true, ite_self, e, h3, e35, x_34_20 _ _ _ _ _ hr, hz]; rfl
    · have hz : zrm c s i = none := if_neg (fun q => h2 q.2)
      have e35 : zz_ca 35 [.int (c i - nI 65)] (zK f g) = some (some (.int (nI 0)), zK f g) := by rw [l_35, zB_f h2]
      simp (disch := first | omega | assumption) only [nI_add, pk_mul, z_in, z_ix, nI_leI, nI_ltI, nI_eq, z_eq0, z_lt0, z_0le, z_0lt, z_le0, z_n9, z_n1, z_m1lt, z_m9lt, z_m9le, z_m1le, zB_0, zB_1, zz_bi_s, zz_bv_s, zz_bl_s, if_pos, if_neg, if_true, if_false, true_and, and_true, not_true_eq_false, not_false_eq_true, ite_self, e, e35, x_34_20 _ _ _ _ _ hr, x_34_23 _ _ _ _ hr, hz]; rfl
  · have hz : zrm c s i = none := if_neg (fun q => h1 q.1)
    simp (disch := first | omega | assumption) only [nI_add, pk_mul, z_in, z_ix, nI_leI, nI_ltI, nI_eq, z_eq0, z_lt0, z_0le, z_0lt, z_le0, z_n9, z_n1, z_m1lt, z_m9lt, z_m9le, z_m1le, zB_0, zB_1, zz_bi_s, zz_bv_s, zz_bl_s, if_pos, if_neg, if_true, if_false, true_and, and_true, not_true_eq_false, not_false_eq_true, ite_self, x_34_23 _ _ _ _ hr, hz]; rfl
theorem l_41 {f : Nat → Nat → Int32} {g : Nat → Nat → Int64} {r s : Nat} {c : Nat → Int32} (h : XC r s c f) {i : Nat} (hi : i < 2 ^ 31) : ∃ v, zz_ca 41 [.ref r, .int (nI i)] (zK f g) = some (some (.int v), zK f g) ∧ (zfg c s i = none → ¬ 0 ≤ v) ∧ (∀ x, zfg c s i = some x → v = nI x) := by
  obtain ⟨hr, _, hs60, hb, hs, hc⟩ := h
  have e18 := l_18 (g := g) hr (nI i) hs (by omega)
  rw [e_41, x_41_0 f g r _ hr, e18, zz_bi_s, x_41_5 _ _ _ _ _ hr]
  by_cases h1 : i < s
  · have e := hc i (by omega)
    have hby := hb i (by omega)
    have hsub := zby_sub hby (k := 48) (by decide)
    by_cases h2 : c i ≤ nI 57
    · have h2' : (c i).toInt ≤ 57 := by rw [Int32.le_iff_toInt_le, nI_toInt (by decide)] at h2; exact h2
      refine ⟨c i - nI 48, by simp (disch := first | omega | assumption) only [nI_add, pk_mul, z_in, z_ix, nI_leI, nI_ltI, nI_eq, z_eq0, z_lt0, z_0le, z_0lt, z_le0, z_n9, z_n1, z_m1lt, z_m9lt, z_m9le, z_m1le, zB_0, zB_1, zz_bi_s, zz_bv_s, zz_bl_s, if_pos, if_neg, if_true, if_false, true_and, and_true, not_true_eq_false, not_false_eq_true, ite_self, e, h2], fun q => ?_, fun x q => (zfg_some q).2.2⟩
      rcases zfg_none q with q | q
      · exact absurd h1 q
      · intro w
        rw [Int32.le_iff_toInt_le] at w
        have h0 : (0 : Int32).toInt = 0 := by decide +kernel
        exact q ⟨by omega, by omega⟩
    · have h2' : 57 < (c i).toInt := by rw [Int32.le_iff_toInt_le, nI_toInt (by decide)] at h2; omega
      refine ⟨-1, by simp (disch := first | omega | assumption) only [nI_add, pk_mul, z_in, z_ix, nI_leI, nI_ltI, nI_eq, z_eq0, z_lt0, z_0le, z_0lt, z_le0, z_n9, z_n1, z_m1lt, z_m9lt, z_m9le, z_m1le, zB_0, zB_1, zz_bi_s, zz_bv_s, zz_bl_s, if_pos, if_neg, if_true, if_false, true_and, and_true, not_true_eq_false, not_false_eq_true, ite_self, e, h2, x_41_19 _ _ _ _ hr], fun _ => by decide +kernel, fun x q => ?_⟩
      have := zfg_some q
      rw [this.2.2, nI_toInt (by omega)] at hsub
      omega
  · refine ⟨-1, by simp (disch := first | omega | assumption) only [nI_add, pk_mul, z_in, z_ix, nI_leI, nI_ltI, nI_eq, z_eq0, z_lt0, z_0le, z_0lt, z_le0, z_n9, z_n1, z_m1lt, z_m9lt, z_m9le, z_m1le, zB_0, zB_1, zz_bi_s, zz_bv_s, zz_bl_s, if_pos, if_neg, if_true, if_false, true_and, and_true, not_true_eq_false, not_false_eq_true, ite_self, x_41_19 _ _ _ _ hr], fun _ => by decide +kernel, fun x q => absurd (zfg_some q).1 h1⟩
theorem l_36 {f : Nat → Nat → Int32} {g : Nat → Nat → Int64} {m : Nat} (hm : m < 4) (h : f 18 1 = nI m) (x y : Int32) : zz_ca 36 [.ref 18, .int x, .int y] (zK f g) = some (none, zK (zz_u (zz_u (zz_u f 24 m x) 25 m y) 18 1 (nI (m + 1))) g) := by
  rw [e_36, x_36_0]; simp (disch := first | omega | assumption) only [nI_add, pk_mul, z_in, z_ix, nI_leI, nI_ltI, nI_eq, z_eq0, z_lt0, z_0le, z_0lt, z_le0, z_n9, z_n1, z_m1lt, z_m9lt, z_m9le, z_m1le, zB_0, zB_1, zz_bi_s, zz_bv_s, zz_bl_s, if_pos, if_neg, if_true, if_false, true_and, and_true, not_true_eq_false, not_false_eq_true, ite_self, h, zu_c]
theorem l_42 {f : Nat → Nat → Int32} {g : Nat → Nat → Int64} {n : Nat} (hn : n < 6) (h : f 18 0 = nI n) (k x v : Int32) : zz_ca 42 [.ref 18, .int k, .int x, .int v] (zK f g) = some (none, zK (zz_u (zz_u (zz_u (zz_u (zz_u (zz_u f 19 n k) 20 n x) 21 n v) 22 n (nI 0)) 23 n (nI 0)) 18 0 (nI (n + 1))) g) := by
  rw [e_42, x_42_0]; simp (disch := first | omega | assumption) only [nI_add, pk_mul, z_in, z_ix, nI_leI, nI_ltI, nI_eq, z_eq0, z_lt0, z_0le, z_0lt, z_le0, z_n9, z_n1, z_m1lt, z_m9lt, z_m9le, z_m1le, zB_0, zB_1, zz_bi_s, zz_bv_s, zz_bl_s, if_pos, if_neg, if_true, if_false, true_and, and_true, not_true_eq_false, not_false_eq_true, ite_self, h, zu_c]
theorem XD_stair {D : zD} {f : Nat → Nat → Int32} (h : XD D f) (x y : Nat) : XD (dStair D x y) (zz_u (zz_u (zz_u (zz_u f 24 (wS (dW D)) (nI x)) 25 (wS (dW D)) (nI y)) 18 1 (nI (wS (dW D) + 1))) 17 1 (nI (dP D + 3))) := by
  obtain ⟨h0, x0, x1, x2, x3, x4, x5, x6, x7⟩ := h
  refine ⟨zu_s, ?_, ?_, ?_, ?_, ?_, fun p hp => ?_, fun j hj => ?_, fun d hd => absurd hd (Nat.not_lt_zero _)⟩
  · rw [zu_c (by decide), zu_i (by decide), zu_c (by decide), zu_c (by decide)]; exact x0
  · rw [zu_c (by decide), zu_s]; rfl
  · rw [zu_c (by decide), zu_i (by decide), zu_c (by decide), zu_c (by decide)]; exact x2
  · rw [zu_c (by decide), zu_i (by decide), zu_c (by decide), zu_c (by decide)]; exact x3
  · rw [zu_c (by decide), zu_i (by decide), zu_c (by decide), zu_c (by decide)]; exact x4
  · simp (disch := omega) only [zu_c]; exact x5 p hp
  · have hj : j < wS (dW D) + 1 := hj
    rw [zu_c (by decide), zu_c (by decide), zu_c (by decide), zu_if, zu_c (by decide), zu_c (by decide), zu_if, zu_c (by decide)]
    show _ = nI (zup (wA (dW D)) (wS (dW D)) x j) ∧ _ = nI (zup (wB (dW D)) (wS (dW D)) y j)
    unfold zup
    by_cases e : j = wS (dW D)
    · rw [if_pos e, if_pos e, if_pos e, if_pos e]; exact ⟨rfl, rfl⟩
    · rw [if_neg e, if_neg e, if_neg e, if_neg e]; exact x6 j (by omega)
theorem XD_shut {D : zD} {f : Nat → Nat → Int32} (h : XD D f) (x : Nat) : XD (dShut D x) (zz_u (zz_u f 18 2 (nI (dB D ||| 2 ^ x))) 17 1 (nI (dP D + 2))) := by
  obtain ⟨h0, x0, x1, x2, x3, x4, x5, x6, x7⟩ := h
  refine ⟨zu_s, ?_, ?_, ?_, ?_, ?_, fun p hp => ?_, fun j hj => ?_, fun d hd => absurd hd (Nat.not_lt_zero _)⟩
  · rw [zu_c (by decide), zu_i (by decide)]; exact x0
  · rw [zu_c (by decide), zu_i (by decide)]; exact x1
  · rw [zu_c (by decide), zu_s]; rfl
  · rw [zu_c (by decide), zu_i (by decide)]; exact x3
  · rw [zu_c (by decide), zu_i (by decide)]; exact x4
  · simp (disch := omega) only [zu_c]; exact x5 p hp
  · simp (disch := omega) only [zu_c]; exact x6 j hj
theorem XD_pers {D : zD} {f : Nat → Nat → Int32} (h : XD D f) (k x v : Nat) : XD (dPers D k x v) (zz_u (zz_u (zz_u (zz_u (zz_u (zz_u (zz_u f 19 (wP (dW D)) (nI k)) 20 (wP (dW D)) (nI x)) 21 (wP (dW D)) (nI v)) 22 (wP (dW D)) (nI 0)) 23 (wP (dW D)) (nI 0)) 18 0 (nI (wP (dW D) + 1))) 17 1 (nI (dP D + 3))) := by
  obtain ⟨h0, x0, x1, x2, x3, x4, x5, x6, x7⟩ := h
  refine ⟨zu_s, ?_, ?_, ?_, ?_, ?_, fun p hp => ?_, fun j hj => ?_, fun d hd => absurd hd (Nat.not_lt_zero _)⟩
  · rw [zu_c (by decide), zu_s]; rfl
  · simp (disch := omega) only [zu_c, zu_i]; exact x1
  · simp (disch := omega) only [zu_c, zu_i]; exact x2
  · simp (disch := omega) only [zu_c, zu_i]; exact x3
  · simp (disch := omega) only [zu_c, zu_i]; exact x4
  · have hp : p < wP (dW D) + 1 := hp
    show _ = nI (zup (wK (dW D)) (wP (dW D)) k p) ∧ _ = nI (zup (dR D) (wP (dW D)) x p) ∧ _ = nI (zup (dV D) (wP (dW D)) v p) ∧ _ = nI 0 ∧ _ = nI 0
    by_cases e : p = wP (dW D)
    · subst e
      rw [zup_s, zup_s, zup_s]
      refine ⟨?_, ?_, ?_, ?_, ?_⟩ <;> simp (disch := omega) only [zu_c, zu_s]
    · rw [zup_n e, zup_n e, zup_n e]
      have y := x5 p (by omega)
      refine ⟨?_, ?_, ?_, ?_, ?_⟩
      · simp (disch := omega) only [zu_c, zu_i]; exact y.1
      · simp (disch := omega) only [zu_c, zu_i]; exact y.2.1
      · simp (disch := omega) only [zu_c, zu_i]; exact y.2.2.1
      · simp (disch := omega) only [zu_c, zu_i]; exact y.2.2.2.1
      · simp (disch := omega) only [zu_c, zu_i]; exact y.2.2.2.2
  · simp (disch := omega) only [zu_c]; exact x6 j hj
theorem XD_next {D : zD} {f : Nat → Nat → Int32} (h : XD D f) : XD (dNext D) (zz_u f 17 1 (nI (dP D + 1))) :=
  ⟨zu_s, XH_fr h.2 (fun a h1 h2 => zu_c (by omega))⟩
def zrw : Nat ⊕ zD → Int32
  | .inl q => nI q
  | .inr _ => -9
/-- an item -/
theorem l_32 {f : Nat → Nat → Int32} {g : Nat → Nat → Int64} {r s : Nat} {c : Nat → Int32} (hC : XC r s c f) {D : zD} (hw : wfZ s D) (hD : XD D f) (ha : dP D < s) (h32 : c (dP D) ≠ nI 32) : ∃ f', zz_ca 32 [.ref 17, .ref r, .int (c (dP D))] (zK f g) = some (some (.int (zrw (zit c s D))), zK f' g) ∧ (∀ x, x < 17 ∨ 29 < x → f' x = f x) ∧ ∀ E, zit c s D = .inr E → XD E f' := by
  have hs60 := hC.2.2.1
  have hr := hC.1
  have p17 := hD.1
  have p0 : f 18 0 = nI (wP (dW D)) := hD.2.1
  have p1 : f 18 1 = nI (wS (dW D)) := hD.2.2.1
  have p2 : f 18 2 = nI (dB D) := hD.2.2.2.1
  have hP6 := hw.2.1.1
  have hS4 := hw.2.1.2.1
  have hB := hw.2.2.2
  have e1 := l_34 (g := g) hC (i := dP D + 1) (by omega)
  have e2 := l_34 (g := g) hC (i := dP D + 2) (by omega)
  have n1 : ∀ x : Nat, x < 12 → ¬ nI x < 0 := fun x hx => by rw [z_lt0 (by omega)]; exact id
  rcases zit_c c s D with ⟨h1, h2, z⟩ | ⟨h1, h2, hx, z⟩ | ⟨h1, h2, x, hx, hy, z⟩ | ⟨h1, h2, x, y, hx, hy, e, z⟩ | ⟨h0, h1, hx, z⟩ | ⟨h0, h1, x, hx, ht, z⟩ | ⟨h0, h1, x, hx, ht, z⟩ | ⟨h0, h1, hk, z⟩ | ⟨h0, h1, k, hk, h3, z⟩ | ⟨h0, h1, k, hk, h3, hx, z⟩ | ⟨h0, h1, k, x, hk, h3, hx, hv, z⟩ | ⟨h0, h1, k, x, v, hk, h3, hx, hv, z⟩ <;> rw [z]
  · refine ⟨f, ?_, fun _ _ => rfl, fun E q => by cases q⟩
    rw [h1]
    have c33 : zz_ca 33 [.ref 17, .ref r] (zK f g) = some (some (.int (nI (dP D))), zK f g) := by
      rw [e_33, x_33_0 _ _ _ hr, p1, p17]; simp (disch := first | omega | assumption) only [nI_add, pk_mul, z_in, z_ix, nI_leI, nI_ltI, nI_eq, z_eq0, z_lt0, z_0le, z_0lt, z_le0, z_n9, z_n1, z_m1lt, z_m9lt, z_m9le, z_m1le, zB_0, zB_1, zz_bi_s, zz_bv_s, zz_bl_s, if_pos, if_neg, if_true, if_false, true_and, and_true, not_true_eq_false, not_false_eq_true, ite_self]
    rw [e_32, x_32_0 _ _ _ _ hr]; simp (disch := first | omega | assumption) only [nI_add, pk_mul, z_in, z_ix, nI_leI, nI_ltI, nI_eq, z_eq0, z_lt0, z_0le, z_0lt, z_le0, z_n9, z_n1, z_m1lt, z_m9lt, z_m9le, z_m1le, zB_0, zB_1, zz_bi_s, zz_bv_s, zz_bl_s, if_pos, if_neg, if_true, if_false, true_and, and_true, not_true_eq_false, not_false_eq_true, ite_self, c33, x_32_30 _ _ _ _ _ hr]; rfl
  · refine ⟨f, ?_, fun _ _ => rfl, fun E q => by cases q⟩
    rw [h1]
    rw [hx] at e1
    have c33 : zz_ca 33 [.ref 17, .ref r] (zK f g) = some (some (.int (nI (dP D + 1))), zK f g) := by
      rw [e_33, x_33_0 _ _ _ hr, p1, p17]; simp (disch := first | omega | assumption) only [nI_add, pk_mul, z_in, z_ix, nI_leI, nI_ltI, nI_eq, z_eq0, z_lt0, z_0le, z_0lt, z_le0, z_n9, z_n1, z_m1lt, z_m9lt, z_m9le, z_m1le, zB_0, zB_1, zz_bi_s, zz_bv_s, zz_bl_s, if_pos, if_neg, if_true, if_false, true_and, and_true, not_true_eq_false, not_false_eq_true, ite_self, e1, zor, x_33_26 _ _ _ _ hr, p17]
    rw [e_32, x_32_0 _ _ _ _ hr]; simp (disch := first | omega | assumption) only [nI_add, pk_mul, z_in, z_ix, nI_leI, nI_ltI, nI_eq, z_eq0, z_lt0, z_0le, z_0lt, z_le0, z_n9, z_n1, z_m1lt, z_m9lt, z_m9le, z_m1le, zB_0, zB_1, zz_bi_s, zz_bv_s, zz_bl_s, if_pos, if_neg, if_true, if_false, true_and, and_true, not_true_eq_false, not_false_eq_true, ite_self, c33, x_32_30 _ _ _ _ _ hr]; rfl
  · refine ⟨f, ?_, fun _ _ => rfl, fun E q => by cases q⟩
    rw [h1]
    rw [hx] at e1
    have hx12 := (zrm_some hx).2.1
    have c33 : zz_ca 33 [.ref 17, .ref r] (zK f g) = some (some (.int (nI (dP D + 2))), zK f g) := by
      rcases hy with hy | hy
      · rw [hy] at e2
        rw [e_33, x_33_0 _ _ _ hr, p1, p17]; simp (disch := first | omega | assumption) only [nI_add, pk_mul, z_in, z_ix, nI_leI, nI_ltI, nI_eq, z_eq0, z_lt0, z_0le, z_0lt, z_le0, z_n9, z_n1, z_m1lt, z_m9lt, z_m9le, z_m1le, zB_0, zB_1, zz_bi_s, zz_bv_s, zz_bl_s, if_pos, if_neg, if_true, if_false, true_and, and_true, not_true_eq_false, not_false_eq_true, ite_self, e1, zor, x_33_26 _ _ _ _ hr, p17, e2, x_33_48 _ _ _ _ _ hr, x_33_58 _ _ _ _ _ hr]
      · rw [hy] at e2
        rw [e_33, x_33_0 _ _ _ hr, p1, p17]; simp (disch := first | omega | assumption) only [nI_add, pk_mul, z_in, z_ix, nI_leI, nI_ltI, nI_eq, z_eq0, z_lt0, z_0le, z_0lt, z_le0, z_n9, z_n1, z_m1lt, z_m9lt, z_m9le, z_m1le, zB_0, zB_1, zz_bi_s, zz_bv_s, zz_bl_s, if_pos, if_neg, if_true, if_false, true_and, and_true, not_true_eq_false, not_false_eq_true, ite_self, e1, zor, x_33_26 _ _ _ _ hr, p17, e2, x_33_48 _ _ _ _ _ hr, x_33_58 _ _ _ _ _ hr]
    rw [e_32, x_32_0 _ _ _ _ hr]; simp (disch := first | omega | assumption) only [nI_add, pk_mul, z_in, z_ix, nI_leI, nI_ltI, nI_eq, z_eq0, z_lt0, z_0le, z_0lt, z_le0, z_n9, z_n1, z_m1lt, z_m9lt, z_m9le, z_m1le, zB_0, zB_1, zz_bi_s, zz_bv_s, zz_bl_s, if_pos, if_neg, if_true, if_false, true_and, and_true, not_true_eq_false, not_false_eq_true, ite_self, c33, x_32_30 _ _ _ _ _ hr]; rfl
  · rw [h1]
    rw [hx] at e1
    rw [hy] at e2
    have hx12 := (zrm_some hx).2.1
    have hy12 := (zrm_some hy).2.1
    have hm : wS (dW D) < 4 := by omega
    have c36 := l_36 (g := g) hm p1 (nI x) (nI y)
    have m17 : zz_u (zz_u (zz_u f 24 (wS (dW D)) (nI x)) 25 (wS (dW D)) (nI y)) 18 1 (nI (wS (dW D) + 1)) 17 1 = nI (dP D) := by rw [zu_c (by decide), zu_c (by decide), zu_c (by decide)]; exact p17
    refine ⟨_, ?_, fun a ha => ?_, fun E q => by cases q; exact XD_stair hD x y⟩
    · have c33 : zz_ca 33 [.ref 17, .ref r] (zK f g) = some (some (.int (-9)), zK (zz_u (zz_u (zz_u (zz_u f 24 (wS (dW D)) (nI x)) 25 (wS (dW D)) (nI y)) 18 1 (nI (wS (dW D) + 1))) 17 1 (nI (dP D + 3))) g) := by
        rw [e_33, x_33_0 _ _ _ hr, p1, p17]; simp (disch := first | omega | assumption) only [nI_add, pk_mul, z_in, z_ix, nI_leI, nI_ltI, nI_eq, z_eq0, z_lt0, z_0le, z_0lt, z_le0, z_n9, z_n1, z_m1lt, z_m9lt, z_m9le, z_m1le, zB_0, zB_1, zz_bi_s, zz_bv_s, zz_bl_s, if_pos, if_neg, if_true, if_false, true_and, and_true, not_true_eq_false, not_false_eq_true, ite_self, e1, zor, x_33_26 _ _ _ _ hr, p17, e2, x_33_48 _ _ _ _ _ hr, c36, x_33_74 _ _ _ _ _ hr, m17]
      rw [e_32, x_32_0 _ _ _ _ hr]; simp (disch := first | omega | assumption) only [nI_add, pk_mul, z_in, z_ix, nI_leI, nI_ltI, nI_eq, z_eq0, z_lt0, z_0le, z_0lt, z_le0, z_n9, z_n1, z_m1lt, z_m9lt, z_m9le, z_m1le, zB_0, zB_1, zz_bi_s, zz_bv_s, zz_bl_s, if_pos, if_neg, if_true, if_false, true_and, and_true, not_true_eq_false, not_false_eq_true, ite_self, c33, x_32_30 _ _ _ _ _ hr]; rfl
    · simp (disch := omega) only [zu_c]
  · refine ⟨f, ?_, fun _ _ => rfl, fun E q => by cases q⟩
    rw [h1]
    rw [hx] at e1
    have c37 : zz_ca 37 [.ref 17, .ref r] (zK f g) = some (some (.int (nI (dP D + 1))), zK f g) := by
      rw [e_37, x_37_0 _ _ _ hr, p17]; simp (disch := first | omega | assumption) only [nI_add, pk_mul, z_in, z_ix, nI_leI, nI_ltI, nI_eq, z_eq0, z_lt0, z_0le, z_0lt, z_le0, z_n9, z_n1, z_m1lt, z_m9lt, z_m9le, z_m1le, zB_0, zB_1, zz_bi_s, zz_bv_s, zz_bl_s, if_pos, if_neg, if_true, if_false, true_and, and_true, not_true_eq_false, not_false_eq_true, ite_self, e1, zor, x_37_10 _ _ _ _ hr, x_37_29 _ _ _ _ hr, p17]
    rw [e_32, x_32_0 _ _ _ _ hr]; simp (disch := first | omega | assumption) only [nI_add, pk_mul, z_in, z_ix, nI_leI, nI_ltI, nI_eq, z_eq0, z_lt0, z_0le, z_0lt, z_le0, z_n9, z_n1, z_m1lt, z_m9lt, z_m9le, z_m1le, zB_0, zB_1, zz_bi_s, zz_bv_s, zz_bl_s, if_pos, if_neg, if_true, if_false, true_and, and_true, not_true_eq_false, not_false_eq_true, ite_self, c37, x_32_42 _ _ _ _ _ hr]; rfl
  · refine ⟨f, ?_, fun _ _ => rfl, fun E q => by cases q⟩
    rw [h1]
    rw [hx] at e1
    have hx12 := (zrm_some hx).2.1
    have c37 : zz_ca 37 [.ref 17, .ref r] (zK f g) = some (some (.int (nI (dP D + 1))), zK f g) := by
      rw [e_37, x_37_0 _ _ _ hr, p17]; simp (disch := first | omega | assumption) only [nI_add, pk_mul, z_in, z_ix, nI_leI, nI_ltI, nI_eq, z_eq0, z_lt0, z_0le, z_0lt, z_le0, z_n9, z_n1, z_m1lt, z_m9lt, z_m9le, z_m1le, zB_0, zB_1, zz_bi_s, zz_bv_s, zz_bl_s, if_pos, if_neg, if_true, if_false, true_and, and_true, not_true_eq_false, not_false_eq_true, ite_self, e1, zor, x_37_10 _ _ _ _ hr, p2, l_38, ht, x_37_26 _ _ _ _ _ hr, x_37_29 _ _ _ _ hr, p17]
    rw [e_32, x_32_0 _ _ _ _ hr]; simp (disch := first | omega | assumption) only [nI_add, pk_mul, z_in, z_ix, nI_leI, nI_ltI, nI_eq, z_eq0, z_lt0, z_0le, z_0lt, z_le0, z_n9, z_n1, z_m1lt, z_m9lt, z_m9le, z_m1le, zB_0, zB_1, zz_bi_s, zz_bv_s, zz_bl_s, if_pos, if_neg, if_true, if_false, true_and, and_true, not_true_eq_false, not_false_eq_true, ite_self, c37, x_32_42 _ _ _ _ _ hr]; rfl
  · rw [h1]
    rw [hx] at e1
    have hx12 := (zrm_some hx).2.1
    have m17 : zz_u f 18 2 (nI (dB D ||| 2 ^ x)) 17 1 = nI (dP D) := by rw [zu_c (by decide)]; exact p17
    refine ⟨_, ?_, fun a ha => ?_, fun E q => by cases q; exact XD_shut hD x⟩
    · have c37 : zz_ca 37 [.ref 17, .ref r] (zK f g) = some (some (.int (-9)), zK (zz_u (zz_u f 18 2 (nI (dB D ||| 2 ^ x))) 17 1 (nI (dP D + 2))) g) := by
        rw [e_37, x_37_0 _ _ _ hr, p17]; simp (disch := first | omega | assumption) only [nI_add, pk_mul, z_in, z_ix, nI_leI, nI_ltI, nI_eq, z_eq0, z_lt0, z_0le, z_0lt, z_le0, z_n9, z_n1, z_m1lt, z_m9lt, z_m9le, z_m1le, zB_0, zB_1, zz_bi_s, zz_bv_s, zz_bl_s, if_pos, if_neg, if_true, if_false, true_and, and_true, not_true_eq_false, not_false_eq_true, ite_self, e1, zor, x_37_10 _ _ _ _ hr, p2, l_38, ht, Bool.false_eq_true, x_37_26 _ _ _ _ _ hr, z_1shl, z_or, m17]
      rw [e_32, x_32_0 _ _ _ _ hr]; simp (disch := first | omega | assumption) only [nI_add, pk_mul, z_in, z_ix, nI_leI, nI_ltI, nI_eq, z_eq0, z_lt0, z_0le, z_0lt, z_le0, z_n9, z_n1, z_m1lt, z_m9lt, z_m9le, z_m1le, zB_0, zB_1, zz_bi_s, zz_bv_s, zz_bl_s, if_pos, if_neg, if_true, if_false, true_and, and_true, not_true_eq_false, not_false_eq_true, ite_self, c37, x_32_42 _ _ _ _ _ hr]; rfl
    · simp (disch := omega) only [zu_c]
  · refine ⟨f, ?_, fun _ _ => rfl, fun E q => by cases q⟩
    have e39 := l_39 f g (c (dP D))
    rw [hk] at e39
    rw [e_32, x_32_0 _ _ _ _ hr, if_neg h32, if_neg h0, if_neg h1]; simp (disch := first | omega | assumption) only [nI_add, pk_mul, z_in, z_ix, nI_leI, nI_ltI, nI_eq, z_eq0, z_lt0, z_0le, z_0lt, z_le0, z_n9, z_n1, z_m1lt, z_m9lt, z_m9le, z_m1le, zB_0, zB_1, zz_bi_s, zz_bv_s, zz_bl_s, if_pos, if_neg, if_true, if_false, true_and, and_true, not_true_eq_false, not_false_eq_true, ite_self, e39, zor, x_32_47 _ _ _ _ _ hr, p17]; rfl
  · refine ⟨f, ?_, fun _ _ => rfl, fun E q => by cases q⟩
    have e39 := l_39 f g (c (dP D))
    have hk6 := zkn_lt hk
    rw [hk] at e39
    have c40 : zz_ca 40 [.ref 17, .ref r, .int (nI k)] (zK f g) = some (some (.int (nI (dP D))), zK f g) := by
      rw [e_40, x_40_0 _ _ _ _ hr, p0, p17]; simp (disch := first | omega | assumption) only [nI_add, pk_mul, z_in, z_ix, nI_leI, nI_ltI, nI_eq, z_eq0, z_lt0, z_0le, z_0lt, z_le0, z_n9, z_n1, z_m1lt, z_m9lt, z_m9le, z_m1le, zB_0, zB_1, zz_bi_s, zz_bv_s, zz_bl_s, if_pos, if_neg, if_true, if_false, true_and, and_true, not_true_eq_false, not_false_eq_true, ite_self]
    rw [e_32, x_32_0 _ _ _ _ hr, if_neg h32, if_neg h0, if_neg h1]; simp (disch := first | omega | assumption) only [nI_add, pk_mul, z_in, z_ix, nI_leI, nI_ltI, nI_eq, z_eq0, z_lt0, z_0le, z_0lt, z_le0, z_n9, z_n1, z_m1lt, z_m9lt, z_m9le, z_m1le, zB_0, zB_1, zz_bi_s, zz_bv_s, zz_bl_s, if_pos, if_neg, if_true, if_false, true_and, and_true, not_true_eq_false, not_false_eq_true, ite_self, e39, zor, x_32_47 _ _ _ _ _ hr, c40, x_32_65 _ _ _ _ _ _ hr]; rfl
  · refine ⟨f, ?_, fun _ _ => rfl, fun E q => by cases q⟩
    have e39 := l_39 f g (c (dP D))
    have hk6 := zkn_lt hk
    rw [hk] at e39
    rw [hx] at e1
    have c40 : zz_ca 40 [.ref 17, .ref r, .int (nI k)] (zK f g) = some (some (.int (nI (dP D + 1))), zK f g) := by
      rw [e_40, x_40_0 _ _ _ _ hr, p0, p17]; simp (disch := first | omega | assumption) only [nI_add, pk_mul, z_in, z_ix, nI_leI, nI_ltI, nI_eq, z_eq0, z_lt0, z_0le, z_0lt, z_le0, z_n9, z_n1, z_m1lt, z_m9lt, z_m9le, z_m1le, zB_0, zB_1, zz_bi_s, zz_bv_s, zz_bl_s, if_pos, if_neg, if_true, if_false, true_and, and_true, not_true_eq_false, not_false_eq_true, ite_self, e1, zor, x_40_27 _ _ _ _ _ hr, p17]
    rw [e_32, x_32_0 _ _ _ _ hr, if_neg h32, if_neg h0, if_neg h1]; simp (disch := first | omega | assumption) only [nI_add, pk_mul, z_in, z_ix, nI_leI, nI_ltI, nI_eq, z_eq0, z_lt0, z_0le, z_0lt, z_le0, z_n9, z_n1, z_m1lt, z_m9lt, z_m9le, z_m1le, zB_0, zB_1, zz_bi_s, zz_bv_s, zz_bl_s, if_pos, if_neg, if_true, if_false, true_and, and_true, not_true_eq_false, not_false_eq_true, ite_self, e39, zor, x_32_47 _ _ _ _ _ hr, c40, x_32_65 _ _ _ _ _ _ hr]; rfl
  · refine ⟨f, ?_, fun _ _ => rfl, fun E q => by cases q⟩
    have e39 := l_39 f g (c (dP D))
    have hk6 := zkn_lt hk
    have hx12 := (zrm_some hx).2.1
    rw [hk] at e39
    rw [hx] at e1
    obtain ⟨w, e41, w1, w2⟩ := l_41 (g := g) hC (i := dP D + 2) (by omega)
    have w1 := w1 hv
    have c40 : zz_ca 40 [.ref 17, .ref r, .int (nI k)] (zK f g) = some (some (.int (nI (dP D + 2))), zK f g) := by
      rw [e_40, x_40_0 _ _ _ _ hr, p0, p17]; simp (disch := first | omega | assumption) only [nI_add, pk_mul, z_in, z_ix, nI_leI, nI_ltI, nI_eq, z_eq0, z_lt0, z_0le, z_0lt, z_le0, z_n9, z_n1, z_m1lt, z_m9lt, z_m9le, z_m1le, zB_0, zB_1, zz_bi_s, zz_bv_s, zz_bl_s, if_pos, if_neg, if_true, if_false, true_and, and_true, not_true_eq_false, not_false_eq_true, ite_self, e1, zor, x_40_27 _ _ _ _ _ hr, p17, e41, x_40_49 _ _ _ _ _ _ hr, w1]
    rw [e_32, x_32_0 _ _ _ _ hr, if_neg h32, if_neg h0, if_neg h1]; simp (disch := first | omega | assumption) only [nI_add, pk_mul, z_in, z_ix, nI_leI, nI_ltI, nI_eq, z_eq0, z_lt0, z_0le, z_0lt, z_le0, z_n9, z_n1, z_m1lt, z_m9lt, z_m9le, z_m1le, zB_0, zB_1, zz_bi_s, zz_bv_s, zz_bl_s, if_pos, if_neg, if_true, if_false, true_and, and_true, not_true_eq_false, not_false_eq_true, ite_self, e39, zor, x_32_47 _ _ _ _ _ hr, c40, x_32_65 _ _ _ _ _ _ hr]; rfl
  · have e39 := l_39 f g (c (dP D))
    have hk6 := zkn_lt hk
    have hx12 := (zrm_some hx).2.1
    have hv10 := (zfg_some hv).2.1
    rw [hk] at e39
    rw [hx] at e1
    obtain ⟨w, e41, w1, w2⟩ := l_41 (g := g) hC (i := dP D + 2) (by omega)
    rw [w2 v hv] at e41
    have hn : wP (dW D) < 6 := by omega
    have c42 := l_42 (g := g) hn p0 (nI k) (nI x) (nI v)
    have m17 : zz_u (zz_u (zz_u (zz_u (zz_u (zz_u f 19 (wP (dW D)) (nI k)) 20 (wP (dW D)) (nI x)) 21 (wP (dW D)) (nI v)) 22 (wP (dW D)) (nI 0)) 23 (wP (dW D)) (nI 0)) 18 0 (nI (wP (dW D) + 1)) 17 1 = nI (dP D) := by simp (disch := omega) only [zu_c]; exact p17
    refine ⟨_, ?_, fun a ha => ?_, fun E q => by cases q; exact XD_pers hD k x v⟩
    · have c40 : zz_ca 40 [.ref 17, .ref r, .int (nI k)] (zK f g) = some (some (.int (-9)), zK (zz_u (zz_u (zz_u (zz_u (zz_u (zz_u (zz_u f 19 (wP (dW D)) (nI k)) 20 (wP (dW D)) (nI x)) 21 (wP (dW D)) (nI v)) 22 (wP (dW D)) (nI 0)) 23 (wP (dW D)) (nI 0)) 18 0 (nI (wP (dW D) + 1))) 17 1 (nI (dP D + 3))) g) := by
        rw [e_40, x_40_0 _ _ _ _ hr, p0, p17]; simp (disch := first | omega | assumption) only [nI_add, pk_mul, z_in, z_ix, nI_leI, nI_ltI, nI_eq, z_eq0, z_lt0, z_0le, z_0lt, z_le0, z_n9, z_n1, z_m1lt, z_m9lt, z_m9le, z_m1le, zB_0, zB_1, zz_bi_s, zz_bv_s, zz_bl_s, if_pos, if_neg, if_true, if_false, true_and, and_true, not_true_eq_false, not_false_eq_true, ite_self, e1, zor, x_40_27 _ _ _ _ _ hr, p17, e41, x_40_49 _ _ _ _ _ _ hr, c42, x_40_74 _ _ _ _ _ _ hr, m17]
      rw [e_32, x_32_0 _ _ _ _ hr, if_neg h32, if_neg h0, if_neg h1]; simp (disch := first | omega | assumption) only [nI_add, pk_mul, z_in, z_ix, nI_leI, nI_ltI, nI_eq, z_eq0, z_lt0, z_0le, z_0lt, z_le0, z_n9, z_n1, z_m1lt, z_m9lt, z_m9le, z_m1le, zB_0, zB_1, zz_bi_s, zz_bv_s, zz_bl_s, if_pos, if_neg, if_true, if_false, true_and, and_true, not_true_eq_false, not_false_eq_true, ite_self, e39, zor, x_32_47 _ _ _ _ _ hr, c40, x_32_65 _ _ _ _ _ _ hr]; rfl
    · simp (disch := omega) only [zu_c]
theorem l_30_14 {r s : Nat} {c : Nat → Int32} {g : Nat → Nat → Int64} : ∀ (n : Nat) (D : zD) (f : Nat → Nat → Int32), n ≤ 60 → XC r s c f → wfZ s D → XD D f → ∃ f', zz_ev 30 14 [.ref 17, .ref r, .int (nI (60 - n)), .null] [] (zK f g) = some (some (.int (zrz s (zrd c s n D))), zK f' g) ∧ (∀ x, x < 17 ∨ 29 < x → f' x = f x) ∧ ∀ E, zrd c s n D = .inr E → wfZ s E ∧ XH f' 18 (dW E) (dH E) := by
  intro n
  induction n with
  | zero =>
    intro D f _ hC hw hD
    have hr := hC.1
    have p0 : f 18 0 = nI (wP (dW D)) := hD.2.1
    have ps := hC.2.2.2.2.1
    have hP6 := hw.2.1.1
    refine ⟨f, ?_, fun _ _ => rfl, fun E q => ?_⟩
    · rw [x_30_14 _ _ _ _ _ hr]; simp (disch := first | omega | assumption) only [nI_add, pk_mul, z_in, z_ix, nI_leI, nI_ltI, nI_eq, z_eq0, z_lt0, z_0le, z_0lt, z_le0, z_n9, z_n1, z_m1lt, z_m9lt, z_m9le, z_m1le, zB_0, zB_1, zz_bi_s, zz_bv_s, zz_bl_s, if_pos, if_neg, if_true, if_false, true_and, and_true, not_true_eq_false, not_false_eq_true, ite_self, x_30_60 _ _ _ _ hr, p0, ps]
      show _ = some (some (Value.int (if wP (dW D) = 0 then nI s else -9)), zK f g)
      split <;> rfl
    · cases q; exact ⟨hw, hD.2⟩
  | succ n ih =>
    intro D f hn hC hw hD
    have hr := hC.1
    have hs60 := hC.2.2.1
    have p0 : f 18 0 = nI (wP (dW D)) := hD.2.1
    have p17 := hD.1
    have ps := hC.2.2.2.2.1
    have hP6 := hw.2.1.1
    have hp := hw.1
    rw [zrd_s]
    by_cases q : s ≤ dP D
    · rw [if_pos q]
      refine ⟨f, ?_, fun _ _ => rfl, fun E w => ?_⟩
      · rw [x_30_14 _ _ _ _ _ hr]; simp (disch := first | omega | assumption) only [nI_add, pk_mul, z_in, z_ix, nI_leI, nI_ltI, nI_eq, z_eq0, z_lt0, z_0le, z_0lt, z_le0, z_n9, z_n1, z_m1lt, z_m9lt, z_m9le, z_m1le, zB_0, zB_1, zz_bi_s, zz_bv_s, zz_bl_s, if_pos, if_neg, if_true, if_false, true_and, and_true, not_true_eq_false, not_false_eq_true, ite_self, x_30_60 _ _ _ _ hr, p0, ps, p17]
        show _ = some (some (Value.int (if wP (dW D) = 0 then nI s else -9)), zK f g)
        split <;> rfl
      · cases w; exact ⟨hw, hD.2⟩
    · rw [if_neg q]
      have ec := hC.2.2.2.2.2 (dP D) (by omega)
      by_cases q2 : c (dP D) = nI 32
      · rw [if_pos q2]
        have c32 : zz_ca 32 [.ref 17, .ref r, .int (nI 32)] (zK f g) = some (some (.int (-9)), zK (zz_u f 17 1 (nI (dP D + 1))) g) := by
          rw [e_32, x_32_0 _ _ _ _ hr]; simp (disch := first | omega | assumption) only [nI_add, pk_mul, z_in, z_ix, nI_leI, nI_ltI, nI_eq, z_eq0, z_lt0, z_0le, z_0lt, z_le0, z_n9, z_n1, z_m1lt, z_m9lt, z_m9le, z_m1le, zB_0, zB_1, zz_bi_s, zz_bv_s, zz_bl_s, if_pos, if_neg, if_true, if_false, true_and, and_true, not_true_eq_false, not_false_eq_true, ite_self, p17]
        obtain ⟨f', e1, e2, e3⟩ := ih (dNext D) (zz_u f 17 1 (nI (dP D + 1))) (by omega) (XC_fr hC (fun x hx => zu_c (by omega))) (wfZ_next hw (by omega)) (XD_next hD)
        refine ⟨f', ?_, fun x hx => by rw [e2 x hx]; exact zu_c (by omega), e3⟩
        rw [← e1, x_30_14 _ _ _ _ _ hr]; simp (disch := first | omega | assumption) only [nI_add, pk_mul, z_in, z_ix, nI_leI, nI_ltI, nI_eq, z_eq0, z_lt0, z_0le, z_0lt, z_le0, z_n9, z_n1, z_m1lt, z_m9lt, z_m9le, z_m1le, zB_0, zB_1, zz_bi_s, zz_bv_s, zz_bl_s, if_pos, if_neg, if_true, if_false, true_and, and_true, not_true_eq_false, not_false_eq_true, ite_self, ps, p17, ec, q2, c32, x_30_45 _ _ _ _ _ hr]
        rw [hi_30_14 _ _ _ _ _ hr, show 60 - (n + 1) + 1 = 60 - n by omega]
      · rw [if_neg q2]
        obtain ⟨f1, c32, k1, k2⟩ := l_32 (g := g) hC hw hD (by omega) q2
        cases z : zit c s D with
        | inl w =>
          rw [z] at c32
          have hw2 : w < 2 ^ 31 := by
            rcases zit_c c s D with ⟨_, _, y⟩ | ⟨_, _, _, y⟩ | ⟨_, _, x, _, _, y⟩ | ⟨_, _, x, x2, _, _, _, y⟩ | ⟨_, _, _, y⟩ | ⟨_, _, x, _, _, y⟩ | ⟨_, _, x, _, _, y⟩ | ⟨_, _, _, y⟩ | ⟨_, _, k, _, _, y⟩ | ⟨_, _, k, _, _, _, y⟩ | ⟨_, _, k, x, _, _, _, _, y⟩ | ⟨_, _, k, x, v, _, _, _, _, y⟩ <;> rw [z] at y <;> cases y <;> omega
          have n9 : ¬ nI w = -9 := by rw [z_n9 hw2]; exact id
          refine ⟨f1, ?_, k1, fun E y => by cases y⟩
          have c32 : zz_ca 32 [.ref 17, .ref r, .int (c (dP D))] (zK f g) = some (some (.int (nI w)), zK f1 g) := c32
          rw [x_30_14 _ _ _ _ _ hr]; simp (disch := first | omega | assumption) only [nI_add, pk_mul, z_in, z_ix, nI_leI, nI_ltI, nI_eq, z_eq0, z_lt0, z_0le, z_0lt, z_le0, z_n9, z_n1, z_m1lt, z_m9lt, z_m9le, z_m1le, zB_0, zB_1, zz_bi_s, zz_bv_s, zz_bl_s, if_pos, if_neg, if_true, if_false, true_and, and_true, not_true_eq_false, not_false_eq_true, ite_self, ps, p17, ec, c32, x_30_45 _ _ _ _ _ hr, n9]; rfl
        | inr E =>
          rw [z] at c32
          have c32 : zz_ca 32 [.ref 17, .ref r, .int (c (dP D))] (zK f g) = some (some (.int (-9)), zK f1 g) := c32
          obtain ⟨f', e1, e2, e3⟩ := ih E f1 (by omega) (XC_fr hC k1) (zit_r hw z).1 (k2 E z)
          refine ⟨f', ?_, fun x hx => by rw [e2 x hx]; exact k1 x hx, e3⟩
          rw [← e1, x_30_14 _ _ _ _ _ hr]; simp (disch := first | omega | assumption) only [nI_add, pk_mul, z_in, z_ix, nI_leI, nI_ltI, nI_eq, z_eq0, z_lt0, z_0le, z_0lt, z_le0, z_n9, z_n1, z_m1lt, z_m9lt, z_m9le, z_m1le, zB_0, zB_1, zz_bi_s, zz_bv_s, zz_bl_s, if_pos, if_neg, if_true, if_false, true_and, and_true, not_true_eq_false, not_false_eq_true, ite_self, ps, p17, ec, c32, x_30_45 _ _ _ _ _ hr]
          rw [hi_30_14 _ _ _ _ _ hr, show 60 - (n + 1) + 1 = 60 - n by omega]
theorem l_30 {f : Nat → Nat → Int32} {g : Nat → Nat → Int64} {r s : Nat} {c : Nat → Int32} (hC : XC r s c f) : ∃ f', zz_ca 30 [.ref 17, .ref r] (zK f g) = some (some (.int (zrz s (zrd c s 60 d0))), zK f' g) ∧ (∀ x, x < 17 ∨ 29 < x → f' x = f x) ∧ ∀ E, zrd c s 60 d0 = .inr E → wfZ s E ∧ XH f' 18 (dW E) (dH E) := by
  have hr := hC.1
  have k1 : ∀ x, x < 17 ∨ 29 < x → zz_u (zz_u (zz_u (zz_u (zz_u (zz_u f 18 0 (nI 0)) 18 1 (nI 0)) 18 2 (nI 0)) 18 3 (nI 0)) 18 4 (nI 0)) 17 1 (nI 0) x = f x := fun x hx => by simp (disch := omega) only [zu_c]
  obtain ⟨f', e1, e2, e3⟩ := l_30_14 (g := g) 60 d0 (zz_u (zz_u (zz_u (zz_u (zz_u (zz_u f 18 0 (nI 0)) 18 1 (nI 0)) 18 2 (nI 0)) 18 3 (nI 0)) 18 4 (nI 0)) 17 1 (nI 0)) (Nat.le_refl _) (XC_fr hC k1) (wfZ_0 s) ⟨zu_s, by simp (disch := omega) only [zu_c, zu_i, zu_s]; rfl, by simp (disch := omega) only [zu_c, zu_i, zu_s]; rfl, by simp (disch := omega) only [zu_c, zu_i, zu_s]; rfl, by simp (disch := omega) only [zu_c, zu_i, zu_s]; rfl, by simp (disch := omega) only [zu_c, zu_i, zu_s]; rfl, fun p hp => absurd hp (Nat.not_lt_zero _), fun p hp => absurd hp (Nat.not_lt_zero _), fun p hp => absurd hp (Nat.not_lt_zero _)⟩
  refine ⟨f', ?_, fun x hx => by rw [e2 x hx, k1 x hx], e3⟩
  rw [← e1, e_30, x_30_0 _ _ _ hr, e_31, x_31_0, zz_bv_s, x_30_7 _ _ _ hr]
