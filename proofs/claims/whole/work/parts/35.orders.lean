/-! ORDERS -/
/-- the last place that is below the next one -/
def zfi (o : Nat → Nat) : Nat → Option Nat
  | 0 => none
  | c + 1 => if o c ≤ o (c + 1) then some c else zfi o c
theorem zfi_s {o : Nat → Nat} {c : Nat} : zfi o (c + 1) = if o c ≤ o (c + 1) then some c else zfi o c := rfl
theorem zfi_ok {o : Nat → Nat} : ∀ {c i : Nat}, zfi o c = some i → i < c ∧ o i ≤ o (i + 1)
  | 0, i, h => by cases h
  | c + 1, i, h => by
    rw [zfi_s] at h
    split at h
    · cases h; exact ⟨by omega, by assumption⟩
    · have := zfi_ok h; exact ⟨by omega, this.2⟩
/-- the last place not below place i -/
def zfj (o : Nat → Nat) (i : Nat) : Nat → Nat
  | 0 => 0
  | j + 1 => if o i ≤ o (j + 1) then j + 1 else zfj o i j
theorem zfj_s {o : Nat → Nat} {i j : Nat} : zfj o i (j + 1) = if o i ≤ o (j + 1) then j + 1 else zfj o i j := rfl
theorem zfj_ok {o : Nat → Nat} {i : Nat} (hi : o i ≤ o (i + 1)) : ∀ {j : Nat}, i < j → i < zfj o i j ∧ zfj o i j ≤ j
  | 0, h => by omega
  | j + 1, h => by
    rw [zfj_s]
    split
    · omega
    · rename_i q
      by_cases e : i = j
      · subst e; exact absurd hi q
      · have := zfj_ok hi (j := j) (by omega); omega
def zsw (o : Nat → Nat) (i j : Nat) : Nat → Nat := fun k => if k = j then o i else if k = i then o j else o k
def zrv : Nat → (Nat → Nat) → Nat → Nat → (Nat → Nat)
  | 0, o, _, _ => o
  | d + 1, o, a, b => if b ≤ a then o else zrv d (zsw o a b) (a + 1) (b - 1)
theorem zrv_s {d a b : Nat} {o : Nat → Nat} : zrv (d + 1) o a b = if b ≤ a then o else zrv d (zsw o a b) (a + 1) (b - 1) := rfl
def znp (n : Nat) (o : Nat → Nat) : Option (Nat → Nat) := match zfi o (n - 1) with
  | none => none
  | some i => some (zrv 8 (zsw o i (zfj o i (n - 1))) (i + 1) (n - 1))
/-- numbers of a cell -/
def zOr (f : Nat → Nat → Int32) (c n : Nat) (o : Nat → Nat) : Prop := ∀ k < n, f c k = nI (o k)
theorem zOr_sw {f : Nat → Nat → Int32} {c n : Nat} {o : Nat → Nat} (h : zOr f c n o) {i j : Nat} (hi : i < n) (hj : j < n) : zOr (zz_u (zz_u f c i (f c j)) c j (f c i)) c n (zsw o i j) := by
  intro k hk
  unfold zsw zz_u
  by_cases h1 : k = j
  · rw [if_pos ⟨rfl, h1⟩, if_pos h1]; exact h i hi
  · rw [if_neg (fun q => h1 q.2), if_neg h1]
    by_cases h2 : k = i
    · rw [if_pos ⟨rfl, h2⟩, if_pos h2]; exact h j hj
    · rw [if_neg (fun q => h2 q.2), if_neg h2]; exact h k hk
theorem zOr_lt {n : Nat} {o : Nat → Nat} (h : ∀ k < n, o k < 2 ^ 31) {i j : Nat} (hi : i < n) (hj : j < n) : ∀ k < n, zsw o i j k < 2 ^ 31 := by
  intro k hk
  unfold zsw
  split
  · exact h i hi
  · split
    · exact h j hj
    · exact h k hk
theorem l_98 (f : Nat → Nat → Int32) (g : Nat → Nat → Int64) {r i j : Nat} (hr : zs_O r) (hi : i < 6) (hj : j < 6) : zz_ca 98 [.ref r, .int (nI i), .int (nI j)] (zK f g) = some (none, zK (zz_u (zz_u f (r + 1) i (f (r + 1) j)) (r + 1) j (f (r + 1) i)) g) := by
  rw [e_98, x_98_0 _ _ _ _ _ hr]; simp (disch := first | omega | assumption) only [nI_add, pk_mul, z_in, z_ix, nI_leI, nI_ltI, nI_eq, z_eq0, z_lt0, z_0le, z_0lt, z_le0, z_n9, z_n1, z_m1lt, z_m9lt, z_m9le, z_m1le, zB_0, zB_1, zz_bi_s, zz_bv_s, zz_bl_s, if_pos, if_neg, if_true, if_false, true_and, and_true, not_true_eq_false, not_false_eq_true, ite_self]
theorem l_97_91 {r n : Nat} (hr : zs_O r) (hn : n ≤ 6) {g : Nat → Nat → Int64} : ∀ (d : Nat) (f : Nat → Nat → Int32) (o : Nat → Nat) (a b : Nat), b < n → a < 7 → b - a ≤ d → zOr f (r + 1) n o → ∃ f', zz_ev 97 91 [.ref r, .null, .null, .int (nI a), .int (nI b)] [] (zK f g) = some (some (.int (nI 1)), zK f' g) ∧ (∀ x, x ≠ r + 1 → f' x = f x) ∧ zOr f' (r + 1) n (zrv d o a b)
  | 0, f, o, a, b, hb, ha, hd, h => by
    refine ⟨f, ?_, fun _ _ => rfl, h⟩
    rw [x_97_91 _ _ _ _ _ _ _ hr]; simp (disch := first | omega | assumption) only [nI_add, pk_mul, z_in, z_ix, nI_leI, nI_ltI, nI_eq, z_eq0, z_lt0, z_0le, z_0lt, z_le0, z_n9, z_n1, z_m1lt, z_m9lt, z_m9le, z_m1le, zB_0, zB_1, zz_bi_s, zz_bv_s, zz_bl_s, if_pos, if_neg, if_true, if_false, true_and, and_true, not_true_eq_false, not_false_eq_true, ite_self]
  | d + 1, f, o, a, b, hb, ha, hd, h => by
    by_cases e : b ≤ a
    · refine ⟨f, ?_, fun _ _ => rfl, by rw [zrv_s, if_pos e]; exact h⟩
      rw [x_97_91 _ _ _ _ _ _ _ hr]; simp (disch := first | omega | assumption) only [nI_add, pk_mul, z_in, z_ix, nI_leI, nI_ltI, nI_eq, z_eq0, z_lt0, z_0le, z_0lt, z_le0, z_n9, z_n1, z_m1lt, z_m9lt, z_m9le, z_m1le, zB_0, zB_1, zz_bi_s, zz_bv_s, zz_bl_s, if_pos, if_neg, if_true, if_false, true_and, and_true, not_true_eq_false, not_false_eq_true, ite_self]
    · obtain ⟨f', e1, e2, e3⟩ := l_97_91 hr hn d _ (zsw o a b) (a + 1) (b - 1) (by omega) (by omega) (by omega) (zOr_sw h (i := a) (j := b) (by omega) hb)
      refine ⟨f', ?_, fun x hx => by rw [e2 x hx, zu_c hx, zu_c hx], by rw [zrv_s, if_neg e]; exact e3⟩
      rw [x_97_91 _ _ _ _ _ _ _ hr]; simp (disch := first | omega | assumption) only [nI_add, pk_mul, z_in, z_ix, nI_leI, nI_ltI, nI_eq, z_eq0, z_lt0, z_0le, z_0lt, z_le0, z_n9, z_n1, z_m1lt, z_m9lt, z_m9le, z_m1le, zB_0, zB_1, zz_bi_s, zz_bv_s, zz_bl_s, if_pos, if_neg, if_true, if_false, true_and, and_true, not_true_eq_false, not_false_eq_true, ite_self, l_98 _ _ hr (i := a) (j := b), x_97_104 _ _ _ _ _ hr, z_dec]
      exact e1
theorem l_97_47 {f : Nat → Nat → Int32} {g : Nat → Nat → Int64} {r n : Nat} (hr : zs_O r) (hn : n ≤ 6) {o : Nat → Nat} (ho : ∀ k < n, o k < 2 ^ 31) (h : zOr f (r + 1) n o) {i : Nat} (hi : i + 1 < n) (hi2 : o i ≤ o (i + 1)) : ∀ j, i < j → j < n → zz_ev 97 47 [.ref r, .int (nI i), .int (nI j), .null, .null] [] (zK f g) = zz_ev 97 73 [.ref r, .int (nI i), .int (nI (zfj o i j)), .null, .null] [] (zK f g)
  | 0, h1, h2 => by omega
  | j + 1, h1, h2 => by
    have m1 := h i (by omega)
    have m2 := h (j + 1) h2
    have l1 := ho i (by omega)
    have l2 := ho (j + 1) h2
    rw [x_97_47 _ _ _ _ _ hr, zfj_s]; simp (disch := first | omega | assumption) only [nI_add, pk_mul, z_in, z_ix, nI_leI, nI_ltI, nI_eq, z_eq0, z_lt0, z_0le, z_0lt, z_le0, z_n9, z_n1, z_m1lt, z_m9lt, z_m9le, z_m1le, zB_0, zB_1, zz_bi_s, zz_bv_s, zz_bl_s, if_pos, if_neg, if_true, if_false, true_and, and_true, not_true_eq_false, not_false_eq_true, ite_self, m1, m2]
    by_cases e : o i ≤ o (j + 1)
    · rw [if_pos e, if_pos e]
    · rw [if_neg e, if_neg e, z_dec (by omega), show j + 1 - 1 = j by omega]
      have : i ≠ j := by intro q; subst q; exact e hi2
      exact l_97_47 hr hn ho h hi hi2 j (by omega) (by omega)
theorem l_97_7 {f : Nat → Nat → Int32} {g : Nat → Nat → Int64} {r n : Nat} (hr : zs_O r) (hn : n ≤ 6) {o : Nat → Nat} (ho : ∀ k < n, o k < 2 ^ 31) (h : zOr f (r + 1) n o) : ∀ c, c < n → zz_ev 97 7 [.ref r, .int (nI c - nI 1), .null, .null, .null] [] (zK f g) = zz_ev 97 34 [.ref r, .int (match zfi o c with
    | some i => nI i
    | none => -1), .null, .null, .null] [] (zK f g)
  | 0, _ => by
    rw [x_97_7 _ _ _ _ hr, if_pos (by decide +kernel)]; rfl
  | c + 1, hc => by
    have m1 := h c (by omega)
    have m2 := h (c + 1) hc
    have l1 := ho c (by omega)
    have l2 := ho (c + 1) hc
    rw [pk_sub (by omega), show c + 1 - 1 = c by omega, x_97_7 _ _ _ _ hr, zfi_s]; simp (disch := first | omega | assumption) only [nI_add, pk_mul, z_in, z_ix, nI_leI, nI_ltI, nI_eq, z_eq0, z_lt0, z_0le, z_0lt, z_le0, z_n9, z_n1, z_m1lt, z_m9lt, z_m9le, z_m1le, zB_0, zB_1, zz_bi_s, zz_bv_s, zz_bl_s, if_pos, if_neg, if_true, if_false, true_and, and_true, not_true_eq_false, not_false_eq_true, ite_self, m1, m2]
    by_cases e : o c ≤ o (c + 1)
    · rw [if_pos e, if_pos e]
    · rw [if_neg e, if_neg e, show nI c + -1 = nI c - nI 1 by rw [Int32.sub_eq_add_neg]; rfl]
      exact l_97_7 hr hn ho h c (by omega)
theorem l_97 {f : Nat → Nat → Int32} {g : Nat → Nat → Int64} {r n : Nat} (hr : zs_O r) (hn : n ≤ 6) {o : Nat → Nat} (ho : ∀ k < n, o k < 2 ^ 31) (hs : f r 1 = nI n) (h : zOr f (r + 1) n o) : (znp n o = none ∧ zz_ca 97 [.ref r] (zK f g) = some (some (.int (nI 0)), zK f g)) ∨ ∃ o' f', znp n o = some o' ∧ zz_ca 97 [.ref r] (zK f g) = some (some (.int (nI 1)), zK f' g) ∧ (∀ x, x ≠ r + 1 → f' x = f x) ∧ zOr f' (r + 1) n o' := by
  rw [e_97, x_97_0 _ _ _ hr, hs]
  by_cases h0 : n = 0
  · subst h0
    left
    refine ⟨rfl, ?_⟩
    rw [show nI 0 - nI 2 = -2 by decide +kernel, x_97_7 _ _ _ _ hr, if_pos (by decide +kernel), x_97_34 _ _ _ _ hr, if_neg (by decide +kernel)]
  · rw [show nI n - nI 2 = nI (n - 1) - nI 1 by rw [show nI (n - 1) = nI n - nI 1 from (pk_sub (by omega)).symm, show nI 2 = nI 1 + nI 1 from (nI_add 1 1).symm]; grind, l_97_7 hr hn ho h (n - 1) (by omega)]
    unfold znp
    cases e : zfi o (n - 1) with
    | none =>
      left
      refine ⟨rfl, ?_⟩
      show zz_ev 97 34 [.ref r, .int (-1), .null, .null, .null] [] (zK f g) = _
      rw [x_97_34 _ _ _ _ hr, if_neg (by decide +kernel)]
    | some i =>
      right
      have hi := zfi_ok e
      have hj := zfj_ok hi.2 (j := n - 1) (by omega)
      obtain ⟨f', e1, e2, e3⟩ := l_97_91 hr hn (g := g) 8 _ (zsw o i (zfj o i (n - 1))) (i + 1) (n - 1) (by omega) (by omega) (by omega) (zOr_sw h (i := i) (j := zfj o i (n - 1)) (by omega) (by omega))
      refine ⟨_, f', rfl, ?_, fun x hx => by rw [e2 x hx, zu_c hx, zu_c hx], e3⟩
      show zz_ev 97 34 [.ref r, .int (nI i), .null, .null, .null] [] (zK f g) = _
      rw [x_97_34 _ _ _ _ hr, hs]
      simp (disch := first | omega | assumption) only [nI_add, pk_mul, z_in, z_ix, nI_leI, nI_ltI, nI_eq, z_eq0, z_lt0, z_0le, z_0lt, z_le0, z_n9, z_n1, z_m1lt, z_m9lt, z_m9le, z_m1le, zB_0, zB_1, zz_bi_s, zz_bv_s, zz_bl_s, if_pos, if_neg, if_true, if_false, true_and, and_true, not_true_eq_false, not_false_eq_true, ite_self, pk_sub]
      rw [l_97_47 hr hn ho h (by omega) hi.2 (n - 1) (by omega) (by omega), x_97_73 _ _ _ _ _ hr, l_98 _ _ hr (by omega) (by omega), zz_bv_s, x_97_79 _ _ _ _ _ hr, hw_97_91 _ _ _ _ _ _ _ hr, zu_c (by omega), zu_c (by omega), hs]
      simp (disch := first | omega | assumption) only [nI_add, pk_mul, z_in, z_ix, nI_leI, nI_ltI, nI_eq, z_eq0, z_lt0, z_0le, z_0lt, z_le0, z_n9, z_n1, z_m1lt, z_m9lt, z_m9le, z_m1le, zB_0, zB_1, zz_bi_s, zz_bv_s, zz_bl_s, if_pos, if_neg, if_true, if_false, true_and, and_true, not_true_eq_false, not_false_eq_true, ite_self, pk_sub]
      exact e1
theorem l_95 (f : Nat → Nat → Int32) (g : Nat → Nat → Int64) {r n : Nat} (hr : zs_O r) (hn : n ≤ 6) : ∃ f', zz_ca 95 [.ref r, .int (nI n)] (zK f g) = some (none, zK f' g) ∧ (∀ x, x ≠ r → x ≠ r + 1 → f' x = f x) ∧ f' r 1 = nI n ∧ zOr f' (r + 1) n (fun k => k) := by
  have e0 : (if nI 0 < (if nI 6 < nI n then nI 6 else nI n) then (if nI 6 < nI n then nI 6 else nI n) else nI 0) = nI n := by
    simp (disch := omega) only [nI_add, pk_mul, z_in, z_ix, nI_leI, nI_ltI, nI_eq, z_eq0, z_lt0, z_0le, z_0lt, z_le0, z_n9, z_n1, z_m1lt, z_m9lt, z_m9le, z_m1le, zB_0, zB_1, zz_bi_s, zz_bv_s, zz_bl_s, if_pos, if_neg, if_true, if_false, true_and, and_true, not_true_eq_false, not_false_eq_true, ite_self]
    by_cases q : 0 < n
    · rw [if_pos q]
    · rw [if_neg q, show n = 0 by omega]
  rw [e_95, x_95_0 _ _ _ _ hr, e0, hw_95_16 _ _ _ _ _ hr]
  have c0 : ∀ i, zbs (zz_u f r 1 (nI n)) (r + 1) (fun k => k) i r 1 = nI n := fun i => by rw [zbs_c (by omega), zu_s]
  have key := z_lp (fun i => zz_ev 95 16 [.ref r, .null, .int (nI i)] [] (zK (zbs (zz_u f r 1 (nI n)) (r + 1) (fun k => k) i) g)) n (fun i hi => ?_) 0 (by omega)
  · rw [zbs_0] at key
    refine ⟨zbs (zz_u f r 1 (nI n)) (r + 1) (fun k => k) n, key.trans ?_, fun x h1 h2 => by rw [zbs_c h2, zu_c h1], c0 n, fun k hk => zbs_i hk⟩
    rw [x_95_16 _ _ _ _ _ hr, c0]; simp (disch := first | omega | assumption) only [nI_add, pk_mul, z_in, z_ix, nI_leI, nI_ltI, nI_eq, z_eq0, z_lt0, z_0le, z_0lt, z_le0, z_n9, z_n1, z_m1lt, z_m9lt, z_m9le, z_m1le, zB_0, zB_1, zz_bi_s, zz_bv_s, zz_bl_s, if_pos, if_neg, if_true, if_false, true_and, and_true, not_true_eq_false, not_false_eq_true, ite_self]
  · show zz_ev 95 16 _ _ _ = zz_ev 95 16 _ _ _
    rw [x_95_16 _ _ _ _ _ hr, c0]; simp (disch := first | omega | assumption) only [nI_add, pk_mul, z_in, z_ix, nI_leI, nI_ltI, nI_eq, z_eq0, z_lt0, z_0le, z_0lt, z_le0, z_n9, z_n1, z_m1lt, z_m9lt, z_m9le, z_m1le, zB_0, zB_1, zz_bi_s, zz_bv_s, zz_bl_s, if_pos, if_neg, if_true, if_false, true_and, and_true, not_true_eq_false, not_false_eq_true, ite_self]
    rw [show zz_u (zbs (zz_u f r 1 (nI n)) (r + 1) (fun k => k) i) (r + 1) i (nI i) = zbs (zz_u f r 1 (nI n)) (r + 1) (fun k => k) (i + 1) from zbs_u]
/-! the reference's -/
theorem l_213_100 {n : Nat} (hn : n ≤ 8) {g : Nat → Nat → Int64} : ∀ (d : Nat) (f : Nat → Nat → Int32) (o : Nat → Nat) (a b : Nat), b < n → a < 9 → b - a ≤ d → zOr f 123 n o → ∃ f', zz_ev 213 100 [.ref 112, .null, .null, .null, .null, .int (nI a), .int (nI b)] [] (zK f g) = some (some (.int (nI 1)), zK f' g) ∧ (∀ x, x ≠ 123 → f' x = f x) ∧ zOr f' 123 n (zrv d o a b)
  | 0, f, o, a, b, hb, ha, hd, h => by
    refine ⟨f, ?_, fun _ _ => rfl, h⟩
    rw [x_213_100]; simp (disch := first | omega | assumption) only [nI_add, pk_mul, z_in, z_ix, nI_leI, nI_ltI, nI_eq, z_eq0, z_lt0, z_0le, z_0lt, z_le0, z_n9, z_n1, z_m1lt, z_m9lt, z_m9le, z_m1le, zB_0, zB_1, zz_bi_s, zz_bv_s, zz_bl_s, if_pos, if_neg, if_true, if_false, true_and, and_true, not_true_eq_false, not_false_eq_true, ite_self]
  | d + 1, f, o, a, b, hb, ha, hd, h => by
    by_cases e : b ≤ a
    · refine ⟨f, ?_, fun _ _ => rfl, by rw [zrv_s, if_pos e]; exact h⟩
      rw [x_213_100]; simp (disch := first | omega | assumption) only [nI_add, pk_mul, z_in, z_ix, nI_leI, nI_ltI, nI_eq, z_eq0, z_lt0, z_0le, z_0lt, z_le0, z_n9, z_n1, z_m1lt, z_m9lt, z_m9le, z_m1le, zB_0, zB_1, zz_bi_s, zz_bv_s, zz_bl_s, if_pos, if_neg, if_true, if_false, true_and, and_true, not_true_eq_false, not_false_eq_true, ite_self]
    · obtain ⟨f', e1, e2, e3⟩ := l_213_100 hn d _ (zsw o a b) (a + 1) (b - 1) (by omega) (by omega) (by omega) (zOr_sw h (i := a) (j := b) (by omega) hb)
      refine ⟨f', ?_, fun x hx => by rw [e2 x hx, zu_c hx, zu_c hx], by rw [zrv_s, if_neg e]; exact e3⟩
      rw [x_213_100]; simp (disch := first | omega | assumption) only [nI_add, pk_mul, z_in, z_ix, nI_leI, nI_ltI, nI_eq, z_eq0, z_lt0, z_0le, z_0lt, z_le0, z_n9, z_n1, z_m1lt, z_m9lt, z_m9le, z_m1le, zB_0, zB_1, zz_bi_s, zz_bv_s, zz_bl_s, if_pos, if_neg, if_true, if_false, true_and, and_true, not_true_eq_false, not_false_eq_true, ite_self, z_dec]
      rw [hw_213_100]
      exact e1
theorem l_213_41 {f : Nat → Nat → Int32} {g : Nat → Nat → Int64} {n : Nat} (hn : n ≤ 8) {o : Nat → Nat} (ho : ∀ k < n, o k < 2 ^ 31) (h : zOr f 123 n o) {i : Nat} (hi : i + 1 < n) (hi2 : o i ≤ o (i + 1)) : ∀ j, i < j → j < n → zz_ev 213 41 [.ref 112, .int (nI n), .int (nI i), .int (nI j), .null, .null, .null] [] (zK f g) = zz_ev 213 100 [.ref 112, .null, .null, .null, .null, .int (nI (i + 1)), .int (nI (n - 1))] [] (zK (zz_u (zz_u f 123 i (f 123 (zfj o i j))) 123 (zfj o i j) (f 123 i)) g)
  | 0, h1, h2 => by omega
  | j + 1, h1, h2 => by
    have m1 := h i (by omega)
    have m2 := h (j + 1) h2
    have l1 := ho i (by omega)
    have l2 := ho (j + 1) h2
    rw [x_213_41, zfj_s]; simp (disch := first | omega | assumption) only [nI_add, pk_mul, z_in, z_ix, nI_leI, nI_ltI, nI_eq, z_eq0, z_lt0, z_0le, z_0lt, z_le0, z_n9, z_n1, z_m1lt, z_m9lt, z_m9le, z_m1le, zB_0, zB_1, zz_bi_s, zz_bv_s, zz_bl_s, if_pos, if_neg, if_true, if_false, true_and, and_true, not_true_eq_false, not_false_eq_true, ite_self, m1, m2, pk_sub]
    by_cases e : o i ≤ o (j + 1)
    · rw [if_pos e, if_pos e, hw_213_100, m2]
    · rw [if_neg e, if_neg e, z_dec (by omega), show j + 1 - 1 = j by omega]
      have : i ≠ j := by intro q; subst q; exact e hi2
      rw [l_213_41 hn ho h hi hi2 j (by omega) (by omega), m1]
theorem l_213_4 {f : Nat → Nat → Int32} {g : Nat → Nat → Int64} {n : Nat} (hn : n ≤ 8) {o : Nat → Nat} (ho : ∀ k < n, o k < 2 ^ 31) (h : zOr f 123 n o) : ∀ c, c < n → zz_ev 213 4 [.ref 112, .int (nI n), .int (nI c - nI 1), .null, .null, .null, .null] [] (zK f g) = zz_ev 213 31 [.ref 112, .int (nI n), .int (match zfi o c with
    | some i => nI i
    | none => -1), .null, .null, .null, .null] [] (zK f g)
  | 0, _ => by
    rw [x_213_4, if_pos (by decide +kernel)]; rfl
  | c + 1, hc => by
    have m1 := h c (by omega)
    have m2 := h (c + 1) hc
    have l1 := ho c (by omega)
    have l2 := ho (c + 1) hc
    rw [pk_sub (by omega), show c + 1 - 1 = c by omega, x_213_4, zfi_s]; simp (disch := first | omega | assumption) only [nI_add, pk_mul, z_in, z_ix, nI_leI, nI_ltI, nI_eq, z_eq0, z_lt0, z_0le, z_0lt, z_le0, z_n9, z_n1, z_m1lt, z_m9lt, z_m9le, z_m1le, zB_0, zB_1, zz_bi_s, zz_bv_s, zz_bl_s, if_pos, if_neg, if_true, if_false, true_and, and_true, not_true_eq_false, not_false_eq_true, ite_self, m1, m2]
    by_cases e : o c ≤ o (c + 1)
    · rw [if_pos e, if_pos e]
    · rw [if_neg e, if_neg e, show nI c + -1 = nI c - nI 1 by rw [Int32.sub_eq_add_neg]; rfl]
      exact l_213_4 hn ho h c (by omega)
theorem l_213 {f : Nat → Nat → Int32} {g : Nat → Nat → Int64} {n : Nat} (hn : n ≤ 8) {o : Nat → Nat} (ho : ∀ k < n, o k < 2 ^ 31) (h : zOr f 123 n o) : (znp n o = none ∧ zz_ca 213 [.ref 112, .int (nI n)] (zK f g) = some (some (.int (nI 0)), zK f g)) ∨ ∃ o' f', znp n o = some o' ∧ zz_ca 213 [.ref 112, .int (nI n)] (zK f g) = some (some (.int (nI 1)), zK f' g) ∧ (∀ x, x ≠ 123 → f' x = f x) ∧ zOr f' 123 n o' := by
  rw [e_213, x_213_0]
  by_cases h0 : n = 0
  · subst h0
    left
    refine ⟨rfl, ?_⟩
    rw [show nI 0 - nI 2 = -2 by decide +kernel, x_213_4, if_pos (by decide +kernel), x_213_31, if_neg (by decide +kernel)]
  · rw [show nI n - nI 2 = nI (n - 1) - nI 1 by rw [show nI (n - 1) = nI n - nI 1 from (pk_sub (by omega)).symm, show nI 2 = nI 1 + nI 1 from (nI_add 1 1).symm]; grind, l_213_4 hn ho h (n - 1) (by omega)]
    unfold znp
    cases e : zfi o (n - 1) with
    | none =>
      left
      refine ⟨rfl, ?_⟩
      show zz_ev 213 31 [.ref 112, .int (nI n), .int (-1), .null, .null, .null, .null] [] (zK f g) = _
      rw [x_213_31, if_neg (by decide +kernel)]
    | some i =>
      right
      have hi := zfi_ok e
      have hj := zfj_ok hi.2 (j := n - 1) (by omega)
      obtain ⟨f', e1, e2, e3⟩ := l_213_100 hn (g := g) 8 _ (zsw o i (zfj o i (n - 1))) (i + 1) (n - 1) (by omega) (by omega) (by omega) (zOr_sw h (i := i) (j := zfj o i (n - 1)) (by omega) (by omega))
      refine ⟨_, f', rfl, ?_, fun x hx => by rw [e2 x hx, zu_c hx, zu_c hx], e3⟩
      show zz_ev 213 31 [.ref 112, .int (nI n), .int (nI i), .null, .null, .null, .null] [] (zK f g) = _
      rw [x_213_31]
      simp (disch := first | omega | assumption) only [nI_add, pk_mul, z_in, z_ix, nI_leI, nI_ltI, nI_eq, z_eq0, z_lt0, z_0le, z_0lt, z_le0, z_n9, z_n1, z_m1lt, z_m9lt, z_m9le, z_m1le, zB_0, zB_1, zz_bi_s, zz_bv_s, zz_bl_s, if_pos, if_neg, if_true, if_false, true_and, and_true, not_true_eq_false, not_false_eq_true, ite_self, pk_sub]
      rw [l_213_41 hn ho h (by omega) hi.2 (n - 1) (by omega) (by omega)]
      exact e1
/-! all orders, one by one -/
abbrev zfl' (l : List Nat) : Nat → Nat := fun i => l.getD i 0
/-- from this order on the last one is reached within d steps; all on the way are orders -/
def zch (n : Nat) : Nat → List Nat → Bool
  | 0, _ => false
  | d + 1, l => (List.range n).all (fun i => decide (l.getD i 0 < n) && l.contains i) && l.length == n && (match znp n (fun i => l.getD i 0) with
    | none => true
    | some o => zch n d ((List.range n).map o))
theorem zch_1 {n d : Nat} {l : List Nat} (h : zch n (d + 1) l = true) : (∀ i < n, l.getD i 0 < n ∧ ∃ k < n, l.getD k 0 = i) ∧ ∀ o, znp n (fun i => l.getD i 0) = some o → zch n d ((List.range n).map o) = true := by
  have h' : ((List.range n).all (fun i => decide (l.getD i 0 < n) && l.contains i) && l.length == n && (match znp n (fun i => l.getD i 0) with
    | none => true
    | some o => zch n d ((List.range n).map o))) = true := h
  rw [Bool.and_eq_true, Bool.and_eq_true, List.all_eq_true] at h'
  obtain ⟨⟨h1, h2⟩, h3⟩ := h'
  have h2 : l.length = n := by simpa using h2
  refine ⟨fun i hi => ?_, fun o ho => by rw [ho] at h3; exact h3⟩
  have := h1 i (List.mem_range.mpr hi)
  rw [Bool.and_eq_true, decide_eq_true_eq] at this
  refine ⟨this.1, ?_⟩
  have hm : i ∈ l := by simpa using this.2
  obtain ⟨k, hk, e⟩ := List.getElem_of_mem hm
  exact ⟨k, by omega, by rw [List.getD_eq_getElem?_getD, List.getElem?_eq_getElem hk]; exact e⟩
theorem z_rmap {n : Nat} {o : Nat → Nat} {i : Nat} (hi : i < n) : ((List.range n).map o).getD i 0 = o i := by
  rw [List.getD_eq_getElem?_getD, List.getElem?_map, List.getElem?_range hi]; rfl
theorem z_rid {n i : Nat} (hi : i < n) : (List.range n).getD i 0 = i := by
  rw [List.getD_eq_getElem?_getD, List.getElem?_range hi]; rfl
theorem zOr_c {f : Nat → Nat → Int32} {c n : Nat} {o o' : Nat → Nat} (h : zOr f c n o) (e : ∀ k < n, o' k = o k) : zOr f c n o' := fun k hk => by rw [e k hk]; exact h k hk
