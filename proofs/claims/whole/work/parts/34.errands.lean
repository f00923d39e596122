/-! ERRANDS -/
def zro (c : Nat → Int32) (n : Nat) : Bool := zal (fun i => decide (zz_in (c i) 12)) n
theorem l_90a {f : Nat → Nat → Int32} {g : Nat → Nat → Int64} {r : Nat} (hr : r < 6) (M : Int32) (hs : f (56 + 2 * r) 1 = -1) : zz_ca 90 [.ref (56 + 2 * r), .int M] (zK f g) = some (some (.int (nI 1)), zK f g) := by
  have hS := zs_S_row r hr
  rw [e_90, x_90_0 _ _ _ _ hS, l_17 _ _ hS, zz_bi_s, x_90_4 _ _ _ _ _ hS, hs]; simp (disch := omega) only [nI_add, pk_mul, z_in, z_ix, nI_leI, nI_ltI, nI_eq, z_eq0, z_lt0, z_0le, z_0lt, z_le0, z_n9, z_n1, z_m1lt, z_m9lt, z_m9le, z_m1le, zB_0, zB_1, zz_bi_s, zz_bv_s, zz_bl_s, if_pos, if_neg, if_true, if_false, true_and, and_true, not_true_eq_false, not_false_eq_true, ite_self]
theorem l_90b {f : Nat → Nat → Int32} {g : Nat → Nat → Int64} {r n M : Nat} (hr : r < 6) (hn : n ≤ 40) (hM : M < n) (hs : f (56 + 2 * r) 1 = nI n) : zz_ca 90 [.ref (56 + 2 * r), .int (nI M)] (zK f g) = some (some (.int (nI 5)), zK f g) := by
  have hS := zs_S_row r hr
  rw [e_90, x_90_0 _ _ _ _ hS, l_17 _ _ hS, zz_bi_s, x_90_4 _ _ _ _ _ hS, hs]; simp (disch := omega) only [nI_add, pk_mul, z_in, z_ix, nI_leI, nI_ltI, nI_eq, z_eq0, z_lt0, z_0le, z_0lt, z_le0, z_n9, z_n1, z_m1lt, z_m9lt, z_m9le, z_m1le, zB_0, zB_1, zz_bi_s, zz_bv_s, zz_bl_s, if_pos, if_neg, if_true, if_false, true_and, and_true, not_true_eq_false, not_false_eq_true, ite_self]
theorem l_90 {f : Nat → Nat → Int32} {g : Nat → Nat → Int64} {r n M : Nat} (hr : r < 6) (hM : M ≤ 40) (hn : n ≤ M) (hs : f (56 + 2 * r) 1 = nI n) : zz_ca 90 [.ref (56 + 2 * r), .int (nI M)] (zK f g) = some (some (.int (if zro (f (56 + 2 * r + 1)) n = true then nI 0 else nI 3)), zK f g) := by
  have hS := zs_S_row r hr
  rw [e_90, x_90_0 _ _ _ _ hS, l_17 _ _ hS, zz_bi_s, x_90_4 _ _ _ _ _ hS, hs]
  simp (disch := omega) only [nI_add, pk_mul, z_in, z_ix, nI_leI, nI_ltI, nI_eq, z_eq0, z_lt0, z_0le, z_0lt, z_le0, z_n9, z_n1, z_m1lt, z_m9lt, z_m9le, z_m1le, zB_0, zB_1, zz_bi_s, zz_bv_s, zz_bl_s, if_pos, if_neg, if_true, if_false, true_and, and_true, not_true_eq_false, not_false_eq_true, ite_self]
  rw [hw_90_21 _ _ _ _ _ hS]
  refine (z_srch (fun i => zz_ev 90 21 [.ref (56 + 2 * r), .null, .int (nI i)] [] (zK f g)) (fun _ => some (some (.int (nI 3)), zK f g)) (some (some (.int (nI 0)), zK f g)) (fun i => !decide (zz_in (f (56 + 2 * r + 1) i) 12)) n 0 (fun i _ hi => ?_) ?_ 0 (by omega) (by omega)).trans ?_
  · show zz_ev 90 21 _ _ _ = _
    rw [x_90_21 _ _ _ _ _ hS, hs]; simp (disch := first | omega | assumption) only [nI_add, pk_mul, z_in, z_ix, nI_leI, nI_ltI, nI_eq, z_eq0, z_lt0, z_0le, z_0lt, z_le0, z_n9, z_n1, z_m1lt, z_m9lt, z_m9le, z_m1le, zB_0, zB_1, zz_bi_s, zz_bv_s, zz_bl_s, if_pos, if_neg, if_true, if_false, true_and, and_true, not_true_eq_false, not_false_eq_true, ite_self, l_35, x_90_38 _ _ _ _ _ hS, Bool.not_eq_true', decide_eq_false_iff_not]
  · show zz_ev 90 21 _ _ _ = _
    rw [x_90_21 _ _ _ _ _ hS, hs]; simp (disch := first | omega | assumption) only [nI_add, pk_mul, z_in, z_ix, nI_leI, nI_ltI, nI_eq, z_eq0, z_lt0, z_0le, z_0lt, z_le0, z_n9, z_n1, z_m1lt, z_m9lt, z_m9le, z_m1le, zB_0, zB_1, zz_bi_s, zz_bv_s, zz_bl_s, if_pos, if_neg, if_true, if_false, true_and, and_true, not_true_eq_false, not_false_eq_true, ite_self]
  · cases hz : zff (fun i => !decide (zz_in (f (56 + 2 * r + 1) i) 12)) (n - 0) 0 with
    | none =>
      rw [if_pos]; unfold zro; rw [zal_iff]; intro i hi
      have := zff_none hz i (by omega) (by omega); simpa using this
    | some j =>
      have h1 := zff_some hz
      rw [if_neg]; unfold zro; rw [zal_iff]; intro q
      have h2 := q j (by omega)
      have h3 := h1.2.2
      rw [h2] at h3; cases h3
theorem l_208 {f : Nat → Nat → Int32} {g : Nat → Nat → Int64} {r n M : Nat} (hr : r < 6) (hM : M ≤ 40) (hn : n ≤ M) (hs : f 116 r = nI n) : zz_ca 208 [.ref 112, .int (nI r), .int (nI M)] (zK f g) = if zro (fun i => f 117 (40 * r + i)) n = true then some (some (.int (nI 0)), zK f g) else some (some (.int (-3)), zK (zz_u (zz_u f 112 12 (nI 3)) 120 3 (f 120 3 + nI 1)) g) := by
  rw [e_208, x_208_0]
  simp (disch := omega) only [nI_add, pk_mul, z_in, z_ix, nI_leI, nI_ltI, nI_eq, z_eq0, z_lt0, z_0le, z_0lt, z_le0, z_n9, z_n1, z_m1lt, z_m9lt, z_m9le, z_m1le, zB_0, zB_1, zz_bi_s, zz_bv_s, zz_bl_s, if_pos, if_neg, if_true, if_false, true_and, and_true, not_true_eq_false, not_false_eq_true, ite_self, hs]
  rw [hw_208_36]
  refine (z_lp (fun i => zz_ev 208 36 [.ref 112, .int (nI r), .null, .int (zB (zro (fun i => f 117 (40 * r + i)) i = true)), .int (nI i)] [] (zK f g)) n (fun i hi => ?_) 0 (by omega)).trans ?_
  · show zz_ev 208 36 _ _ _ = zz_ev 208 36 _ _ _
    rw [x_208_36]; simp (disch := first | omega | assumption) only [nI_add, pk_mul, z_in, z_ix, nI_leI, nI_ltI, nI_eq, z_eq0, z_lt0, z_0le, z_0lt, z_le0, z_n9, z_n1, z_m1lt, z_m9lt, z_m9le, z_m1le, zB_0, zB_1, zz_bi_s, zz_bv_s, zz_bl_s, if_pos, if_neg, if_true, if_false, true_and, and_true, not_true_eq_false, not_false_eq_true, ite_self, hs, l_182, x_208_66, x_208_73, x_208_74]
    rw [show zro (fun i => f 117 (40 * r + i)) (i + 1) = (zro (fun i => f 117 (40 * r + i)) i && decide (zz_in (f 117 (40 * r + i)) 12)) from rfl]
    by_cases q : zro (fun i => f 117 (40 * r + i)) i = true
    · rw [if_neg (fun w => w q)]
      by_cases q2 : zz_in (f 117 (40 * r + i)) 12
      · rw [if_neg (fun w => w q2), zB_t (by rw [q, decide_eq_true q2]; rfl)]
      · rw [if_pos q2, zB_f (by rw [q]; simpa using q2)]
    · rw [if_pos q, zB_f (by simp only [Bool.and_eq_true]; exact fun w => q w.1)]
  · show zz_ev 208 36 _ _ _ = _
    rw [x_208_36]; simp (disch := first | omega | assumption) only [nI_add, pk_mul, z_in, z_ix, nI_leI, nI_ltI, nI_eq, z_eq0, z_lt0, z_0le, z_0lt, z_le0, z_n9, z_n1, z_m1lt, z_m9lt, z_m9le, z_m1le, zB_0, zB_1, zz_bi_s, zz_bv_s, zz_bl_s, if_pos, if_neg, if_true, if_false, true_and, and_true, not_true_eq_false, not_false_eq_true, ite_self, hs, l_151, x_208_94]
    by_cases q : zro (fun i => f 117 (40 * r + i)) n = true
    · rw [if_neg (fun w => w q), if_pos q]
    · rw [if_pos q, if_neg q]
/-- the steps along some rooms -/
def zpv (a : Nat) (c : Nat → Nat) : Nat → Nat
  | 0 => a
  | n + 1 => c n
def zsq (N : Nat → Nat) (a : Nat) (c : Nat → Nat) : Nat → Option Nat
  | 0 => some 0
  | n + 1 => match zsq N a c n with
    | none => none
    | some s => match zfa N (zpv a c n) (c n) with
      | none => none
      | some d => some (s + d)
theorem zsq_0 {N : Nat → Nat} {a n : Nat} {c : Nat → Nat} (h : zsq N a c n = none) : zsq N a c (n + 1) = none := by
  show (match zsq N a c n with
    | none => none
    | some s => match zfa N (zpv a c n) (c n) with
      | none => none
      | some d => some (s + d)) = none
  rw [h]
theorem zsq_1 {N : Nat → Nat} {a n s : Nat} {c : Nat → Nat} (h : zsq N a c n = some s) (h2 : zfa N (zpv a c n) (c n) = none) : zsq N a c (n + 1) = none := by
  show (match zsq N a c n with
    | none => none
    | some s => match zfa N (zpv a c n) (c n) with
      | none => none
      | some d => some (s + d)) = none
  rw [h]; dsimp only; rw [h2]
theorem zsq_2 {N : Nat → Nat} {a n s d : Nat} {c : Nat → Nat} (h : zsq N a c n = some s) (h2 : zfa N (zpv a c n) (c n) = some d) : zsq N a c (n + 1) = some (s + d) := by
  show (match zsq N a c n with
    | none => none
    | some s => match zfa N (zpv a c n) (c n) with
      | none => none
      | some d => some (s + d)) = some (s + d)
  rw [h]; dsimp only; rw [h2]
theorem zsq_up {N : Nat → Nat} {a n : Nat} {c : Nat → Nat} (h : zsq N a c n = none) : ∀ m, n ≤ m → zsq N a c m = none := by
  intro m hm
  induction hm with
  | refl => exact h
  | step _ ih => exact zsq_0 ih
theorem zsq_le {N : Nat → Nat} {a : Nat} {c : Nat → Nat} : ∀ {n s : Nat}, zsq N a c n = some s → s ≤ 11 * n
  | 0, s, h => by cases h; exact Nat.le_refl _
  | n + 1, s, h => by
    cases e : zsq N a c n with
    | none => rw [zsq_0 e] at h; cases h
    | some t =>
      cases e2 : zfa N (zpv a c n) (c n) with
      | none => rw [zsq_1 e e2] at h; cases h
      | some d => rw [zsq_2 e e2] at h; cases h; have := zsq_le e; have := zfa_lt e2; omega
theorem zsq_c {N : Nat → Nat} {a : Nat} {c d : Nat → Nat} : ∀ {n : Nat}, (∀ i < n, c i = d i) → zsq N a c n = zsq N a d n
  | 0, _ => rfl
  | n + 1, h => by
    have ih := zsq_c (N := N) (a := a) (n := n) (fun i hi => h i (by omega))
    have e1 : zpv a c n = zpv a d n := by
      cases n with
      | zero => rfl
      | succ n => exact h n (by omega)
    cases e : zsq N a c n with
    | none => rw [zsq_0 e, zsq_0 (ih ▸ e)]
    | some s =>
      cases e2 : zfa N (zpv a c n) (c n) with
      | none => rw [zsq_1 e e2, zsq_1 (ih ▸ e) (by rw [← e1, ← h n (by omega)]; exact e2)]
      | some t => rw [zsq_2 e e2, zsq_2 (ih ▸ e) (by rw [← e1, ← h n (by omega)]; exact e2)]
theorem zpv_lt {a n : Nat} {c : Nat → Nat} (ha : a < 12) (hc : ∀ i < n, c i < 12) : zpv a c n < 12 := by
  cases n with
  | zero => exact ha
  | succ n => exact hc n (by omega)
theorem l_91 {f : Nat → Nat → Int32} {g : Nat → Nat → Int64} {N : Nat → Nat} (hN : ∀ c < 12, N c < 4096) {a r n : Nat} {c : Nat → Nat} (ha : a < 12) (hr : r < 6) (hn : n ≤ 40) (h1 : ∀ c < 12, f 31 c = nI (N c)) (hs : f (56 + 2 * r) 1 = nI n) (hc : ∀ i < n, f (56 + 2 * r + 1) i = nI (c i) ∧ c i < 12) : ∃ f', zz_ca 91 [.ref 30, .int (nI a), .ref (56 + 2 * r)] (zK f g) = some (some (.int (dI (zsq N a c n))), zK f' g) ∧ ∀ x, x ≠ 32 → f' x = f x := by
  have hS := zs_S_row r hr
  rw [e_91, x_91_0 _ _ _ _ hS, hw_91_8 _ _ _ _ _ _ _ hS]
  have key := z_loop (fun i (s : Nat × (Nat → Nat → Int32)) => zz_ev 91 8 [.ref 30, .null, .ref (56 + 2 * r), .int (nI s.1), .int (nI (zpv a c i)), .int (nI i)] [] (zK s.2 g))
    (fun i s => zsq N a c i = some s.1 ∧ ∀ x, x ≠ 32 → s.2 x = f x)
    (fun x => ∃ f', x = some (some (.int (dI (zsq N a c n))), zK f' g) ∧ ∀ x, x ≠ 32 → f' x = f x) n ?_ ?_ 0 (0, f) (by omega) ⟨rfl, fun _ _ => rfl⟩
  · exact key
  · rintro i ⟨s, f1⟩ hi ⟨q1, q2⟩
    dsimp only at q1 q2 ⊢
    have hp := zpv_lt (n := i) ha (fun j hj => (hc j (by omega)).2)
    obtain ⟨f2, e2, k1, k2⟩ := l_83 (f := f1) (g := g) zs_P_30 hN (fun c hc => by rw [q2 _ (by decide)]; exact h1 c hc) hp
    have m1 : f1 (56 + 2 * r) 1 = nI n := by rw [q2 _ (by omega)]; exact hs
    have m2 : f2 (56 + 2 * r + 1) i = nI (c i) := by rw [k1 _ (by omega), q2 _ (by omega)]; exact (hc i hi).1
    have hci := (hc i hi).2
    have m3 : f2 32 (c i) = dI (zfa N (zpv a c i) (c i)) := k2 _ hci
    have hsl := zsq_le q1
    rw [x_91_8 _ _ _ _ _ _ _ hS, m1]
    simp (disch := first | omega | assumption) only [nI_add, pk_mul, z_in, z_ix, nI_leI, nI_ltI, nI_eq, z_eq0, z_lt0, z_0le, z_0lt, z_le0, z_n9, z_n1, z_m1lt, z_m9lt, z_m9le, z_m1le, zB_0, zB_1, zz_bi_s, zz_bv_s, zz_bl_s, if_pos, if_neg, if_true, if_false, true_and, and_true, not_true_eq_false, not_false_eq_true, ite_self, e2, x_91_23 _ _ _ _ _ _ hS, m2, m3]
    cases e : zfa N (zpv a c i) (c i) with
    | none =>
      right
      refine ⟨f2, ?_, fun x hx => by rw [k1 x hx]; exact q2 x hx⟩
      rw [dI_n, if_neg (by decide +kernel), zsq_up (zsq_1 q1 e) n (by omega)]; rfl
    | some d =>
      left
      have := zfa_lt e
      refine ⟨(s + d, f2), ?_, zsq_2 q1 e, fun x hx => by dsimp only; rw [k1 x hx]; exact q2 x hx⟩
      rw [dI_s]; simp (disch := first | omega | assumption) only [nI_add, pk_mul, z_in, z_ix, nI_leI, nI_ltI, nI_eq, z_eq0, z_lt0, z_0le, z_0lt, z_le0, z_n9, z_n1, z_m1lt, z_m9lt, z_m9le, z_m1le, zB_0, zB_1, zz_bi_s, zz_bv_s, zz_bl_s, if_pos, if_neg, if_true, if_false, true_and, and_true, not_true_eq_false, not_false_eq_true, ite_self]; rfl
  · rintro ⟨s, f1⟩ ⟨q1, q2⟩
    dsimp only at q1 q2 ⊢
    have m1 : f1 (56 + 2 * r) 1 = nI n := by rw [q2 _ (by omega)]; exact hs
    refine ⟨f1, ?_, q2⟩
    rw [x_91_8 _ _ _ _ _ _ _ hS, m1, q1]
    simp (disch := first | omega | assumption) only [nI_add, pk_mul, z_in, z_ix, nI_leI, nI_ltI, nI_eq, z_eq0, z_lt0, z_0le, z_0lt, z_le0, z_n9, z_n1, z_m1lt, z_m9lt, z_m9le, z_m1le, zB_0, zB_1, zz_bi_s, zz_bv_s, zz_bl_s, if_pos, if_neg, if_true, if_false, true_and, and_true, not_true_eq_false, not_false_eq_true, ite_self]; rfl
/-! the reference's table of distances -/
def zfr (f : Nat → Nat → Int32) (N : Nat → Nat) (k : Nat) : Nat → Nat → Int32 := fun x i => if x = 124 ∧ i < k then dI (zfa N (i / 12) (i % 12)) else f x i
theorem zfr_c {f : Nat → Nat → Int32} {k x : Nat} {N : Nat → Nat} (h : x ≠ 124) : zfr f N k x = f x := by funext c; exact if_neg (fun q => h q.1)
theorem zfr_0 {f : Nat → Nat → Int32} {N : Nat → Nat} : zfr f N 0 = f := by funext x c; exact if_neg (fun q => by omega)
theorem zfr_i {f : Nat → Nat → Int32} {N : Nat → Nat} {a b : Nat} (ha : a < 12) (hb : b < 12) : zfr f N 144 124 (12 * a + b) = dI (zfa N a b) := by
  unfold zfr; rw [if_pos ⟨rfl, by omega⟩, show (12 * a + b) / 12 = a by omega, show (12 * a + b) % 12 = b by omega]
theorem zfr_u {f : Nat → Nat → Int32} {k : Nat} {N : Nat → Nat} : zz_u (zfr f N k) 124 k (dI (zfa N (k / 12) (k % 12))) = zfr f N (k + 1) := by
  funext x i; unfold zz_u zfr
  by_cases h : x = 124 ∧ i = k
  · obtain ⟨rfl, rfl⟩ := h
    rw [if_pos ⟨rfl, rfl⟩, if_pos ⟨rfl, by omega⟩]
  · rw [if_neg h]
    by_cases h2 : x = 124 ∧ i < k
    · rw [if_pos h2, if_pos (by omega)]
    · rw [if_neg h2, if_neg (by omega)]
theorem VM_fr {W : zW} {s : Nat} {f f' : Nat → Nat → Int32} (h : VM W s f) (e : ∀ x, x = 112 ∨ x = 113 ∨ x = 114 ∨ x = 115 → f' x = f x) : VM W s f' := by
  obtain ⟨⟨sh, br, q1, q2, q3⟩, h2, h3⟩ := h
  exact ⟨⟨sh, br, by rw [e _ (by omega)]; exact q1, by rw [e _ (by omega)]; exact q2, q3⟩, h2, MW_fr h3 (by rw [e _ (by omega)]) (by rw [e _ (by omega)]) (e _ (by omega)) (e _ (by omega))⟩
theorem l_209 {W : zW} (hW : wfW W) {s : Nat} {f : Nat → Nat → Int32} {g : Nat → Nat → Int64} (h : VM W s f) {p : Nat} (hp : p < wP W) : zz_ca 209 [.ref 112, .int (nI p)] (zK f g) = some (none, zK (zfr f (znx W (wK W p) (zdr (wK W p) s)) 144) g) := by
  rw [e_209, x_209_0]
  have key := z_lp (fun i => zz_ev 209 2 [.ref 112, .int (nI p), .int (nI i)] [] (zK (zfr f (znx W (wK W p) (zdr (wK W p) s)) i) g)) 144 (fun i hi => ?_) 0 (by omega)
  · rw [zfr_0] at key
    refine key.trans ?_
    rw [x_209_2]; simp (disch := first | omega | assumption) only [nI_add, pk_mul, z_in, z_ix, nI_leI, nI_ltI, nI_eq, z_eq0, z_lt0, z_0le, z_0lt, z_le0, z_n9, z_n1, z_m1lt, z_m9lt, z_m9le, z_m1le, zB_0, zB_1, zz_bi_s, zz_bv_s, zz_bl_s, if_pos, if_neg, if_true, if_false, true_and, and_true, not_true_eq_false, not_false_eq_true, ite_self]
  · show zz_ev 209 2 _ _ _ = zz_ev 209 2 _ _ _
    have hV : VM W s (zfr f (znx W (wK W p) (zdr (wK W p) s)) i) := VM_fr h (fun x hx => zfr_c (by omega))
    have m := l_204 (g := g) hW hV hp (a := i / 12) (b := i % 12) (by omega) (by omega)
    rw [x_209_2]; simp (disch := first | omega | assumption) only [nI_add, pk_mul, z_in, z_ix, nI_leI, nI_ltI, nI_eq, z_eq0, z_lt0, z_0le, z_0lt, z_le0, z_n9, z_n1, z_m1lt, z_m9lt, z_m9le, z_m1le, zB_0, zB_1, zz_bi_s, zz_bv_s, zz_bl_s, if_pos, if_neg, if_true, if_false, true_and, and_true, not_true_eq_false, not_false_eq_true, ite_self, z_rem, pk_div, m, x_209_27, zfr_u]
theorem l_210 (f : Nat → Nat → Int32) (g : Nat → Nat → Int64) {n : Nat} (hn : n ≤ 8) : zz_ca 210 [.ref 112, .int (nI n)] (zK f g) = some (none, zK (zbs f 123 (fun i => i) n) g) := by
  rw [e_210, x_210_0]
  have key := z_lp (fun i => zz_ev 210 2 [.ref 112, .int (nI n), .int (nI i)] [] (zK (zbs f 123 (fun i => i) i) g)) n (fun i hi => ?_) 0 (by omega)
  · rw [zbs_0] at key
    refine key.trans ?_
    rw [x_210_2]; simp (disch := first | omega | assumption) only [nI_add, pk_mul, z_in, z_ix, nI_leI, nI_ltI, nI_eq, z_eq0, z_lt0, z_0le, z_0lt, z_le0, z_n9, z_n1, z_m1lt, z_m9lt, z_m9le, z_m1le, zB_0, zB_1, zz_bi_s, zz_bv_s, zz_bl_s, if_pos, if_neg, if_true, if_false, true_and, and_true, not_true_eq_false, not_false_eq_true, ite_self]
  · show zz_ev 210 2 _ _ _ = zz_ev 210 2 _ _ _
    rw [x_210_2]; simp (disch := first | omega | assumption) only [nI_add, pk_mul, z_in, z_ix, nI_leI, nI_ltI, nI_eq, z_eq0, z_lt0, z_0le, z_0lt, z_le0, z_n9, z_n1, z_m1lt, z_m9lt, z_m9le, z_m1le, zB_0, zB_1, zz_bi_s, zz_bv_s, zz_bl_s, if_pos, if_neg, if_true, if_false, true_and, and_true, not_true_eq_false, not_false_eq_true, ite_self]
    rw [show zz_u (zbs f 123 (fun i => i) i) 123 i (nI i) = zbs f 123 (fun i => i) (i + 1) from zbs_u]
theorem l_211 {f : Nat → Nat → Int32} {g : Nat → Nat → Int64} {N : Nat → Nat} {a p r n m : Nat} {c o : Nat → Nat} (ha : a < 12) (hr : r < 6) (hn : n ≤ 8) (hp : p < 6) (h0 : f 113 (3 + p) = nI a) (h1 : ∀ x < 12, ∀ y < 12, f 124 (12 * x + y) = dI (zfa N x y)) (hm : m ≤ 40) (hc : ∀ i < m, f 117 (40 * r + i) = nI (c i) ∧ c i < 12) (ho : ∀ i < n, f 123 i = nI (o i) ∧ o i < m) : zz_ca 211 [.ref 112, .int (nI p), .int (nI r), .int (nI n)] (zK f g) = some (some (.int (dI (zsq N a (fun i => c (o i)) n))), zK f g) := by
  rw [e_211, x_211_0]
  simp (disch := first | omega | assumption) only [nI_add, pk_mul, z_in, z_ix, nI_leI, nI_ltI, nI_eq, z_eq0, z_lt0, z_0le, z_0lt, z_le0, z_n9, z_n1, z_m1lt, z_m9lt, z_m9le, z_m1le, zB_0, zB_1, zz_bi_s, zz_bv_s, zz_bl_s, if_pos, if_neg, if_true, if_false, true_and, and_true, not_true_eq_false, not_false_eq_true, ite_self, h0]
  rw [hw_211_16]
  have key := z_loop (fun i (s : Nat) => zz_ev 211 16 [.ref 112, .null, .int (nI r), .int (nI n), .int (nI (zpv a (fun i => c (o i)) i)), .int (nI s), .int (nI i), .null] [] (zK f g))
    (fun i s => zsq N a (fun i => c (o i)) i = some s)
    (fun x => x = some (some (.int (dI (zsq N a (fun i => c (o i)) n))), zK f g)) n ?_ ?_ 0 0 (by omega) rfl
  · exact key
  · intro i s hi q1
    have hp := zpv_lt (c := fun i => c (o i)) (n := i) ha (fun j hj => (hc _ (ho j (by omega)).2).2)
    have m1 := (ho i hi).1
    have ho2 := (ho i hi).2
    have m2 := (hc _ ho2).1
    have hc2 := (hc _ ho2).2
    have m3 := h1 _ hp _ hc2
    have hsl := zsq_le q1
    rw [x_211_16]
    simp (disch := first | omega | assumption) only [nI_add, pk_mul, z_in, z_ix, nI_leI, nI_ltI, nI_eq, z_eq0, z_lt0, z_0le, z_0lt, z_le0, z_n9, z_n1, z_m1lt, z_m9lt, z_m9le, z_m1le, zB_0, zB_1, zz_bi_s, zz_bv_s, zz_bl_s, if_pos, if_neg, if_true, if_false, true_and, and_true, not_true_eq_false, not_false_eq_true, ite_self, m1, m2, m3, dI_9 zfa_l]
    cases e : zfa N (zpv a (fun i => c (o i)) i) (c (o i)) with
    | none =>
      right
      rw [if_pos rfl, zsq_up (zsq_1 q1 e) n (by omega)]; rfl
    | some d =>
      left
      have := zfa_lt e
      refine ⟨s + d, ?_, zsq_2 q1 e⟩
      rw [if_neg (by simp), dI_s, nI_add, hw_211_16]; rfl
  · intro s q1
    rw [x_211_16, q1]
    simp (disch := first | omega | assumption) only [nI_add, pk_mul, z_in, z_ix, nI_leI, nI_ltI, nI_eq, z_eq0, z_lt0, z_0le, z_0lt, z_le0, z_n9, z_n1, z_m1lt, z_m9lt, z_m9le, z_m1le, zB_0, zB_1, zz_bi_s, zz_bv_s, zz_bl_s, if_pos, if_neg, if_true, if_false, true_and, and_true, not_true_eq_false, not_false_eq_true, ite_self]; rfl
/-- rooms of a row, as numbers -/
def zec (R : zR) (r i : Nat) : Nat := zz_ix (R.2 r i)
theorem zro_ok {R : zR} {r n : Nat} (h : zro (R.2 r) n = true) : ∀ i < n, R.2 r i = nI (zec R r i) ∧ zec R r i < 12 := by
  intro i hi
  have := zal_iff.mp h i hi
  obtain ⟨j, hj, hj2, e⟩ := z_inx.mp (of_decide_eq_true this)
  unfold zec; rw [e, z_ix hj2]; exact ⟨rfl, hj⟩
theorem zro_c {c d : Nat → Int32} {n : Nat} (h : ∀ i < n, c i = d i) : zro c n = zro d n := by
  apply zuu; unfold zro; rw [zal_iff, zal_iff]
  constructor
  · intro q i hi; have := q i hi; rw [h i hi] at this; exact this
  · intro q i hi; have := q i hi; rw [← h i hi] at this; exact this
theorem sim_errands (A : zA) (hw : wf A) (v1 v2 : Int32) : zSim A 89 207 [.int v1, .int v2] := by
  have hP6 := wfP hw
  by_cases h1 : zz_in v1 (wP (aW A))
  · obtain ⟨p, hp, -, rfl⟩ := z_inx.mp h1
    have hx := wfr hw hp
    by_cases h2 : zz_in v2 6
    · obtain ⟨r, hr, -, rfl⟩ := z_inx.mp h2
      have hN : ∀ c < 12, zgo A p c < 4096 := fun c _ => zgo_lt hw p c
      rcases hw.1 r hr with h3 | ⟨n, hn, h3⟩
      · refine sim_F hw (w := 1) (by decide) (by decide) (fun f g h => ?_) (fun f g h => ?_)
        · have e := (h.2.2.2.1 r hr).1; rw [h3] at e
          simp (disch := first | omega | assumption) only [x_89_0, x_89_5, x_89_12, x_89_15, x_89_28, x_89_38, x_89_59, x_89_81, e_89, l_46 g _ (cxP h) hP6, l_11, nI_add, pk_mul, z_in, z_ix, nI_leI, nI_ltI, nI_eq, z_eq0, z_lt0, z_0le, z_0lt, z_le0, z_n9, z_n1, z_m1lt, z_m9lt, z_m9le, z_m1le, zB_0, zB_1, zz_bi_s, zz_bv_s, zz_bl_s, if_pos, if_neg, if_true, if_false, true_and, and_true, not_true_eq_false, not_false_eq_true, ite_self, l_90a hr _ e, l_12]
        · have e := (h.2.2.2.2.1 r hr).1; rw [h3] at e
          simp (disch := first | omega | assumption) only [x_207_0, x_207_5, x_207_12, x_207_15, x_207_24, x_207_36, x_207_46, x_207_58, e_207, l_176 g _ (cmP h) hP6, l_149, nI_add, pk_mul, z_in, z_ix, nI_leI, nI_ltI, nI_eq, z_eq0, z_lt0, z_0le, z_0lt, z_le0, z_n9, z_n1, z_m1lt, z_m9lt, z_m9le, z_m1le, zB_0, zB_1, zz_bi_s, zz_bv_s, zz_bl_s, if_pos, if_neg, if_true, if_false, true_and, and_true, not_true_eq_false, not_false_eq_true, ite_self, e_208, x_208_0, e, l_151, x_208_14]; rfl
      · by_cases h8 : n ≤ 8
        · by_cases hq : zro ((aR A).2 r) n = true
          · have hc := zro_ok hq
            refine sim_s hw (.int (dI (zsq (zgo A p) (qR (hC (aH A)) p) (zec (aR A) r) n))) (fun f g h => ?_) (fun f g h => ?_)
            · have e := (h.2.2.2.1 r hr).1; rw [h3] at e
              have e2 : zro (f (56 + 2 * r + 1)) n = true := by rw [zro_c (d := (aR A).2 r) (fun i hi => (h.2.2.2.1 r hr).2 i (by omega))]; exact hq
              have h' := CX_look h (zgo A p)
              obtain ⟨f2, e3, k⟩ := l_91 (f := zbs f 31 (zgo A p) 12) (g := g) hN (c := zec (aR A) r) hx hr hn (fun c hc => zbs_i hc) (by rw [zbs_c (by omega)]; exact e) (fun i hi => ⟨by rw [zbs_c (by omega), (h.2.2.2.1 r hr).2 i (by omega)]; exact (hc i hi).1, (hc i hi).2⟩)
              refine ⟨f2, g, ?_, zXs_t zXs_look ⟨fun a ha => k a (by omega), fun _ _ => rfl⟩⟩
              have m2 := cxr h' hp
              simp (disch := first | omega | assumption) only [x_89_0, x_89_5, x_89_12, x_89_15, x_89_28, x_89_38, x_89_59, x_89_81, e_89, l_46 g _ (cxP h) hP6, l_11, nI_add, pk_mul, z_in, z_ix, nI_leI, nI_ltI, nI_eq, z_eq0, z_lt0, z_0le, z_0lt, z_le0, z_n9, z_n1, z_m1lt, z_m9lt, z_m9le, z_m1le, zB_0, zB_1, zz_bi_s, zz_bv_s, zz_bl_s, if_pos, if_neg, if_true, if_false, true_and, and_true, not_true_eq_false, not_false_eq_true, ite_self, l_90 hr (show 8 ≤ 40 by decide) h8 e, e2, cxP h, cxS h, cxB h, cxH h, cxD h, cxk h, cxr h, cxp h, cxd h, cxt h, cxa h, cxb h, l_look hw h hp, m2, e3]
            · have e := (h.2.2.2.2.1 r hr).1; rw [h3] at e
              have e2 : zro (fun i => f 117 (40 * r + i)) n = true := by rw [zro_c (d := (aR A).2 r) (fun i hi => (h.2.2.2.2.1 r hr).2 i (by omega))]; exact hq
              have m1 : zz_ca 209 [.ref 112, .int (nI p)] (zK f g) = some (none, zK (zfr f (zgo A p) 144) g) := l_209 hw.2.2.1 (CM_V hw h) hp
              have m2 : zfr f (zgo A p) 144 116 r = nI n := by rw [zfr_c (by omega)]; exact e
              have m3 : zbs (zfr f (zgo A p) 144) 123 (fun i => i) n 116 r = nI n := by rw [zbs_c (by omega)]; exact m2
              have m4 := l_211 (f := zbs (zfr f (zgo A p) 144) 123 (fun i => i) n) (g := g) (N := zgo A p) (a := qR (hC (aH A)) p) (p := p) (r := r) (n := n) (m := n) (c := zec (aR A) r) (o := fun i => i) hx hr h8 (by omega)
                (by rw [zbs_c (by omega), zfr_c (by omega)]; exact cmr h hp)
                (fun x hx y hy => by rw [zbs_c (by omega)]; exact zfr_i hx hy) (by omega)
                (fun i hi => ⟨by rw [zbs_c (by omega), zfr_c (by omega), (h.2.2.2.2.1 r hr).2 i (by omega)]; exact (hc i hi).1, (hc i hi).2⟩)
                (fun i hi => ⟨zbs_i hi, hi⟩)
              refine ⟨zbs (zfr f (zgo A p) 144) 123 (fun i => i) n, g, ?_, fun a h1 h2 => by rw [zbs_c (by omega), zfr_c (by omega)], fun _ _ => rfl, fun j _ => by rw [zbs_c (by omega), zfr_c (by omega)]⟩
              simp (disch := first | omega | assumption) only [x_207_0, x_207_5, x_207_12, x_207_15, x_207_24, x_207_36, x_207_46, x_207_58, e_207, l_176 g _ (cmP h) hP6, l_149, nI_add, pk_mul, z_in, z_ix, nI_leI, nI_ltI, nI_eq, z_eq0, z_lt0, z_0le, z_0lt, z_le0, z_n9, z_n1, z_m1lt, z_m9lt, z_m9le, z_m1le, zB_0, zB_1, zz_bi_s, zz_bv_s, zz_bl_s, if_pos, if_neg, if_true, if_false, true_and, and_true, not_true_eq_false, not_false_eq_true, ite_self, l_208 hr (show 8 ≤ 40 by decide) h8 e, e2, m1, m2, l_210, m3, m4]
          · refine sim_F hw (w := 3) (by decide) (by decide) (fun f g h => ?_) (fun f g h => ?_)
            · have e := (h.2.2.2.1 r hr).1; rw [h3] at e
              have e2 : ¬ zro (f (56 + 2 * r + 1)) n = true := by rw [zro_c (d := (aR A).2 r) (fun i hi => (h.2.2.2.1 r hr).2 i (by omega))]; exact hq
              simp (disch := first | omega | assumption) only [x_89_0, x_89_5, x_89_12, x_89_15, x_89_28, x_89_38, x_89_59, x_89_81, e_89, l_46 g _ (cxP h) hP6, l_11, nI_add, pk_mul, z_in, z_ix, nI_leI, nI_ltI, nI_eq, z_eq0, z_lt0, z_0le, z_0lt, z_le0, z_n9, z_n1, z_m1lt, z_m9lt, z_m9le, z_m1le, zB_0, zB_1, zz_bi_s, zz_bv_s, zz_bl_s, if_pos, if_neg, if_true, if_false, true_and, and_true, not_true_eq_false, not_false_eq_true, ite_self, l_90 hr (show 8 ≤ 40 by decide) h8 e, e2, Bool.false_eq_true, l_12]
            · have e := (h.2.2.2.2.1 r hr).1; rw [h3] at e
              have e2 : ¬ zro (fun i => f 117 (40 * r + i)) n = true := by rw [zro_c (d := (aR A).2 r) (fun i hi => (h.2.2.2.2.1 r hr).2 i (by omega))]; exact hq
              simp (disch := first | omega | assumption) only [x_207_0, x_207_5, x_207_12, x_207_15, x_207_24, x_207_36, x_207_46, x_207_58, e_207, l_176 g _ (cmP h) hP6, l_149, nI_add, pk_mul, z_in, z_ix, nI_leI, nI_ltI, nI_eq, z_eq0, z_lt0, z_0le, z_0lt, z_le0, z_n9, z_n1, z_m1lt, z_m9lt, z_m9le, z_m1le, zB_0, zB_1, zz_bi_s, zz_bv_s, zz_bl_s, if_pos, if_neg, if_true, if_false, true_and, and_true, not_true_eq_false, not_false_eq_true, ite_self, l_208 hr (show 8 ≤ 40 by decide) h8 e, e2, Bool.false_eq_true]; rfl
        · refine sim_F hw (w := 5) (by decide) (by decide) (fun f g h => ?_) (fun f g h => ?_)
          · have e := (h.2.2.2.1 r hr).1; rw [h3] at e
            simp (disch := first | omega | assumption) only [x_89_0, x_89_5, x_89_12, x_89_15, x_89_28, x_89_38, x_89_59, x_89_81, e_89, l_46 g _ (cxP h) hP6, l_11, nI_add, pk_mul, z_in, z_ix, nI_leI, nI_ltI, nI_eq, z_eq0, z_lt0, z_0le, z_0lt, z_le0, z_n9, z_n1, z_m1lt, z_m9lt, z_m9le, z_m1le, zB_0, zB_1, zz_bi_s, zz_bv_s, zz_bl_s, if_pos, if_neg, if_true, if_false, true_and, and_true, not_true_eq_false, not_false_eq_true, ite_self, l_90b (M := 8) hr hn (by omega) e, l_12]
          · have e := (h.2.2.2.2.1 r hr).1; rw [h3] at e
            simp (disch := first | omega | assumption) only [x_207_0, x_207_5, x_207_12, x_207_15, x_207_24, x_207_36, x_207_46, x_207_58, e_207, l_176 g _ (cmP h) hP6, l_149, nI_add, pk_mul, z_in, z_ix, nI_leI, nI_ltI, nI_eq, z_eq0, z_lt0, z_0le, z_0lt, z_le0, z_n9, z_n1, z_m1lt, z_m9lt, z_m9le, z_m1le, zB_0, zB_1, zz_bi_s, zz_bv_s, zz_bl_s, if_pos, if_neg, if_true, if_false, true_and, and_true, not_true_eq_false, not_false_eq_true, ite_self, e_208, x_208_0, e, l_151, x_208_30]; rfl
    · exact sim_0 hw (.int (-1)) (fun f g h => by simp (disch := first | omega | assumption) only [x_89_0, x_89_5, x_89_12, x_89_15, x_89_28, x_89_38, x_89_59, x_89_81, e_89, l_46 g _ (cxP h) hP6, l_11, nI_add, pk_mul, z_in, z_ix, nI_leI, nI_ltI, nI_eq, z_eq0, z_lt0, z_0le, z_0lt, z_le0, z_n9, z_n1, z_m1lt, z_m9lt, z_m9le, z_m1le, zB_0, zB_1, zz_bi_s, zz_bv_s, zz_bl_s, if_pos, if_neg, if_true, if_false, true_and, and_true, not_true_eq_false, not_false_eq_true, ite_self, h2]) (fun f g h => by simp (disch := first | omega | assumption) only [x_207_0, x_207_5, x_207_12, x_207_15, x_207_24, x_207_36, x_207_46, x_207_58, e_207, l_176 g _ (cmP h) hP6, l_149, nI_add, pk_mul, z_in, z_ix, nI_leI, nI_ltI, nI_eq, z_eq0, z_lt0, z_0le, z_0lt, z_le0, z_n9, z_n1, z_m1lt, z_m9lt, z_m9le, z_m1le, zB_0, zB_1, zz_bi_s, zz_bv_s, zz_bl_s, if_pos, if_neg, if_true, if_false, true_and, and_true, not_true_eq_false, not_false_eq_true, ite_self, h2])
  · exact sim_0 hw (.int (-1)) (fun f g h => by simp (disch := first | omega | assumption) only [x_89_0, x_89_5, x_89_12, x_89_15, x_89_28, x_89_38, x_89_59, x_89_81, e_89, l_46 g _ (cxP h) hP6, nI_add, pk_mul, z_in, z_ix, nI_leI, nI_ltI, nI_eq, z_eq0, z_lt0, z_0le, z_0lt, z_le0, z_n9, z_n1, z_m1lt, z_m9lt, z_m9le, z_m1le, zB_0, zB_1, zz_bi_s, zz_bv_s, zz_bl_s, if_pos, if_neg, if_true, if_false, true_and, and_true, not_true_eq_false, not_false_eq_true, ite_self, h1]) (fun f g h => by simp (disch := first | omega | assumption) only [x_207_0, x_207_5, x_207_12, x_207_15, x_207_24, x_207_36, x_207_46, x_207_58, e_207, l_176 g _ (cmP h) hP6, nI_add, pk_mul, z_in, z_ix, nI_leI, nI_ltI, nI_eq, z_eq0, z_lt0, z_0le, z_0lt, z_le0, z_n9, z_n1, z_m1lt, z_m9lt, z_m9le, z_m1le, zB_0, zB_1, zz_bi_s, zz_bv_s, zz_bl_s, if_pos, if_neg, if_true, if_false, true_and, and_true, not_true_eq_false, not_false_eq_true, ite_self, h1])
