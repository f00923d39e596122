theorem l_99 {f : Nat → Nat → Int32} {g : Nat → Nat → Int64} {r n : Nat} (hr : r < 6) (hn : n ≤ 6) {o : Nat → Nat} (h0 : f 36 4 = nI n) (h1 : zOr f 39 n o) : ∃ f', zz_ca 99 [.ref 36, .ref (56 + 2 * r)] (zK f g) = some (none, zK f' g) ∧ (∀ a, a ≠ 56 + 2 * r → a ≠ 56 + 2 * r + 1 → f' a = f a) ∧ f' (56 + 2 * r) 1 = nI n ∧ ∀ i < 40, f' (56 + 2 * r + 1) i = if i < n then nI (o i) else nI 0 := by
  have hS := zs_S_row r hr
  rw [e_99, x_99_0 _ _ _ hS, h0, l_13 _ _ hS (by decide) (by omega), zz_bv_s, x_99_9 _ _ _ hS]
  have c0 : ∀ j, zbs (zz_u (zfl f (56 + 2 * r + 1) 40 (nI 0)) (56 + 2 * r) 1 (nI n)) (56 + 2 * r + 1) o j (56 + 2 * r) 1 = nI n := fun j => by rw [zbs_c (by omega), zu_s]
  have c1 : ∀ j a, a ≠ 56 + 2 * r → a ≠ 56 + 2 * r + 1 → zbs (zz_u (zfl f (56 + 2 * r + 1) 40 (nI 0)) (56 + 2 * r) 1 (nI n)) (56 + 2 * r + 1) o j a = f a := fun j a q1 q2 => by rw [zbs_c q2, zu_c q1, zfl_c q2]
  have key := z_lp (fun i => zz_ev 99 11 [.ref 36, .ref (56 + 2 * r), .int (nI i)] [] (zK (zbs (zz_u (zfl f (56 + 2 * r + 1) 40 (nI 0)) (56 + 2 * r) 1 (nI n)) (56 + 2 * r + 1) o i) g)) n (fun i hi => ?_) 0 (by omega)
  · rw [zbs_0] at key
    refine ⟨zbs (zz_u (zfl f (56 + 2 * r + 1) 40 (nI 0)) (56 + 2 * r) 1 (nI n)) (56 + 2 * r + 1) o n, key.trans ?_, c1 n, c0 n, fun i hi => ?_⟩
    · rw [x_99_11 _ _ _ _ hS, c0]; simp (disch := first | omega | assumption) only [nI_add, pk_mul, z_in, z_ix, nI_leI, nI_ltI, nI_eq, z_eq0, z_lt0, z_0le, z_0lt, z_le0, z_n9, z_n1, z_m1lt, z_m9lt, z_m9le, z_m1le, zB_0, zB_1, zz_bi_s, zz_bv_s, zz_bl_s, if_pos, if_neg, if_true, if_false, true_and, and_true, not_true_eq_false, not_false_eq_true, ite_self]
    · unfold zbs
      by_cases q : i < n
      · rw [if_pos ⟨rfl, q⟩, if_pos q]
      · rw [if_neg (fun w => q w.2), if_neg q, zu_c (by omega), zfl_i hi]
  · show zz_ev 99 11 _ _ _ = zz_ev 99 11 _ _ _
    have m : zbs (zz_u (zfl f (56 + 2 * r + 1) 40 (nI 0)) (56 + 2 * r) 1 (nI n)) (56 + 2 * r + 1) o i 39 i = nI (o i) := by rw [c1 i _ (by omega) (by omega)]; exact h1 i hi
    rw [x_99_11 _ _ _ _ hS, c0]; simp (disch := first | omega | assumption) only [nI_add, pk_mul, z_in, z_ix, nI_leI, nI_ltI, nI_eq, z_eq0, z_lt0, z_0le, z_0lt, z_le0, z_n9, z_n1, z_m1lt, z_m9lt, z_m9le, z_m1le, zB_0, zB_1, zz_bi_s, zz_bv_s, zz_bl_s, if_pos, if_neg, if_true, if_false, true_and, and_true, not_true_eq_false, not_false_eq_true, ite_self, m, zbs_u]
def zb9 (acc : Option (Nat × List Nat)) : Int32 := match acc with
  | none => -9
  | some s => nI s.1
theorem l_212_127 {f : Nat → Nat → Int32} {g : Nat → Nat → Int64} {p r to n : Nat} {v6 : Int32} {o : Nat → Nat} (hn : n ≤ 8) (h : zOr f 123 n o) : zz_ev 212 127 [.ref 112, .int (nI p), .int (nI r), .int (nI to), .null, .int (nI n), .int v6, .null, .null, .int (nI 1), .int (nI 0)] [] (zK f g) = zz_ev 212 159 [.ref 112, .int (nI p), .int (nI r), .int (nI to), .null, .int (nI n), .int v6, .null, .null, .int (nI 1), .int (nI n)] [] (zK (zbs f 125 o n) g) := by
  have key := z_lp (fun i => zz_ev 212 127 [.ref 112, .int (nI p), .int (nI r), .int (nI to), .null, .int (nI n), .int v6, .null, .null, .int (nI 1), .int (nI i)] [] (zK (zbs f 125 o i) g)) n (fun i hi => ?_) 0 (by omega)
  · rw [zbs_0] at key
    refine key.trans ?_
    rw [x_212_127]; simp (disch := first | omega | assumption) only [nI_add, pk_mul, z_in, z_ix, nI_leI, nI_ltI, nI_eq, z_eq0, z_lt0, z_0le, z_0lt, z_le0, z_n9, z_n1, z_m1lt, z_m9lt, z_m9le, z_m1le, zB_0, zB_1, zz_bi_s, zz_bv_s, zz_bl_s, if_pos, if_neg, if_true, if_false, true_and, and_true, not_true_eq_false, not_false_eq_true, ite_self]
  · show zz_ev 212 127 _ _ _ = zz_ev 212 127 _ _ _
    have m : zbs f 125 o i 123 i = nI (o i) := by rw [zbs_c (by decide)]; exact h i hi
    rw [x_212_127]; simp (disch := first | omega | assumption) only [nI_add, pk_mul, z_in, z_ix, nI_leI, nI_ltI, nI_eq, z_eq0, z_lt0, z_0le, z_0lt, z_le0, z_n9, z_n1, z_m1lt, z_m9lt, z_m9le, z_m1le, zB_0, zB_1, zz_bi_s, zz_bv_s, zz_bl_s, if_pos, if_neg, if_true, if_false, true_and, and_true, not_true_eq_false, not_false_eq_true, ite_self, m, zbs_u]
theorem l_212 {N : Nat → Nat} {a p r to n : Nat} {c : Nat → Nat} {g : Nat → Nat → Int64} (ha : a < 12) (hp : p < 6) (hr : r < 6) (hn : n ≤ 6) (hc : ∀ i < n, c i < 12) : ∀ (d : Nat) (l : List Nat) (acc : Option (Nat × List Nat)) (f : Nat → Nat → Int32), zch n d l = true → (∀ s, acc = some s → s.1 < 2 ^ 31 ∧ zOr f 125 n (fun i => s.2.getD i 0)) → f 113 (3 + p) = nI a → (∀ x < 12, ∀ y < 12, f 124 (12 * x + y) = dI (zfa N x y)) → (∀ i < n, f 117 (40 * r + i) = nI (c i)) → zOr f 123 n (fun i => l.getD i 0) → ∃ f', zz_ev 212 67 [.ref 112, .int (nI p), .int (nI r), .int (nI to), .null, .int (nI n), .int (zb9 acc), .int (nI 1), .null, .null, .null] [] (zK f g) = zz_ev 212 67 [.ref 112, .int (nI p), .int (nI r), .int (nI to), .null, .int (nI n), .int (zb9 (zbe n (fun l => zsq N a (fun i => c (l.getD i 0)) n) d l acc)), .int (nI 0), .null, .null, .null] [] (zK f' g) ∧ (∀ x, x ≠ 123 → x ≠ 125 → f' x = f x) ∧ ∀ s, zbe n (fun l => zsq N a (fun i => c (l.getD i 0)) n) d l acc = some s → s.1 < 2 ^ 31 ∧ zOr f' 125 n (fun i => s.2.getD i 0)
  | 0, l, acc, f, hch, hb, h1, h2, h3, h4 => by cases hch
  | d + 1, l, acc, f, hch, hb, h1, h2, h3, h4 => by
    obtain ⟨ok, nxt⟩ := zch_1 hch
    have m1 := l_211 (g := g) (N := N) (a := a) (p := p) (r := r) (n := n) (m := n) (c := c) (o := fun i => l.getD i 0) ha hr (by omega) hp h1 h2 (by omega) (fun i hi => ⟨h3 i hi, hc i hi⟩) (fun i hi => ⟨h4 i hi, (ok i hi).1⟩)
    have step : ∃ f1 w9 w10, zz_ev 212 80 [.ref 112, .int (nI p), .int (nI r), .int (nI to), .null, .int (nI n), .int (zb9 acc), .int (nI 1), .null, .null, .null] [.int (dI (zsq N a (fun i => c (l.getD i 0)) n))] (zK f g) = zz_ev 212 159 [.ref 112, .int (nI p), .int (nI r), .int (nI to), .null, .int (nI n), .int (zb9 (zbu (zsq N a (fun i => c (l.getD i 0)) n) l acc)), .null, .null, .int w9, .int w10] [] (zK f1 g) ∧ (∀ x, x ≠ 125 → f1 x = f x) ∧ ∀ s, zbu (zsq N a (fun i => c (l.getD i 0)) n) l acc = some s → s.1 < 2 ^ 31 ∧ zOr f1 125 n (fun i => s.2.getD i 0) := by
      have no : ∀ v8, ∃ w9 w10, zz_ev 212 107 [.ref 112, .int (nI p), .int (nI r), .int (nI to), .null, .int (nI n), .int (zb9 acc), .int (nI 1), .int v8, .null, .null] [] (zK f g) = zz_ev 212 159 [.ref 112, .int (nI p), .int (nI r), .int (nI to), .null, .int (nI n), .int (zb9 acc), .null, .null, .int w9, .int w10] [] (zK f g) := fun v8 => ⟨nI 0, nI 0, by
        rw [x_212_107, x_212_108]; simp (disch := first | omega | assumption) only [nI_add, pk_mul, z_in, z_ix, nI_leI, nI_ltI, nI_eq, z_eq0, z_lt0, z_0le, z_0lt, z_le0, z_n9, z_n1, z_m1lt, z_m9lt, z_m9le, z_m1le, zB_0, zB_1, zz_bi_s, zz_bv_s, zz_bl_s, if_pos, if_neg, if_true, if_false, true_and, and_true, not_true_eq_false, not_false_eq_true, ite_self, x_212_122]
        rw [x_212_127]; simp (disch := first | omega | assumption) only [nI_add, pk_mul, z_in, z_ix, nI_leI, nI_ltI, nI_eq, z_eq0, z_lt0, z_0le, z_0lt, z_le0, z_n9, z_n1, z_m1lt, z_m9lt, z_m9le, z_m1le, zB_0, zB_1, zz_bi_s, zz_bv_s, zz_bl_s, if_pos, if_neg, if_true, if_false, true_and, and_true, not_true_eq_false, not_false_eq_true, ite_self]⟩
      have yes : ∀ s, zz_ev 212 103 [.ref 112, .int (nI p), .int (nI r), .int (nI to), .null, .int (nI n), .int (zb9 acc), .int (nI 1), .int (nI s), .null, .null] [] (zK f g) = zz_ev 212 159 [.ref 112, .int (nI p), .int (nI r), .int (nI to), .null, .int (nI n), .int (nI s), .null, .null, .int (nI 1), .int (nI n)] [] (zK (zbs f 125 (fun i => l.getD i 0) n) g) := fun s => by
        rw [x_212_103, x_212_108]; simp (disch := first | omega | assumption) only [nI_add, pk_mul, z_in, z_ix, nI_leI, nI_ltI, nI_eq, z_eq0, z_lt0, z_0le, z_0lt, z_le0, z_n9, z_n1, z_m1lt, z_m9lt, z_m9le, z_m1le, zB_0, zB_1, zz_bi_s, zz_bv_s, zz_bl_s, if_pos, if_neg, if_true, if_false, true_and, and_true, not_true_eq_false, not_false_eq_true, ite_self, x_212_122]
        rw [hw_212_127, l_212_127 (by omega) h4]
      rw [x_212_80]
      cases e : zsq N a (fun i => c (l.getD i 0)) n with
      | none =>
        obtain ⟨w9, w10, e2⟩ := no (-9)
        refine ⟨f, w9, w10, ?_, fun _ _ => rfl, hb⟩
        rw [dI_n, if_pos rfl]; exact e2
      | some s =>
        have hsl := zsq_le e
        rw [dI_s]
        cases acc with
        | none =>
          refine ⟨zbs f 125 (fun i => l.getD i 0) n, nI 1, nI n, ?_, fun x hx => zbs_c hx, fun t ht => by cases ht; exact ⟨by show s < _; omega, fun k hk => zbs_i hk⟩⟩
          simp (disch := first | omega | assumption) only [nI_add, pk_mul, z_in, z_ix, nI_leI, nI_ltI, nI_eq, z_eq0, z_lt0, z_0le, z_0lt, z_le0, z_n9, z_n1, z_m1lt, z_m9lt, z_m9le, z_m1le, zB_0, zB_1, zz_bi_s, zz_bv_s, zz_bl_s, if_pos, if_neg, if_true, if_false, true_and, and_true, not_true_eq_false, not_false_eq_true, ite_self]; rw [if_pos (show zb9 none = -9 from rfl), yes]; rfl
        | some t =>
          have ht := hb t rfl
          have ht1 := ht.1
          rw [zbu_s, show zb9 (some t) = nI t.1 from rfl] at *
          simp (disch := first | omega | assumption) only [nI_add, pk_mul, z_in, z_ix, nI_leI, nI_ltI, nI_eq, z_eq0, z_lt0, z_0le, z_0lt, z_le0, z_n9, z_n1, z_m1lt, z_m9lt, z_m9le, z_m1le, zB_0, zB_1, zz_bi_s, zz_bv_s, zz_bl_s, if_pos, if_neg, if_true, if_false, true_and, and_true, not_true_eq_false, not_false_eq_true, ite_self]
          by_cases q : s < t.1
          · refine ⟨zbs f 125 (fun i => l.getD i 0) n, nI 1, nI n, by rw [if_neg (by omega)]; exact (yes s).trans (by rw [if_pos q]; rfl), fun x hx => zbs_c hx, fun u hu => by rw [if_pos q] at hu; cases hu; exact ⟨by show s < _; omega, fun k hk => zbs_i hk⟩⟩
          · obtain ⟨w9, w10, e2⟩ := no (nI s)
            refine ⟨f, w9, w10, ?_, fun _ _ => rfl, fun u hu => by rw [if_neg q] at hu; cases hu; exact ht⟩
            rw [if_pos (by omega), if_neg q]; exact e2
    obtain ⟨f1, w9, w10, b3, b4, b5⟩ := step
    have go := l_213 (f := f1) (g := g) (n := n) (by omega) (o := fun i => l.getD i 0) (fun k hk => by have := (ok k hk).1; omega) (fun k hk => by rw [b4 123 (by decide)]; exact h4 k hk)
    have head : zz_ev 212 67 [.ref 112, .int (nI p), .int (nI r), .int (nI to), .null, .int (nI n), .int (zb9 acc), .int (nI 1), .null, .null, .null] [] (zK f g) = zz_bi (zz_ca 213 [.ref 112, .int (nI n)] (zK f1 g)) (fun r9 h9 => zz_ev 212 165 [.ref 112, .int (nI p), .int (nI r), .int (nI to), .null, .int (nI n), .int (zb9 (zbu (zsq N a (fun i => c (l.getD i 0)) n) l acc)), .null, .null, .int w9, .int w10] [.int r9] h9) := by
      rw [x_212_67]; simp (disch := first | omega | assumption) only [nI_add, pk_mul, z_in, z_ix, nI_leI, nI_ltI, nI_eq, z_eq0, z_lt0, z_0le, z_0lt, z_le0, z_n9, z_n1, z_m1lt, z_m9lt, z_m9le, z_m1le, zB_0, zB_1, zz_bi_s, zz_bv_s, zz_bl_s, if_pos, if_neg, if_true, if_false, true_and, and_true, not_true_eq_false, not_false_eq_true, ite_self, m1]; rw [b3, x_212_159]
    rcases go with ⟨g1, g2⟩ | ⟨o', f2, g1, g2, g3, g4⟩
    · refine ⟨f1, ?_, fun x _ hx => b4 x hx, fun s hs => b5 s (by rw [← hs, zbe_n g1])⟩
      rw [head, g2, zz_bi_s, x_212_165, zbe_n g1, hw_212_67]
    · obtain ⟨f3, r1, r2, r3⟩ := l_212 ha hp hr hn hc (to := to) (g := g) d ((List.range n).map o') (zbu (zsq N a (fun i => c (l.getD i 0)) n) l acc) f2 (nxt o' g1) (fun t ht => ⟨(b5 t ht).1, fun k hk => by rw [g3 125 (by decide)]; exact (b5 t ht).2 k hk⟩) (by rw [g3 113 (by decide), b4 113 (by decide)]; exact h1) (fun x hx y hy => by rw [g3 124 (by decide), b4 124 (by decide)]; exact h2 x hx y hy) (fun i hi => by rw [g3 117 (by decide), b4 117 (by decide)]; exact h3 i hi) (zOr_c g4 (fun k hk => z_rmap hk))
      refine ⟨f3, ?_, fun x x1 x2 => by rw [r2 x x1 x2, g3 x x1, b4 x x2], fun s hs => r3 s (by rw [← hs, zbe_s g1])⟩
      rw [head, g2, zz_bi_s, x_212_165, zbe_s g1, hw_212_67]
      exact r1
theorem l_212_190 {f : Nat → Nat → Int32} {g : Nat → Nat → Int64} {to n : Nat} {v6 : Int32} {o : Nat → Nat} (ht : to < 6) (hn : n ≤ 8) (h : zOr f 125 n o) : zz_ev 212 190 [.ref 112, .null, .null, .int (nI to), .null, .int (nI n), .int v6, .null, .int (nI 0), .null, .null] [] (zK f g) = some (some (.int v6), zK (zbo f (40 * to) o n) g) := by
  have key := z_lp (fun i => zz_ev 212 190 [.ref 112, .null, .null, .int (nI to), .null, .int (nI n), .int v6, .null, .int (nI i), .null, .null] [] (zK (zbo f (40 * to) o i) g)) n (fun i hi => ?_) 0 (by omega)
  · rw [zbo_0] at key
    refine key.trans ?_
    rw [x_212_190]; simp (disch := first | omega | assumption) only [nI_add, pk_mul, z_in, z_ix, nI_leI, nI_ltI, nI_eq, z_eq0, z_lt0, z_0le, z_0lt, z_le0, z_n9, z_n1, z_m1lt, z_m9lt, z_m9le, z_m1le, zB_0, zB_1, zz_bi_s, zz_bv_s, zz_bl_s, if_pos, if_neg, if_true, if_false, true_and, and_true, not_true_eq_false, not_false_eq_true, ite_self]
  · show zz_ev 212 190 _ _ _ = zz_ev 212 190 _ _ _
    have m : zbo f (40 * to) o i 125 i = nI (o i) := by rw [zbo_c (by decide)]; exact h i hi
    rw [x_212_190]; simp (disch := first | omega | assumption) only [nI_add, pk_mul, z_in, z_ix, nI_leI, nI_ltI, nI_eq, z_eq0, z_lt0, z_0le, z_0lt, z_le0, z_n9, z_n1, z_m1lt, z_m9lt, z_m9le, z_m1le, zB_0, zB_1, zz_bi_s, zz_bv_s, zz_bl_s, if_pos, if_neg, if_true, if_false, true_and, and_true, not_true_eq_false, not_false_eq_true, ite_self, m, zbo_u]
theorem sim_best (A : zA) (hw : wf A) (v1 v2 v3 : Int32) : zSim A 92 212 [.int v1, .int v2, .int v3] := by
  have hP6 := wfP hw
  by_cases h1 : zz_in v1 (wP (aW A))
  · obtain ⟨p, hp, -, rfl⟩ := z_inx.mp h1
    have hx := wfr hw hp
    by_cases h2 : zz_in v2 6
    · obtain ⟨r, hr, -, rfl⟩ := z_inx.mp h2
      by_cases h2b : zz_in v3 6
      · obtain ⟨to, hto, -, rfl⟩ := z_inx.mp h2b
        have hN : ∀ c < 12, zgo A p c < 4096 := fun c _ => zgo_lt hw p c
        have hsy := zgo_sym A p
        rcases hw.1 r hr with h3 | ⟨n, hn, h3⟩
        · refine sim_F hw (w := 1) (by decide) (by decide) (fun f g h => ?_) (fun f g h => ?_)
          · have e := (h.2.2.2.1 r hr).1; rw [h3] at e
            simp (disch := first | omega | assumption) only [x_92_0, x_92_5, x_92_12, x_92_19, x_92_22, x_92_35, x_92_48, x_92_69, x_92_95, x_92_108, x_92_123, e_92, l_46 g _ (cxP h) hP6, l_11, nI_add, pk_mul, z_in, z_ix, nI_leI, nI_ltI, nI_eq, z_eq0, z_lt0, z_0le, z_0lt, z_le0, z_n9, z_n1, z_m1lt, z_m9lt, z_m9le, z_m1le, zB_0, zB_1, zz_bi_s, zz_bv_s, zz_bl_s, if_pos, if_neg, if_true, if_false, true_and, and_true, not_true_eq_false, not_false_eq_true, ite_self, l_90a hr _ e, l_12]
          · have e := (h.2.2.2.2.1 r hr).1; rw [h3] at e
            simp (disch := first | omega | assumption) only [x_212_0, x_212_5, x_212_12, x_212_19, x_212_22, x_212_31, x_212_46, x_212_64, x_212_80, x_212_103, x_212_107, x_212_108, x_212_122, x_212_159, x_212_165, x_212_187, e_212, l_176 g _ (cmP h) hP6, l_149, nI_add, pk_mul, z_in, z_ix, nI_leI, nI_ltI, nI_eq, z_eq0, z_lt0, z_0le, z_0lt, z_le0, z_n9, z_n1, z_m1lt, z_m9lt, z_m9le, z_m1le, zB_0, zB_1, zz_bi_s, zz_bv_s, zz_bl_s, if_pos, if_neg, if_true, if_false, true_and, and_true, not_true_eq_false, not_false_eq_true, ite_self, e_208, x_208_0, e, l_151, x_208_14]; rfl
        · by_cases h6 : n ≤ 6
          · by_cases hq : zro ((aR A).2 r) n = true
            · have hc := zro_ok hq
              -- the reference up to the end of its search
              have keyM : ∀ f g, CM A f g → ∃ f', zz_ca 212 [.ref 112, .int (nI p), .int (nI r), .int (nI to)] (zK f g) = zz_ev 212 67 [.ref 112, .int (nI p), .int (nI r), .int (nI to), .null, .int (nI n), .int (zb9 (zbe n (fun l => zsq (zgo A p) (qR (hC (aH A)) p) (fun i => zec (aR A) r (l.getD i 0)) n) 720 (List.range n) none)), .int (nI 0), .null, .null, .null] [] (zK f' g) ∧ (∀ x, x ≠ 123 → x ≠ 124 → x ≠ 125 → f' x = f x) ∧ ∀ s, zbe n (fun l => zsq (zgo A p) (qR (hC (aH A)) p) (fun i => zec (aR A) r (l.getD i 0)) n) 720 (List.range n) none = some s → s.1 < 2 ^ 31 ∧ zOr f' 125 n (fun i => s.2.getD i 0) := by
                intro f g h
                have e := (h.2.2.2.2.1 r hr).1; rw [h3] at e
                have e2 : zro (fun i => f 117 (40 * r + i)) n = true := by rw [zro_c (d := (aR A).2 r) (fun i hi => (h.2.2.2.2.1 r hr).2 i (by omega))]; exact hq
                have m1 : zz_ca 209 [.ref 112, .int (nI p)] (zK f g) = some (none, zK (zfr f (zgo A p) 144) g) := l_209 hw.2.2.1 (CM_V hw h) hp
                have m2 : zfr f (zgo A p) 144 116 r = nI n := by rw [zfr_c (by omega)]; exact e
                obtain ⟨f', r1, r2, r3⟩ := l_212 (N := zgo A p) (a := qR (hC (aH A)) p) (p := p) (r := r) (to := to) (n := n) (c := zec (aR A) r) (g := g) hx (by omega) hr h6 (fun i hi => (hc i hi).2) 720 (List.range n) none (zbs (zfr f (zgo A p) 144) 123 (fun i => i) n) (zch_ok n h6) (fun s hs => by cases hs)
                  (by rw [zbs_c (by omega), zfr_c (by omega)]; exact cmr h hp)
                  (fun x hx y hy => by rw [zbs_c (by omega)]; exact zfr_i hx hy)
                  (fun i hi => by rw [zbs_c (by omega), zfr_c (by omega), (h.2.2.2.2.1 r hr).2 i (by omega)]; exact (hc i hi).1)
                  (zOr_c (o := fun i => i) (fun k hk => zbs_i hk) (fun k hk => z_rid hk))
                refine ⟨f', ?_, fun x x1 x2 x3 => by rw [r2 x x1 x3, zbs_c x1, zfr_c x2], r3⟩
                simp (disch := first | omega | assumption) only [e_212, x_212_0, x_212_5, x_212_12, x_212_19, x_212_31, x_212_46, x_212_64, l_176 g _ (cmP h) hP6, l_149, nI_add, pk_mul, z_in, z_ix, nI_leI, nI_ltI, nI_eq, z_eq0, z_lt0, z_0le, z_0lt, z_le0, z_n9, z_n1, z_m1lt, z_m9lt, z_m9le, z_m1le, zB_0, zB_1, zz_bi_s, zz_bv_s, zz_bl_s, if_pos, if_neg, if_true, if_false, true_and, and_true, not_true_eq_false, not_false_eq_true, ite_self, l_208 hr (show 6 ≤ 40 by decide) h6 e, e2, m1, m2, l_210]
                rw [hw_212_67]
                exact r1
              by_cases hall : ∀ i < n, ¬ zfa (zgo A p) (qR (hC (aH A)) p) (zec (aR A) r i) = none
              · have hall2 : ∀ l : List Nat, (∀ i < n, l.getD i 0 < n) → ∃ s, zsq (zgo A p) (qR (hC (aH A)) p) (fun i => zec (aR A) r (l.getD i 0)) n = some s := fun l hl => zsq_all hN hsy hx (fun i hi => ⟨(hc _ (hl i hi)).2, by
                  cases e : (zcl (zgo A p) (qR (hC (aH A)) p)).testBit (zec (aR A) r (l.getD i 0)) with
                  | true => rfl
                  | false => exact absurd (zfa_none.mpr e) (hall _ (hl i hi))⟩)
                have keyX : ∀ f g, CX A f g → ∃ s f', zbe n (fun l => zsq (zgo A p) (qR (hC (aH A)) p) (fun i => zec (aR A) r (l.getD i 0)) n) 720 (List.range n) none = some s ∧ zz_ca 92 [.ref 0, .int (nI p), .int (nI r), .int (nI to)] (zK f g) = some (some (.int (nI s.1)), zK f' g) ∧ CX (sR A (rNw (aR A) to n (fun i => s.2.getD i 0))) f' g ∧ zHi f f' g g := by
                  intro f g h
                  have e := (h.2.2.2.1 r hr).1; rw [h3] at e
                  have e2 : zro (f (56 + 2 * r + 1)) n = true := by rw [zro_c (d := (aR A).2 r) (fun i hi => (h.2.2.2.1 r hr).2 i (by omega))]; exact hq
                  have h' := CX_look h (zgo A p)
                  have m2 := cxr h' hp
                  obtain ⟨f1, a1, a2, a3⟩ := l_93 (f := zbs f 31 (zgo A p) 12) (g := g) hN (c := zec (aR A) r) hx hr h6 (fun c hc => zbs_i hc) (by rw [zbs_c (by omega)]; exact e) (fun i hi => ⟨by rw [zbs_c (by omega), (h.2.2.2.1 r hr).2 i (by omega)]; exact (hc i hi).1, (hc i hi).2⟩)
                  obtain ⟨b1, b2, b3⟩ := a3 hall
                  obtain ⟨f2, c1, c2, c3, c4⟩ := l_95 f1 g zs_O_37 h6
                  obtain ⟨s, f3, d1, d2, d3, d4⟩ := l_94 (N := zgo A p) (a := qR (hC (aH A)) p) (c := zec (aR A) r) (g := g) h6 hall2 720 (List.range n) none f2 (zch_ok n h6) (by decide) ⟨fun _ => rfl, fun _ => rfl⟩ (fun s hs => by cases hs) (by rw [c2 36 (by decide) (by decide)]; exact b1) c3 (fun i hi => by rw [c2 40 (by decide) (by decide)]; exact b2 i hi) (fun i hi j hj => by rw [c2 _ (by omega) (by omega)]; exact b3 i hi j hj) (zOr_c c4 (fun k hk => z_rid hk))
                  have s3 : f3 36 4 = nI n := by rw [d3 36 (by decide) (by decide), c2 36 (by decide) (by decide)]; exact b1
                  obtain ⟨f4, k1, k2, k3, k4⟩ := l_99 (g := g) hto h6 s3 d4
                  have hxs : zXs f f3 g g := zXs_t (zXs_t zXs_look a2) ⟨fun x hx => by rw [d3 x (by omega) (by omega), c2 x (by omega) (by omega)], fun _ _ => rfl⟩
                  have h3' := CX_s h hxs
                  refine ⟨s, f4, d1, ?_, CX_R h3' (fun a ha => k2 a (by omega) (by omega)) (XR_nw h3'.2.2.2.1 hto (by omega) _ k2 k3 k4), zHi_t (zXs_hi hxs) ⟨fun a ha => k2 a (by omega) (by omega), fun _ _ => rfl⟩⟩
                  simp (disch := first | omega | assumption) only [e_92, x_92_0, x_92_5, x_92_12, x_92_19, x_92_35, x_92_69, x_92_95, l_46 g _ (cxP h) hP6, l_11, nI_add, pk_mul, z_in, z_ix, nI_leI, nI_ltI, nI_eq, z_eq0, z_lt0, z_0le, z_0lt, z_le0, z_n9, z_n1, z_m1lt, z_m9lt, z_m9le, z_m1le, zB_0, zB_1, zz_bi_s, zz_bv_s, zz_bl_s, if_pos, if_neg, if_true, if_false, true_and, and_true, not_true_eq_false, not_false_eq_true, ite_self, l_90 hr (show 6 ≤ 40 by decide) h6 e, e2, cxP h, cxS h, cxB h, cxH h, cxD h, cxk h, cxr h, cxp h, cxd h, cxt h, cxa h, cxb h, l_look hw h hp, m2]
                  rw [a1, zB_t hall, zz_bi_s, x_92_95]
                  simp (disch := first | omega | assumption) only [nI_add, pk_mul, z_in, z_ix, nI_leI, nI_ltI, nI_eq, z_eq0, z_lt0, z_0le, z_0lt, z_le0, z_n9, z_n1, z_m1lt, z_m9lt, z_m9le, z_m1le, zB_0, zB_1, zz_bi_s, zz_bv_s, zz_bl_s, if_pos, if_neg, if_true, if_false, true_and, and_true, not_true_eq_false, not_false_eq_true, ite_self, e_94, x_94_0, b1, c1, x_94_13]
                  have d2' : zz_ev 94 15 [.ref 36, .int (nI 0), .int (nI 0), .null] [] (zK f2 g) = some (some (.int (nI s.1)), zK f3 g) := d2
                  rw [d2', zz_bi_s, x_92_108]
                  simp (disch := first | omega | assumption) only [nI_add, pk_mul, z_in, z_ix, nI_leI, nI_ltI, nI_eq, z_eq0, z_lt0, z_0le, z_0lt, z_le0, z_n9, z_n1, z_m1lt, z_m9lt, z_m9le, z_m1le, zB_0, zB_1, zz_bi_s, zz_bv_s, zz_bl_s, if_pos, if_neg, if_true, if_false, true_and, and_true, not_true_eq_false, not_false_eq_true, ite_self, k1, x_92_123]
                -- the answer does not hang on the cells
                cases hz : zbe n (fun l => zsq (zgo A p) (qR (hC (aH A)) p) (fun i => zec (aR A) r (l.getD i 0)) n) 720 (List.range n) none with
                | none =>
                  refine ⟨.int 0, A, hw, fun f g h => ?_, fun f g h => ?_⟩
                  · obtain ⟨s, f', q, -⟩ := keyX f g h; rw [hz] at q; cases q
                  · exfalso
                    -- the first order gives something already
                    have : ∀ (d : Nat) (l : List Nat) (acc : Option (Nat × List Nat)), zch n d l = true → zbe n (fun l => zsq (zgo A p) (qR (hC (aH A)) p) (fun i => zec (aR A) r (l.getD i 0)) n) d l acc ≠ none := by
                      intro d
                      induction d with
                      | zero => intro l acc q; cases q
                      | succ d ih =>
                        intro l acc q
                        obtain ⟨ok, nxt⟩ := zch_1 q
                        obtain ⟨s, hs⟩ := hall2 l (fun i hi => (ok i hi).1)
                        cases e : znp n (fun i => l.getD i 0) with
                        | none =>
                          rw [zbe_n e, hs]
                          cases acc with
                          | none => rw [zbu_n]; simp
                          | some t => rw [zbu_s]; split <;> simp
                        | some o => rw [zbe_s e]; exact ih _ _ (nxt o e)
                    exact this 720 (List.range n) none (zch_ok n h6) hz
                | some s =>
                  refine ⟨.int (nI s.1), sR A (rNw (aR A) to n (fun i => s.2.getD i 0)), wf_R hw (wfR_nw hw.1 (by omega) _), fun f g h => ?_, fun f g h => ?_⟩
                  · obtain ⟨s', f', q, e1, e2, e3⟩ := keyX f g h
                    rw [hz] at q; cases q
                    exact ⟨f', g, e1, e2, e3⟩
                  · obtain ⟨f', e1, e2, e3⟩ := keyM f g h
                    obtain ⟨q1, q2⟩ := e3 s hz
                    have hCM : CM A f' g := CM_s hw h ⟨fun a x1 x2 => e2 a (by omega) (by omega) (by omega), fun _ _ => rfl, fun j _ => by rw [e2 112 (by omega) (by omega) (by omega)]⟩
                    refine ⟨zbo (zfs (zz_u f' 116 to (nI n)) 117 (40 * to) 40 (nI 0)) (40 * to) (fun i => s.2.getD i 0) n, g, ?_, CM_R hw hCM (fun a x1 x2 => by rw [zbo_c x2, zfs_c x2, zu_c x1]) (MR_nw hCM.2.2.2.2.1 hto (by omega) _), ⟨fun a ha => by rw [zbo_c (by omega), zfs_c (by omega), zu_c (by omega), e2 a (by omega) (by omega) (by omega)], fun _ _ => rfl⟩⟩
                    have o2 : zOr (zfs (zz_u f' 116 to (nI n)) 117 (40 * to) 40 (nI 0)) 125 n (fun i => s.2.getD i 0) := fun k hk => by rw [zfs_c (by omega), zu_c (by omega)]; exact q2 k hk
                    rw [e1, hz, show zb9 (some s) = nI s.1 from rfl, x_212_67]
                    simp (disch := first | omega | assumption) only [nI_add, pk_mul, z_in, z_ix, nI_leI, nI_ltI, nI_eq, z_eq0, z_lt0, z_0le, z_0lt, z_le0, z_n9, z_n1, z_m1lt, z_m9lt, z_m9le, z_m1le, zB_0, zB_1, zz_bi_s, zz_bv_s, zz_bl_s, if_pos, if_neg, if_true, if_false, true_and, and_true, not_true_eq_false, not_false_eq_true, ite_self, l_152, x_212_187]
                    rw [hw_212_190, l_212_190 hto (by omega) o2]
              · have hno : ∃ i, i < n ∧ zfa (zgo A p) (qR (hC (aH A)) p) (zec (aR A) r i) = none := by
                  cases Classical.em (∃ i, i < n ∧ zfa (zgo A p) (qR (hC (aH A)) p) (zec (aR A) r i) = none) with
                  | inl q => exact q
                  | inr q => exact absurd (fun i hi w => q ⟨i, hi, w⟩) hall
                obtain ⟨i0, hi0, hz0⟩ := hno
                have hnone : ∀ (d : Nat) (l : List Nat), zch n d l = true → zbe n (fun l => zsq (zgo A p) (qR (hC (aH A)) p) (fun i => zec (aR A) r (l.getD i 0)) n) d l none = none := by
                  intro d
                  induction d with
                  | zero => intro l q; cases q
                  | succ d ih =>
                    intro l q
                    obtain ⟨ok, nxt⟩ := zch_1 q
                    have hs : zsq (zgo A p) (qR (hC (aH A)) p) (fun i => zec (aR A) r (l.getD i 0)) n = none := by
                      cases e : zsq (zgo A p) (qR (hC (aH A)) p) (fun i => zec (aR A) r (l.getD i 0)) n with
                      | none => rfl
                      | some s =>
                        obtain ⟨k, hk, ek⟩ := (ok i0 hi0).2
                        have := zsq_rc hN hx e k hk
                        rw [ek, zfa_none.mp hz0] at this; cases this
                    cases e : znp n (fun i => l.getD i 0) with
                    | none => rw [zbe_n e, hs]; rfl
                    | some o => rw [zbe_s e, hs]; exact ih _ (nxt o e)
                refine sim_s hw (.int (-9)) (fun f g h => ?_) (fun f g h => ?_)
                · have e := (h.2.2.2.1 r hr).1; rw [h3] at e
                  have e2 : zro (f (56 + 2 * r + 1)) n = true := by rw [zro_c (d := (aR A).2 r) (fun i hi => (h.2.2.2.1 r hr).2 i (by omega))]; exact hq
                  have h' := CX_look h (zgo A p)
                  have m2 := cxr h' hp
                  obtain ⟨f1, a1, a2, -⟩ := l_93 (f := zbs f 31 (zgo A p) 12) (g := g) hN (c := zec (aR A) r) hx hr h6 (fun c hc => zbs_i hc) (by rw [zbs_c (by omega)]; exact e) (fun i hi => ⟨by rw [zbs_c (by omega), (h.2.2.2.1 r hr).2 i (by omega)]; exact (hc i hi).1, (hc i hi).2⟩)
                  refine ⟨f1, g, ?_, zXs_t zXs_look a2⟩
                  simp (disch := first | omega | assumption) only [e_92, x_92_0, x_92_5, x_92_12, x_92_19, x_92_35, x_92_69, x_92_95, l_46 g _ (cxP h) hP6, l_11, nI_add, pk_mul, z_in, z_ix, nI_leI, nI_ltI, nI_eq, z_eq0, z_lt0, z_0le, z_0lt, z_le0, z_n9, z_n1, z_m1lt, z_m9lt, z_m9le, z_m1le, zB_0, zB_1, zz_bi_s, zz_bv_s, zz_bl_s, if_pos, if_neg, if_true, if_false, true_and, and_true, not_true_eq_false, not_false_eq_true, ite_self, l_90 hr (show 6 ≤ 40 by decide) h6 e, e2, cxP h, cxS h, cxB h, cxH h, cxD h, cxk h, cxr h, cxp h, cxd h, cxt h, cxa h, cxb h, l_look hw h hp, m2]
                  rw [a1, zB_f hall, zz_bi_s, x_92_95]
                  simp (disch := first | omega | assumption) only [nI_add, pk_mul, z_in, z_ix, nI_leI, nI_ltI, nI_eq, z_eq0, z_lt0, z_0le, z_0lt, z_le0, z_n9, z_n1, z_m1lt, z_m9lt, z_m9le, z_m1le, zB_0, zB_1, zz_bi_s, zz_bv_s, zz_bl_s, if_pos, if_neg, if_true, if_false, true_and, and_true, not_true_eq_false, not_false_eq_true, ite_self]
                · obtain ⟨f', e1, e2, -⟩ := keyM f g h
                  refine ⟨f', g, ?_, fun a x1 x2 => e2 a (by omega) (by omega) (by omega), fun _ _ => rfl, fun j _ => by rw [e2 112 (by omega) (by omega) (by omega)]⟩
                  rw [e1, hnone 720 (List.range n) (zch_ok n h6), show zb9 none = -9 from rfl, x_212_67]
                  simp (disch := first | omega | assumption) only [nI_add, pk_mul, z_in, z_ix, nI_leI, nI_ltI, nI_eq, z_eq0, z_lt0, z_0le, z_0lt, z_le0, z_n9, z_n1, z_m1lt, z_m9lt, z_m9le, z_m1le, zB_0, zB_1, zz_bi_s, zz_bv_s, zz_bl_s, if_pos, if_neg, if_true, if_false, true_and, and_true, not_true_eq_false, not_false_eq_true, ite_self]
            · refine sim_F hw (w := 3) (by decide) (by decide) (fun f g h => ?_) (fun f g h => ?_)
              · have e := (h.2.2.2.1 r hr).1; rw [h3] at e
                have e2 : ¬ zro (f (56 + 2 * r + 1)) n = true := by rw [zro_c (d := (aR A).2 r) (fun i hi => (h.2.2.2.1 r hr).2 i (by omega))]; exact hq
                simp (disch := first | omega | assumption) only [x_92_0, x_92_5, x_92_12, x_92_19, x_92_22, x_92_35, x_92_48, x_92_69, x_92_95, x_92_108, x_92_123, e_92, l_46 g _ (cxP h) hP6, l_11, nI_add, pk_mul, z_in, z_ix, nI_leI, nI_ltI, nI_eq, z_eq0, z_lt0, z_0le, z_0lt, z_le0, z_n9, z_n1, z_m1lt, z_m9lt, z_m9le, z_m1le, zB_0, zB_1, zz_bi_s, zz_bv_s, zz_bl_s, if_pos, if_neg, if_true, if_false, true_and, and_true, not_true_eq_false, not_false_eq_true, ite_self, l_90 hr (show 6 ≤ 40 by decide) h6 e, e2, Bool.false_eq_true, l_12]
              · have e := (h.2.2.2.2.1 r hr).1; rw [h3] at e
                have e2 : ¬ zro (fun i => f 117 (40 * r + i)) n = true := by rw [zro_c (d := (aR A).2 r) (fun i hi => (h.2.2.2.2.1 r hr).2 i (by omega))]; exact hq
                simp (disch := first | omega | assumption) only [x_212_0, x_212_5, x_212_12, x_212_19, x_212_22, x_212_31, x_212_46, x_212_64, x_212_80, x_212_103, x_212_107, x_212_108, x_212_122, x_212_159, x_212_165, x_212_187, e_212, l_176 g _ (cmP h) hP6, l_149, nI_add, pk_mul, z_in, z_ix, nI_leI, nI_ltI, nI_eq, z_eq0, z_lt0, z_0le, z_0lt, z_le0, z_n9, z_n1, z_m1lt, z_m9lt, z_m9le, z_m1le, zB_0, zB_1, zz_bi_s, zz_bv_s, zz_bl_s, if_pos, if_neg, if_true, if_false, true_and, and_true, not_true_eq_false, not_false_eq_true, ite_self, l_208 hr (show 6 ≤ 40 by decide) h6 e, e2, Bool.false_eq_true]; rfl
          · refine sim_F hw (w := 5) (by decide) (by decide) (fun f g h => ?_) (fun f g h => ?_)
            · have e := (h.2.2.2.1 r hr).1; rw [h3] at e
              simp (disch := first | omega | assumption) only [x_92_0, x_92_5, x_92_12, x_92_19, x_92_22, x_92_35, x_92_48, x_92_69, x_92_95, x_92_108, x_92_123, e_92, l_46 g _ (cxP h) hP6, l_11, nI_add, pk_mul, z_in, z_ix, nI_leI, nI_ltI, nI_eq, z_eq0, z_lt0, z_0le, z_0lt, z_le0, z_n9, z_n1, z_m1lt, z_m9lt, z_m9le, z_m1le, zB_0, zB_1, zz_bi_s, zz_bv_s, zz_bl_s, if_pos, if_neg, if_true, if_false, true_and, and_true, not_true_eq_false, not_false_eq_true, ite_self, l_90b (M := 6) hr hn (by omega) e, l_12]
            · have e := (h.2.2.2.2.1 r hr).1; rw [h3] at e
              simp (disch := first | omega | assumption) only [x_212_0, x_212_5, x_212_12, x_212_19, x_212_22, x_212_31, x_212_46, x_212_64, x_212_80, x_212_103, x_212_107, x_212_108, x_212_122, x_212_159, x_212_165, x_212_187, e_212, l_176 g _ (cmP h) hP6, l_149, nI_add, pk_mul, z_in, z_ix, nI_leI, nI_ltI, nI_eq, z_eq0, z_lt0, z_0le, z_0lt, z_le0, z_n9, z_n1, z_m1lt, z_m9lt, z_m9le, z_m1le, zB_0, zB_1, zz_bi_s, zz_bv_s, zz_bl_s, if_pos, if_neg, if_true, if_false, true_and, and_true, not_true_eq_false, not_false_eq_true, ite_self, e_208, x_208_0, e, l_151, x_208_30]; rfl
      · exact sim_0 hw (.int (-1)) (fun f g h => by simp (disch := first | omega | assumption) only [x_92_0, x_92_5, x_92_12, x_92_19, x_92_22, x_92_35, x_92_48, x_92_69, x_92_95, x_92_108, x_92_123, e_92, l_46 g _ (cxP h) hP6, l_11, nI_add, pk_mul, z_in, z_ix, nI_leI, nI_ltI, nI_eq, z_eq0, z_lt0, z_0le, z_0lt, z_le0, z_n9, z_n1, z_m1lt, z_m9lt, z_m9le, z_m1le, zB_0, zB_1, zz_bi_s, zz_bv_s, zz_bl_s, if_pos, if_neg, if_true, if_false, true_and, and_true, not_true_eq_false, not_false_eq_true, ite_self, h2b]) (fun f g h => by simp (disch := first | omega | assumption) only [x_212_0, x_212_5, x_212_12, x_212_19, x_212_22, x_212_31, x_212_46, x_212_64, x_212_80, x_212_103, x_212_107, x_212_108, x_212_122, x_212_159, x_212_165, x_212_187, e_212, l_176 g _ (cmP h) hP6, l_149, nI_add, pk_mul, z_in, z_ix, nI_leI, nI_ltI, nI_eq, z_eq0, z_lt0, z_0le, z_0lt, z_le0, z_n9, z_n1, z_m1lt, z_m9lt, z_m9le, z_m1le, zB_0, zB_1, zz_bi_s, zz_bv_s, zz_bl_s, if_pos, if_neg, if_true, if_false, true_and, and_true, not_true_eq_false, not_false_eq_true, ite_self, h2b])
    · exact sim_0 hw (.int (-1)) (fun f g h => by simp (disch := first | omega | assumption) only [x_92_0, x_92_5, x_92_12, x_92_19, x_92_22, x_92_35, x_92_48, x_92_69, x_92_95, x_92_108, x_92_123, e_92, l_46 g _ (cxP h) hP6, l_11, nI_add, pk_mul, z_in, z_ix, nI_leI, nI_ltI, nI_eq, z_eq0, z_lt0, z_0le, z_0lt, z_le0, z_n9, z_n1, z_m1lt, z_m9lt, z_m9le, z_m1le, zB_0, zB_1, zz_bi_s, zz_bv_s, zz_bl_s, if_pos, if_neg, if_true, if_false, true_and, and_true, not_true_eq_false, not_false_eq_true, ite_self, h2]) (fun f g h => by simp (disch := first | omega | assumption) only [x_212_0, x_212_5, x_212_12, x_212_19, x_212_22, x_212_31, x_212_46, x_212_64, x_212_80, x_212_103, x_212_107, x_212_108, x_212_122, x_212_159, x_212_165, x_212_187, e_212, l_176 g _ (cmP h) hP6, l_149, nI_add, pk_mul, z_in, z_ix, nI_leI, nI_ltI, nI_eq, z_eq0, z_lt0, z_0le, z_0lt, z_le0, z_n9, z_n1, z_m1lt, z_m9lt, z_m9le, z_m1le, zB_0, zB_1, zz_bi_s, zz_bv_s, zz_bl_s, if_pos, if_neg, if_true, if_false, true_and, and_true, not_true_eq_false, not_false_eq_true, ite_self, h2])
  · exact sim_0 hw (.int (-1)) (fun f g h => by simp (disch := first | omega | assumption) only [x_92_0, x_92_5, x_92_12, x_92_19, x_92_22, x_92_35, x_92_48, x_92_69, x_92_95, x_92_108, x_92_123, e_92, l_46 g _ (cxP h) hP6, nI_add, pk_mul, z_in, z_ix, nI_leI, nI_ltI, nI_eq, z_eq0, z_lt0, z_0le, z_0lt, z_le0, z_n9, z_n1, z_m1lt, z_m9lt, z_m9le, z_m1le, zB_0, zB_1, zz_bi_s, zz_bv_s, zz_bl_s, if_pos, if_neg, if_true, if_false, true_and, and_true, not_true_eq_false, not_false_eq_true, ite_self, h1]) (fun f g h => by simp (disch := first | omega | assumption) only [x_212_0, x_212_5, x_212_12, x_212_19, x_212_22, x_212_31, x_212_46, x_212_64, x_212_80, x_212_103, x_212_107, x_212_108, x_212_122, x_212_159, x_212_165, x_212_187, e_212, l_176 g _ (cmP h) hP6, nI_add, pk_mul, z_in, z_ix, nI_leI, nI_ltI, nI_eq, z_eq0, z_lt0, z_0le, z_0lt, z_le0, z_n9, z_n1, z_m1lt, z_m9lt, z_m9le, z_m1le, zB_0, zB_1, zz_bi_s, zz_bv_s, zz_bl_s, if_pos, if_neg, if_true, if_false, true_and, and_true, not_true_eq_false, not_false_eq_true, ite_self, h1])
