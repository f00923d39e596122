/-! AGES -/
def zaf (A : zA) (r n P : Nat) (l : List Nat) : Bool := zal (fun i => decide (nI (zdo A (l.getD i 0) n) = (aR A).2 r i)) P
def znu (o : Nat → Nat) : Nat → Nat
  | 0 => 0
  | k + 1 => 6 * znu o k + o k
def zau (fit : Bool) (num : Nat) (s : Nat × Int32) : Nat × Int32 := if fit = true then (s.1 + 1, if s.1 = 0 then nI num else s.2) else s
def zag (n : Nat) (fit : List Nat → Bool) (num : List Nat → Nat) : Nat → List Nat → Nat × Int32 → Nat × Int32
  | 0, _, s => s
  | d + 1, l, s => match znp n (fun i => l.getD i 0) with
    | none => zau (fit l) (num l) s
    | some o => zag n fit num d ((List.range n).map o) (zau (fit l) (num l) s)
theorem zag_n {n d : Nat} {fit : List Nat → Bool} {num : List Nat → Nat} {l : List Nat} {s : Nat × Int32} (h : znp n (fun i => l.getD i 0) = none) : zag n fit num (d + 1) l s = zau (fit l) (num l) s := by
  show (match znp n (fun i => l.getD i 0) with
    | none => zau (fit l) (num l) s
    | some o => zag n fit num d ((List.range n).map o) (zau (fit l) (num l) s)) = _
  rw [h]
theorem zag_s {n d : Nat} {fit : List Nat → Bool} {num : List Nat → Nat} {l : List Nat} {s : Nat × Int32} {o : Nat → Nat} (h : znp n (fun i => l.getD i 0) = some o) : zag n fit num (d + 1) l s = zag n fit num d ((List.range n).map o) (zau (fit l) (num l) s) := by
  show (match znp n (fun i => l.getD i 0) with
    | none => zau (fit l) (num l) s
    | some o => zag n fit num d ((List.range n).map o) (zau (fit l) (num l) s)) = _
  rw [h]
theorem l_125 {A : zA} {f : Nat → Nat → Int32} {g : Nat → Nat → Int64} {r n P : Nat} (hr : r < 6) (hP : P ≤ 6) {l : List Nat} (h0 : f 49 1 = nI P) (h1 : f (56 + 2 * r) 1 = nI P) (h2 : zOr f 50 P (fun i => l.getD i 0)) (hl : ∀ i < P, l.getD i 0 < P) (h3 : ∀ p < P, f 51 p = nI (zdo A p n)) (h4 : ∀ i < 40, f (56 + 2 * r + 1) i = (aR A).2 r i) : zz_ca 125 [.ref 48, .ref (56 + 2 * r)] (zK f g) = some (some (.int (zB (zaf A r n P l = true))), zK f g) := by
  have hS := zs_S_row r hr
  rw [e_125, x_125_0 _ _ _ hS]
  have key := z_srch (fun i => zz_ev 125 2 [.ref 48, .ref (56 + 2 * r), .int (nI i)] [] (zK f g)) (fun _ => some (some (.int (nI 0)), zK f g)) (some (some (.int (nI 1)), zK f g)) (fun i => !decide (nI (zdo A (l.getD i 0) n) = (aR A).2 r i)) P 0 (fun i _ hi => ?_) ?_ 0 (by omega) (by omega)
  · refine key.trans ?_
    cases hz : zff (fun i => !decide (nI (zdo A (l.getD i 0) n) = (aR A).2 r i)) (P - 0) 0 with
    | none =>
      rw [zB_t]; unfold zaf; rw [zal_iff]; intro i hi
      have := zff_none hz i (by omega) (by omega); simpa using this
    | some j =>
      have h1 := zff_some hz
      rw [zB_f]; unfold zaf; rw [zal_iff]; intro q
      have h2 := q j (by omega)
      have h3 := h1.2.2
      rw [h2] at h3; cases h3
  · show zz_ev 125 2 _ _ _ = _
    have m1 := h2 i hi
    have l1 := hl i hi
    have m2 := h3 _ l1
    have m3 := h4 i (by omega)
    rw [x_125_2 _ _ _ _ hS, h0, h1]
    simp (disch := first | omega | assumption) only [nI_add, pk_mul, z_in, z_ix, nI_leI, nI_ltI, nI_eq, z_eq0, z_lt0, z_0le, z_0lt, z_le0, z_n9, z_n1, z_m1lt, z_m9lt, z_m9le, z_m1le, zB_0, zB_1, zz_bi_s, zz_bv_s, zz_bl_s, if_pos, if_neg, if_true, if_false, true_and, and_true, not_true_eq_false, not_false_eq_true, ite_self, m1, m2, m3, Bool.not_eq_true', decide_eq_false_iff_not, ite_not]
  · show zz_ev 125 2 _ _ _ = _
    rw [x_125_2 _ _ _ _ hS, h0, h1]; simp (disch := first | omega | assumption) only [nI_add, pk_mul, z_in, z_ix, nI_leI, nI_ltI, nI_eq, z_eq0, z_lt0, z_0le, z_0lt, z_le0, z_n9, z_n1, z_m1lt, z_m9lt, z_m9le, z_m1le, zB_0, zB_1, zz_bi_s, zz_bv_s, zz_bl_s, if_pos, if_neg, if_true, if_false, true_and, and_true, not_true_eq_false, not_false_eq_true, ite_self, x_125_52 _ _ _ _ hS]
theorem l_126 {f : Nat → Nat → Int32} {g : Nat → Nat → Int64} {P : Nat} (hP : P ≤ 6) {o : Nat → Nat} (h0 : f 49 1 = nI P) (h2 : zOr f 50 P o) : zz_ca 126 [.ref 48] (zK f g) = some (some (.int (nI (znu o P))), zK f g) := by
  rw [e_126, x_126_0]
  refine (z_lp (fun i => zz_ev 126 4 [.ref 48, .int (nI (znu o i)), .int (nI i)] [] (zK f g)) P (fun i hi => ?_) 0 (by omega)).trans ?_
  · show zz_ev 126 4 _ _ _ = zz_ev 126 4 _ _ _
    have m1 := h2 i hi
    rw [x_126_4, h0]; simp (disch := first | omega | assumption) only [nI_add, pk_mul, z_in, z_ix, nI_leI, nI_ltI, nI_eq, z_eq0, z_lt0, z_0le, z_0lt, z_le0, z_n9, z_n1, z_m1lt, z_m9lt, z_m9le, z_m1le, zB_0, zB_1, zz_bi_s, zz_bv_s, zz_bl_s, if_pos, if_neg, if_true, if_false, true_and, and_true, not_true_eq_false, not_false_eq_true, ite_self, m1]; rfl
  · show zz_ev 126 4 _ _ _ = _
    rw [x_126_4, h0]; simp (disch := first | omega | assumption) only [nI_add, pk_mul, z_in, z_ix, nI_leI, nI_ltI, nI_eq, z_eq0, z_lt0, z_0le, z_0lt, z_le0, z_n9, z_n1, z_m1lt, z_m9lt, z_m9le, z_m1le, zB_0, zB_1, zz_bi_s, zz_bv_s, zz_bl_s, if_pos, if_neg, if_true, if_false, true_and, and_true, not_true_eq_false, not_false_eq_true, ite_self]
theorem l_124_57 {A : zA} {r n P : Nat} {g : Nat → Nat → Int64} (hr : r < 6) (hP : P ≤ 6) : ∀ (d : Nat) (l : List Nat) (s : Nat × Int32) (f : Nat → Nat → Int32), zch P d l = true → d ≤ 720 → s.1 ≤ 720 - d → f 48 2 = nI s.1 → f 48 3 = s.2 → f 49 1 = nI P → f (56 + 2 * r) 1 = nI P → (∀ p < P, f 51 p = nI (zdo A p n)) → (∀ i < 40, f (56 + 2 * r + 1) i = (aR A).2 r i) → zOr f 50 P (fun i => l.getD i 0) → ∃ f', zz_ev 124 57 [.ref 48, .null, .null, .ref (56 + 2 * r), .int (nI (720 - d))] [] (zK f g) = some (none, zK f' g) ∧ (∀ x, x ≠ 48 → x ≠ 50 → f' x = f x) ∧ f' 48 2 = nI (zag P (zaf A r n P) (fun l => znu (fun i => l.getD i 0) P) d l s).1 ∧ f' 48 3 = (zag P (zaf A r n P) (fun l => znu (fun i => l.getD i 0) P) d l s).2
  | 0, l, s, f, hch, hd, hs, h1, h2, h3, h4, h5, h6, h7 => by cases hch
  | d + 1, l, s, f, hch, hd, hs, h1, h2, h3, h4, h5, h6, h7 => by
    have hS := zs_S_row r hr
    obtain ⟨ok, nxt⟩ := zch_1 hch
    have m1 := l_125 (g := g) hr hP h3 h4 h7 (fun i hi => (ok i hi).1) h5 h6
    have m2 := l_126 (g := g) hP h3 h7
    have step : ∃ f1, zz_ev 124 70 [.ref 48, .null, .null, .ref (56 + 2 * r), .int (nI (720 - (d + 1)))] [.int (zB (zaf A r n P l = true))] (zK f g) = zz_ev 124 105 [.ref 48, .null, .null, .ref (56 + 2 * r), .int (nI (720 - (d + 1)))] [] (zK f1 g) ∧ (∀ x, x ≠ 48 → f1 x = f x) ∧ f1 48 2 = nI (zau (zaf A r n P l) (znu (fun i => l.getD i 0) P) s).1 ∧ f1 48 3 = (zau (zaf A r n P l) (znu (fun i => l.getD i 0) P) s).2 := by
      unfold zau
      rw [x_124_70 _ _ _ _ _ hS, h1]
      by_cases q : zaf A r n P l = true
      · rw [if_pos q, zB_t q]
        simp (disch := first | omega | assumption) only [nI_add, pk_mul, z_in, z_ix, nI_leI, nI_ltI, nI_eq, z_eq0, z_lt0, z_0le, z_0lt, z_le0, z_n9, z_n1, z_m1lt, z_m9lt, z_m9le, z_m1le, zB_0, zB_1, zz_bi_s, zz_bv_s, zz_bl_s, if_pos, if_neg, if_true, if_false, true_and, and_true, not_true_eq_false, not_false_eq_true, ite_self, m2]
        by_cases q0 : s.1 = 0
        · rw [if_pos q0]
          refine ⟨_, by rw [x_124_85 _ _ _ _ _ hS, x_124_92 _ _ _ _ _ hS], fun x hx => by rw [zu_c hx, zu_c hx], ?_, ?_⟩
          · rw [zu_s, zu_i (by decide), h1, nI_add]
          · show zz_u _ 48 2 _ 48 3 = if s.1 = 0 then _ else _
            rw [if_pos q0, zu_i (by decide), zu_s]
        · rw [if_neg q0]
          refine ⟨_, by rw [x_124_92 _ _ _ _ _ hS], fun x hx => by rw [zu_c hx, zu_c hx], ?_, ?_⟩
          · rw [zu_s, zu_i (by decide), h1, nI_add]
          · show zz_u _ 48 2 _ 48 3 = if s.1 = 0 then _ else _
            rw [if_neg q0, zu_i (by decide), zu_s, h2]
      · rw [if_neg q, zB_f q]
        simp (disch := first | omega | assumption) only [nI_add, pk_mul, z_in, z_ix, nI_leI, nI_ltI, nI_eq, z_eq0, z_lt0, z_0le, z_0lt, z_le0, z_n9, z_n1, z_m1lt, z_m9lt, z_m9le, z_m1le, zB_0, zB_1, zz_bi_s, zz_bv_s, zz_bl_s, if_pos, if_neg, if_true, if_false, true_and, and_true, not_true_eq_false, not_false_eq_true, ite_self]
        exact ⟨f, rfl, fun _ _ => rfl, h1, h2⟩
    obtain ⟨f1, b1, b2, b3, b4⟩ := step
    have hs1 : (zau (zaf A r n P l) (znu (fun i => l.getD i 0) P) s).1 ≤ 720 - d := by
      unfold zau; split
      · show s.1 + 1 ≤ _; omega
      · omega
    have go := l_97 (f := f1) (g := g) zs_O_49 hP (o := fun i => l.getD i 0) (fun k hk => by have := (ok k hk).1; omega) (by rw [b2 49 (by decide)]; exact h3) (fun k hk => by rw [b2 50 (by decide)]; exact h7 k hk)
    have head : zz_ev 124 57 [.ref 48, .null, .null, .ref (56 + 2 * r), .int (nI (720 - (d + 1)))] [] (zK f g) = zz_bi (zz_ca 97 [.ref 49] (zK f1 g)) (fun r9 h9 => zz_ev 124 112 [.ref 48, .null, .null, .ref (56 + 2 * r), .int (nI (720 - (d + 1)))] [.int r9] h9) := by
      rw [x_124_57 _ _ _ _ _ _ hS]; simp (disch := first | omega | assumption) only [nI_add, pk_mul, z_in, z_ix, nI_leI, nI_ltI, nI_eq, z_eq0, z_lt0, z_0le, z_0lt, z_le0, z_n9, z_n1, z_m1lt, z_m9lt, z_m9le, z_m1le, zB_0, zB_1, zz_bi_s, zz_bv_s, zz_bl_s, if_pos, if_neg, if_true, if_false, true_and, and_true, not_true_eq_false, not_false_eq_true, ite_self, m1]; rw [b1, x_124_105 _ _ _ _ hS]
    rcases go with ⟨g1, g2⟩ | ⟨o', f2, g1, g2, g3, g4⟩
    · refine ⟨f1, ?_, fun x hx _ => b2 x hx, by rw [zag_n g1]; exact b3, by rw [zag_n g1]; exact b4⟩
      rw [head, g2, zz_bi_s, x_124_112 _ _ _ _ _ hS]; simp (disch := first | omega | assumption) only [nI_add, pk_mul, z_in, z_ix, nI_leI, nI_ltI, nI_eq, z_eq0, z_lt0, z_0le, z_0lt, z_le0, z_n9, z_n1, z_m1lt, z_m9lt, z_m9le, z_m1le, zB_0, zB_1, zz_bi_s, zz_bv_s, zz_bl_s, if_pos, if_neg, if_true, if_false, true_and, and_true, not_true_eq_false, not_false_eq_true, ite_self]
    · obtain ⟨f3, r1, r2, r3, r4⟩ := l_124_57 (A := A) (n := n) (g := g) hr hP d ((List.range P).map o') (zau (zaf A r n P l) (znu (fun i => l.getD i 0) P) s) f2 (nxt o' g1) (by omega) hs1 (by rw [g3 48 (by decide)]; exact b3) (by rw [g3 48 (by decide)]; exact b4) (by rw [g3 49 (by decide), b2 49 (by decide)]; exact h3) (by rw [g3 _ (by omega), b2 _ (by omega)]; exact h4) (fun p hp => by rw [g3 51 (by decide), b2 51 (by decide)]; exact h5 p hp) (fun i hi => by rw [g3 _ (by omega), b2 _ (by omega)]; exact h6 i hi) (zOr_c g4 (fun k hk => z_rmap hk))
      refine ⟨f3, ?_, fun x x1 x2 => by rw [r2 x x1 x2, g3 x x2, b2 x x1], by rw [zag_s g1]; exact r3, by rw [zag_s g1]; exact r4⟩
      rw [head, g2, zz_bi_s, x_124_112 _ _ _ _ _ hS]; simp (disch := first | omega | assumption) only [nI_add, pk_mul, z_in, z_ix, nI_leI, nI_ltI, nI_eq, z_eq0, z_lt0, z_0le, z_0lt, z_le0, z_n9, z_n1, z_m1lt, z_m9lt, z_m9le, z_m1le, zB_0, zB_1, zz_bi_s, zz_bv_s, zz_bl_s, if_pos, if_neg, if_true, if_false, true_and, and_true, not_true_eq_false, not_false_eq_true, ite_self]
      rw [show 720 - (d + 1) + 1 = 720 - d by omega]
      exact r1
theorem l_124 {A : zA} (hw : wf A) {f : Nat → Nat → Int32} {g : Nat → Nat → Int64} (h : CX A f g) {r n : Nat} (hr : r < 6) (hn : n < 1000) (hs : (aR A).1 r = nI (wP (aW A))) : ∃ f', zz_ca 124 [.ref 48, .ref 3, .int (nI n), .ref (56 + 2 * r)] (zK f g) = some (none, zK f' g) ∧ zXs f f' g g ∧ f' 48 2 = nI (zag (wP (aW A)) (zaf A r n (wP (aW A))) (fun l => znu (fun i => l.getD i 0) (wP (aW A))) 720 (List.range (wP (aW A))) (0, -9)).1 ∧ f' 48 3 = (zag (wP (aW A)) (zaf A r n (wP (aW A))) (fun l => znu (fun i => l.getD i 0) (wP (aW A))) 720 (List.range (wP (aW A))) (0, -9)).2 := by
  have hP6 := wfP hw
  have hS := zs_S_row r hr
  rw [e_124, x_124_0 _ _ _ _ hS]
  have key := z_lp (fun i => zz_ev 124 3 [.ref 48, .ref 3, .int (nI n), .ref (56 + 2 * r), .int (nI i)] [] (zK (zbs f 51 (fun p => zdo A p n) i) g)) (wP (aW A)) (fun i hi => ?_) 0 (by omega)
  · rw [zbs_0] at key
    have hx1 : zXs f (zz_u (zz_u (zbs f 51 (fun p => zdo A p n) (wP (aW A))) 48 2 (nI 0)) 48 3 (-9)) g g := ⟨fun a ha => by rw [zu_c (by omega), zu_c (by omega), zbs_c (by omega)], fun _ _ => rfl⟩
    have h1 := CX_s h hx1
    have m0 : zbs f 51 (fun p => zdo A p n) (wP (aW A)) 3 0 = nI (wP (aW A)) := by rw [zbs_c (by decide)]; exact cxP h
    obtain ⟨f2, c1, c2, c3, c4⟩ := l_95 (zz_u (zz_u (zbs f 51 (fun p => zdo A p n) (wP (aW A))) 48 2 (nI 0)) 48 3 (-9)) g zs_O_49 hP6
    have hx2 : zXs f f2 g g := ⟨fun a ha => by rw [c2 a (by omega) (by omega), zu_c (by omega), zu_c (by omega), zbs_c (by omega)], fun _ _ => rfl⟩
    have h2 := CX_s h hx2
    obtain ⟨f3, r1, r2, r3, r4⟩ := l_124_57 (A := A) (n := n) (g := g) hr hP6 720 (List.range (wP (aW A))) (0, -9) f2 (zch_ok _ hP6) (by decide) (Nat.zero_le _) (by rw [c2 48 (by decide) (by decide), zu_i (by decide), zu_s]) (by rw [c2 48 (by decide) (by decide), zu_s]) c3 (by rw [(h2.2.2.2.1 r hr).1]; exact hs) (fun p hp => by rw [c2 51 (by decide) (by decide), zu_c (by decide), zu_c (by decide)]; exact zbs_i hp) (fun i hi => (h2.2.2.2.1 r hr).2 i hi) (zOr_c c4 (fun k hk => z_rid hk))
    refine ⟨f3, ?_, zXs_t hx2 ⟨fun a ha => r2 a (by omega) (by omega), fun _ _ => rfl⟩, r3, r4⟩
    refine key.trans ?_
    rw [x_124_3 _ _ _ _ _ hS, m0]
    simp (disch := first | omega | assumption) only [nI_add, pk_mul, z_in, z_ix, nI_leI, nI_ltI, nI_eq, z_eq0, z_lt0, z_0le, z_0lt, z_le0, z_n9, z_n1, z_m1lt, z_m9lt, z_m9le, z_m1le, zB_0, zB_1, zz_bi_s, zz_bv_s, zz_bl_s, if_pos, if_neg, if_true, if_false, true_and, and_true, not_true_eq_false, not_false_eq_true, ite_self]
    rw [zu_c (by decide), zu_c (by decide), m0, c1, zz_bv_s, x_124_54 _ _ _ _ _ hS, hw_124_57 _ _ _ _ _ _ hS]
    exact r1
  · show zz_ev 124 3 _ _ _ = zz_ev 124 3 _ _ _
    have h1 : CX A (zbs f 51 (fun p => zdo A p n) i) g := CX_s h (zXs_c (by decide) (by decide) (fun x hx => zbs_c hx))
    have m0 := cxP h1
    rw [x_124_3 _ _ _ _ _ hS, m0]
    simp (disch := first | omega | assumption) only [nI_add, pk_mul, z_in, z_ix, nI_leI, nI_ltI, nI_eq, z_eq0, z_lt0, z_0le, z_0lt, z_le0, z_n9, z_n1, z_m1lt, z_m9lt, z_m9le, z_m1le, zB_0, zB_1, zz_bi_s, zz_bv_s, zz_bl_s, if_pos, if_neg, if_true, if_false, true_and, and_true, not_true_eq_false, not_false_eq_true, ite_self, l_58 hw h1, x_124_25 _ _ _ _ _ _ _ hS]
    rw [show zz_u (zbs f 51 (fun p => zdo A p n) i) 51 i (nI (zdo A i n)) = zbs f 51 (fun p => zdo A p n) (i + 1) from zbs_u]
/-! the reference -/
theorem l_187A {A : zA} (hw : wf A) (x : Int32) {f : Nat → Nat → Int32} {g : Nat → Nat → Int64} (h : CM (sA A x) f g) {p n : Nat} (hp : p < wP (aW A)) (hn : n < 1000) : zz_ca 187 [.ref 112, .int (nI p), .int (nI n)] (zK f g) = some (some (.int (nI (zdo A p n))), zK f g) := l_187 (A := sA A x) hw h hp hn
theorem l_229_98 {A : zA} (hw : wf A) (x : Int32) {f : Nat → Nat → Int32} {g : Nat → Nat → Int64} (h : CM (sA A x) f g) {r n : Nat} (hr : r < 6) (hn : n < 1000) {l : List Nat} {v3 : Int32} (hl : ∀ i < wP (aW A), l.getD i 0 < wP (aW A)) (h2 : zOr f 123 (wP (aW A)) (fun i => l.getD i 0)) : zz_ev 229 98 [.ref 112, .int (nI r), .int (nI n), .int v3, .null, .int (nI 1), .int (nI 0), .int (nI 0)] [] (zK f g) = zz_ev 229 98 [.ref 112, .int (nI r), .int (nI n), .int v3, .null, .int (zB (zaf A r n (wP (aW A)) l = true)), .int (nI (znu (fun i => l.getD i 0) (wP (aW A)))), .int (nI (wP (aW A)))] [] (zK f g) := by
  have hP6 := wfP hw
  have e0 : f 112 1 = nI (wP (aW A)) := cmP (A := sA A x) h
  refine z_lp (fun i => zz_ev 229 98 [.ref 112, .int (nI r), .int (nI n), .int v3, .null, .int (zB (zal (fun i => decide (nI (zdo A (l.getD i 0) n) = (aR A).2 r i)) i = true)), .int (nI (znu (fun i => l.getD i 0) i)), .int (nI i)] [] (zK f g)) (wP (aW A)) (fun i hi => ?_) 0 (by omega)
  show zz_ev 229 98 _ _ _ = zz_ev 229 98 _ _ _
  have m1 := h2 i hi
  have l1 := hl i hi
  have m2 : f 117 (40 * r + i) = (aR A).2 r i := (h.2.2.2.2.1 r hr).2 i (by omega)
  rw [x_229_98, e0]
  simp (disch := first | omega | assumption) only [nI_add, pk_mul, z_in, z_ix, nI_leI, nI_ltI, nI_eq, z_eq0, z_lt0, z_0le, z_0lt, z_le0, z_n9, z_n1, z_m1lt, z_m9lt, z_m9le, z_m1le, zB_0, zB_1, zz_bi_s, zz_bv_s, zz_bl_s, if_pos, if_neg, if_true, if_false, true_and, and_true, not_true_eq_false, not_false_eq_true, ite_self, m1, l_187A hw x h, x_229_124, m2, x_229_143, x_229_144]
  rw [zal_s, show znu (fun i => l.getD i 0) (i + 1) = 6 * znu (fun i => l.getD i 0) i + l.getD i 0 from rfl]
  by_cases q : zal (fun i => decide (nI (zdo A (l.getD i 0) n) = (aR A).2 r i)) i = true
  · rw [if_neg (fun w => w q)]
    by_cases q2 : nI (zdo A (l.getD i 0) n) = (aR A).2 r i
    · rw [if_pos q2, zB_t (by rw [q, decide_eq_true q2]; rfl)]
    · rw [if_neg q2, zB_f (by rw [q]; simpa using q2)]
  · rw [if_pos q, zB_f (by simp only [Bool.and_eq_true]; exact fun w => q w.1)]
theorem l_229 {A : zA} (hw : wf A) {r n : Nat} {g : Nat → Nat → Int64} (hr : r < 6) (hn : n < 1000) : ∀ (d : Nat) (l : List Nat) (s : Nat × Int32) (f : Nat → Nat → Int32), zch (wP (aW A)) d l = true → d ≤ 720 → s.1 ≤ 720 - d → CM (sA A s.2) f g → zOr f 123 (wP (aW A)) (fun i => l.getD i 0) → ∃ f', zz_ev 229 84 [.ref 112, .int (nI r), .int (nI n), .int (nI s.1), .int (nI 1), .null, .null, .null] [] (zK f g) = zz_ev 229 84 [.ref 112, .int (nI r), .int (nI n), .int (nI (zag (wP (aW A)) (zaf A r n (wP (aW A))) (fun l => znu (fun i => l.getD i 0) (wP (aW A))) d l s).1), .int (nI 0), .null, .null, .null] [] (zK f' g) ∧ CM (sA A (zag (wP (aW A)) (zaf A r n (wP (aW A))) (fun l => znu (fun i => l.getD i 0) (wP (aW A))) d l s).2) f' g ∧ zLo f f' g g
  | 0, l, s, f, hch, hd, hs, h1, h2 => by cases hch
  | d + 1, l, s, f, hch, hd, hs, h1, h2 => by
    have hP6 := wfP hw
    obtain ⟨ok, nxt⟩ := zch_1 hch
    have m1 := l_229_98 hw s.2 (g := g) h1 hr hn (v3 := nI s.1) (fun i hi => (ok i hi).1) h2
    have e0 : f 112 1 = nI (wP (aW A)) := cmP (A := sA A s.2) h1
    have e9 : f 112 9 = s.2 := h1.1.2.1
    have step : ∃ w5 w6 w7, zz_ev 229 98 [.ref 112, .int (nI r), .int (nI n), .int (nI s.1), .null, .int (zB (zaf A r n (wP (aW A)) l = true)), .int (nI (znu (fun i => l.getD i 0) (wP (aW A)))), .int (nI (wP (aW A)))] [] (zK f g) = zz_bi (zz_ca 213 [.ref 112, .int (nI (wP (aW A)))] (zK (zz_u f 112 9 (zau (zaf A r n (wP (aW A)) l) (znu (fun i => l.getD i 0) (wP (aW A))) s).2) g)) (fun r9 h9 => zz_ev 229 210 [.ref 112, .int (nI r), .int (nI n), .int (nI (zau (zaf A r n (wP (aW A)) l) (znu (fun i => l.getD i 0) (wP (aW A))) s).1), .null, .int w5, .int w6, .int w7] [.int r9] h9) := by
      refine ⟨zB (zaf A r n (wP (aW A)) l = true), nI (znu (fun i => l.getD i 0) (wP (aW A))), nI (wP (aW A)), ?_⟩
      rw [x_229_98, e0]
      unfold zau
      by_cases q : zaf A r n (wP (aW A)) l = true
      · rw [if_pos q, zB_t q]
        by_cases q0 : s.1 = 0
        · rw [if_pos q0]
          simp (disch := first | omega | assumption) only [nI_add, pk_mul, z_in, z_ix, nI_leI, nI_ltI, nI_eq, z_eq0, z_lt0, z_0le, z_0lt, z_le0, z_n9, z_n1, z_m1lt, z_m9lt, z_m9le, z_m1le, zB_0, zB_1, zz_bi_s, zz_bv_s, zz_bl_s, if_pos, if_neg, if_true, if_false, true_and, and_true, not_true_eq_false, not_false_eq_true, ite_self, x_229_186, x_229_200]
          rw [zu_i (by decide), e0]
        · rw [if_neg q0]
          simp (disch := first | omega | assumption) only [nI_add, pk_mul, z_in, z_ix, nI_leI, nI_ltI, nI_eq, z_eq0, z_lt0, z_0le, z_0lt, z_le0, z_n9, z_n1, z_m1lt, z_m9lt, z_m9le, z_m1le, zB_0, zB_1, zz_bi_s, zz_bv_s, zz_bl_s, if_pos, if_neg, if_true, if_false, true_and, and_true, not_true_eq_false, not_false_eq_true, ite_self, x_229_182, x_229_186, x_229_200, e9]
          rw [zu_i (by decide), e0]
      · rw [if_neg q, zB_f q]
        simp (disch := first | omega | assumption) only [nI_add, pk_mul, z_in, z_ix, nI_leI, nI_ltI, nI_eq, z_eq0, z_lt0, z_0le, z_0lt, z_le0, z_n9, z_n1, z_m1lt, z_m9lt, z_m9le, z_m1le, zB_0, zB_1, zz_bi_s, zz_bv_s, zz_bl_s, if_pos, if_neg, if_true, if_false, true_and, and_true, not_true_eq_false, not_false_eq_true, ite_self, x_229_182, x_229_186, x_229_200, e9]
        rw [zu_i (by decide), e0, Nat.add_zero]
    obtain ⟨w5, w6, w7, b1⟩ := step
    have h1' : CM (sA A (zau (zaf A r n (wP (aW A)) l) (znu (fun i => l.getD i 0) (wP (aW A))) s).2) (zz_u f 112 9 (zau (zaf A r n (wP (aW A)) l) (znu (fun i => l.getD i 0) (wP (aW A))) s).2) g := CM_A (A := sA A s.2) hw h1 _
    have hs1 : (zau (zaf A r n (wP (aW A)) l) (znu (fun i => l.getD i 0) (wP (aW A))) s).1 ≤ 720 - d := by
      unfold zau; split
      · show s.1 + 1 ≤ _; omega
      · omega
    have go := l_213 (f := zz_u f 112 9 (zau (zaf A r n (wP (aW A)) l) (znu (fun i => l.getD i 0) (wP (aW A))) s).2) (g := g) (n := wP (aW A)) (by omega) (o := fun i => l.getD i 0) (fun k hk => by have := (ok k hk).1; omega) (fun k hk => by rw [zu_c (by decide)]; exact h2 k hk)
    have head : zz_ev 229 84 [.ref 112, .int (nI r), .int (nI n), .int (nI s.1), .int (nI 1), .null, .null, .null] [] (zK f g) = zz_bi (zz_ca 213 [.ref 112, .int (nI (wP (aW A)))] (zK (zz_u f 112 9 (zau (zaf A r n (wP (aW A)) l) (znu (fun i => l.getD i 0) (wP (aW A))) s).2) g)) (fun r9 h9 => zz_ev 229 210 [.ref 112, .int (nI r), .int (nI n), .int (nI (zau (zaf A r n (wP (aW A)) l) (znu (fun i => l.getD i 0) (wP (aW A))) s).1), .null, .int w5, .int w6, .int w7] [.int r9] h9) := by
      rw [x_229_84]; simp (disch := first | omega | assumption) only [nI_add, pk_mul, z_in, z_ix, nI_leI, nI_ltI, nI_eq, z_eq0, z_lt0, z_0le, z_0lt, z_le0, z_n9, z_n1, z_m1lt, z_m9lt, z_m9le, z_m1le, zB_0, zB_1, zz_bi_s, zz_bv_s, zz_bl_s, if_pos, if_neg, if_true, if_false, true_and, and_true, not_true_eq_false, not_false_eq_true, ite_self]; rw [hw_229_98, m1, b1]
    rcases go with ⟨g1, g2⟩ | ⟨o', f2, g1, g2, g3, g4⟩
    · refine ⟨_, ?_, by rw [zag_n g1]; exact h1', zLo_u (by decide) (by decide)⟩
      rw [head, g2, zz_bi_s, x_229_210, zag_n g1, hw_229_84]
    · have h2' : CM (sA A (zau (zaf A r n (wP (aW A)) l) (znu (fun i => l.getD i 0) (wP (aW A))) s).2) f2 g := CM_s hw h1' ⟨fun a x1 x2 => g3 a (by omega), fun _ _ => rfl, fun j _ => by rw [g3 112 (by decide)]⟩
      obtain ⟨f3, r1, r2, r3⟩ := l_229 hw (g := g) hr hn d ((List.range (wP (aW A))).map o') (zau (zaf A r n (wP (aW A)) l) (znu (fun i => l.getD i 0) (wP (aW A))) s) f2 (nxt o' g1) (by omega) hs1 h2' (zOr_c g4 (fun k hk => z_rmap hk))
      refine ⟨f3, ?_, by rw [zag_s g1]; exact r2, zLo_t (zLo_t (zLo_u (by decide) (by decide)) ⟨fun a ha => g3 a (by omega), fun _ _ => rfl⟩) r3⟩
      rw [head, g2, zz_bi_s, x_229_210, zag_s g1, hw_229_84]
      exact r1
theorem CX_AU {A : zA} {f : Nat → Nat → Int32} {g : Nat → Nat → Int64} (h : CX A f g) (v : Int32) (u l : Int64) : CX (sU (sA A v) u l) (zz_u f 0 13 v) (zz_u (zz_u g 0 14 u) 0 15 l) := CX_U (CX_A h v) u l
theorem sim_ages (A : zA) (hw : wf A) (v1 v2 : Int32) : zSim A 123 229 [.int v1, .int v2] := by
  have hP6 := wfP hw
  by_cases h1 : zz_in v1 6
  · obtain ⟨r, hr, -, rfl⟩ := z_inx.mp h1
    by_cases h2 : zz_in v2 1000
    · obtain ⟨n, hn, -, rfl⟩ := z_inx.mp h2
      by_cases h0 : wP (aW A) = 0
      · exact sim_0 hw (.int (-4)) (fun f g h => by simp (disch := first | omega | assumption) only [x_123_0, x_123_4, x_123_18, x_123_42, x_123_50, x_123_75, x_123_94, x_123_122, e_123, l_11, nI_add, pk_mul, z_in, z_ix, nI_leI, nI_ltI, nI_eq, z_eq0, z_lt0, z_0le, z_0lt, z_le0, z_n9, z_n1, z_m1lt, z_m9lt, z_m9le, z_m1le, zB_0, zB_1, zz_bi_s, zz_bv_s, zz_bl_s, if_pos, if_neg, if_true, if_false, true_and, and_true, not_true_eq_false, not_false_eq_true, ite_self, cxP h, cxS h, cxB h, cxH h, cxD h, cxk h, cxr h, cxp h, cxd h, cxt h, cxa h, cxb h]) (fun f g h => by simp (disch := first | omega | assumption) only [x_229_0, x_229_4, x_229_16, x_229_19, x_229_45, x_229_64, x_229_81, x_229_124, x_229_143, x_229_144, x_229_182, x_229_186, x_229_200, x_229_210, e_229, l_149, nI_add, pk_mul, z_in, z_ix, nI_leI, nI_ltI, nI_eq, z_eq0, z_lt0, z_0le, z_0lt, z_le0, z_n9, z_n1, z_m1lt, z_m9lt, z_m9le, z_m1le, zB_0, zB_1, zz_bi_s, zz_bv_s, zz_bl_s, if_pos, if_neg, if_true, if_false, true_and, and_true, not_true_eq_false, not_false_eq_true, ite_self, l_150n, cmP h, cmS h, cmB h, cmH h, cmD h, cmk h, cmr h, cmp h, cmd h, cmt h, cma h, cmb h, cm0 h])
      · rcases hw.1 r hr with h3 | ⟨m, hm, h3⟩
        · refine sim_F hw (w := 1) (by decide) (by decide) (fun f g h => ?_) (fun f g h => ?_)
          · have e := (h.2.2.2.1 r hr).1; rw [h3] at e
            simp (disch := first | omega | assumption) only [x_123_0, x_123_4, x_123_18, x_123_42, x_123_50, x_123_75, x_123_94, x_123_122, e_123, l_11, nI_add, pk_mul, z_in, z_ix, nI_leI, nI_ltI, nI_eq, z_eq0, z_lt0, z_0le, z_0lt, z_le0, z_n9, z_n1, z_m1lt, z_m9lt, z_m9le, z_m1le, zB_0, zB_1, zz_bi_s, zz_bv_s, zz_bl_s, if_pos, if_neg, if_true, if_false, true_and, and_true, not_true_eq_false, not_false_eq_true, ite_self, cxP h, cxS h, cxB h, cxH h, cxD h, cxk h, cxr h, cxp h, cxd h, cxt h, cxa h, cxb h, l_17r, e, l_12]
          · have e := (h.2.2.2.2.1 r hr).1; rw [h3] at e
            simp (disch := first | omega | assumption) only [x_229_0, x_229_4, x_229_16, x_229_19, x_229_45, x_229_64, x_229_81, x_229_124, x_229_143, x_229_144, x_229_182, x_229_186, x_229_200, x_229_210, e_229, l_149, nI_add, pk_mul, z_in, z_ix, nI_leI, nI_ltI, nI_eq, z_eq0, z_lt0, z_0le, z_0lt, z_le0, z_n9, z_n1, z_m1lt, z_m9lt, z_m9le, z_m1le, zB_0, zB_1, zz_bi_s, zz_bv_s, zz_bl_s, if_pos, if_neg, if_true, if_false, true_and, and_true, not_true_eq_false, not_false_eq_true, ite_self, l_150n, cmP h, cmS h, cmB h, cmH h, cmD h, cmk h, cmr h, cmp h, cmd h, cmt h, cma h, cmb h, cm0 h, e, l_151]
        · by_cases h4 : m = wP (aW A)
          · subst h4
            refine ⟨.int (nI 1), sU (sA A (zag (wP (aW A)) (zaf A r n (wP (aW A))) (fun l => znu (fun i => l.getD i 0) (wP (aW A))) 720 (List.range (wP (aW A))) (0, -9)).2) (nI (zag (wP (aW A)) (zaf A r n (wP (aW A))) (fun l => znu (fun i => l.getD i 0) (wP (aW A))) 720 (List.range (wP (aW A))) (0, -9)).1).toInt64 1, hw, fun f g h => ?_, fun f g h => ?_⟩
            · obtain ⟨f', e1, e2, e3, e4⟩ := l_124 hw h hr hn h3
              have e := (h.2.2.2.1 r hr).1; rw [h3] at e
              refine ⟨_, _, ?_, CX_AU (CX_s h e2) _ _ _, zHi_t (zXs_hi e2) ⟨fun a ha => zu_c (by omega), fun a ha => by rw [zu_c (by omega), zu_c (by omega)]⟩⟩
              simp (disch := first | omega | assumption) only [x_123_0, x_123_4, x_123_18, x_123_42, x_123_50, x_123_75, x_123_94, x_123_122, e_123, l_11, nI_add, pk_mul, z_in, z_ix, nI_leI, nI_ltI, nI_eq, z_eq0, z_lt0, z_0le, z_0lt, z_le0, z_n9, z_n1, z_m1lt, z_m9lt, z_m9le, z_m1le, zB_0, zB_1, zz_bi_s, zz_bv_s, zz_bl_s, if_pos, if_neg, if_true, if_false, true_and, and_true, not_true_eq_false, not_false_eq_true, ite_self, cxP h, cxS h, cxB h, cxH h, cxD h, cxk h, cxr h, cxp h, cxd h, cxt h, cxa h, cxb h, l_17r, e, e1, l_19, e3, e4]
            · have e := (h.2.2.2.2.1 r hr).1; rw [h3] at e
              have h' : CM (sA A (-9)) (zz_u f 112 9 (-9)) g := CM_A hw h (-9)
              have h'' : CM (sA A (-9)) (zbs (zz_u f 112 9 (-9)) 123 (fun i => i) (wP (aW A))) g := CM_s hw h' ⟨fun a x1 x2 => zbs_c (by omega), fun _ _ => rfl, fun j _ => by rw [zbs_c (by decide)]⟩
              have eP : zz_u f 112 9 (-9) 112 1 = nI (wP (aW A)) := cmP (A := sA A (-9)) h'
              obtain ⟨f', r1, r2, r3⟩ := l_229 hw (g := g) hr hn 720 (List.range (wP (aW A))) (0, -9) _ (zch_ok _ hP6) (by decide) (Nat.zero_le _) h'' (zOr_c (o := fun i => i) (fun k hk => zbs_i hk) (fun k hk => z_rid hk))
              refine ⟨f', _, ?_, CM_U r2 _ _, zLo_t (zLo_t (zLo_t (zLo_u (by decide) (by decide)) ⟨fun a ha => zbs_c (by omega), fun _ _ => rfl⟩) r3) ⟨fun _ _ => rfl, fun a ha => by rw [zu_c (by omega), zu_c (by omega)]⟩⟩
              simp (disch := first | omega | assumption) only [e_229, x_229_0, x_229_4, x_229_16, x_229_81, l_149, nI_add, pk_mul, z_in, z_ix, nI_leI, nI_ltI, nI_eq, z_eq0, z_lt0, z_0le, z_0lt, z_le0, z_n9, z_n1, z_m1lt, z_m9lt, z_m9le, z_m1le, zB_0, zB_1, zz_bi_s, zz_bv_s, zz_bl_s, if_pos, if_neg, if_true, if_false, true_and, and_true, not_true_eq_false, not_false_eq_true, ite_self, l_150n, cmP h, cmS h, cmB h, cmH h, cmD h, cmk h, cmr h, cmp h, cmd h, cmt h, cma h, cmb h, cm0 h, e, eP, l_210]
              refine r1.trans ?_
              rw [x_229_84]; simp (disch := first | omega | assumption) only [nI_add, pk_mul, z_in, z_ix, nI_leI, nI_ltI, nI_eq, z_eq0, z_lt0, z_0le, z_0lt, z_le0, z_n9, z_n1, z_m1lt, z_m9lt, z_m9le, z_m1le, zB_0, zB_1, zz_bi_s, zz_bv_s, zz_bl_s, if_pos, if_neg, if_true, if_false, true_and, and_true, not_true_eq_false, not_false_eq_true, ite_self]
          · refine sim_F hw (w := 5) (by decide) (by decide) (fun f g h => ?_) (fun f g h => ?_)
            · have e := (h.2.2.2.1 r hr).1; rw [h3] at e
              simp (disch := first | omega | assumption) only [x_123_0, x_123_4, x_123_18, x_123_42, x_123_50, x_123_75, x_123_94, x_123_122, e_123, l_11, nI_add, pk_mul, z_in, z_ix, nI_leI, nI_ltI, nI_eq, z_eq0, z_lt0, z_0le, z_0lt, z_le0, z_n9, z_n1, z_m1lt, z_m9lt, z_m9le, z_m1le, zB_0, zB_1, zz_bi_s, zz_bv_s, zz_bl_s, if_pos, if_neg, if_true, if_false, true_and, and_true, not_true_eq_false, not_false_eq_true, ite_self, cxP h, cxS h, cxB h, cxH h, cxD h, cxk h, cxr h, cxp h, cxd h, cxt h, cxa h, cxb h, l_17r, e, l_12]
            · have e := (h.2.2.2.2.1 r hr).1; rw [h3] at e
              simp (disch := first | omega | assumption) only [x_229_0, x_229_4, x_229_16, x_229_19, x_229_45, x_229_64, x_229_81, x_229_124, x_229_143, x_229_144, x_229_182, x_229_186, x_229_200, x_229_210, e_229, l_149, nI_add, pk_mul, z_in, z_ix, nI_leI, nI_ltI, nI_eq, z_eq0, z_lt0, z_0le, z_0lt, z_le0, z_n9, z_n1, z_m1lt, z_m9lt, z_m9le, z_m1le, zB_0, zB_1, zz_bi_s, zz_bv_s, zz_bl_s, if_pos, if_neg, if_true, if_false, true_and, and_true, not_true_eq_false, not_false_eq_true, ite_self, l_150n, cmP h, cmS h, cmB h, cmH h, cmD h, cmk h, cmr h, cmp h, cmd h, cmt h, cma h, cmb h, cm0 h, e, l_151]
    · refine sim_0 hw (.int (-1)) (fun f g h => ?_) (fun f g h => by simp (disch := first | omega | assumption) only [x_229_0, x_229_4, x_229_16, x_229_19, x_229_45, x_229_64, x_229_81, x_229_124, x_229_143, x_229_144, x_229_182, x_229_186, x_229_200, x_229_210, e_229, l_149, nI_add, pk_mul, z_in, z_ix, nI_leI, nI_ltI, nI_eq, z_eq0, z_lt0, z_0le, z_0lt, z_le0, z_n9, z_n1, z_m1lt, z_m9lt, z_m9le, z_m1le, zB_0, zB_1, zz_bi_s, zz_bv_s, zz_bl_s, if_pos, if_neg, if_true, if_false, true_and, and_true, not_true_eq_false, not_false_eq_true, ite_self, l_150n, h2])
      rcases z_rngL (by decide) h2 with h3 | ⟨h3, h4⟩
      · simp (disch := first | omega | assumption) only [x_123_0, x_123_4, x_123_18, x_123_42, x_123_50, x_123_75, x_123_94, x_123_122, e_123, l_11, nI_add, pk_mul, z_in, z_ix, nI_leI, nI_ltI, nI_eq, z_eq0, z_lt0, z_0le, z_0lt, z_le0, z_n9, z_n1, z_m1lt, z_m9lt, z_m9le, z_m1le, zB_0, zB_1, zz_bi_s, zz_bv_s, zz_bl_s, if_pos, if_neg, if_true, if_false, true_and, and_true, not_true_eq_false, not_false_eq_true, ite_self, h3]
      · simp (disch := first | omega | assumption) only [x_123_0, x_123_4, x_123_18, x_123_42, x_123_50, x_123_75, x_123_94, x_123_122, e_123, l_11, nI_add, pk_mul, z_in, z_ix, nI_leI, nI_ltI, nI_eq, z_eq0, z_lt0, z_0le, z_0lt, z_le0, z_n9, z_n1, z_m1lt, z_m9lt, z_m9le, z_m1le, zB_0, zB_1, zz_bi_s, zz_bv_s, zz_bl_s, if_pos, if_neg, if_true, if_false, true_and, and_true, not_true_eq_false, not_false_eq_true, ite_self, h3, h4]
  · exact sim_0 hw (.int (-1)) (fun f g h => by simp (disch := first | omega | assumption) only [x_123_0, x_123_4, x_123_18, x_123_42, x_123_50, x_123_75, x_123_94, x_123_122, e_123, l_11, nI_add, pk_mul, z_in, z_ix, nI_leI, nI_ltI, nI_eq, z_eq0, z_lt0, z_0le, z_0lt, z_le0, z_n9, z_n1, z_m1lt, z_m9lt, z_m9le, z_m1le, zB_0, zB_1, zz_bi_s, zz_bv_s, zz_bl_s, if_pos, if_neg, if_true, if_false, true_and, and_true, not_true_eq_false, not_false_eq_true, ite_self, h1]) (fun f g h => by simp (disch := first | omega | assumption) only [x_229_0, x_229_4, x_229_16, x_229_19, x_229_45, x_229_64, x_229_81, x_229_124, x_229_143, x_229_144, x_229_182, x_229_186, x_229_200, x_229_210, e_229, l_149, nI_add, pk_mul, z_in, z_ix, nI_leI, nI_ltI, nI_eq, z_eq0, z_lt0, z_0le, z_0lt, z_le0, z_n9, z_n1, z_m1lt, z_m9lt, z_m9le, z_m1le, zB_0, zB_1, zz_bi_s, zz_bv_s, zz_bl_s, if_pos, if_neg, if_true, if_false, true_and, and_true, not_true_eq_false, not_false_eq_true, ite_self, h1])
