/-! the reference's -/
/-- what comes by steps; what stays -/
def zwe (N : Nat → Nat) (w : Nat → Nat) (r to : Nat) : Nat := if (N r).testBit to = true then w r * (60 / zpc 12 (N r)) else 0
def zwd (N : Nat → Nat) (w : Nat → Nat) (to : Nat) : Nat := if N to = 0 then 60 * w to else 0
theorem zwe_sum {N w : Nat → Nat} {to : Nat} (ht : to < 12) : zwd N w to + zsm (fun r => zwe N w r to) 12 = zsm (fun r => zwc N w r to) 12 := by
  have e : zsm (fun r => zwc N w r to) 12 = zsm (fun r => zwe N w r to + (if r = to then zwd N w to else 0)) 12 := zsm_c (fun r _ => by
    unfold zwc zwe zwd
    by_cases q : N r = 0
    · have q3 : ¬ (N r).testBit to = true := by rw [q, Nat.zero_testBit]; exact Bool.false_ne_true
      rw [if_pos q, if_neg q3]
      by_cases q2 : r = to
      · subst q2; rw [if_pos rfl, if_pos rfl, if_pos q, Nat.zero_add]
      · rw [if_neg (fun w => q2 w.symm), if_neg q2]
    · rw [if_neg q]
      by_cases q2 : r = to
      · subst q2; rw [if_pos rfl, if_neg q, Nat.add_zero]
      · rw [if_neg q2, Nat.add_zero])
  rw [e, zsm_add, zsm_one, if_pos ht, Nat.add_comm]
theorem zwe_le {N w : Nat → Nat} (hN : zgd N) {r to : Nat} (hr : r < 12) (hw : w r ≤ 167961600000000) : zwe N w r to ≤ 10077696000000000 := by
  unfold zwe
  split
  · rename_i q
    have h1 : N r ≠ 0 := fun e => by rw [e, Nat.zero_testBit] at q; cases q
    have h2 := zpc_ne (hN r hr).1 h1
    have h3 : 60 / zpc 12 (N r) ≤ 60 := Nat.div_le_self _ _
    calc w r * (60 / zpc 12 (N r)) ≤ 167961600000000 * 60 := Nat.mul_le_mul hw h3
      _ ≤ 10077696000000000 := by decide
  · omega
theorem l_230_93 {f : Nat → Nat → Int32} {g : Nat → Nat → Int64} {W : zW} (hW : wfW W) {s : Nat} (h : VM W s f) {p room n i all : Nat} (hp : p < wP W) {w : Nat → Nat} (hw : ∀ r < 12, g 126 r = lN (w r)) : ∃ g', zz_ev 230 93 [.ref 112, .int (nI p), .int (nI room), .int (nI n), .long (lN all), .null, .int (nI i), .int (nI 0), .null, .null, .null, .null] [] (zK f g) = zz_ev 230 141 [.ref 112, .int (nI p), .int (nI room), .int (nI n), .long (lN all), .null, .int (nI i), .int (nI 0), .null, .null, .null, .null] [] (zK f g') ∧ (∀ x, x ≠ 127 → g' x = g x) ∧ ∀ t < 12, g' 127 t = lN (zwd (znx W (wK W p) (zdr (wK W p) s)) w t) := by
  refine z_loop (fun k (g' : Nat → Nat → Int64) => zz_ev 230 93 [.ref 112, .int (nI p), .int (nI room), .int (nI n), .long (lN all), .null, .int (nI i), .int (nI k), .null, .null, .null, .null] [] (zK f g')) (fun k g' => (∀ x, x ≠ 127 → g' x = g x) ∧ ∀ t < k, g' 127 t = lN (zwd (znx W (wK W p) (zdr (wK W p) s)) w t)) (fun x => ∃ g', x = zz_ev 230 141 [.ref 112, .int (nI p), .int (nI room), .int (nI n), .long (lN all), .null, .int (nI i), .int (nI 0), .null, .null, .null, .null] [] (zK f g') ∧ (∀ x, x ≠ 127 → g' x = g x) ∧ ∀ t < 12, g' 127 t = lN (zwd (znx W (wK W p) (zdr (wK W p) s)) w t)) 12 ?_ ?_ 0 g (by omega) ⟨fun _ _ => rfl, fun j hj => by omega⟩
  · intro k g' hk ⟨h1, h2⟩
    left
    have hl := znx_lt hW (wK W p) (zdr (wK W p) s) k
    have m : g' 126 k = lN (w k) := by rw [h1 126 (by decide)]; exact hw k hk
    refine ⟨zz_u g' 127 k (lN (zwd (znx W (wK W p) (zdr (wK W p) s)) w k)), ?_, fun x hx => by rw [zu_c hx]; exact h1 x hx, fun t ht => ?_⟩
    · rw [x_230_93]; simp (disch := first | omega | assumption) only [nI_add, pk_mul, z_in, z_ix, nI_leI, nI_ltI, nI_eq, z_eq0, z_lt0, z_0le, z_0lt, z_le0, z_n9, z_n1, z_m1lt, z_m9lt, z_m9le, z_m1le, zB_0, zB_1, zz_bi_s, zz_bv_s, zz_bl_s, if_pos, if_neg, if_true, if_false, true_and, and_true, not_true_eq_false, not_false_eq_true, ite_self, l_178 hW h hp, x_230_113, x_230_131, m, lN_mul]
      unfold zwd
      by_cases e : znx W (wK W p) (zdr (wK W p) s) k = 0
      · rw [if_pos e, if_pos e]
      · rw [if_neg e, if_neg e]; rfl
    · by_cases e : t = k
      · subst e; rw [zu_s]
      · rw [zu_i e]; exact h2 t (by omega)
  · intro g' q
    refine ⟨g', ?_, q⟩
    rw [x_230_93]; simp (disch := first | omega | assumption) only [nI_add, pk_mul, z_in, z_ix, nI_leI, nI_ltI, nI_eq, z_eq0, z_lt0, z_0le, z_0lt, z_le0, z_n9, z_n1, z_m1lt, z_m9lt, z_m9le, z_m1le, zB_0, zB_1, zz_bi_s, zz_bv_s, zz_bl_s, if_pos, if_neg, if_true, if_false, true_and, and_true, not_true_eq_false, not_false_eq_true, ite_self]
theorem l_230_141 {f : Nat → Nat → Int32} {g : Nat → Nat → Int64} {W : zW} (hW : wfW W) {s : Nat} (h : VM W s f) {p room n i all : Nat} (hp : p < wP W) {w d : Nat → Nat} (hw : ∀ r < 12, g 126 r = lN (w r)) (hd : ∀ t < 12, g 127 t = lN (d t)) : ∃ g', zz_ev 230 141 [.ref 112, .int (nI p), .int (nI room), .int (nI n), .long (lN all), .null, .int (nI i), .int (nI 0), .null, .null, .null, .null] [] (zK f g) = zz_ev 230 220 [.ref 112, .int (nI p), .int (nI room), .int (nI n), .long (lN all), .null, .int (nI i), .int (nI 0), .null, .null, .null, .null] [] (zK f g') ∧ (∀ x, x ≠ 127 → g' x = g x) ∧ ∀ t < 12, g' 127 t = lN (d t + zsm (fun r => zwe (znx W (wK W p) (zdr (wK W p) s)) w r t) 12) := by
  refine z_loop (fun k (g' : Nat → Nat → Int64) => zz_ev 230 141 [.ref 112, .int (nI p), .int (nI room), .int (nI n), .long (lN all), .null, .int (nI i), .int (nI k), .null, .null, .null, .null] [] (zK f g')) (fun k g' => (∀ x, x ≠ 127 → g' x = g x) ∧ ∀ t < 12, g' 127 t = lN (d t + zsm (fun r => zwe (znx W (wK W p) (zdr (wK W p) s)) w r t) ((k + 11 - t) / 12))) (fun x => ∃ g', x = zz_ev 230 220 [.ref 112, .int (nI p), .int (nI room), .int (nI n), .long (lN all), .null, .int (nI i), .int (nI 0), .null, .null, .null, .null] [] (zK f g') ∧ (∀ x, x ≠ 127 → g' x = g x) ∧ ∀ t < 12, g' 127 t = lN (d t + zsm (fun r => zwe (znx W (wK W p) (zdr (wK W p) s)) w r t) 12)) 144 ?_ ?_ 0 g (by omega) ⟨fun _ _ => rfl, fun t ht => by rw [show (0 + 11 - t) / 12 = 0 by omega]; exact hd t ht⟩
  · intro k g' hk ⟨h1, h2⟩
    left
    have hq : k / 12 < 12 := by omega
    have hs : k % 12 < 12 := by omega
    have hl := znx_lt hW (wK W p) (zdr (wK W p) s) (k / 12)
    have hpc := znx_pc hW (wK W p) (zdr (wK W p) s) (k / 12)
    have m : g' 126 (k / 12) = lN (w (k / 12)) := by rw [h1 126 (by decide)]; exact hw _ hq
    have m2 := h2 (k % 12) hs
    rw [show (k + 11 - k % 12) / 12 = k / 12 by omega] at m2
    refine ⟨zz_u g' 127 (k % 12) (lN (d (k % 12) + zsm (fun r => zwe (znx W (wK W p) (zdr (wK W p) s)) w r (k % 12)) (k / 12 + 1))), ?_, fun x hx => by rw [zu_c hx]; exact h1 x hx, fun t ht => ?_⟩
    · rw [x_230_141]; simp (disch := first | omega | assumption) only [nI_add, pk_mul, z_in, z_ix, nI_leI, nI_ltI, nI_eq, z_eq0, z_lt0, z_0le, z_0lt, z_le0, z_n9, z_n1, z_m1lt, z_m9lt, z_m9le, z_m1le, zB_0, zB_1, zz_bi_s, zz_bv_s, zz_bl_s, if_pos, if_neg, if_true, if_false, true_and, and_true, not_true_eq_false, not_false_eq_true, ite_self, pk_div, z_rem, l_178 hW h hp hq, x_230_159, l_171 _ _ (show znx W (wK W p) (zdr (wK W p) s) (k / 12) < 2 ^ 31 by omega) (show k % 12 < 32 by omega), x_230_182, m, m2, l_191 _ _ hl, x_230_202, x_230_209]
      rw [zsm_s]
      by_cases e : (znx W (wK W p) (zdr (wK W p) s) (k / 12)).testBit (k % 12) = true
      · have hne : znx W (wK W p) (zdr (wK W p) s) (k / 12) ≠ 0 := fun e2 => by rw [e2, Nat.zero_testBit] at e; cases e
        have hm := zpc_ne hl hne
        have hd60 : 60 / zpc 12 (znx W (wK W p) (zdr (wK W p) s) (k / 12)) ≤ 60 := Nat.div_le_self _ _
        rw [if_neg (fun w => w e)]
        simp (disch := first | omega | assumption) only [nI_add, pk_mul, z_in, z_ix, nI_leI, nI_ltI, nI_eq, z_eq0, z_lt0, z_0le, z_0lt, z_le0, z_n9, z_n1, z_m1lt, z_m9lt, z_m9le, z_m1le, zB_0, zB_1, zz_bi_s, zz_bv_s, zz_bl_s, if_pos, if_neg, if_true, if_false, true_and, and_true, not_true_eq_false, not_false_eq_true, ite_self, pk_div, nI_l, lN_mul, lN_add]
        rw [hw_230_141, show zwe (znx W (wK W p) (zdr (wK W p) s)) w (k / 12) (k % 12) = w (k / 12) * (60 / zpc 12 (znx W (wK W p) (zdr (wK W p) s) (k / 12))) from if_pos e, ← Nat.add_assoc]
      · rw [if_pos e, show (0 : Int64) = lN 0 from rfl, lN_add, hw_230_141, show zwe (znx W (wK W p) (zdr (wK W p) s)) w (k / 12) (k % 12) = 0 from if_neg e]
        rfl
    · by_cases e : t = k % 12
      · subst e; rw [zu_s, show (k + 1 + 11 - k % 12) / 12 = k / 12 + 1 by omega]
      · rw [zu_i e, h2 t ht, show (k + 1 + 11 - t) / 12 = (k + 11 - t) / 12 by omega]
  · intro g' ⟨h1, h2⟩
    refine ⟨g', ?_, h1, fun t ht => by rw [h2 t ht, show (144 + 11 - t) / 12 = 12 by omega]⟩
    rw [x_230_141]; simp (disch := first | omega | assumption) only [nI_add, pk_mul, z_in, z_ix, nI_leI, nI_ltI, nI_eq, z_eq0, z_lt0, z_0le, z_0lt, z_le0, z_n9, z_n1, z_m1lt, z_m9lt, z_m9le, z_m1le, zB_0, zB_1, zz_bi_s, zz_bv_s, zz_bl_s, if_pos, if_neg, if_true, if_false, true_and, and_true, not_true_eq_false, not_false_eq_true, ite_self]
theorem l_230_220 {f : Nat → Nat → Int32} {g : Nat → Nat → Int64} {p room n i all : Nat} {w : Nat → Nat} (hw : ∀ r < 12, g 127 r = lN (w r)) : ∃ g', zz_ev 230 220 [.ref 112, .int (nI p), .int (nI room), .int (nI n), .long (lN all), .null, .int (nI i), .int (nI 0), .null, .null, .null, .null] [] (zK f g) = zz_ev 230 76 [.ref 112, .int (nI p), .int (nI room), .int (nI n), .long (lN all), .null, .int (nI (i + 1)), .null, .null, .null, .null, .null] [] (zK f g') ∧ (∀ x, x ≠ 126 → g' x = g x) ∧ ∀ t < 12, g' 126 t = lN (w t) := by
  refine z_loop (fun k (g' : Nat → Nat → Int64) => zz_ev 230 220 [.ref 112, .int (nI p), .int (nI room), .int (nI n), .long (lN all), .null, .int (nI i), .int (nI k), .null, .null, .null, .null] [] (zK f g')) (fun k g' => (∀ x, x ≠ 126 → g' x = g x) ∧ ∀ t < k, g' 126 t = lN (w t)) (fun x => ∃ g', x = zz_ev 230 76 [.ref 112, .int (nI p), .int (nI room), .int (nI n), .long (lN all), .null, .int (nI (i + 1)), .null, .null, .null, .null, .null] [] (zK f g') ∧ (∀ x, x ≠ 126 → g' x = g x) ∧ ∀ t < 12, g' 126 t = lN (w t)) 12 ?_ ?_ 0 g (by omega) ⟨fun _ _ => rfl, fun j hj => by omega⟩
  · intro k g' hk ⟨h1, h2⟩
    left
    have m : g' 127 k = lN (w k) := by rw [h1 127 (by decide)]; exact hw k hk
    refine ⟨zz_u g' 126 k (lN (w k)), ?_, fun x hx => by rw [zu_c hx]; exact h1 x hx, fun t ht => ?_⟩
    · rw [x_230_220]; simp (disch := first | omega | assumption) only [nI_add, pk_mul, z_in, z_ix, nI_leI, nI_ltI, nI_eq, z_eq0, z_lt0, z_0le, z_0lt, z_le0, z_n9, z_n1, z_m1lt, z_m9lt, z_m9le, z_m1le, zB_0, zB_1, zz_bi_s, zz_bv_s, zz_bl_s, if_pos, if_neg, if_true, if_false, true_and, and_true, not_true_eq_false, not_false_eq_true, ite_self, m]
    · by_cases e : t = k
      · subst e; rw [zu_s]
      · rw [zu_i e]; exact h2 t (by omega)
  · intro g' q
    refine ⟨g', ?_, q⟩
    rw [x_230_220]; simp (disch := first | omega | assumption) only [nI_add, pk_mul, z_in, z_ix, nI_leI, nI_ltI, nI_eq, z_eq0, z_lt0, z_0le, z_0lt, z_le0, z_n9, z_n1, z_m1lt, z_m9lt, z_m9le, z_m1le, zB_0, zB_1, zz_bi_s, zz_bv_s, zz_bl_s, if_pos, if_neg, if_true, if_false, true_and, and_true, not_true_eq_false, not_false_eq_true, ite_self]
    rw [hw_230_76]
theorem l_230 {A : zA} (hw : wf A) {f : Nat → Nat → Int32} {g : Nat → Nat → Int64} (h : CM A f g) {p room n : Nat} (hp : p < wP (aW A)) (hr : room < 12) (hn : n ≤ 8) : ∃ g', zz_ev 230 35 [.ref 112, .int (nI p), .int (nI room), .int (nI n), .long 1, .null, .int (nI 0), .null, .null, .null, .null, .null] [] (zK f g) = zz_ev 230 265 [.ref 112, .null, .int (nI room), .null, .long (lN (60 ^ n)), .null, .long (lN (zwt (zgo A p) (qR (hC (aH A)) p) n room)), .null, .long (lN (60 ^ n)), .null, .null, .null] [] (zK f g') ∧ (∀ x, x ≠ 126 → x ≠ 127 → g' x = g x) ∧ g' 126 room = lN (zwt (zgo A p) (qR (hC (aH A)) p) n room) := by
  have hP6 := wfP hw
  have ha := wfr hw hp
  have hV := CM_V hw h
  have hN : zgd (zgo A p) := fun c _ => ⟨zgo_lt hw p c, znx_pc hw.2.2.1 _ _ _⟩
  have m0 := cmr h hp
  have key := z_loop (fun i (g' : Nat → Nat → Int64) => zz_ev 230 35 [.ref 112, .int (nI p), .int (nI room), .int (nI n), .long 1, .null, .int (nI i), .null, .null, .null, .null, .null] [] (zK f g')) (fun i g' => (∀ x, x ≠ 126 → g' x = g x) ∧ ∀ t < i, g' 126 t = lN (zwt (zgo A p) (qR (hC (aH A)) p) 0 t)) (fun x => ∃ g', x = zz_ev 230 76 [.ref 112, .int (nI p), .int (nI room), .int (nI n), .long 1, .null, .int (nI 0), .null, .null, .null, .null, .null] [] (zK f g') ∧ (∀ x, x ≠ 126 → g' x = g x) ∧ ∀ t < 12, g' 126 t = lN (zwt (zgo A p) (qR (hC (aH A)) p) 0 t)) 12 ?_ ?_ 0 g (by omega) ⟨fun _ _ => rfl, fun j hj => by omega⟩
  · obtain ⟨g1, e1, k1, k2⟩ := key
    have e1 : zz_ev 230 35 [.ref 112, .int (nI p), .int (nI room), .int (nI n), .long 1, .null, .int (nI 0), .null, .null, .null, .null, .null] [] (zK f g) = _ := e1
    rw [e1]
    have key2 := z_loop (fun i (g' : Nat → Nat → Int64) => zz_ev 230 76 [.ref 112, .int (nI p), .int (nI room), .int (nI n), .long (lN (60 ^ i)), .null, .int (nI i), .null, .null, .null, .null, .null] [] (zK f g')) (fun i g' => (∀ x, x ≠ 126 → x ≠ 127 → g' x = g x) ∧ (∀ t < 12, g' 126 t = lN (zwt (zgo A p) (qR (hC (aH A)) p) i t))) (fun x => ∃ g', x = zz_ev 230 265 [.ref 112, .null, .int (nI room), .null, .long (lN (60 ^ n)), .null, .long (lN (zwt (zgo A p) (qR (hC (aH A)) p) n room)), .null, .long (lN (60 ^ n)), .null, .null, .null] [] (zK f g') ∧ (∀ x, x ≠ 126 → x ≠ 127 → g' x = g x) ∧ g' 126 room = lN (zwt (zgo A p) (qR (hC (aH A)) p) n room)) n ?_ ?_ 0 g1 (by omega) ⟨fun x q1 q2 => k1 x q1, k2⟩
    · exact key2
    · intro i g2 hi ⟨h1, h2⟩
      left
      obtain ⟨g3, e3, u1, u2⟩ := l_230_93 (f := f) (g := g2) hw.2.2.1 hV (room := room) (n := n) (i := i) (all := 60 ^ (i + 1)) hp h2
      obtain ⟨g4, e4, v1, v2⟩ := l_230_141 (f := f) (g := g3) hw.2.2.1 hV (room := room) (n := n) (i := i) (all := 60 ^ (i + 1)) hp (fun r hr => by rw [u1 126 (by decide)]; exact h2 r hr) u2
      obtain ⟨g5, e5, w1, w2⟩ := l_230_220 (f := f) (g := g4) (p := p) (room := room) (n := n) (i := i) (all := 60 ^ (i + 1)) v2
      refine ⟨g5, ?_, fun x q1 q2 => by rw [w1 x q1, v1 x q2, u1 x q2]; exact h1 x q1 q2, fun t ht => ?_⟩
      · rw [x_230_76]; simp (disch := first | omega | assumption) only [nI_add, pk_mul, z_in, z_ix, nI_leI, nI_ltI, nI_eq, z_eq0, z_lt0, z_0le, z_0lt, z_le0, z_n9, z_n1, z_m1lt, z_m9lt, z_m9le, z_m1le, zB_0, zB_1, zz_bi_s, zz_bv_s, zz_bl_s, if_pos, if_neg, if_true, if_false, true_and, and_true, not_true_eq_false, not_false_eq_true, ite_self, lN_mul]
        rw [← Nat.pow_succ, e3, e4, e5]
      · rw [w2 t ht, zwt_s]
        exact congrArg lN (zwe_sum ht)
    · intro g2 ⟨h1, h2⟩
      refine ⟨g2, ?_, h1, h2 room hr⟩
      have m := h2 room hr
      rw [x_230_76]; simp (disch := first | omega | assumption) only [nI_add, pk_mul, z_in, z_ix, nI_leI, nI_ltI, nI_eq, z_eq0, z_lt0, z_0le, z_0lt, z_le0, z_n9, z_n1, z_m1lt, z_m9lt, z_m9le, z_m1le, zB_0, zB_1, zz_bi_s, zz_bv_s, zz_bl_s, if_pos, if_neg, if_true, if_false, true_and, and_true, not_true_eq_false, not_false_eq_true, ite_self, m]
      rw [hw_230_265]
  · intro i g' hi ⟨h1, h2⟩
    left
    refine ⟨zz_u g' 126 i (lN (zwt (zgo A p) (qR (hC (aH A)) p) 0 i)), ?_, fun x hx => by rw [zu_c hx]; exact h1 x hx, fun t ht => ?_⟩
    · rw [x_230_35]; simp (disch := first | omega | assumption) only [nI_add, pk_mul, z_in, z_ix, nI_leI, nI_ltI, nI_eq, z_eq0, z_lt0, z_0le, z_0lt, z_le0, z_n9, z_n1, z_m1lt, z_m9lt, z_m9le, z_m1le, zB_0, zB_1, zz_bi_s, zz_bv_s, zz_bl_s, if_pos, if_neg, if_true, if_false, true_and, and_true, not_true_eq_false, not_false_eq_true, ite_self, m0, x_230_66]
      show _ = zz_ev 230 35 _ _ (zK f (zz_u g' 126 i (lN (if i = qR (hC (aH A)) p then 1 else 0))))
      by_cases e : i = qR (hC (aH A)) p
      · rw [if_pos e, if_pos e]; rfl
      · rw [if_neg e, if_neg e]; rfl
    · by_cases e : t = i
      · subst e; rw [zu_s]
      · rw [zu_i e]; exact h2 t (by omega)
  · intro g' q
    refine ⟨g', ?_, q⟩
    rw [x_230_35]; simp (disch := first | omega | assumption) only [nI_add, pk_mul, z_in, z_ix, nI_leI, nI_ltI, nI_eq, z_eq0, z_lt0, z_0le, z_0lt, z_le0, z_n9, z_n1, z_m1lt, z_m9lt, z_m9le, z_m1le, zB_0, zB_1, zz_bi_s, zz_bv_s, zz_bl_s, if_pos, if_neg, if_true, if_false, true_and, and_true, not_true_eq_false, not_false_eq_true, ite_self]
theorem sim_odds (A : zA) (hw : wf A) (v1 v2 v3 : Int32) : zSim A 127 230 [.int v1, .int v2, .int v3] := by
  have hP6 := wfP hw
  by_cases h1 : zz_in v1 (wP (aW A))
  · obtain ⟨p, hp, -, rfl⟩ := z_inx.mp h1
    have ha := wfr hw hp
    by_cases h2 : zz_in v2 12
    · obtain ⟨room, hr, -, rfl⟩ := z_inx.mp h2
      by_cases h3 : zz_in v3 9
      · obtain ⟨n, hn, -, rfl⟩ := z_inx.mp h3
        have hN : zgd (zgo A p) := fun c _ => ⟨zgo_lt hw p c, znx_pc hw.2.2.1 _ _ _⟩
        have hwl := zwt_le hN ha (i := n) hr
        have h60 := z_60p (show n ≤ 8 by omega)
        have h60p : 0 < 60 ^ n := Nat.pow_pos (by decide)
        have hg0 : 0 < Nat.gcd (zwt (zgo A p) (qR (hC (aH A)) p) n room) (60 ^ n) := Nat.gcd_pos_of_pos_right _ h60p
        have hgl : Nat.gcd (zwt (zgo A p) (qR (hC (aH A)) p) n room) (60 ^ n) ≤ 60 ^ n := Nat.gcd_le_right _ h60p
        have hgn : ¬ lN (Nat.gcd (zwt (zgo A p) (qR (hC (aH A)) p) n room) (60 ^ n)) = 0 := z_lne (by omega) (by omega)
        refine ⟨.int (nI 1), sU A (lN (zwt (zgo A p) (qR (hC (aH A)) p) n room) / lN (Nat.gcd (zwt (zgo A p) (qR (hC (aH A)) p) n room) (60 ^ n))) (lN (60 ^ n) / lN (Nat.gcd (zwt (zgo A p) (qR (hC (aH A)) p) n room) (60 ^ n))), hw, fun f g h => ?_, fun f g h => ?_⟩
        · have h' := CX_look h (zgo A p)
          obtain ⟨g', e1, k1, k2, k3⟩ := l_128 (f := zbs f 31 (zgo A p) 12) (g := g) hN (fun c hc => zbs_i hc) ha (show n ≤ 8 by omega)
          have hx : zXs f (zbs f 31 (zgo A p) 12) g g' := ⟨fun a ha => zbs_c (by omega), fun a ha => k1 a (by omega)⟩
          have m2 := cxr h' hp
          have m3 := k2 room hr
          have m4 := l_132 (zbs f 31 (zgo A p) 12) g' 48 (zwt (zgo A p) (qR (hC (aH A)) p) n room) (60 ^ n) 0 (by omega) (by omega) (by omega) (by omega) (Or.inr (by omega))
          refine ⟨_, _, ?_, CX_U (CX_s h hx) _ _, zHi_t (zXs_hi hx) ⟨fun _ _ => rfl, fun a ha => by rw [zu_c (by omega), zu_c (by omega)]⟩⟩
          simp (disch := first | omega | assumption) only [x_127_0, x_127_5, x_127_12, x_127_25, x_127_47, x_127_68, x_127_87, e_127, l_46 g _ (cxP h) hP6, l_35, nI_add, pk_mul, z_in, z_ix, nI_leI, nI_ltI, nI_eq, z_eq0, z_lt0, z_0le, z_0lt, z_le0, z_n9, z_n1, z_m1lt, z_m9lt, z_m9le, z_m1le, zB_0, zB_1, zz_bi_s, zz_bv_s, zz_bl_s, if_pos, if_neg, if_true, if_false, true_and, and_true, not_true_eq_false, not_false_eq_true, ite_self, cxP h, cxS h, cxB h, cxH h, cxD h, cxk h, cxr h, cxp h, cxd h, cxt h, cxa h, cxb h, l_look hw h hp, m2, e1, m3, k3, e_132, x_132_0, m4, hgn, zu_c]
        · obtain ⟨g', e1, k1, k2⟩ := l_230 hw h hp hr (show n ≤ 8 by omega)
          have hx : zMs f f g g' := ⟨fun _ _ _ => rfl, fun a ha => k1 a (by omega) (by omega), fun _ _ => rfl⟩
          refine ⟨_, _, ?_, CM_U (CM_s hw h hx) _ _, zLo_t (zMs_lo hx) ⟨fun _ _ => rfl, fun a ha => by rw [zu_c (by omega), zu_c (by omega)]⟩⟩
          simp (disch := first | omega | assumption) only [x_230_0, x_230_5, x_230_12, x_230_24, x_230_27, x_230_66, x_230_113, x_230_131, x_230_159, x_230_182, x_230_202, x_230_209, e_230, l_176 g _ (cmP h) hP6, l_182, nI_add, pk_mul, z_in, z_ix, nI_leI, nI_ltI, nI_eq, z_eq0, z_lt0, z_0le, z_0lt, z_le0, z_n9, z_n1, z_m1lt, z_m9lt, z_m9le, z_m1le, zB_0, zB_1, zz_bi_s, zz_bv_s, zz_bl_s, if_pos, if_neg, if_true, if_false, true_and, and_true, not_true_eq_false, not_false_eq_true, ite_self, l_150n, e1]
          rw [l_230_265 f g' hr (by omega) _ _ (by omega) (by omega) (Or.inr (by omega)), k2]
      · refine sim_0 hw (.int (-1)) (fun f g h => ?_) (fun f g h => by simp (disch := first | omega | assumption) only [x_230_0, x_230_5, x_230_12, x_230_24, x_230_27, x_230_66, x_230_113, x_230_131, x_230_159, x_230_182, x_230_202, x_230_209, e_230, l_176 g _ (cmP h) hP6, l_182, nI_add, pk_mul, z_in, z_ix, nI_leI, nI_ltI, nI_eq, z_eq0, z_lt0, z_0le, z_0lt, z_le0, z_n9, z_n1, z_m1lt, z_m9lt, z_m9le, z_m1le, zB_0, zB_1, zz_bi_s, zz_bv_s, zz_bl_s, if_pos, if_neg, if_true, if_false, true_and, and_true, not_true_eq_false, not_false_eq_true, ite_self, l_150n, h3])
        rcases z_rngL5 (by decide) h3 with h4 | ⟨h4, h5⟩
        · simp (disch := first | omega | assumption) only [x_127_0, x_127_5, x_127_12, x_127_25, x_127_47, x_127_68, x_127_87, e_127, l_46 g _ (cxP h) hP6, l_35, nI_add, pk_mul, z_in, z_ix, nI_leI, nI_ltI, nI_eq, z_eq0, z_lt0, z_0le, z_0lt, z_le0, z_n9, z_n1, z_m1lt, z_m9lt, z_m9le, z_m1le, zB_0, zB_1, zz_bi_s, zz_bv_s, zz_bl_s, if_pos, if_neg, if_true, if_false, true_and, and_true, not_true_eq_false, not_false_eq_true, ite_self, h4]
        · simp (disch := first | omega | assumption) only [x_127_0, x_127_5, x_127_12, x_127_25, x_127_47, x_127_68, x_127_87, e_127, l_46 g _ (cxP h) hP6, l_35, nI_add, pk_mul, z_in, z_ix, nI_leI, nI_ltI, nI_eq, z_eq0, z_lt0, z_0le, z_0lt, z_le0, z_n9, z_n1, z_m1lt, z_m9lt, z_m9le, z_m1le, zB_0, zB_1, zz_bi_s, zz_bv_s, zz_bl_s, if_pos, if_neg, if_true, if_false, true_and, and_true, not_true_eq_false, not_false_eq_true, ite_self, h4, h5]
    · exact sim_0 hw (.int (-1)) (fun f g h => by simp (disch := first | omega | assumption) only [x_127_0, x_127_5, x_127_12, x_127_25, x_127_47, x_127_68, x_127_87, e_127, l_46 g _ (cxP h) hP6, l_35, nI_add, pk_mul, z_in, z_ix, nI_leI, nI_ltI, nI_eq, z_eq0, z_lt0, z_0le, z_0lt, z_le0, z_n9, z_n1, z_m1lt, z_m9lt, z_m9le, z_m1le, zB_0, zB_1, zz_bi_s, zz_bv_s, zz_bl_s, if_pos, if_neg, if_true, if_false, true_and, and_true, not_true_eq_false, not_false_eq_true, ite_self, h2]) (fun f g h => by simp (disch := first | omega | assumption) only [x_230_0, x_230_5, x_230_12, x_230_24, x_230_27, x_230_66, x_230_113, x_230_131, x_230_159, x_230_182, x_230_202, x_230_209, e_230, l_176 g _ (cmP h) hP6, l_182, nI_add, pk_mul, z_in, z_ix, nI_leI, nI_ltI, nI_eq, z_eq0, z_lt0, z_0le, z_0lt, z_le0, z_n9, z_n1, z_m1lt, z_m9lt, z_m9le, z_m1le, zB_0, zB_1, zz_bi_s, zz_bv_s, zz_bl_s, if_pos, if_neg, if_true, if_false, true_and, and_true, not_true_eq_false, not_false_eq_true, ite_self, h2])
  · exact sim_0 hw (.int (-1)) (fun f g h => by simp (disch := first | omega | assumption) only [x_127_0, x_127_5, x_127_12, x_127_25, x_127_47, x_127_68, x_127_87, e_127, l_46 g _ (cxP h) hP6, nI_add, pk_mul, z_in, z_ix, nI_leI, nI_ltI, nI_eq, z_eq0, z_lt0, z_0le, z_0lt, z_le0, z_n9, z_n1, z_m1lt, z_m9lt, z_m9le, z_m1le, zB_0, zB_1, zz_bi_s, zz_bv_s, zz_bl_s, if_pos, if_neg, if_true, if_false, true_and, and_true, not_true_eq_false, not_false_eq_true, ite_self, h1]) (fun f g h => by simp (disch := first | omega | assumption) only [x_230_0, x_230_5, x_230_12, x_230_24, x_230_27, x_230_66, x_230_113, x_230_131, x_230_159, x_230_182, x_230_202, x_230_209, e_230, l_176 g _ (cmP h) hP6, nI_add, pk_mul, z_in, z_ix, nI_leI, nI_ltI, nI_eq, z_eq0, z_lt0, z_0le, z_0lt, z_le0, z_n9, z_n1, z_m1lt, z_m9lt, z_m9le, z_m1le, zB_0, zB_1, zz_bi_s, zz_bv_s, zz_bl_s, if_pos, if_neg, if_true, if_false, true_and, and_true, not_true_eq_false, not_false_eq_true, ite_self, h1])
