/-! AN HOUR, A DOOR TURNED -/
def qHr (q : zQ) (pc : Nat → Nat) : zQ := (qS q, qH q + nI 1, fun x => (qR q x + pc x) % 12, fun x => qY q x + nI ((qR q x + pc x) / 12), qT q)
def aHr (A : zA) : zA := sH A (hPush (aH A) (qHr (hC (aH A)) (hP (aH A))))
def zmv (A : zA) : Nat := zct (fun p => decide (0 < hP (aH A) p)) (wP (aW A))
theorem wf_hr {A : zA} (hw : wf A) (hD40 : hD (aH A) < 40) : wf (aHr A) := wf_H hw (wfH_push hw.2.2.2.1 ⟨wfB hw, fun x hx => Nat.mod_lt _ (by decide)⟩ hD40)
theorem l_72 {A : zA} (hw : wf A) {f : Nat → Nat → Int32} {g : Nat → Nat → Int64} (h : CX A f g) (hD40 : hD (aH A) < 40) : ∃ f', zz_ca 72 [.ref 3] (zK f g) = some (some (.int (nI (zmv A))), zK f' g) ∧ CX (aHr A) f' g ∧ zHi f f' g g := by
  have hP6 := wfP hw
  rw [e_72, x_72_0]
  have key := z_loop (fun i (f' : Nat → Nat → Int32) => zz_ev 72 4 [.ref 3, .int (nI (zct (fun p => decide (0 < hP (aH A) p)) i)), .int (nI i), .null] [] (zK f' g))
    (fun i f' => (∀ x, x ≠ 5 → x ≠ 7 → f' x = f x) ∧ (∀ p < wP (aW A), f' 5 p = (if p < i then nI ((qR (hC (aH A)) p + hP (aH A) p) % 12) else nI (qR (hC (aH A)) p)) ∧ f' 7 p = (if p < i then qY (hC (aH A)) p + nI ((qR (hC (aH A)) p + hP (aH A) p) / 12) else qY (hC (aH A)) p)))
    (fun x => ∃ f', x = some (some (.int (nI (zmv A))), zK f' g) ∧ CX (aHr A) f' g ∧ zHi f f' g g) (wP (aW A)) ?_ ?_ 0 f (by omega) ⟨fun _ _ _ => rfl, fun p hp => ⟨by rw [if_neg (by omega)]; exact cxr h hp, by rw [if_neg (by omega)]; exact cxd h hp⟩⟩
  · exact key
  · intro i f1 hi ⟨k1, k2⟩
    left
    have m := k2 i hi
    rw [if_neg (by omega), if_neg (by omega)] at m
    have m6 : f1 6 i = nI (hP (aH A) i) := by rw [k1 6 (by decide) (by decide)]; exact cxp h hi
    have m0 : f1 3 0 = nI (wP (aW A)) := by rw [k1 3 (by decide) (by decide)]; exact cxP h
    have hr := wfr hw hi
    have hv := wfp hw hi
    refine ⟨zz_u (zz_u f1 7 i (qY (hC (aH A)) i + nI ((qR (hC (aH A)) i + hP (aH A) i) / 12))) 5 i (nI ((qR (hC (aH A)) i + hP (aH A) i) % 12)), ?_, fun x q1 q2 => by rw [zu_c q1, zu_c q2]; exact k1 x q1 q2, fun p hp => ?_⟩
    · rw [x_72_4, m0]; simp (disch := first | omega | assumption) only [nI_add, pk_mul, z_in, z_ix, nI_leI, nI_ltI, nI_eq, z_eq0, z_lt0, z_0le, z_0lt, z_le0, z_n9, z_n1, z_m1lt, z_m9lt, z_m9le, z_m1le, zB_0, zB_1, zz_bi_s, zz_bv_s, zz_bl_s, if_pos, if_neg, if_true, if_false, true_and, and_true, not_true_eq_false, not_false_eq_true, ite_self, m.1, m.2, m6, pk_div, z_rem, zu_c, x_72_61, hi_72_4]
      rw [show zct (fun p => decide (0 < hP (aH A) p)) (i + 1) = zct (fun p => decide (0 < hP (aH A) p)) i + (decide (0 < hP (aH A) i)).toNat from rfl]
      by_cases q : 0 < hP (aH A) i
      · rw [if_neg (by omega), b2n_t (decide_eq_true q)]
      · rw [if_pos (by omega), b2n_f (by simpa using q)]; rfl
    · rw [zu_if, zu_c (by decide), zu_c (by decide), zu_if]
      have w := k2 p hp
      by_cases e : p = i
      · subst e; rw [if_pos rfl, if_pos rfl, if_pos (by omega), if_pos (by omega)]; exact ⟨rfl, rfl⟩
      · rw [if_neg e, if_neg e, w.1, w.2]
        by_cases e2 : p < i
        · rw [if_pos e2, if_pos e2, if_pos (by omega), if_pos (by omega)]; exact ⟨rfl, rfl⟩
        · rw [if_neg e2, if_neg e2, if_neg (by omega), if_neg (by omega)]; exact ⟨rfl, rfl⟩
  · intro f1 ⟨k1, k2⟩
    have m0 : f1 3 0 = nI (wP (aW A)) := by rw [k1 3 (by decide) (by decide)]; exact cxP h
    have m3 : f1 3 3 = qH (hC (aH A)) := by rw [k1 3 (by decide) (by decide)]; exact cxH h
    have m4 : zz_u f1 3 3 (qH (hC (aH A)) + nI 1) 3 4 = nI (hD (aH A)) := by rw [zu_i (by decide), k1 3 (by decide) (by decide)]; exact cxD h
    refine ⟨znt (zz_u f1 3 3 (qH (hC (aH A)) + nI 1)) (hD (aH A)) (nI 1) (nI 0) (nI 0) (nI 0), ?_, CX_H h (fun a ha => by rw [znt_c (by omega) (by omega), zu_c (by omega), k1 a (by omega) (by omega)]) (XH_push h.2.1 (fun x q1 q2 q3 q4 => by rw [zu_c q1, k1 x q2 q3]) (by rw [zu_i (by decide), k1 3 (by decide) (by decide)]) (by rw [zu_i (by decide), k1 3 (by decide) (by decide)]) (by rw [zu_i (by decide), k1 3 (by decide) (by decide)]; exact cxB h) zu_s (fun p hp => ?_) (Or.inr (Or.inl ⟨rfl, rfl, rfl, fun x hx => ⟨rfl, rfl, rfl⟩⟩))), ⟨fun a ha => by rw [znt_c (by omega) (by omega), zu_c (by omega), k1 a (by omega) (by omega)], fun _ _ => rfl⟩⟩
    · rw [x_72_4, m0]; simp (disch := first | omega | assumption) only [nI_add, pk_mul, z_in, z_ix, nI_leI, nI_ltI, nI_eq, z_eq0, z_lt0, z_0le, z_0lt, z_le0, z_n9, z_n1, z_m1lt, z_m9lt, z_m9le, z_m1le, zB_0, zB_1, zz_bi_s, zz_bv_s, zz_bl_s, if_pos, if_neg, if_true, if_false, true_and, and_true, not_true_eq_false, not_false_eq_true, ite_self, m3, l_70 hD40 m4, x_72_85]; rfl
    · have w := k2 p hp
      rw [if_pos hp, if_pos hp] at w
      rw [zu_c (by decide), zu_c (by decide), zu_c (by decide), k1 8 (by decide) (by decide)]
      exact ⟨w.1, w.2, cxt h hp⟩
theorem l_187w {f : Nat → Nat → Int32} {g : Nat → Nat → Int64} {p r v n : Nat} (hp : p < 6) (hr : r < 12) (hv : v < 10) (hn : n < 1000) (h1 : f 113 (3 + p) = nI r) (h2 : f 113 (21 + p) = nI v) : zz_ca 187 [.ref 112, .int (nI p), .int (nI n)] (zK f g) = some (some (.int (nI ((r + n * v) / 12))), zK f g) := by
  have hs := z_small hr hn hv
  rw [e_187, x_187_0]; simp (disch := first | omega | assumption) only [nI_add, pk_mul, z_in, z_ix, nI_leI, nI_ltI, nI_eq, z_eq0, z_lt0, z_0le, z_0lt, z_le0, z_n9, z_n1, z_m1lt, z_m9lt, z_m9le, z_m1le, zB_0, zB_1, zz_bi_s, zz_bv_s, zz_bl_s, if_pos, if_neg, if_true, if_false, true_and, and_true, not_true_eq_false, not_false_eq_true, ite_self, h1, h2, pk_div]
theorem l_197 {A : zA} (hw : wf A) {f : Nat → Nat → Int32} {g : Nat → Nat → Int64} (h : CM A f g) (hD40 : hD (aH A) < 40) : ∃ f', zz_ca 197 [.ref 112] (zK f g) = some (some (.int (nI (zmv A))), zK f' g) ∧ CM (aHr A) f' g ∧ zLo f f' g g := by
  have hP6 := wfP hw
  have k1 : zkp f (hD (aH A)) 113 1 = qH (hC (aH A)) := by rw [zkp_i (by decide) (by omega)]; exact cmH h
  simp (disch := first | omega | assumption) only [e_197, x_197_0, l_195 hD40 (cmD h), nI_add, pk_mul, z_in, z_ix, nI_leI, nI_ltI, nI_eq, z_eq0, z_lt0, z_0le, z_0lt, z_le0, z_n9, z_n1, z_m1lt, z_m9lt, z_m9le, z_m1le, zB_0, zB_1, zz_bi_s, zz_bv_s, zz_bl_s, if_pos, if_neg, if_true, if_false, true_and, and_true, not_true_eq_false, not_false_eq_true, ite_self, x_197_4, k1]
  have key := z_loop (fun i (f' : Nat → Nat → Int32) => zz_ev 197 18 [.ref 112, .int (nI (zct (fun p => decide (0 < hP (aH A) p)) i)), .int (nI i)] [] (zK f' g))
    (fun i f' => (∀ x, x ≠ 113 → f' x = f x) ∧ (∀ j, 21 ≤ j → f' 113 j = zkp f (hD (aH A)) 113 j) ∧ f' 113 0 = nI (hD (aH A) + 1) ∧ f' 113 1 = qH (hC (aH A)) + nI 1 ∧ f' 113 2 = nI (qS (hC (aH A))) ∧ (∀ p < wP (aW A), f' 113 (3 + p) = (if p < i then nI ((qR (hC (aH A)) p + hP (aH A) p) % 12) else nI (qR (hC (aH A)) p)) ∧ f' 113 (9 + p) = (if p < i then qY (hC (aH A)) p + nI ((qR (hC (aH A)) p + hP (aH A) p) / 12) else qY (hC (aH A)) p) ∧ f' 113 (15 + p) = qT (hC (aH A)) p))
    (fun x => ∃ f', x = some (some (.int (nI (zmv A))), zK f' g) ∧ CM (aHr A) f' g ∧ zLo f f' g g) (wP (aW A)) ?_ ?_ 0 (zz_u (zkp f (hD (aH A))) 113 1 (qH (hC (aH A)) + nI 1)) (by omega) ⟨fun x hx => by rw [zu_c hx, zkp_c hx], fun j hj => zu_i (by omega), by rw [zu_i (by decide)]; unfold zkp; rw [if_pos ⟨rfl, rfl⟩], zu_s, by rw [zu_i (by decide), zkp_i (by decide) (by omega)]; exact cmB h, fun p hp => ⟨by rw [if_neg (by omega), zu_i (by omega), zkp_i (by omega) (by omega)]; exact cmr h hp, by rw [if_neg (by omega), zu_i (by omega), zkp_i (by omega) (by omega)]; exact cmd h hp, by rw [zu_i (by omega), zkp_i (by omega) (by omega)]; exact cmt h hp⟩⟩
  · exact key
  · intro i f1 hi ⟨q1, q2, q3, q4, q5, q6⟩
    left
    have m := q6 i hi
    rw [if_neg (by omega), if_neg (by omega)] at m
    have m21 : f1 113 (21 + i) = nI (hP (aH A) i) := by rw [q2 _ (by omega), zkp_i (by omega) (by omega)]; exact cmp h hi
    have m0 : f1 112 1 = nI (wP (aW A)) := by rw [q1 112 (by decide)]; exact cmP h
    have hr := wfr hw hi
    have hv := wfp hw hi
    have m7 := l_187w (g := g) (p := i) (by omega) hr hv (show 1 < 1000 by decide) m.1 m21
    rw [Nat.one_mul] at m7
    refine ⟨zz_u (zz_u f1 113 (9 + i) (qY (hC (aH A)) i + nI ((qR (hC (aH A)) i + hP (aH A) i) / 12))) 113 (3 + i) (nI ((qR (hC (aH A)) i + hP (aH A) i) % 12)), ?_, fun x hx => by rw [zu_c hx, zu_c hx]; exact q1 x hx, fun j hj => by rw [zu_i (by omega), zu_i (by omega)]; exact q2 j hj, by rw [zu_i (by omega), zu_i (by omega)]; exact q3, by rw [zu_i (by omega), zu_i (by omega)]; exact q4, by rw [zu_i (by omega), zu_i (by omega)]; exact q5, fun p hp => ?_⟩
    · rw [x_197_18, m0]; simp (disch := first | omega | assumption) only [nI_add, pk_mul, z_in, z_ix, nI_leI, nI_ltI, nI_eq, z_eq0, z_lt0, z_0le, z_0lt, z_le0, z_n9, z_n1, z_m1lt, z_m9lt, z_m9le, z_m1le, zB_0, zB_1, zz_bi_s, zz_bv_s, zz_bl_s, if_pos, if_neg, if_true, if_false, true_and, and_true, not_true_eq_false, not_false_eq_true, ite_self, m7, m.2.1, x_197_42]
      rw [zu_i (show 3 + i ≠ 9 + i by omega), zu_i (show 21 + i ≠ 3 + i by omega), zu_i (show 21 + i ≠ 9 + i by omega), m.1, m21]
      simp (disch := first | omega | assumption) only [nI_add, pk_mul, z_in, z_ix, nI_leI, nI_ltI, nI_eq, z_eq0, z_lt0, z_0le, z_0lt, z_le0, z_n9, z_n1, z_m1lt, z_m9lt, z_m9le, z_m1le, zB_0, zB_1, zz_bi_s, zz_bv_s, zz_bl_s, if_pos, if_neg, if_true, if_false, true_and, and_true, not_true_eq_false, not_false_eq_true, ite_self, z_rem, zu_i, m21, x_197_91]
      rw [show zct (fun p => decide (0 < hP (aH A) p)) (i + 1) = zct (fun p => decide (0 < hP (aH A) p)) i + (decide (0 < hP (aH A) i)).toNat from rfl]
      by_cases q : 0 < hP (aH A) i
      · rw [if_neg (by omega), b2n_t (decide_eq_true q)]
      · rw [if_pos (by omega), b2n_f (by simpa using q)]
    · have w := q6 p hp
      by_cases e : p = i
      · subst e
        rw [if_pos (by omega), if_pos (by omega)]
        exact ⟨zu_s, by rw [zu_i (by omega), zu_s], by rw [zu_i (by omega), zu_i (by omega)]; exact m.2.2⟩
      · rw [zu_i (by omega), zu_i (by omega), zu_i (by omega), zu_i (by omega), zu_i (by omega), zu_i (by omega), w.1, w.2.1]
        by_cases e2 : p < i
        · rw [if_pos e2, if_pos e2, if_pos (by omega), if_pos (by omega)]; exact ⟨rfl, rfl, w.2.2⟩
        · rw [if_neg e2, if_neg e2, if_neg (by omega), if_neg (by omega)]; exact ⟨rfl, rfl, w.2.2⟩
  · intro f1 ⟨q1, q2, q3, q4, q5, q6⟩
    have m0 : f1 112 1 = nI (wP (aW A)) := by rw [q1 112 (by decide)]; exact cmP h
    refine ⟨f1, ?_, CM_H hw h q1 (fun j hj => by rw [q2 j (by omega)]; exact zkp_i (by omega) (by omega)) (MH_push hP6 h.2.2.1 q3 (YQ_1 q4 q5 (fun p hp => ?_)) q2), ⟨fun a ha => q1 a (by omega), fun _ _ => rfl⟩⟩
    · rw [x_197_18, m0]; simp (disch := first | omega | assumption) only [nI_add, pk_mul, z_in, z_ix, nI_leI, nI_ltI, nI_eq, z_eq0, z_lt0, z_0le, z_0lt, z_le0, z_n9, z_n1, z_m1lt, z_m9lt, z_m9le, z_m1le, zB_0, zB_1, zz_bi_s, zz_bv_s, zz_bl_s, if_pos, if_neg, if_true, if_false, true_and, and_true, not_true_eq_false, not_false_eq_true, ite_self]; rfl
    · have w := q6 p hp
      rw [if_pos hp, if_pos hp] at w
      exact w
theorem sim_hour (A : zA) (hw : wf A) : zSim A 71 196 [] := by
  have hP6 := wfP hw
  have hD40 := wfD hw
  by_cases h0 : wP (aW A) = 0
  · exact sim_0 hw (.int (-4)) (fun f g h => by simp (disch := first | omega | assumption) only [x_71_0, x_71_35, e_71, nI_add, pk_mul, z_in, z_ix, nI_leI, nI_ltI, nI_eq, z_eq0, z_lt0, z_0le, z_0lt, z_le0, z_n9, z_n1, z_m1lt, z_m9lt, z_m9le, z_m1le, zB_0, zB_1, zz_bi_s, zz_bv_s, zz_bl_s, if_pos, if_neg, if_true, if_false, true_and, and_true, not_true_eq_false, not_false_eq_true, ite_self, cxP h, cxS h, cxB h, cxH h, cxD h, cxk h, cxr h, cxp h, cxd h, cxt h, cxa h, cxb h]) (fun f g h => by simp (disch := first | omega | assumption) only [x_196_0, x_196_30, e_196, nI_add, pk_mul, z_in, z_ix, nI_leI, nI_ltI, nI_eq, z_eq0, z_lt0, z_0le, z_0lt, z_le0, z_n9, z_n1, z_m1lt, z_m9lt, z_m9le, z_m1le, zB_0, zB_1, zz_bi_s, zz_bv_s, zz_bl_s, if_pos, if_neg, if_true, if_false, true_and, and_true, not_true_eq_false, not_false_eq_true, ite_self, cmP h, cmS h, cmB h, cmH h, cmD h, cmk h, cmr h, cmp h, cmd h, cmt h, cma h, cmb h, cm0 h])
  · by_cases h4 : hD (aH A) < 40
    · refine ⟨.int (nI (zmv A)), aHr A, wf_hr hw h4, fun f g h => ?_, fun f g h => ?_⟩
      · obtain ⟨f', e1, e2, e3⟩ := l_72 hw h h4
        exact ⟨f', g, by simp (disch := first | omega | assumption) only [x_71_0, x_71_35, e_71, nI_add, pk_mul, z_in, z_ix, nI_leI, nI_ltI, nI_eq, z_eq0, z_lt0, z_0le, z_0lt, z_le0, z_n9, z_n1, z_m1lt, z_m9lt, z_m9le, z_m1le, zB_0, zB_1, zz_bi_s, zz_bv_s, zz_bl_s, if_pos, if_neg, if_true, if_false, true_and, and_true, not_true_eq_false, not_false_eq_true, ite_self, cxP h, cxS h, cxB h, cxH h, cxD h, cxk h, cxr h, cxp h, cxd h, cxt h, cxa h, cxb h, e1], e2, e3⟩
      · obtain ⟨f', e1, e2, e3⟩ := l_197 hw h h4
        exact ⟨f', g, by simp (disch := first | omega | assumption) only [x_196_0, x_196_30, e_196, nI_add, pk_mul, z_in, z_ix, nI_leI, nI_ltI, nI_eq, z_eq0, z_lt0, z_0le, z_0lt, z_le0, z_n9, z_n1, z_m1lt, z_m9lt, z_m9le, z_m1le, zB_0, zB_1, zz_bi_s, zz_bv_s, zz_bl_s, if_pos, if_neg, if_true, if_false, true_and, and_true, not_true_eq_false, not_false_eq_true, ite_self, cmP h, cmS h, cmB h, cmH h, cmD h, cmk h, cmr h, cmp h, cmd h, cmt h, cma h, cmb h, cm0 h, e1], e2, e3⟩
    · exact sim_0 hw (.int (-2)) (fun f g h => by simp (disch := first | omega | assumption) only [x_71_0, x_71_35, e_71, nI_add, pk_mul, z_in, z_ix, nI_leI, nI_ltI, nI_eq, z_eq0, z_lt0, z_0le, z_0lt, z_le0, z_n9, z_n1, z_m1lt, z_m9lt, z_m9le, z_m1le, zB_0, zB_1, zz_bi_s, zz_bv_s, zz_bl_s, if_pos, if_neg, if_true, if_false, true_and, and_true, not_true_eq_false, not_false_eq_true, ite_self, cxP h, cxS h, cxB h, cxH h, cxD h, cxk h, cxr h, cxp h, cxd h, cxt h, cxa h, cxb h]) (fun f g h => by simp (disch := first | omega | assumption) only [x_196_0, x_196_30, e_196, nI_add, pk_mul, z_in, z_ix, nI_leI, nI_ltI, nI_eq, z_eq0, z_lt0, z_0le, z_0lt, z_le0, z_n9, z_n1, z_m1lt, z_m9lt, z_m9le, z_m1le, zB_0, zB_1, zz_bi_s, zz_bv_s, zz_bl_s, if_pos, if_neg, if_true, if_false, true_and, and_true, not_true_eq_false, not_false_eq_true, ite_self, cmP h, cmS h, cmB h, cmH h, cmD h, cmk h, cmr h, cmp h, cmd h, cmt h, cma h, cmb h, cm0 h])
/-! turn -/
def qTn (q : zQ) (i : Nat) : zQ := (qS q ^^^ 2 ^ i, qH q, qR q, qY q, qT q)
def aTn (A : zA) (i : Nat) : zA := sH A (hPush (aH A) (qTn (hC (aH A)) i))
theorem wf_tn {A : zA} (hw : wf A) {i : Nat} (hi : i < 12) (hD40 : hD (aH A) < 40) : wf (aTn A i) := wf_H hw (wfH_push hw.2.2.2.1 ⟨z_xor_lt (wfB hw) (z_p_lt hi), fun x hx => wfr hw hx⟩ hD40)
theorem zB_n0 {c : Prop} [Decidable c] : (zB c = nI 0) ↔ ¬ c := zB_0
theorem sim_turn (A : zA) (hw : wf A) (v1 v2 : Int32) : zSim A 73 198 [.int v1, .int v2] := by
  have hP6 := wfP hw
  have hD40 := wfD hw
  have hB := wfB hw
  by_cases h1 : zz_in v1 12
  · obtain ⟨i, hi, -, rfl⟩ := z_inx.mp h1
    have e01 : ∀ f g, zz_ca 150 [.long v2.toInt64, .long 0, .long 1] (zK f g) = some (some (.int (zB (zz_in v2 2))), zK f g) := fun f g => l_150n f g v2 (n := 1) (by decide)
    by_cases h2 : zz_in v2 2
    · obtain ⟨b, hb, -, rfl⟩ := z_inx.mp h2
      have e02 : ∀ f g, zz_ca 150 [.long (nI b).toInt64, .long 0, .long 1] (zK f g) = some (some (.int (nI 1)), zK f g) := fun f g => by rw [e01, zB_t h2]
      have hb01 : b = 0 ∨ b = 1 := by omega
      have h01 : ¬ nI 0 = nI 1 := by decide +kernel
      have h10 : ¬ nI 1 = nI 0 := by decide +kernel
      by_cases h3 : ((qS (hC (aH A))).testBit i = true ↔ b = 1)
      · refine sim_0 hw (.int (-4)) (fun f g h => ?_) (fun f g h => ?_)
        · rcases hb01 with rfl | rfl
          · have T : ¬ (qS (hC (aH A))).testBit i = true := fun w => by have := h3.mp w; omega
            simp (disch := first | omega | assumption) only [x_73_0, x_73_4, x_73_16, x_73_29, x_73_39, x_73_68, x_73_78, e_73, l_35, nI_add, pk_mul, z_in, z_ix, nI_leI, nI_ltI, nI_eq, z_eq0, z_lt0, z_0le, z_0lt, z_le0, z_n9, z_n1, z_m1lt, z_m9lt, z_m9le, z_m1le, zB_0, zB_1, zz_bi_s, zz_bv_s, zz_bl_s, if_pos, if_neg, if_true, if_false, true_and, and_true, not_true_eq_false, not_false_eq_true, ite_self, cxP h, cxS h, cxB h, cxH h, cxD h, cxk h, cxr h, cxp h, cxd h, cxt h, cxa h, cxb h, l_38, T, zB_n0, Bool.false_eq_true]
          · have T : (qS (hC (aH A))).testBit i = true := h3.mpr rfl
            simp (disch := first | omega | assumption) only [x_73_0, x_73_4, x_73_16, x_73_29, x_73_39, x_73_68, x_73_78, e_73, l_35, nI_add, pk_mul, z_in, z_ix, nI_leI, nI_ltI, nI_eq, z_eq0, z_lt0, z_0le, z_0lt, z_le0, z_n9, z_n1, z_m1lt, z_m9lt, z_m9le, z_m1le, zB_0, zB_1, zz_bi_s, zz_bv_s, zz_bl_s, if_pos, if_neg, if_true, if_false, true_and, and_true, not_true_eq_false, not_false_eq_true, ite_self, cxP h, cxS h, cxB h, cxH h, cxD h, cxk h, cxr h, cxp h, cxd h, cxt h, cxa h, cxb h, l_38, T]
        · rcases hb01 with rfl | rfl
          · have T : ¬ (qS (hC (aH A))).testBit i = true := fun w => by have := h3.mp w; omega
            simp (disch := first | omega | assumption) only [x_198_0, x_198_4, x_198_14, x_198_17, x_198_29, x_198_39, x_198_63, x_198_84, e_198, l_182, nI_add, pk_mul, z_in, z_ix, nI_leI, nI_ltI, nI_eq, z_eq0, z_lt0, z_0le, z_0lt, z_le0, z_n9, z_n1, z_m1lt, z_m9lt, z_m9le, z_m1le, zB_0, zB_1, zz_bi_s, zz_bv_s, zz_bl_s, if_pos, if_neg, if_true, if_false, true_and, and_true, not_true_eq_false, not_false_eq_true, ite_self, e02, cmP h, cmS h, cmB h, cmH h, cmD h, cmk h, cmr h, cmp h, cmd h, cmt h, cma h, cmb h, cm0 h, l_171, T, zB_n0, Bool.false_eq_true]
          · have T : (qS (hC (aH A))).testBit i = true := h3.mpr rfl
            simp (disch := first | omega | assumption) only [x_198_0, x_198_4, x_198_14, x_198_17, x_198_29, x_198_39, x_198_63, x_198_84, e_198, l_182, nI_add, pk_mul, z_in, z_ix, nI_leI, nI_ltI, nI_eq, z_eq0, z_lt0, z_0le, z_0lt, z_le0, z_n9, z_n1, z_m1lt, z_m9lt, z_m9le, z_m1le, zB_0, zB_1, zz_bi_s, zz_bv_s, zz_bl_s, if_pos, if_neg, if_true, if_false, true_and, and_true, not_true_eq_false, not_false_eq_true, ite_self, e02, cmP h, cmS h, cmB h, cmH h, cmD h, cmk h, cmr h, cmp h, cmd h, cmt h, cma h, cmb h, cm0 h, l_171, T]
      · have hT : (b = 0 ∧ (qS (hC (aH A))).testBit i = true) ∨ (b = 1 ∧ ¬ (qS (hC (aH A))).testBit i = true) := by
          rcases hb01 with e | e
          · left; refine ⟨e, ?_⟩
            cases w : (qS (hC (aH A))).testBit i with
            | true => rfl
            | false => exact absurd ⟨fun x => (by rw [w] at x; cases x), fun x => by omega⟩ h3
          · right; exact ⟨e, fun w => h3 ⟨fun _ => e, fun _ => w⟩⟩
        by_cases h4 : hD (aH A) < 40
        · have hx := z_xor_lt hB (z_p_lt hi)
          refine ⟨.int (nI (zpc 12 (qS (hC (aH A)) ^^^ 2 ^ i))), aTn A i, wf_tn hw hi h4, fun f g h => ?_, fun f g h => ?_⟩
          · have m4 : zz_u f 3 2 (nI (qS (hC (aH A)) ^^^ 2 ^ i)) 3 4 = nI (hD (aH A)) := by rw [zu_i (by decide)]; exact cxD h
            have m2 : znt (zz_u f 3 2 (nI (qS (hC (aH A)) ^^^ 2 ^ i))) (hD (aH A)) (nI 2) (nI i) (nI 0) (nI 0) 3 2 = nI (qS (hC (aH A)) ^^^ 2 ^ i) := by rw [znt_3 (by decide), zu_s]
            have m3 : zz_ca 74 [.ref 3, .int (nI i)] (zK f g) = some (none, zK (znt (zz_u f 3 2 (nI (qS (hC (aH A)) ^^^ 2 ^ i))) (hD (aH A)) (nI 2) (nI i) (nI 0) (nI 0)) g) := by
              simp (disch := first | omega | assumption) only [x_74_0, x_74_20, e_74, cxP h, cxS h, cxB h, cxH h, cxD h, cxk h, cxr h, cxp h, cxd h, cxt h, cxa h, cxb h, z_1shl, z_xor, l_70 h4 m4, nI_add, pk_mul, z_in, z_ix, nI_leI, nI_ltI, nI_eq, z_eq0, z_lt0, z_0le, z_0lt, z_le0, z_n9, z_n1, z_m1lt, z_m9lt, z_m9le, z_m1le, zB_0, zB_1, zz_bi_s, zz_bv_s, zz_bl_s, if_pos, if_neg, if_true, if_false, true_and, and_true, not_true_eq_false, not_false_eq_true, ite_self]
            refine ⟨znt (zz_u f 3 2 (nI (qS (hC (aH A)) ^^^ 2 ^ i))) (hD (aH A)) (nI 2) (nI i) (nI 0) (nI 0), g, ?_, CX_H h (fun a ha => by rw [znt_c (by omega) (by omega), zu_c (by omega)]) (XH_push h.2.1 (fun x q1 q2 q3 q4 => by rw [zu_c q1]) (by rw [zu_i (by decide)]) (by rw [zu_i (by decide)]) zu_s (by rw [zu_i (by decide)]; exact cxH h) (fun p hp => by rw [zu_c (by decide), zu_c (by decide), zu_c (by decide)]; exact ⟨cxr h hp, cxd h hp, cxt h hp⟩) (Or.inr (Or.inr ⟨rfl, i, hi, rfl, rfl, rfl, fun x hx => ⟨rfl, rfl, rfl⟩⟩))), ⟨fun a ha => by rw [znt_c (by omega) (by omega), zu_c (by omega)], fun _ _ => rfl⟩⟩
            rcases hT with ⟨rfl, T⟩ | ⟨rfl, T⟩ <;> simp (disch := first | omega | assumption) only [x_73_0, x_73_4, x_73_16, x_73_29, x_73_39, x_73_68, x_73_78, e_73, l_35, nI_add, pk_mul, z_in, z_ix, nI_leI, nI_ltI, nI_eq, z_eq0, z_lt0, z_0le, z_0lt, z_le0, z_n9, z_n1, z_m1lt, z_m9lt, z_m9le, z_m1le, zB_0, zB_1, zz_bi_s, zz_bv_s, zz_bl_s, if_pos, if_neg, if_true, if_false, true_and, and_true, not_true_eq_false, not_false_eq_true, ite_self, cxP h, cxS h, cxB h, cxH h, cxD h, cxk h, cxr h, cxp h, cxd h, cxt h, cxa h, cxb h, l_38, m3, m2, l_61 _ _ hx, T, zB_n0, Bool.false_eq_true]
          · have m2 : zkp f (hD (aH A)) 113 2 = nI (qS (hC (aH A))) := by rw [zkp_i (by decide) (by omega)]; exact cmB h
            have hf : ∀ j, 21 ≤ j → zz_u (zkp f (hD (aH A))) 113 2 (nI (qS (hC (aH A)) ^^^ 2 ^ i)) 113 j = zkp f (hD (aH A)) 113 j := fun j hj => zu_i (by omega)
            refine ⟨zz_u (zkp f (hD (aH A))) 113 2 (nI (qS (hC (aH A)) ^^^ 2 ^ i)), g, ?_, CM_H hw h (fun a ha => by rw [zu_c ha, zkp_c ha]) (fun j hj => by rw [hf j (by omega)]; exact zkp_i (by omega) (by omega)) (MH_push hP6 h.2.2.1 (by rw [zu_i (by decide)]; unfold zkp; rw [if_pos ⟨rfl, rfl⟩]) (YQ_1 (by rw [zu_i (by decide), zkp_i (by decide) (by omega)]; exact cmH h) zu_s (fun p hp => ⟨by rw [zu_i (by omega), zkp_i (by omega) (by omega)]; exact cmr h hp, by rw [zu_i (by omega), zkp_i (by omega) (by omega)]; exact cmd h hp, by rw [zu_i (by omega), zkp_i (by omega) (by omega)]; exact cmt h hp⟩)) hf), ⟨fun a ha => by rw [zu_c (by omega), zkp_c (by omega)], fun _ _ => rfl⟩⟩
            rcases hT with ⟨rfl, T⟩ | ⟨rfl, T⟩ <;> simp (disch := first | omega | assumption) only [x_198_0, x_198_4, x_198_14, x_198_17, x_198_29, x_198_39, x_198_63, x_198_84, e_198, l_182, nI_add, pk_mul, z_in, z_ix, nI_leI, nI_ltI, nI_eq, z_eq0, z_lt0, z_0le, z_0lt, z_le0, z_n9, z_n1, z_m1lt, z_m9lt, z_m9le, z_m1le, zB_0, zB_1, zz_bi_s, zz_bv_s, zz_bl_s, if_pos, if_neg, if_true, if_false, true_and, and_true, not_true_eq_false, not_false_eq_true, ite_self, e02, cmP h, cmS h, cmB h, cmH h, cmD h, cmk h, cmr h, cmp h, cmd h, cmt h, cma h, cmb h, cm0 h, l_171, l_195 h4 (cmD h), m2, z_1shl, z_xor, zu_s, l_191 _ _ hx, T, zB_n0, Bool.false_eq_true]
        · refine sim_0 hw (.int (-2)) (fun f g h => ?_) (fun f g h => ?_)
          · rcases hT with ⟨rfl, T⟩ | ⟨rfl, T⟩ <;> simp (disch := first | omega | assumption) only [x_73_0, x_73_4, x_73_16, x_73_29, x_73_39, x_73_68, x_73_78, e_73, l_35, nI_add, pk_mul, z_in, z_ix, nI_leI, nI_ltI, nI_eq, z_eq0, z_lt0, z_0le, z_0lt, z_le0, z_n9, z_n1, z_m1lt, z_m9lt, z_m9le, z_m1le, zB_0, zB_1, zz_bi_s, zz_bv_s, zz_bl_s, if_pos, if_neg, if_true, if_false, true_and, and_true, not_true_eq_false, not_false_eq_true, ite_self, cxP h, cxS h, cxB h, cxH h, cxD h, cxk h, cxr h, cxp h, cxd h, cxt h, cxa h, cxb h, l_38, T, zB_n0, Bool.false_eq_true]
          · rcases hT with ⟨rfl, T⟩ | ⟨rfl, T⟩ <;> simp (disch := first | omega | assumption) only [x_198_0, x_198_4, x_198_14, x_198_17, x_198_29, x_198_39, x_198_63, x_198_84, e_198, l_182, nI_add, pk_mul, z_in, z_ix, nI_leI, nI_ltI, nI_eq, z_eq0, z_lt0, z_0le, z_0lt, z_le0, z_n9, z_n1, z_m1lt, z_m9lt, z_m9le, z_m1le, zB_0, zB_1, zz_bi_s, zz_bv_s, zz_bl_s, if_pos, if_neg, if_true, if_false, true_and, and_true, not_true_eq_false, not_false_eq_true, ite_self, e02, cmP h, cmS h, cmB h, cmH h, cmD h, cmk h, cmr h, cmp h, cmd h, cmt h, cma h, cmb h, cm0 h, l_171, T, zB_n0, Bool.false_eq_true]
    · refine sim_0 hw (.int (-1)) (fun f g h => ?_) (fun f g h => by simp (disch := first | omega | assumption) only [x_198_0, x_198_4, x_198_14, x_198_17, x_198_29, x_198_39, x_198_63, x_198_84, e_198, l_182, nI_add, pk_mul, z_in, z_ix, nI_leI, nI_ltI, nI_eq, z_eq0, z_lt0, z_0le, z_0lt, z_le0, z_n9, z_n1, z_m1lt, z_m9lt, z_m9le, z_m1le, zB_0, zB_1, zz_bi_s, zz_bv_s, zz_bl_s, if_pos, if_neg, if_true, if_false, true_and, and_true, not_true_eq_false, not_false_eq_true, ite_self, e01, h2])
      rcases z_rngL5 (by decide) h2 with h3 | ⟨h3, h4⟩
      · simp (disch := first | omega | assumption) only [x_73_0, x_73_4, x_73_16, x_73_29, x_73_39, x_73_68, x_73_78, e_73, l_35, nI_add, pk_mul, z_in, z_ix, nI_leI, nI_ltI, nI_eq, z_eq0, z_lt0, z_0le, z_0lt, z_le0, z_n9, z_n1, z_m1lt, z_m9lt, z_m9le, z_m1le, zB_0, zB_1, zz_bi_s, zz_bv_s, zz_bl_s, if_pos, if_neg, if_true, if_false, true_and, and_true, not_true_eq_false, not_false_eq_true, ite_self, h3]
      · simp (disch := first | omega | assumption) only [x_73_0, x_73_4, x_73_16, x_73_29, x_73_39, x_73_68, x_73_78, e_73, l_35, nI_add, pk_mul, z_in, z_ix, nI_leI, nI_ltI, nI_eq, z_eq0, z_lt0, z_0le, z_0lt, z_le0, z_n9, z_n1, z_m1lt, z_m9lt, z_m9le, z_m1le, zB_0, zB_1, zz_bi_s, zz_bv_s, zz_bl_s, if_pos, if_neg, if_true, if_false, true_and, and_true, not_true_eq_false, not_false_eq_true, ite_self, h3, h4]
  · exact sim_0 hw (.int (-1)) (fun f g h => by simp (disch := first | omega | assumption) only [x_73_0, x_73_4, x_73_16, x_73_29, x_73_39, x_73_68, x_73_78, e_73, l_35, nI_add, pk_mul, z_in, z_ix, nI_leI, nI_ltI, nI_eq, z_eq0, z_lt0, z_0le, z_0lt, z_le0, z_n9, z_n1, z_m1lt, z_m9lt, z_m9le, z_m1le, zB_0, zB_1, zz_bi_s, zz_bv_s, zz_bl_s, if_pos, if_neg, if_true, if_false, true_and, and_true, not_true_eq_false, not_false_eq_true, ite_self, h1]) (fun f g h => by simp (disch := first | omega | assumption) only [x_198_0, x_198_4, x_198_14, x_198_17, x_198_29, x_198_39, x_198_63, x_198_84, e_198, l_182, nI_add, pk_mul, z_in, z_ix, nI_leI, nI_ltI, nI_eq, z_eq0, z_lt0, z_0le, z_0lt, z_le0, z_n9, z_n1, z_m1lt, z_m9lt, z_m9le, z_m1le, zB_0, zB_1, zz_bi_s, zz_bv_s, zz_bl_s, if_pos, if_neg, if_true, if_false, true_and, and_true, not_true_eq_false, not_false_eq_true, ite_self, h1])
