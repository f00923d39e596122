/-! KEEP, ON -/
theorem zcp_s {α : Type} {f : Nat → Nat → α} {a b n j : Nat} (h : j < n) : zz_cp f a 0 b 0 n b j = f a j := by
  unfold zz_cp; rw [if_pos ⟨rfl, by omega, by omega⟩, show 0 + (j - 0) = j by omega]
theorem l_44 (f : Nat → Nat → Int32) (g : Nat → Nat → Int64) {r0 r1 : Nat} (h0 : zs_H r0) (h1 : zs_H r1) (hd : r0 + 11 < r1 ∨ r1 + 11 < r0) : ∃ f', zz_ca 44 [.ref r0, .ref r1] (zK f g) = some (none, zK f' g) ∧ (∀ a, a < r0 ∨ r0 + 11 < a → f' a = f a) ∧ (∀ W H, wP W ≤ 6 → wS W ≤ 4 → hD H ≤ 40 → XH f r1 W H → XH f' r0 W H) := by
  have key : ∃ f', zz_ca 44 [.ref r0, .ref r1] (zK f g) = some (none, zK f' g) ∧ (∀ a, a < r0 ∨ r0 + 11 < a → f' a = f a) ∧ (f' r0 0 = f r1 0 ∧ f' r0 1 = f r1 1 ∧ f' r0 2 = f r1 2 ∧ f' r0 3 = f r1 3 ∧ f' r0 4 = f r1 4) ∧ (∀ j < 6, f' (r0 + 1) j = f (r1 + 1) j ∧ f' (r0 + 2) j = f (r1 + 2) j ∧ f' (r0 + 3) j = f (r1 + 3) j ∧ f' (r0 + 4) j = f (r1 + 4) j ∧ f' (r0 + 5) j = f (r1 + 5) j) ∧ (∀ j < 4, f' (r0 + 6) j = f (r1 + 6) j ∧ f' (r0 + 7) j = f (r1 + 7) j) ∧ (∀ j < 40, f' (r0 + 8) j = f (r1 + 8) j ∧ f' (r0 + 9) j = f (r1 + 9) j ∧ f' (r0 + 10) j = f (r1 + 10) j ∧ f' (r0 + 11) j = f (r1 + 11) j) := by
    have c6 : 0 ≤ (nI 0).toInt ∧ 0 ≤ (nI 0).toInt ∧ 0 ≤ (nI 6).toInt ∧ zz_ix (nI 0) + zz_ix (nI 6) ≤ 6 ∧ zz_ix (nI 0) + zz_ix (nI 6) ≤ 6 := by decide +kernel
    have c4 : 0 ≤ (nI 0).toInt ∧ 0 ≤ (nI 0).toInt ∧ 0 ≤ (nI 4).toInt ∧ zz_ix (nI 0) + zz_ix (nI 4) ≤ 4 ∧ zz_ix (nI 0) + zz_ix (nI 4) ≤ 4 := by decide +kernel
    have c40 : 0 ≤ (nI 0).toInt ∧ 0 ≤ (nI 0).toInt ∧ 0 ≤ (nI 40).toInt ∧ zz_ix (nI 0) + zz_ix (nI 40) ≤ 40 ∧ zz_ix (nI 0) + zz_ix (nI 40) ≤ 40 := by decide +kernel
    have i0 : zz_ix (nI 0) = 0 := z_ix (by decide)
    have i6 : zz_ix (nI 6) = 6 := z_ix (by decide)
    have i4 : zz_ix (nI 4) = 4 := z_ix (by decide)
    have i40 : zz_ix (nI 40) = 40 := z_ix (by decide)
    rw [e_44, x_44_0 f g r0 r1 h0 h1, if_pos c6, if_pos c6, if_pos c6, if_pos c6, if_pos c6, if_pos c4, if_pos c4, if_pos c40, if_pos c40, if_pos c40, if_pos c40]
    clear c6 c4 c40
    simp only [i0, i6, i4, i40]
    clear i0 i6 i4 i40
    refine ⟨_, rfl, fun a ha => ?_, ⟨?_, ?_, ?_, ?_, ?_⟩, fun j hj => ⟨?_, ?_, ?_, ?_, ?_⟩, fun j hj => ⟨?_, ?_⟩, fun j hj => ⟨?_, ?_, ?_, ?_⟩⟩
    all_goals simp (disch := omega) only [zz_cp_ne, zcp_s, zu_c, zu_i, zu_s]
  obtain ⟨f', e0, e1, e2, e3, e4, e5⟩ := key
  refine ⟨f', e0, e1, fun W H hW hS hD40 h => ?_⟩
  obtain ⟨x0, x1, x2, x3, x4, x5, x6, x7⟩ := h
  refine ⟨e2.1.trans x0, e2.2.1.trans x1, e2.2.2.1.trans x2, e2.2.2.2.1.trans x3, e2.2.2.2.2.trans x4, fun p hp => ?_, fun s hs => ?_, fun d hd => ?_⟩
  · have y := e3 p (by omega); rw [y.1, y.2.1, y.2.2.1, y.2.2.2.1, y.2.2.2.2]; exact x5 p hp
  · have y := e4 s (by omega); rw [y.1, y.2]; exact x6 s hs
  · have y := e5 d (by omega); rw [y.1, y.2.1, y.2.2.1, y.2.2.2]; exact x7 d hd
def zhc (f : Nat → Nat → Int32) (a b : Nat) : Nat → Nat → Int32 := fun x i => if x = 113 ∧ b ≤ i ∧ i < b + 827 then f 113 (a + (i - b)) else f x i
theorem zhc_c {f : Nat → Nat → Int32} {a b x : Nat} (h : x ≠ 113) : zhc f a b x = f x := by funext i; exact if_neg (fun q => h q.1)
theorem zhc_i {f : Nat → Nat → Int32} {a b i : Nat} (h : i < b ∨ b + 827 ≤ i) : zhc f a b 113 i = f 113 i := if_neg (fun q => by omega)
theorem zhc_s {f : Nat → Nat → Int32} {a b i : Nat} (h : i < 827) : zhc f a b 113 (b + i) = f 113 (a + i) := by
  unfold zhc; rw [if_pos ⟨rfl, by omega, by omega⟩, Nat.add_sub_cancel_left]
theorem l_201 (f : Nat → Nat → Int32) (g : Nat → Nat → Int64) {a b : Nat} (ha : a + 827 ≤ 3308) (hb : b + 827 ≤ 3308) (hd : a + 827 ≤ b ∨ b + 827 ≤ a) : zz_ca 201 [.ref 112, .int (nI a), .int (nI b)] (zK f g) = some (none, zK (zhc f a b) g) := by
  rw [e_201, x_201_0]
  have key := z_lp (fun k => zz_ev 201 2 [.ref 112, .int (nI a), .int (nI b), .int (nI k)] [] (zK (fun x i => if x = 113 ∧ b ≤ i ∧ i < b + k then f 113 (a + (i - b)) else f x i) g)) 827 (fun k hk => ?_) 0 (by omega)
  · refine Eq.trans ?_ (key.trans ?_)
    · congr 2; funext x i; exact (if_neg (fun q => by omega)).symm
    · rw [x_201_2]; simp (disch := first | omega | assumption) only [nI_add, pk_mul, z_in, z_ix, nI_leI, nI_ltI, nI_eq, z_eq0, z_lt0, z_0le, z_0lt, z_le0, z_n9, z_n1, z_m1lt, z_m9lt, z_m9le, z_m1le, zB_0, zB_1, zz_bi_s, zz_bv_s, zz_bl_s, if_pos, if_neg, if_true, if_false, true_and, and_true, not_true_eq_false, not_false_eq_true, ite_self]; rfl
  · show zz_ev 201 2 _ _ _ = zz_ev 201 2 _ _ _
    rw [x_201_2]; simp (disch := first | omega | assumption) only [nI_add, pk_mul, z_in, z_ix, nI_leI, nI_ltI, nI_eq, z_eq0, z_lt0, z_0le, z_0lt, z_le0, z_n9, z_n1, z_m1lt, z_m9lt, z_m9le, z_m1le, zB_0, zB_1, zz_bi_s, zz_bv_s, zz_bl_s, if_pos, if_neg, if_true, if_false, true_and, and_true, not_true_eq_false, not_false_eq_true, ite_self]
    congr 2
    funext x i
    unfold zz_u
    by_cases q : x = 113 ∧ i = b + k
    · rw [if_pos q, if_pos (by omega), show i - b = k by omega]
    · rw [if_neg q]; dsimp only
      by_cases q2 : x = 113 ∧ b ≤ i ∧ i < b + k
      · rw [if_pos q2, if_pos (by omega)]
      · rw [if_neg q2, if_neg (by omega)]
theorem MH_cp {f f' : Nat → Nat → Int32} {a b P : Nat} {H : zHo} (hP6 : P ≤ 6) (hD40 : hD H ≤ 40) (h : MH f a P H) (e : ∀ i < 827, f' 113 (b + i) = f 113 (a + i)) : MH f' b P H := by
  have e' : ∀ i x y, i < 827 → x = b + i → y = a + i → f' 113 x = f 113 y := fun i x y hi hx hy => by rw [hx, hy]; exact e i hi
  obtain ⟨x0, ⟨x1, x2, x3⟩, x4, x5⟩ := h
  refine ⟨(e' 0 _ _ (by omega) (by omega) (by omega)).trans x0, ⟨(e' 1 _ _ (by omega) (by omega) (by omega)).trans x1, (e' 2 _ _ (by omega) (by omega) (by omega)).trans x2, fun p hp => ⟨(e' (3 + p) _ _ (by omega) (by omega) (by omega)).trans (x3 p hp).1, (e' (9 + p) _ _ (by omega) (by omega) (by omega)).trans (x3 p hp).2.1, (e' (15 + p) _ _ (by omega) (by omega) (by omega)).trans (x3 p hp).2.2⟩⟩, fun p hp => (e' (21 + p) _ _ (by omega) (by omega) (by omega)).trans (x4 p hp), fun d hd => ?_⟩
  have y := x5 d hd
  exact ⟨(e' (27 + 20 * d) _ _ (by omega) (by omega) (by omega)).trans y.1, (e' (28 + 20 * d) _ _ (by omega) (by omega) (by omega)).trans y.2.1, fun p hp => ⟨(e' (29 + 20 * d + p) _ _ (by omega) (by omega) (by omega)).trans (y.2.2 p hp).1, (e' (35 + 20 * d + p) _ _ (by omega) (by omega) (by omega)).trans (y.2.2 p hp).2.1, (e' (41 + 20 * d + p) _ _ (by omega) (by omega) (by omega)).trans (y.2.2 p hp).2.2⟩⟩
def aKp (A : zA) (k : Nat) : zA := sK A (zup (aK A).1 k true, zup (aK A).2 k (aH A))
theorem sim_keep (A : zA) (hw : wf A) (v : Int32) : zSim A 79 200 [.int v] := by
  have hP6 := wfP hw
  have hS4 := wfS hw
  have hD40 := wfD hw
  by_cases h1 : zz_in v 3
  · obtain ⟨k, hk, -, rfl⟩ := z_inx.mp h1
    by_cases h0 : wP (aW A) = 0
    · exact sim_0 hw (.int (-4)) (fun f g h => by simp (disch := first | omega | assumption) only [x_79_0, x_79_4, x_79_35, e_79, l_80, nI_add, pk_mul, z_in, z_ix, nI_leI, nI_ltI, nI_eq, z_eq0, z_lt0, z_0le, z_0lt, z_le0, z_n9, z_n1, z_m1lt, z_m9lt, z_m9le, z_m1le, zB_0, zB_1, zz_bi_s, zz_bv_s, zz_bl_s, if_pos, if_neg, if_true, if_false, true_and, and_true, not_true_eq_false, not_false_eq_true, ite_self, cxP h, cxS h, cxB h, cxH h, cxD h, cxk h, cxr h, cxp h, cxd h, cxt h, cxa h, cxb h]) (fun f g h => by simp (disch := first | omega | assumption) only [x_200_0, x_200_9, x_200_36, e_200, l_150n, nI_add, pk_mul, z_in, z_ix, nI_leI, nI_ltI, nI_eq, z_eq0, z_lt0, z_0le, z_0lt, z_le0, z_n9, z_n1, z_m1lt, z_m9lt, z_m9le, z_m1le, zB_0, zB_1, zz_bi_s, zz_bv_s, zz_bl_s, if_pos, if_neg, if_true, if_false, true_and, and_true, not_true_eq_false, not_false_eq_true, ite_self, cmP h, cmS h, cmB h, cmH h, cmD h, cmk h, cmr h, cmp h, cmd h, cmt h, cma h, cmb h, cm0 h])
    · refine ⟨.int (nI (hD (aH A))), aKp A k, ⟨hw.1, hw.2.1, hw.2.2.1, hw.2.2.2.1, fun i hi q => ?_⟩, fun f g h => ?_, fun f g h => ?_⟩
      · have q : zup (aK A).1 k true i = true := q
        show wfH _ (zup (aK A).2 k (aH A) i)
        by_cases q2 : i = k
        · rw [q2, zup_s]; exact hw.2.2.2.1
        · rw [zup_n q2] at q ⊢; exact hw.2.2.2.2 i hi q
      · obtain ⟨f', e1, e2, e3⟩ := l_44 f g (zs_H_kept k hk) zs_H_3 (by omega)
        have m4 : f' 3 4 = nI (hD (aH A)) := by rw [e2 3 (by omega)]; exact cxD h
        have e : ∀ a, a ≠ 16 → (a < 76 + 12 * k ∨ 87 + 12 * k < a) → zz_u f' 16 k (nI 1) a = f a := fun a q1 q2 => by rw [zu_c q1, e2 a (by omega)]
        refine ⟨zz_u f' 16 k (nI 1), g, ?_, ⟨XN_fr h.1 (e _ (by omega) (by omega)) (e _ (by omega) (by omega)) rfl, XH_fr h.2.1 (fun a h1 h2 => e a (by omega) (by omega)), fun i hi => ⟨?_, fun q => ?_⟩, XR_fr h.2.2.2.1 (fun a h1 h2 => e a (by omega) (by omega)), XT_fr h.2.2.2.2 (fun a h1 h2 => e a (by omega) (by omega))⟩, ⟨fun a ha => e a (by omega) (by omega), fun _ _ => rfl⟩⟩
        · simp (disch := first | omega | assumption) only [x_79_0, x_79_4, x_79_35, e_79, l_80, nI_add, pk_mul, z_in, z_ix, nI_leI, nI_ltI, nI_eq, z_eq0, z_lt0, z_0le, z_0lt, z_le0, z_n9, z_n1, z_m1lt, z_m9lt, z_m9le, z_m1le, zB_0, zB_1, zz_bi_s, zz_bv_s, zz_bl_s, if_pos, if_neg, if_true, if_false, true_and, and_true, not_true_eq_false, not_false_eq_true, ite_self, cxP h, cxS h, cxB h, cxH h, cxD h, cxk h, cxr h, cxp h, cxd h, cxt h, cxa h, cxb h, e1, zu_c, m4]
        · show _ = zB (zup (aK A).1 k true i = true)
          by_cases q : i = k
          · subst q; rw [zu_s, zup_s]; exact (zB_t rfl).symm
          · rw [zu_i q, zup_n q, e2 16 (by omega)]; exact (h.2.2.1 i hi).1
        · have q : zup (aK A).1 k true i = true := q
          show XH _ _ (aW A) (zup (aK A).2 k (aH A) i)
          by_cases q2 : i = k
          · subst q2; rw [zup_s]; exact XH_fr (e3 (aW A) (aH A) hP6 hS4 hD40 h.2.1) (fun a h1 h2 => zu_c (by omega))
          · rw [zup_n q2] at q ⊢; exact XH_fr ((h.2.2.1 i hi).2 q) (fun a h1 h2 => e a (by omega) (by omega))
      · have m := l_201 f g (a := 0) (b := 827 * (1 + k)) (by omega) (by omega) (by omega)
        have m0 : zhc f 0 (827 * (1 + k)) 113 0 = nI (hD (aH A)) := by rw [zhc_i (by omega)]; exact cmD h
        refine ⟨zhc f 0 (827 * (1 + k)), g, ?_, ⟨MN_fr h.1 (by rw [zhc_c (by decide)]) (by rw [zhc_c (by decide)]) (by rw [zhc_c (by decide)]) (zhc_c (by decide)) rfl, MW_fr h.2.1 (by rw [zhc_c (by decide)]) (by rw [zhc_c (by decide)]) (zhc_c (by decide)) (zhc_c (by decide)), MH_fr h.2.2.1 hP6 hD40 (fun j _ _ => zhc_i (by omega)), fun i hi => ⟨fun q => ?_, fun q => ?_⟩, MR_fr h.2.2.2.2.1 (zhc_c (by decide)) (zhc_c (by decide)), MT_fr h.2.2.2.2.2 (zhc_c (by decide)) (zhc_c (by decide))⟩, ⟨fun a ha => zhc_c (by omega), fun _ _ => rfl⟩⟩
        · simp (disch := first | omega | assumption) only [x_200_0, x_200_9, x_200_36, e_200, l_150n, nI_add, pk_mul, z_in, z_ix, nI_leI, nI_ltI, nI_eq, z_eq0, z_lt0, z_0le, z_0lt, z_le0, z_n9, z_n1, z_m1lt, z_m9lt, z_m9le, z_m1le, zB_0, zB_1, zz_bi_s, zz_bv_s, zz_bl_s, if_pos, if_neg, if_true, if_false, true_and, and_true, not_true_eq_false, not_false_eq_true, ite_self, cmP h, cmS h, cmB h, cmH h, cmD h, cmk h, cmr h, cmp h, cmd h, cmt h, cma h, cmb h, cm0 h, m, m0]
        · have q : zup (aK A).1 k true i = false := q
          by_cases q2 : i = k
          · rw [q2, zup_s] at q; cases q
          · rw [zup_n q2] at q; rw [zhc_i (by omega)]; exact (h.2.2.2.1 i hi).1 q
        · have q : zup (aK A).1 k true i = true := q
          show MH _ _ (wP (aW A)) (zup (aK A).2 k (aH A) i)
          by_cases q2 : i = k
          · subst q2; rw [zup_s]; exact MH_cp hP6 hD40 h.2.2.1 (fun j hj => by rw [Nat.add_comm i 1]; exact zhc_s hj)
          · rw [zup_n q2] at q ⊢; exact MH_fr ((h.2.2.2.1 i hi).2 q) hP6 (hw.2.2.2.2 i hi q).2.1 (fun j h1 h2 => zhc_i (by omega))
  · exact sim_0 hw (.int (-1)) (fun f g h => by simp (disch := first | omega | assumption) only [x_79_0, x_79_4, x_79_35, e_79, l_80, nI_add, pk_mul, z_in, z_ix, nI_leI, nI_ltI, nI_eq, z_eq0, z_lt0, z_0le, z_0lt, z_le0, z_n9, z_n1, z_m1lt, z_m9lt, z_m9le, z_m1le, zB_0, zB_1, zz_bi_s, zz_bv_s, zz_bl_s, if_pos, if_neg, if_true, if_false, true_and, and_true, not_true_eq_false, not_false_eq_true, ite_self, h1]) (fun f g h => by simp (disch := first | omega | assumption) only [x_200_0, x_200_9, x_200_36, e_200, l_150n, nI_add, pk_mul, z_in, z_ix, nI_leI, nI_ltI, nI_eq, z_eq0, z_lt0, z_0le, z_0lt, z_le0, z_n9, z_n1, z_m1lt, z_m9lt, z_m9le, z_m1le, zB_0, zB_1, zz_bi_s, zz_bv_s, zz_bl_s, if_pos, if_neg, if_true, if_false, true_and, and_true, not_true_eq_false, not_false_eq_true, ite_self, h1])
theorem sim_on (A : zA) (hw : wf A) (v : Int32) : zSim A 81 202 [.int v] := by
  have hP6 := wfP hw
  have hS4 := wfS hw
  by_cases h1 : zz_in v 3
  · obtain ⟨k, hk, -, rfl⟩ := z_inx.mp h1
    by_cases h0 : (aK A).1 k = true
    · have hwk := hw.2.2.2.2 k hk h0
      have hD40 := hwk.2.1
      refine ⟨.int (nI (hD ((aK A).2 k))), sH A ((aK A).2 k), wf_H hw hwk, fun f g h => ?_, fun f g h => ?_⟩
      · obtain ⟨f', e1, e2, e3⟩ := l_44 f g zs_H_3 (zs_H_kept k hk) (by omega)
        have x := (h.2.2.1 k hk)
        have y := e3 (aW A) ((aK A).2 k) hP6 hS4 hD40 (x.2 h0)
        have m4 : f' 3 4 = nI (hD ((aK A).2 k)) := y.2.2.2.2.1
        have m16 : f 16 k = nI 1 := by rw [x.1]; exact zB_t h0
        refine ⟨f', g, ?_, CX_H h (fun a ha => e2 a (by omega)) y, ⟨fun a ha => e2 a (by omega), fun _ _ => rfl⟩⟩
        simp (disch := first | omega | assumption) only [x_81_0, x_81_4, x_81_23, x_81_37, e_81, l_80, nI_add, pk_mul, z_in, z_ix, nI_leI, nI_ltI, nI_eq, z_eq0, z_lt0, z_0le, z_0lt, z_le0, z_n9, z_n1, z_m1lt, z_m9lt, z_m9le, z_m1le, zB_0, zB_1, zz_bi_s, zz_bv_s, zz_bl_s, if_pos, if_neg, if_true, if_false, true_and, and_true, not_true_eq_false, not_false_eq_true, ite_self, m16, e1, m4]
      · have x := (h.2.2.2.1 k hk).2 h0
        have m := l_201 f g (a := 827 * (1 + k)) (b := 0) (by omega) (by omega) (by omega)
        have m1 : f 113 (827 * (1 + k)) = nI (hD ((aK A).2 k)) := by rw [Nat.add_comm 1 k]; exact x.1
        have m0 : zhc f (827 * (1 + k)) 0 113 0 = nI (hD ((aK A).2 k)) := by rw [← m1]; exact zhc_s (b := 0) (i := 0) (by decide)
        refine ⟨zhc f (827 * (1 + k)) 0, g, ?_, CM_H hw h (fun a ha => zhc_c ha) (fun j hj => zhc_i (by omega)) (MH_cp hP6 hD40 x (fun j hj => by rw [Nat.add_comm k 1]; exact zhc_s hj)), ⟨fun a ha => zhc_c (by omega), fun _ _ => rfl⟩⟩
        simp (disch := first | omega | assumption) only [x_202_0, x_202_9, x_202_36, x_202_49, e_202, l_150n, nI_add, pk_mul, z_in, z_ix, nI_leI, nI_ltI, nI_eq, z_eq0, z_lt0, z_0le, z_0lt, z_le0, z_n9, z_n1, z_m1lt, z_m9lt, z_m9le, z_m1le, zB_0, zB_1, zz_bi_s, zz_bv_s, zz_bl_s, if_pos, if_neg, if_true, if_false, true_and, and_true, not_true_eq_false, not_false_eq_true, ite_self, Nat.add_zero, m1, m, m0]
    · refine sim_F hw (w := 1) (by decide) (by decide) (fun f g h => ?_) (fun f g h => ?_)
      · have m16 : f 16 k = nI 0 := by rw [(h.2.2.1 k hk).1]; exact zB_f h0
        simp (disch := first | omega | assumption) only [x_81_0, x_81_4, x_81_23, x_81_37, e_81, l_80, nI_add, pk_mul, z_in, z_ix, nI_leI, nI_ltI, nI_eq, z_eq0, z_lt0, z_0le, z_0lt, z_le0, z_n9, z_n1, z_m1lt, z_m9lt, z_m9le, z_m1le, zB_0, zB_1, zz_bi_s, zz_bv_s, zz_bl_s, if_pos, if_neg, if_true, if_false, true_and, and_true, not_true_eq_false, not_false_eq_true, ite_self, m16, l_12]
      · have m1 : f 113 (827 * (1 + k)) = -1 := by rw [Nat.add_comm 1 k]; exact (h.2.2.2.1 k hk).1 (by simpa using h0)
        simp (disch := first | omega | assumption) only [x_202_0, x_202_9, x_202_36, x_202_49, e_202, l_150n, nI_add, pk_mul, z_in, z_ix, nI_leI, nI_ltI, nI_eq, z_eq0, z_lt0, z_0le, z_0lt, z_le0, z_n9, z_n1, z_m1lt, z_m9lt, z_m9le, z_m1le, zB_0, zB_1, zz_bi_s, zz_bv_s, zz_bl_s, if_pos, if_neg, if_true, if_false, true_and, and_true, not_true_eq_false, not_false_eq_true, ite_self, Nat.add_zero, m1, l_151]
  · exact sim_0 hw (.int (-1)) (fun f g h => by simp (disch := first | omega | assumption) only [x_81_0, x_81_4, x_81_23, x_81_37, e_81, l_80, nI_add, pk_mul, z_in, z_ix, nI_leI, nI_ltI, nI_eq, z_eq0, z_lt0, z_0le, z_0lt, z_le0, z_n9, z_n1, z_m1lt, z_m9lt, z_m9le, z_m1le, zB_0, zB_1, zz_bi_s, zz_bv_s, zz_bl_s, if_pos, if_neg, if_true, if_false, true_and, and_true, not_true_eq_false, not_false_eq_true, ite_self, h1]) (fun f g h => by simp (disch := first | omega | assumption) only [x_202_0, x_202_9, x_202_36, x_202_49, e_202, l_150n, nI_add, pk_mul, z_in, z_ix, nI_leI, nI_ltI, nI_eq, z_eq0, z_lt0, z_0le, z_0lt, z_le0, z_n9, z_n1, z_m1lt, z_m9lt, z_m9le, z_m1le, zB_0, zB_1, zz_bi_s, zz_bv_s, zz_bl_s, if_pos, if_neg, if_true, if_false, true_and, and_true, not_true_eq_false, not_false_eq_true, ite_self, h1])
