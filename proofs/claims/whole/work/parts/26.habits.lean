/-! HABITS -/
/-- where one is behind h hours; its days by then -/
def zrb (A : zA) (p h : Nat) : Nat := (qR (hC (aH A)) p + h * hP (aH A) p) % 12
def zdo (A : zA) (p h : Nat) : Nat := (qR (hC (aH A)) p + h * hP (aH A) p) / 12
theorem z_small {r h v : Nat} (hr : r < 12) (hh : h < 1000) (hv : v < 10) : r + h * v < 2 ^ 31 := by
  have : h * v ≤ 999 * 9 := Nat.mul_le_mul (by omega) (by omega)
  omega
theorem l_109 {A : zA} (hw : wf A) {f : Nat → Nat → Int32} {g : Nat → Nat → Int64} (h : CX A f g) {p n : Nat} (hp : p < wP (aW A)) (hn : n < 1000) : zz_ca 109 [.ref 3, .int (nI p), .int (nI n)] (zK f g) = some (some (.int (nI (zrb A p n))), zK f g) := by
  have hP6 := wfP hw
  have hs := z_small (wfr hw hp) hn (wfp hw hp)
  rw [e_109, x_109_0]; simp (disch := first | omega | assumption) only [nI_add, pk_mul, z_in, z_ix, nI_leI, nI_ltI, nI_eq, z_eq0, z_lt0, z_0le, z_0lt, z_le0, z_n9, z_n1, z_m1lt, z_m9lt, z_m9le, z_m1le, zB_0, zB_1, zz_bi_s, zz_bv_s, zz_bl_s, if_pos, if_neg, if_true, if_false, true_and, and_true, not_true_eq_false, not_false_eq_true, ite_self, cxP h, cxS h, cxB h, cxH h, cxD h, cxk h, cxr h, cxp h, cxd h, cxt h, cxa h, cxb h, z_rem]; rfl
theorem l_219 {A : zA} (hw : wf A) {f : Nat → Nat → Int32} {g : Nat → Nat → Int64} (h : CM A f g) {p n : Nat} (hp : p < wP (aW A)) (hn : n < 1000) : zz_ca 219 [.ref 112, .int (nI p), .int (nI n)] (zK f g) = some (some (.int (nI (zrb A p n))), zK f g) := by
  have hP6 := wfP hw
  have hs := z_small (wfr hw hp) hn (wfp hw hp)
  rw [e_219, x_219_0]; simp (disch := first | omega | assumption) only [nI_add, pk_mul, z_in, z_ix, nI_leI, nI_ltI, nI_eq, z_eq0, z_lt0, z_0le, z_0lt, z_le0, z_n9, z_n1, z_m1lt, z_m9lt, z_m9le, z_m1le, zB_0, zB_1, zz_bi_s, zz_bv_s, zz_bl_s, if_pos, if_neg, if_true, if_false, true_and, and_true, not_true_eq_false, not_false_eq_true, ite_self, cmP h, cmS h, cmB h, cmH h, cmD h, cmk h, cmr h, cmp h, cmd h, cmt h, cma h, cmb h, cm0 h, x_220_0, e_220, z_rem, x_219_15]; rfl
theorem l_58 {A : zA} (hw : wf A) {f : Nat → Nat → Int32} {g : Nat → Nat → Int64} (h : CX A f g) {p n : Nat} (hp : p < wP (aW A)) (hn : n < 1000) : zz_ca 58 [.ref 3, .int (nI p), .int (nI n)] (zK f g) = some (some (.int (nI (zdo A p n))), zK f g) := by
  have hP6 := wfP hw
  have hs := z_small (wfr hw hp) hn (wfp hw hp)
  rw [e_58, x_58_0]; simp (disch := first | omega | assumption) only [nI_add, pk_mul, z_in, z_ix, nI_leI, nI_ltI, nI_eq, z_eq0, z_lt0, z_0le, z_0lt, z_le0, z_n9, z_n1, z_m1lt, z_m9lt, z_m9le, z_m1le, zB_0, zB_1, zz_bi_s, zz_bv_s, zz_bl_s, if_pos, if_neg, if_true, if_false, true_and, and_true, not_true_eq_false, not_false_eq_true, ite_self, cxP h, cxS h, cxB h, cxH h, cxD h, cxk h, cxr h, cxp h, cxd h, cxt h, cxa h, cxb h, x_59_0, e_59, pk_div, x_58_16]; rfl
theorem l_187 {A : zA} (hw : wf A) {f : Nat → Nat → Int32} {g : Nat → Nat → Int64} (h : CM A f g) {p n : Nat} (hp : p < wP (aW A)) (hn : n < 1000) : zz_ca 187 [.ref 112, .int (nI p), .int (nI n)] (zK f g) = some (some (.int (nI (zdo A p n))), zK f g) := by
  have hP6 := wfP hw
  have hs := z_small (wfr hw hp) hn (wfp hw hp)
  rw [e_187, x_187_0]; simp (disch := first | omega | assumption) only [nI_add, pk_mul, z_in, z_ix, nI_leI, nI_ltI, nI_eq, z_eq0, z_lt0, z_0le, z_0lt, z_le0, z_n9, z_n1, z_m1lt, z_m9lt, z_m9le, z_m1le, zB_0, zB_1, zz_bi_s, zz_bv_s, zz_bl_s, if_pos, if_neg, if_true, if_false, true_and, and_true, not_true_eq_false, not_false_eq_true, ite_self, cmP h, cmS h, cmB h, cmH h, cmD h, cmk h, cmr h, cmp h, cmd h, cmt h, cma h, cmb h, cm0 h, pk_div]; rfl
theorem z_rngL {v : Int32} {n : Nat} (hn : n < 2 ^ 31 - 1) (h : ¬ zz_in v (n + 1)) : v < 0 ∨ (¬ v < 0 ∧ ¬ v ≤ nI n) := by
  have h0 : (0 : Int32).toInt = 0 := by decide +kernel
  rw [Int32.lt_iff_toInt_lt, Int32.le_iff_toInt_le, nI_toInt (by omega), h0]; unfold zz_in at h; omega
theorem l_109A {A : zA} (hw : wf A) {f : Nat → Nat → Int32} {g : Nat → Nat → Int64} (h : CX A f g) (v : Int32) {p n : Nat} (hp : p < wP (aW A)) (hn : n < 1000) : zz_ca 109 [.ref 3, .int (nI p), .int (nI n)] (zK (zz_u f 0 13 v) g) = some (some (.int (nI (zrb A p n))), zK (zz_u f 0 13 v) g) := l_109 (A := sA A v) hw (CX_A h v) hp hn
theorem l_219A {A : zA} (hw : wf A) {f : Nat → Nat → Int32} {g : Nat → Nat → Int64} (h : CM A f g) (v : Int32) {p n : Nat} (hp : p < wP (aW A)) (hn : n < 1000) : zz_ca 219 [.ref 112, .int (nI p), .int (nI n)] (zK (zz_u f 112 9 v) g) = some (some (.int (nI (zrb A p n))), zK (zz_u f 112 9 v) g) := l_219 (A := sA A v) hw (CM_A hw h v) hp hn
theorem sim_later (A : zA) (hw : wf A) (v1 v2 : Int32) : zSim A 108 218 [.int v1, .int v2] := by
  have hP6 := wfP hw
  by_cases h1 : zz_in v1 (wP (aW A))
  · obtain ⟨p, hp, -, rfl⟩ := z_inx.mp h1
    by_cases h2 : zz_in v2 1000
    · obtain ⟨n, hn, -, rfl⟩ := z_inx.mp h2
      refine sim_A hw (.int (nI (zrb A p n))) (qY (hC (aH A)) p + nI (zdo A p n) + nI 1000) (fun f g h => ⟨f, g, ?_, zXs_r⟩) (fun f g h => ⟨f, g, ?_, zMs_r⟩)
      · simp (disch := first | omega | assumption) only [x_108_0, x_108_5, x_108_19, x_108_40, x_108_57, e_108, l_46 g _ (cxP h) hP6, nI_add, pk_mul, z_in, z_ix, nI_leI, nI_ltI, nI_eq, z_eq0, z_lt0, z_0le, z_0lt, z_le0, z_n9, z_n1, z_m1lt, z_m9lt, z_m9le, z_m1le, zB_0, zB_1, zz_bi_s, zz_bv_s, zz_bl_s, if_pos, if_neg, if_true, if_false, true_and, and_true, not_true_eq_false, not_false_eq_true, ite_self, cxP h, cxS h, cxB h, cxH h, cxD h, cxk h, cxr h, cxp h, cxd h, cxt h, cxa h, cxb h, l_58 hw h, l_109A hw h]
      · simp (disch := first | omega | assumption) only [x_218_0, x_218_5, x_218_17, x_218_20, x_218_42, x_218_52, e_218, l_176 g _ (cmP h) hP6, nI_add, pk_mul, z_in, z_ix, nI_leI, nI_ltI, nI_eq, z_eq0, z_lt0, z_0le, z_0lt, z_le0, z_n9, z_n1, z_m1lt, z_m9lt, z_m9le, z_m1le, zB_0, zB_1, zz_bi_s, zz_bv_s, zz_bl_s, if_pos, if_neg, if_true, if_false, true_and, and_true, not_true_eq_false, not_false_eq_true, ite_self, cmP h, cmS h, cmB h, cmH h, cmD h, cmk h, cmr h, cmp h, cmd h, cmt h, cma h, cmb h, cm0 h, l_150n, l_187 hw h, l_219A hw h]
        rw [show nI 1000 + qY (hC (aH A)) p + nI (zdo A p n) = qY (hC (aH A)) p + nI (zdo A p n) + nI 1000 by grind]
    · refine sim_0 hw (.int (-1)) (fun f g h => ?_) (fun f g h => by simp (disch := first | omega | assumption) only [x_218_0, x_218_5, x_218_17, x_218_20, x_218_42, x_218_52, e_218, l_176 g _ (cmP h) hP6, nI_add, pk_mul, z_in, z_ix, nI_leI, nI_ltI, nI_eq, z_eq0, z_lt0, z_0le, z_0lt, z_le0, z_n9, z_n1, z_m1lt, z_m9lt, z_m9le, z_m1le, zB_0, zB_1, zz_bi_s, zz_bv_s, zz_bl_s, if_pos, if_neg, if_true, if_false, true_and, and_true, not_true_eq_false, not_false_eq_true, ite_self, l_150n, h2])
      rcases z_rngL (by decide) h2 with h3 | ⟨h3, h4⟩
      · simp (disch := first | omega | assumption) only [x_108_0, x_108_5, x_108_19, x_108_40, x_108_57, e_108, l_46 g _ (cxP h) hP6, nI_add, pk_mul, z_in, z_ix, nI_leI, nI_ltI, nI_eq, z_eq0, z_lt0, z_0le, z_0lt, z_le0, z_n9, z_n1, z_m1lt, z_m9lt, z_m9le, z_m1le, zB_0, zB_1, zz_bi_s, zz_bv_s, zz_bl_s, if_pos, if_neg, if_true, if_false, true_and, and_true, not_true_eq_false, not_false_eq_true, ite_self, h3]
      · simp (disch := first | omega | assumption) only [x_108_0, x_108_5, x_108_19, x_108_40, x_108_57, e_108, l_46 g _ (cxP h) hP6, nI_add, pk_mul, z_in, z_ix, nI_leI, nI_ltI, nI_eq, z_eq0, z_lt0, z_0le, z_0lt, z_le0, z_n9, z_n1, z_m1lt, z_m9lt, z_m9le, z_m1le, zB_0, zB_1, zz_bi_s, zz_bv_s, zz_bl_s, if_pos, if_neg, if_true, if_false, true_and, and_true, not_true_eq_false, not_false_eq_true, ite_self, h3, h4]
  · exact sim_0 hw (.int (-1)) (fun f g h => by simp (disch := first | omega | assumption) only [x_108_0, x_108_5, x_108_19, x_108_40, x_108_57, e_108, l_46 g _ (cxP h) hP6, nI_add, pk_mul, z_in, z_ix, nI_leI, nI_ltI, nI_eq, z_eq0, z_lt0, z_0le, z_0lt, z_le0, z_n9, z_n1, z_m1lt, z_m9lt, z_m9le, z_m1le, zB_0, zB_1, zz_bi_s, zz_bv_s, zz_bl_s, if_pos, if_neg, if_true, if_false, true_and, and_true, not_true_eq_false, not_false_eq_true, ite_self, h1]) (fun f g h => by simp (disch := first | omega | assumption) only [x_218_0, x_218_5, x_218_17, x_218_20, x_218_42, x_218_52, e_218, l_176 g _ (cmP h) hP6, nI_add, pk_mul, z_in, z_ix, nI_leI, nI_ltI, nI_eq, z_eq0, z_lt0, z_0le, z_0lt, z_le0, z_n9, z_n1, z_m1lt, z_m9lt, z_m9le, z_m1le, zB_0, zB_1, zz_bi_s, zz_bv_s, zz_bl_s, if_pos, if_neg, if_true, if_false, true_and, and_true, not_true_eq_false, not_false_eq_true, ite_self, h1])
theorem sim_when (A : zA) (hw : wf A) (v1 v2 : Int32) : zSim A 110 221 [.int v1, .int v2] := by
  have hP6 := wfP hw
  by_cases h1 : zz_in v1 (wP (aW A))
  · obtain ⟨p, hp, -, rfl⟩ := z_inx.mp h1
    by_cases h2 : zz_in v2 12
    · obtain ⟨r, hr, -, rfl⟩ := z_inx.mp h2
      have hb : ∀ i, zrb A p i < 12 := fun i => Nat.mod_lt _ (by decide)
      refine sim_0 hw (.int (dI (zff (fun i => decide (zrb A p i = r)) 12 0))) (fun f g h => ?_) (fun f g h => ?_)
      · simp (disch := first | omega | assumption) only [x_110_0, x_110_5, x_110_12, x_110_15, x_110_26, e_110, l_46 g _ (cxP h) hP6, nI_add, pk_mul, z_in, z_ix, nI_leI, nI_ltI, nI_eq, z_eq0, z_lt0, z_0le, z_0lt, z_le0, z_n9, z_n1, z_m1lt, z_m9lt, z_m9le, z_m1le, zB_0, zB_1, zz_bi_s, zz_bv_s, zz_bl_s, if_pos, if_neg, if_true, if_false, true_and, and_true, not_true_eq_false, not_false_eq_true, ite_self, l_35, e_111, x_111_0]
        have key := z_srchI (E := fun i => zz_ev 111 2 [.ref 3, .int (nI p), .int (nI r), .int (nI i)] [] (zK f g)) (h := zK f g) (fun i => decide (zrb A p i = r)) 12 0 (fun i _ hi => ?_) ?_ 0 (by omega) (by omega)
        · rw [key]; simp (disch := first | omega | assumption) only [nI_add, pk_mul, z_in, z_ix, nI_leI, nI_ltI, nI_eq, z_eq0, z_lt0, z_0le, z_0lt, z_le0, z_n9, z_n1, z_m1lt, z_m9lt, z_m9le, z_m1le, zB_0, zB_1, zz_bi_s, zz_bv_s, zz_bl_s, if_pos, if_neg, if_true, if_false, true_and, and_true, not_true_eq_false, not_false_eq_true, ite_self, x_110_26]
        · have := hb i
          show zz_ev 111 2 _ _ _ = _
          rw [x_111_2]; simp (disch := first | omega | assumption) only [nI_add, pk_mul, z_in, z_ix, nI_leI, nI_ltI, nI_eq, z_eq0, z_lt0, z_0le, z_0lt, z_le0, z_n9, z_n1, z_m1lt, z_m9lt, z_m9le, z_m1le, zB_0, zB_1, zz_bi_s, zz_bv_s, zz_bl_s, if_pos, if_neg, if_true, if_false, true_and, and_true, not_true_eq_false, not_false_eq_true, ite_self, l_109 hw h, x_111_14, decide_eq_true_eq]
        · show zz_ev 111 2 _ _ _ = _
          rw [x_111_2]; simp (disch := first | omega | assumption) only [nI_add, pk_mul, z_in, z_ix, nI_leI, nI_ltI, nI_eq, z_eq0, z_lt0, z_0le, z_0lt, z_le0, z_n9, z_n1, z_m1lt, z_m9lt, z_m9le, z_m1le, zB_0, zB_1, zz_bi_s, zz_bv_s, zz_bl_s, if_pos, if_neg, if_true, if_false, true_and, and_true, not_true_eq_false, not_false_eq_true, ite_self]
      · simp (disch := first | omega | assumption) only [x_221_0, x_221_5, x_221_12, x_221_15, x_221_31, e_221, l_176 g _ (cmP h) hP6, nI_add, pk_mul, z_in, z_ix, nI_leI, nI_ltI, nI_eq, z_eq0, z_lt0, z_0le, z_0lt, z_le0, z_n9, z_n1, z_m1lt, z_m9lt, z_m9le, z_m1le, zB_0, zB_1, zz_bi_s, zz_bv_s, zz_bl_s, if_pos, if_neg, if_true, if_false, true_and, and_true, not_true_eq_false, not_false_eq_true, ite_self, l_182]
        refine z_srchI (E := fun i => zz_ev 221 19 [.ref 112, .int (nI p), .int (nI r), .int (nI i)] [] (zK f g)) (h := zK f g) (fun i => decide (zrb A p i = r)) 12 0 (fun i _ hi => ?_) ?_ 0 (by omega) (by omega)
        · have := hb i
          show zz_ev 221 19 _ _ _ = _
          rw [x_221_19]; simp (disch := first | omega | assumption) only [nI_add, pk_mul, z_in, z_ix, nI_leI, nI_ltI, nI_eq, z_eq0, z_lt0, z_0le, z_0lt, z_le0, z_n9, z_n1, z_m1lt, z_m9lt, z_m9le, z_m1le, zB_0, zB_1, zz_bi_s, zz_bv_s, zz_bl_s, if_pos, if_neg, if_true, if_false, true_and, and_true, not_true_eq_false, not_false_eq_true, ite_self, l_219 hw h, x_221_31, decide_eq_true_eq]
        · show zz_ev 221 19 _ _ _ = _
          rw [x_221_19]; simp (disch := first | omega | assumption) only [nI_add, pk_mul, z_in, z_ix, nI_leI, nI_ltI, nI_eq, z_eq0, z_lt0, z_0le, z_0lt, z_le0, z_n9, z_n1, z_m1lt, z_m9lt, z_m9le, z_m1le, zB_0, zB_1, zz_bi_s, zz_bv_s, zz_bl_s, if_pos, if_neg, if_true, if_false, true_and, and_true, not_true_eq_false, not_false_eq_true, ite_self]
    · exact sim_0 hw (.int (-1)) (fun f g h => by simp (disch := first | omega | assumption) only [x_110_0, x_110_5, x_110_12, x_110_15, x_110_26, e_110, l_46 g _ (cxP h) hP6, nI_add, pk_mul, z_in, z_ix, nI_leI, nI_ltI, nI_eq, z_eq0, z_lt0, z_0le, z_0lt, z_le0, z_n9, z_n1, z_m1lt, z_m9lt, z_m9le, z_m1le, zB_0, zB_1, zz_bi_s, zz_bv_s, zz_bl_s, if_pos, if_neg, if_true, if_false, true_and, and_true, not_true_eq_false, not_false_eq_true, ite_self, l_35, h2]) (fun f g h => by simp (disch := first | omega | assumption) only [x_221_0, x_221_5, x_221_12, x_221_15, x_221_31, e_221, l_176 g _ (cmP h) hP6, nI_add, pk_mul, z_in, z_ix, nI_leI, nI_ltI, nI_eq, z_eq0, z_lt0, z_0le, z_0lt, z_le0, z_n9, z_n1, z_m1lt, z_m9lt, z_m9le, z_m1le, zB_0, zB_1, zz_bi_s, zz_bv_s, zz_bl_s, if_pos, if_neg, if_true, if_false, true_and, and_true, not_true_eq_false, not_false_eq_true, ite_self, l_182, h2])
  · exact sim_0 hw (.int (-1)) (fun f g h => by simp (disch := first | omega | assumption) only [x_110_0, x_110_5, x_110_12, x_110_15, x_110_26, e_110, l_46 g _ (cxP h) hP6, nI_add, pk_mul, z_in, z_ix, nI_leI, nI_ltI, nI_eq, z_eq0, z_lt0, z_0le, z_0lt, z_le0, z_n9, z_n1, z_m1lt, z_m9lt, z_m9le, z_m1le, zB_0, zB_1, zz_bi_s, zz_bv_s, zz_bl_s, if_pos, if_neg, if_true, if_false, true_and, and_true, not_true_eq_false, not_false_eq_true, ite_self, h1]) (fun f g h => by simp (disch := first | omega | assumption) only [x_221_0, x_221_5, x_221_12, x_221_15, x_221_31, e_221, l_176 g _ (cmP h) hP6, nI_add, pk_mul, z_in, z_ix, nI_leI, nI_ltI, nI_eq, z_eq0, z_lt0, z_0le, z_0lt, z_le0, z_n9, z_n1, z_m1lt, z_m9lt, z_m9le, z_m1le, zB_0, zB_1, zz_bi_s, zz_bv_s, zz_bl_s, if_pos, if_neg, if_true, if_false, true_and, and_true, not_true_eq_false, not_false_eq_true, ite_self, h1])
/-- when p, at a pace, and q first meet -/
def zmt (A : zA) (p v q : Nat) : Option Nat := zff (fun i => decide ((qR (hC (aH A)) p + i * v) % 12 = zrb A q i)) 12 0
theorem zmt_lt {A : zA} {p v q n : Nat} (h : zmt A p v q = some n) : n < 2 ^ 31 := by have := zff_some h; omega
theorem l_113 {A : zA} (hw : wf A) {f : Nat → Nat → Int32} {g : Nat → Nat → Int64} (h : CX A f g) {p q v : Nat} (hp : p < wP (aW A)) (hq : q < wP (aW A)) (hv : v < 10) : zz_ca 113 [.ref 3, .int (nI p), .int (nI q), .int (nI v)] (zK f g) = some (some (.int (dI (zmt A p v q))), zK f g) := by
  have hP6 := wfP hw
  have hr := wfr hw hp
  rw [e_113, x_113_0]
  refine z_srchI (E := fun i => zz_ev 113 3 [.ref 3, .int (nI p), .int (nI q), .int (nI v), .int (nI i)] [] (zK f g)) (h := zK f g) (fun i => decide ((qR (hC (aH A)) p + i * v) % 12 = zrb A q i)) 12 0 (fun i _ hi => ?_) ?_ 0 (by omega) (by omega)
  · have := z_small hr (h := i) (by omega) hv
    have h2 : zrb A q i < 12 := Nat.mod_lt _ (by decide)
    show zz_ev 113 3 _ _ _ = _
    rw [x_113_3]; simp (disch := first | omega | assumption) only [nI_add, pk_mul, z_in, z_ix, nI_leI, nI_ltI, nI_eq, z_eq0, z_lt0, z_0le, z_0lt, z_le0, z_n9, z_n1, z_m1lt, z_m9lt, z_m9le, z_m1le, zB_0, zB_1, zz_bi_s, zz_bv_s, zz_bl_s, if_pos, if_neg, if_true, if_false, true_and, and_true, not_true_eq_false, not_false_eq_true, ite_self, cxP h, cxS h, cxB h, cxH h, cxD h, cxk h, cxr h, cxp h, cxd h, cxt h, cxa h, cxb h, l_109 hw h, x_113_31, decide_eq_true_eq, z_rem]
  · show zz_ev 113 3 _ _ _ = _
    rw [x_113_3]; simp (disch := first | omega | assumption) only [nI_add, pk_mul, z_in, z_ix, nI_leI, nI_ltI, nI_eq, z_eq0, z_lt0, z_0le, z_0lt, z_le0, z_n9, z_n1, z_m1lt, z_m9lt, z_m9le, z_m1le, zB_0, zB_1, zz_bi_s, zz_bv_s, zz_bl_s, if_pos, if_neg, if_true, if_false, true_and, and_true, not_true_eq_false, not_false_eq_true, ite_self]
theorem l_223 {A : zA} (hw : wf A) {f : Nat → Nat → Int32} {g : Nat → Nat → Int64} (h : CM A f g) {p q v : Nat} (hp : p < wP (aW A)) (hq : q < wP (aW A)) (hv : v < 10) : zz_ca 223 [.ref 112, .int (nI p), .int (nI v), .int (nI q)] (zK f g) = some (some (.int (dI (zmt A p v q))), zK f g) := by
  have hP6 := wfP hw
  have hr := wfr hw hp
  rw [e_223, x_223_0]
  refine z_srchI (E := fun i => zz_ev 223 3 [.ref 112, .int (nI p), .int (nI v), .int (nI q), .int (nI i)] [] (zK f g)) (h := zK f g) (fun i => decide ((qR (hC (aH A)) p + i * v) % 12 = zrb A q i)) 12 0 (fun i _ hi => ?_) ?_ 0 (by omega) (by omega)
  · have := z_small hr (h := i) (by omega) hv
    have h2 : zrb A q i < 12 := Nat.mod_lt _ (by decide)
    show zz_ev 223 3 _ _ _ = _
    rw [x_223_3]; simp (disch := first | omega | assumption) only [nI_add, pk_mul, z_in, z_ix, nI_leI, nI_ltI, nI_eq, z_eq0, z_lt0, z_0le, z_0lt, z_le0, z_n9, z_n1, z_m1lt, z_m9lt, z_m9le, z_m1le, zB_0, zB_1, zz_bi_s, zz_bv_s, zz_bl_s, if_pos, if_neg, if_true, if_false, true_and, and_true, not_true_eq_false, not_false_eq_true, ite_self, cmP h, cmS h, cmB h, cmH h, cmD h, cmk h, cmr h, cmp h, cmd h, cmt h, cma h, cmb h, cm0 h, x_220_0, e_220, l_219 hw h, x_223_18, x_223_25, decide_eq_true_eq, z_rem]
  · show zz_ev 223 3 _ _ _ = _
    rw [x_223_3]; simp (disch := first | omega | assumption) only [nI_add, pk_mul, z_in, z_ix, nI_leI, nI_ltI, nI_eq, z_eq0, z_lt0, z_0le, z_0lt, z_le0, z_n9, z_n1, z_m1lt, z_m9lt, z_m9le, z_m1le, zB_0, zB_1, zz_bi_s, zz_bv_s, zz_bl_s, if_pos, if_neg, if_true, if_false, true_and, and_true, not_true_eq_false, not_false_eq_true, ite_self]
theorem CM_A0 {A : zA} (hw : wf A) {f : Nat → Nat → Int32} {g : Nat → Nat → Int64} (h : CM A f g) : CM A (zz_u f 112 9 (f 112 9)) g := by
  have e : zz_u f 112 9 (f 112 9) = f := by funext a i; unfold zz_u; split <;> rename_i q; rw [q.1, q.2]; rfl
  rw [e]; exact h
theorem z_101 {o : Option (Option Value × zz_H)} {c : Prop} [Decidable c] {h : zz_H} (e : o = some (some (.int (zB c)), h)) (hc : c) : o = some (some (.int (nI 1)), h) := by rw [e, zB_t hc]
theorem sim_meet (A : zA) (hw : wf A) (v1 v2 : Int32) : zSim A 112 222 [.int v1, .int v2] := by
  have hP6 := wfP hw
  by_cases h1 : zz_in v1 (wP (aW A)) ∧ zz_in v2 (wP (aW A)) ∧ v1 ≠ v2
  · obtain ⟨p, hp, -, rfl⟩ := z_inx.mp h1.1
    obtain ⟨q, hq, -, rfl⟩ := z_inx.mp h1.2.1
    have hv := wfp hw hp
    cases hm : zmt A p (hP (aH A) p) q with
    | none =>
      refine ⟨.int (-9), A, hw, fun f g h => ⟨f, g, ?_, h, zHi_r⟩, fun f g h => ⟨_, g, ?_, CM_A0 hw h, zLo_u (by decide) (by decide)⟩⟩
      · simp (disch := first | omega | assumption) only [x_112_0, x_112_6, x_112_29, x_112_46, x_112_49, e_112, z_101 (l_101 g _ _ (cxP h) hP6) h1, nI_add, pk_mul, z_in, z_ix, nI_leI, nI_ltI, nI_eq, z_eq0, z_lt0, z_0le, z_0lt, z_le0, z_n9, z_n1, z_m1lt, z_m9lt, z_m9le, z_m1le, zB_0, zB_1, zz_bi_s, zz_bv_s, zz_bl_s, if_pos, if_neg, if_true, if_false, true_and, and_true, not_true_eq_false, not_false_eq_true, ite_self, cxP h, cxS h, cxB h, cxH h, cxD h, cxk h, cxr h, cxp h, cxd h, cxt h, cxa h, cxb h, l_113 hw h, hm, dI]
      · simp (disch := first | omega | assumption) only [x_222_0, x_222_6, x_222_26, x_222_47, e_222, z_101 (l_215 g _ _ (cmP h) hP6) h1, nI_add, pk_mul, z_in, z_ix, nI_leI, nI_ltI, nI_eq, z_eq0, z_lt0, z_0le, z_0lt, z_le0, z_n9, z_n1, z_m1lt, z_m9lt, z_m9le, z_m1le, zB_0, zB_1, zz_bi_s, zz_bv_s, zz_bl_s, if_pos, if_neg, if_true, if_false, true_and, and_true, not_true_eq_false, not_false_eq_true, ite_self, cmP h, cmS h, cmB h, cmH h, cmD h, cmk h, cmr h, cmp h, cmd h, cmt h, cma h, cmb h, cm0 h, l_223 hw h, hm, dI]
    | some n =>
      have hn := zff_some hm
      refine sim_A hw (.int (nI n)) (nI (zrb A p n)) (fun f g h => ⟨f, g, ?_, zXs_r⟩) (fun f g h => ⟨f, g, ?_, zMs_r⟩)
      · simp (disch := first | omega | assumption) only [x_112_0, x_112_6, x_112_29, x_112_46, x_112_49, e_112, z_101 (l_101 g _ _ (cxP h) hP6) h1, nI_add, pk_mul, z_in, z_ix, nI_leI, nI_ltI, nI_eq, z_eq0, z_lt0, z_0le, z_0lt, z_le0, z_n9, z_n1, z_m1lt, z_m9lt, z_m9le, z_m1le, zB_0, zB_1, zz_bi_s, zz_bv_s, zz_bl_s, if_pos, if_neg, if_true, if_false, true_and, and_true, not_true_eq_false, not_false_eq_true, ite_self, cxP h, cxS h, cxB h, cxH h, cxD h, cxk h, cxr h, cxp h, cxd h, cxt h, cxa h, cxb h, l_113 hw h, hm, dI, l_109 hw h]
      · simp (disch := first | omega | assumption) only [x_222_0, x_222_6, x_222_26, x_222_47, e_222, z_101 (l_215 g _ _ (cmP h) hP6) h1, nI_add, pk_mul, z_in, z_ix, nI_leI, nI_ltI, nI_eq, z_eq0, z_lt0, z_0le, z_0lt, z_le0, z_n9, z_n1, z_m1lt, z_m9lt, z_m9le, z_m1le, zB_0, zB_1, zz_bi_s, zz_bv_s, zz_bl_s, if_pos, if_neg, if_true, if_false, true_and, and_true, not_true_eq_false, not_false_eq_true, ite_self, cmP h, cmS h, cmB h, cmH h, cmD h, cmk h, cmr h, cmp h, cmd h, cmt h, cma h, cmb h, cm0 h, l_223 hw h, hm, dI, l_219 hw h]
  · exact sim_0 hw (.int (-1)) (fun f g h => by simp (disch := first | omega | assumption) only [x_112_0, x_112_6, x_112_29, x_112_46, x_112_49, e_112, l_101 g _ _ (cxP h) hP6, nI_add, pk_mul, z_in, z_ix, nI_leI, nI_ltI, nI_eq, z_eq0, z_lt0, z_0le, z_0lt, z_le0, z_n9, z_n1, z_m1lt, z_m9lt, z_m9le, z_m1le, zB_0, zB_1, zz_bi_s, zz_bv_s, zz_bl_s, if_pos, if_neg, if_true, if_false, true_and, and_true, not_true_eq_false, not_false_eq_true, ite_self, h1]) (fun f g h => by simp (disch := first | omega | assumption) only [x_222_0, x_222_6, x_222_26, x_222_47, e_222, l_215 g _ _ (cmP h) hP6, nI_add, pk_mul, z_in, z_ix, nI_leI, nI_ltI, nI_eq, z_eq0, z_lt0, z_0le, z_0lt, z_le0, z_n9, z_n1, z_m1lt, z_m9lt, z_m9le, z_m1le, zB_0, zB_1, zz_bi_s, zz_bv_s, zz_bl_s, if_pos, if_neg, if_true, if_false, true_and, and_true, not_true_eq_false, not_false_eq_true, ite_self, h1])
/-! round -/
def zbk (A : zA) (n : Nat) : Bool := zal (fun p => decide (zrb A p n = qR (hC (aH A)) p)) (wP (aW A))
theorem l_121 {A : zA} (hw : wf A) {f : Nat → Nat → Int32} {g : Nat → Nat → Int64} (h : CX A f g) {n : Nat} (hn : n < 12) : zz_ca 121 [.ref 3, .int (nI n)] (zK f g) = some (some (.int (zB (zbk A n = true))), zK f g) := by
  have hP6 := wfP hw
  rw [e_121, x_121_0]
  have key := z_srch (fun i => zz_ev 121 2 [.ref 3, .int (nI n), .int (nI i)] [] (zK f g)) (fun _ => some (some (.int (nI 0)), zK f g)) (some (some (.int (nI 1)), zK f g)) (fun p => !decide (zrb A p n = qR (hC (aH A)) p)) (wP (aW A)) 0 (fun i _ hi => ?_) ?_ 0 (by omega) (by omega)
  · refine key.trans ?_
    cases hz : zff (fun p => !decide (zrb A p n = qR (hC (aH A)) p)) (wP (aW A) - 0) 0 with
    | none =>
      rw [zB_t]; unfold zbk; rw [zal_iff]; intro i hi
      have := zff_none hz i (by omega) (by omega); simpa using this
    | some j =>
      have := zff_some hz
      rw [zB_f]; unfold zbk; rw [zal_iff]; intro q
      have h2 := q j (by omega); simp at h2; simp [h2] at this
  · have h2 : zrb A i n < 12 := Nat.mod_lt _ (by decide)
    have hr := wfr hw hi
    show zz_ev 121 2 _ _ _ = _
    rw [x_121_2]; simp (disch := first | omega | assumption) only [nI_add, pk_mul, z_in, z_ix, nI_leI, nI_ltI, nI_eq, z_eq0, z_lt0, z_0le, z_0lt, z_le0, z_n9, z_n1, z_m1lt, z_m9lt, z_m9le, z_m1le, zB_0, zB_1, zz_bi_s, zz_bv_s, zz_bl_s, if_pos, if_neg, if_true, if_false, true_and, and_true, not_true_eq_false, not_false_eq_true, ite_self, cxP h, cxS h, cxB h, cxH h, cxD h, cxk h, cxr h, cxp h, cxd h, cxt h, cxa h, cxb h, l_109 hw h, x_121_16, Bool.not_eq_true', decide_eq_false_iff_not, ite_not]
  · show zz_ev 121 2 _ _ _ = _
    rw [x_121_2]; simp (disch := first | omega | assumption) only [nI_add, pk_mul, z_in, z_ix, nI_leI, nI_ltI, nI_eq, z_eq0, z_lt0, z_0le, z_0lt, z_le0, z_n9, z_n1, z_m1lt, z_m9lt, z_m9le, z_m1le, zB_0, zB_1, zz_bi_s, zz_bv_s, zz_bl_s, if_pos, if_neg, if_true, if_false, true_and, and_true, not_true_eq_false, not_false_eq_true, ite_self, cxP h, cxS h, cxB h, cxH h, cxD h, cxk h, cxr h, cxp h, cxd h, cxt h, cxa h, cxb h]
theorem zal_s {c : Nat → Bool} {n : Nat} : zal c (n + 1) = (zal c n && c n) := rfl
theorem l_227 {A : zA} (hw : wf A) {f : Nat → Nat → Int32} {g : Nat → Nat → Int64} (h : CM A f g) {n : Nat} (hn : n < 12) : zz_ev 227 12 [.ref 112, .int (nI n), .null, .null] [] (zK f g) = if zbk A n = true then some (some (.int (nI n)), zK f g) else zz_ev 227 12 [.ref 112, .int (nI (n + 1)), .null, .null] [] (zK f g) := by
  have hP6 := wfP hw
  rw [x_227_12]; simp (disch := first | omega | assumption) only [nI_add, pk_mul, z_in, z_ix, nI_leI, nI_ltI, nI_eq, z_eq0, z_lt0, z_0le, z_0lt, z_le0, z_n9, z_n1, z_m1lt, z_m9lt, z_m9le, z_m1le, zB_0, zB_1, zz_bi_s, zz_bv_s, zz_bl_s, if_pos, if_neg, if_true, if_false, true_and, and_true, not_true_eq_false, not_false_eq_true, ite_self]
  have key := z_lp (fun i => zz_ev 227 22 [.ref 112, .int (nI n), .int (zB (zal (fun p => decide (zrb A p n = qR (hC (aH A)) p)) i = true)), .int (nI i)] [] (zK f g)) (wP (aW A)) (fun i hi => ?_) 0 (by omega)
  · refine Eq.trans ?_ (key.trans ?_)
    · rfl
    · rw [x_227_22]; simp (disch := first | omega | assumption) only [nI_add, pk_mul, z_in, z_ix, nI_leI, nI_ltI, nI_eq, z_eq0, z_lt0, z_0le, z_0lt, z_le0, z_n9, z_n1, z_m1lt, z_m9lt, z_m9le, z_m1le, zB_0, zB_1, zz_bi_s, zz_bv_s, zz_bl_s, if_pos, if_neg, if_true, if_false, true_and, and_true, not_true_eq_false, not_false_eq_true, ite_self, cmP h, cmS h, cmB h, cmH h, cmD h, cmk h, cmr h, cmp h, cmd h, cmt h, cma h, cmb h, cm0 h, hi_227_12]
      rw [show zal (fun p => decide (zrb A p n = qR (hC (aH A)) p)) (wP (aW A)) = zbk A n from rfl]
      by_cases hb : zbk A n = true
      · rw [if_pos hb, if_neg (fun q => q hb)]
      · rw [if_neg hb, if_pos hb]
  · have h2 : zrb A i n < 12 := Nat.mod_lt _ (by decide)
    have hr := wfr hw hi
    show zz_ev 227 22 _ _ _ = zz_ev 227 22 _ _ _
    rw [x_227_22]; simp (disch := first | omega | assumption) only [nI_add, pk_mul, z_in, z_ix, nI_leI, nI_ltI, nI_eq, z_eq0, z_lt0, z_0le, z_0lt, z_le0, z_n9, z_n1, z_m1lt, z_m9lt, z_m9le, z_m1le, zB_0, zB_1, zz_bi_s, zz_bv_s, zz_bl_s, if_pos, if_neg, if_true, if_false, true_and, and_true, not_true_eq_false, not_false_eq_true, ite_self, cmP h, cmS h, cmB h, cmH h, cmD h, cmk h, cmr h, cmp h, cmd h, cmt h, cma h, cmb h, cm0 h, l_219 hw h, x_227_40, x_227_55, x_227_56]
    rw [zal_s]
    by_cases h3 : zal (fun p => decide (zrb A p n = qR (hC (aH A)) p)) i = true
    · by_cases h4 : zrb A i n = qR (hC (aH A)) i
      · rw [if_neg (fun q => q h3), if_pos h4, zB_t (by rw [h3, decide_eq_true h4]; rfl)]
      · rw [if_neg (fun q => q h3), if_neg h4, zB_f (by rw [h3]; simp [h4])]
    · rw [if_pos h3, zB_f (by simp only [Bool.and_eq_true]; exact fun q => h3 q.1)]
theorem sim_round (A : zA) (hw : wf A) : zSim A 119 227 [] := by
  have hP6 := wfP hw
  by_cases h0 : wP (aW A) = 0
  · exact sim_0 hw (.int (-4)) (fun f g h => by simp (disch := first | omega | assumption) only [x_119_0, x_119_20, e_119, nI_add, pk_mul, z_in, z_ix, nI_leI, nI_ltI, nI_eq, z_eq0, z_lt0, z_0le, z_0lt, z_le0, z_n9, z_n1, z_m1lt, z_m9lt, z_m9le, z_m1le, zB_0, zB_1, zz_bi_s, zz_bv_s, zz_bl_s, if_pos, if_neg, if_true, if_false, true_and, and_true, not_true_eq_false, not_false_eq_true, ite_self, cxP h, cxS h, cxB h, cxH h, cxD h, cxk h, cxr h, cxp h, cxd h, cxt h, cxa h, cxb h]) (fun f g h => by simp (disch := first | omega | assumption) only [x_227_0, x_227_40, x_227_55, x_227_56, e_227, nI_add, pk_mul, z_in, z_ix, nI_leI, nI_ltI, nI_eq, z_eq0, z_lt0, z_0le, z_0lt, z_le0, z_n9, z_n1, z_m1lt, z_m9lt, z_m9le, z_m1le, zB_0, zB_1, zz_bi_s, zz_bv_s, zz_bl_s, if_pos, if_neg, if_true, if_false, true_and, and_true, not_true_eq_false, not_false_eq_true, ite_self, cmP h, cmS h, cmB h, cmH h, cmD h, cmk h, cmr h, cmp h, cmd h, cmt h, cma h, cmb h, cm0 h])
  · refine sim_0 hw (.int (nI (match zff (zbk A) 11 1 with
      | some j => j
      | none => 12))) (fun f g h => ?_) (fun f g h => ?_)
    · simp (disch := first | omega | assumption) only [x_119_0, x_119_20, e_119, nI_add, pk_mul, z_in, z_ix, nI_leI, nI_ltI, nI_eq, z_eq0, z_lt0, z_0le, z_0lt, z_le0, z_n9, z_n1, z_m1lt, z_m9lt, z_m9le, z_m1le, zB_0, zB_1, zz_bi_s, zz_bv_s, zz_bl_s, if_pos, if_neg, if_true, if_false, true_and, and_true, not_true_eq_false, not_false_eq_true, ite_self, cxP h, cxS h, cxB h, cxH h, cxD h, cxk h, cxr h, cxp h, cxd h, cxt h, cxa h, cxb h, e_120, x_120_0]
      have key := z_srch (fun i => zz_ev 120 2 [.ref 3, .int (nI i)] [] (zK f g)) (fun i => some (some (.int (nI i)), zK f g)) (some (some (.int (nI 12)), zK f g)) (zbk A) 12 1 (fun i _ hi => ?_) ?_ 1 (by omega) (by omega)
      · rw [key]; show zz_bi _ _ = _
        cases zff (zbk A) 11 1 <;> (show zz_bi (some _) _ = _; rw [zz_bi_s, x_119_20])
      · show zz_ev 120 2 _ _ _ = _
        rw [x_120_2]; simp (disch := first | omega | assumption) only [nI_add, pk_mul, z_in, z_ix, nI_leI, nI_ltI, nI_eq, z_eq0, z_lt0, z_0le, z_0lt, z_le0, z_n9, z_n1, z_m1lt, z_m9lt, z_m9le, z_m1le, zB_0, zB_1, zz_bi_s, zz_bv_s, zz_bl_s, if_pos, if_neg, if_true, if_false, true_and, and_true, not_true_eq_false, not_false_eq_true, ite_self, l_121 hw h, x_120_13]
        by_cases hb : zbk A i = true
        · rw [if_pos hb, if_neg (fun q => q hb)]
        · rw [if_neg hb, if_pos hb]
      · show zz_ev 120 2 _ _ _ = _
        rw [x_120_2]; simp (disch := first | omega | assumption) only [nI_add, pk_mul, z_in, z_ix, nI_leI, nI_ltI, nI_eq, z_eq0, z_lt0, z_0le, z_0lt, z_le0, z_n9, z_n1, z_m1lt, z_m9lt, z_m9le, z_m1le, zB_0, zB_1, zz_bi_s, zz_bv_s, zz_bl_s, if_pos, if_neg, if_true, if_false, true_and, and_true, not_true_eq_false, not_false_eq_true, ite_self]
    · simp (disch := first | omega | assumption) only [x_227_0, x_227_40, x_227_55, x_227_56, e_227, nI_add, pk_mul, z_in, z_ix, nI_leI, nI_ltI, nI_eq, z_eq0, z_lt0, z_0le, z_0lt, z_le0, z_n9, z_n1, z_m1lt, z_m9lt, z_m9le, z_m1le, zB_0, zB_1, zz_bi_s, zz_bv_s, zz_bl_s, if_pos, if_neg, if_true, if_false, true_and, and_true, not_true_eq_false, not_false_eq_true, ite_self, cmP h, cmS h, cmB h, cmH h, cmD h, cmk h, cmr h, cmp h, cmd h, cmt h, cma h, cmb h, cm0 h]
      have key := z_srch (fun i => zz_ev 227 12 [.ref 112, .int (nI i), .null, .null] [] (zK f g)) (fun i => some (some (.int (nI i)), zK f g)) (some (some (.int (nI 12)), zK f g)) (zbk A) 12 1 (fun i _ hi => l_227 hw h hi) ?_ 1 (by omega) (by omega)
      · rw [key]; show _ = _
        cases zff (zbk A) 11 1 <;> rfl
      · show zz_ev 227 12 _ _ _ = _
        rw [x_227_12]; simp (disch := first | omega | assumption) only [nI_add, pk_mul, z_in, z_ix, nI_leI, nI_ltI, nI_eq, z_eq0, z_lt0, z_0le, z_0lt, z_le0, z_n9, z_n1, z_m1lt, z_m9lt, z_m9le, z_m1le, zB_0, zB_1, zz_bi_s, zz_bv_s, zz_bl_s, if_pos, if_neg, if_true, if_false, true_and, and_true, not_true_eq_false, not_false_eq_true, ite_self]
/-! paces -/
def zps (c : Nat → Bool) : Nat → Nat
  | 0 => 0
  | n + 1 => zps c n ||| (if c n = true then 2 ^ n else 0)
theorem zps_s {c : Nat → Bool} {n : Nat} : zps c (n + 1) = zps c n ||| (if c n = true then 2 ^ n else 0) := rfl
theorem sim_paces (A : zA) (hw : wf A) (v1 v2 v3 : Int32) : zSim A 122 228 [.int v1, .int v2, .int v3] := by
  by_cases h1 : zz_in v1 12
  · obtain ⟨r, hr, -, rfl⟩ := z_inx.mp h1
    by_cases h2 : zz_in v2 1000
    · obtain ⟨n, hn, -, rfl⟩ := z_inx.mp h2
      by_cases h3 : zz_in v3 1000
      · obtain ⟨d, hd, -, rfl⟩ := z_inx.mp h3
        refine sim_0 hw (.int (nI (zps (fun v => decide ((r + n * v) / 12 = d)) 10))) (fun f g h => ?_) (fun f g h => ?_)
        · simp (disch := first | omega | assumption) only [x_122_0, x_122_4, x_122_29, x_122_51, x_122_64, e_122, l_35, nI_add, pk_mul, z_in, z_ix, nI_leI, nI_ltI, nI_eq, z_eq0, z_lt0, z_0le, z_0lt, z_le0, z_n9, z_n1, z_m1lt, z_m9lt, z_m9le, z_m1le, zB_0, zB_1, zz_bi_s, zz_bv_s, zz_bl_s, if_pos, if_neg, if_true, if_false, true_and, and_true, not_true_eq_false, not_false_eq_true, ite_self]
          rw [hw_122_37]
          refine (z_lp (fun i => zz_ev 122 37 [.null, .int (nI r), .int (nI n), .int (nI d), .int (nI (zps (fun v => decide ((r + n * v) / 12 = d)) i)), .int (nI i)] [] (zK f g)) 10 (fun i hi => ?_) 0 (by omega)).trans ?_
          · have := z_small hr hn hi
            show zz_ev 122 37 _ _ _ = zz_ev 122 37 _ _ _
            rw [x_122_37]; simp (disch := first | omega | assumption) only [nI_add, pk_mul, z_in, z_ix, nI_leI, nI_ltI, nI_eq, z_eq0, z_lt0, z_0le, z_0lt, z_le0, z_n9, z_n1, z_m1lt, z_m9lt, z_m9le, z_m1le, zB_0, zB_1, zz_bi_s, zz_bv_s, zz_bl_s, if_pos, if_neg, if_true, if_false, true_and, and_true, not_true_eq_false, not_false_eq_true, ite_self, x_59_0, e_59, pk_div, x_122_51, x_122_64, z_1shl, z_or]
            rw [zps_s]
            by_cases e : (r + n * i) / 12 = d
            · rw [if_pos e, if_pos (decide_eq_true e)]
            · rw [if_neg e, if_neg (by simpa using e), Nat.or_zero]
          · show zz_ev 122 37 _ _ _ = _
            rw [x_122_37]; simp (disch := first | omega | assumption) only [nI_add, pk_mul, z_in, z_ix, nI_leI, nI_ltI, nI_eq, z_eq0, z_lt0, z_0le, z_0lt, z_le0, z_n9, z_n1, z_m1lt, z_m9lt, z_m9le, z_m1le, zB_0, zB_1, zz_bi_s, zz_bv_s, zz_bl_s, if_pos, if_neg, if_true, if_false, true_and, and_true, not_true_eq_false, not_false_eq_true, ite_self]
        · simp (disch := first | omega | assumption) only [x_228_0, x_228_4, x_228_16, x_228_28, x_228_31, x_228_69, e_228, l_182, nI_add, pk_mul, z_in, z_ix, nI_leI, nI_ltI, nI_eq, z_eq0, z_lt0, z_0le, z_0lt, z_le0, z_n9, z_n1, z_m1lt, z_m9lt, z_m9le, z_m1le, zB_0, zB_1, zz_bi_s, zz_bv_s, zz_bl_s, if_pos, if_neg, if_true, if_false, true_and, and_true, not_true_eq_false, not_false_eq_true, ite_self, l_150n]
          rw [hw_228_39]
          refine (z_lp (fun i => zz_ev 228 39 [.null, .int (nI r), .int (nI n), .int (nI d), .int (nI (zps (fun v => decide ((r + n * v) / 12 = d)) i)), .int (nI i)] [] (zK f g)) 10 (fun i hi => ?_) 0 (by omega)).trans ?_
          · have := z_small hr hn hi
            show zz_ev 228 39 _ _ _ = zz_ev 228 39 _ _ _
            rw [x_228_39]; simp (disch := first | omega | assumption) only [nI_add, pk_mul, z_in, z_ix, nI_leI, nI_ltI, nI_eq, z_eq0, z_lt0, z_0le, z_0lt, z_le0, z_n9, z_n1, z_m1lt, z_m9lt, z_m9le, z_m1le, zB_0, zB_1, zz_bi_s, zz_bv_s, zz_bl_s, if_pos, if_neg, if_true, if_false, true_and, and_true, not_true_eq_false, not_false_eq_true, ite_self, pk_div, x_228_69, z_1shl, z_or]
            rw [zps_s]
            by_cases e : (r + n * i) / 12 = d
            · rw [if_pos e, if_pos (decide_eq_true e)]
            · rw [if_neg e, if_neg (by simpa using e)]
          · show zz_ev 228 39 _ _ _ = _
            rw [x_228_39]; simp (disch := first | omega | assumption) only [nI_add, pk_mul, z_in, z_ix, nI_leI, nI_ltI, nI_eq, z_eq0, z_lt0, z_0le, z_0lt, z_le0, z_n9, z_n1, z_m1lt, z_m9lt, z_m9le, z_m1le, zB_0, zB_1, zz_bi_s, zz_bv_s, zz_bl_s, if_pos, if_neg, if_true, if_false, true_and, and_true, not_true_eq_false, not_false_eq_true, ite_self]
      · refine sim_0 hw (.int (-1)) (fun f g h => ?_) (fun f g h => by simp (disch := first | omega | assumption) only [x_228_0, x_228_4, x_228_16, x_228_28, x_228_31, x_228_69, e_228, l_182, nI_add, pk_mul, z_in, z_ix, nI_leI, nI_ltI, nI_eq, z_eq0, z_lt0, z_0le, z_0lt, z_le0, z_n9, z_n1, z_m1lt, z_m9lt, z_m9le, z_m1le, zB_0, zB_1, zz_bi_s, zz_bv_s, zz_bl_s, if_pos, if_neg, if_true, if_false, true_and, and_true, not_true_eq_false, not_false_eq_true, ite_self, l_150n, h3])
        rcases z_rngL (by decide) h3 with h4 | ⟨h4, h5⟩
        · simp (disch := first | omega | assumption) only [x_122_0, x_122_4, x_122_29, x_122_51, x_122_64, e_122, l_35, nI_add, pk_mul, z_in, z_ix, nI_leI, nI_ltI, nI_eq, z_eq0, z_lt0, z_0le, z_0lt, z_le0, z_n9, z_n1, z_m1lt, z_m9lt, z_m9le, z_m1le, zB_0, zB_1, zz_bi_s, zz_bv_s, zz_bl_s, if_pos, if_neg, if_true, if_false, true_and, and_true, not_true_eq_false, not_false_eq_true, ite_self, h4]
        · simp (disch := first | omega | assumption) only [x_122_0, x_122_4, x_122_29, x_122_51, x_122_64, e_122, l_35, nI_add, pk_mul, z_in, z_ix, nI_leI, nI_ltI, nI_eq, z_eq0, z_lt0, z_0le, z_0lt, z_le0, z_n9, z_n1, z_m1lt, z_m9lt, z_m9le, z_m1le, zB_0, zB_1, zz_bi_s, zz_bv_s, zz_bl_s, if_pos, if_neg, if_true, if_false, true_and, and_true, not_true_eq_false, not_false_eq_true, ite_self, h4, h5]
    · refine sim_0 hw (.int (-1)) (fun f g h => ?_) (fun f g h => by simp (disch := first | omega | assumption) only [x_228_0, x_228_4, x_228_16, x_228_28, x_228_31, x_228_69, e_228, l_182, nI_add, pk_mul, z_in, z_ix, nI_leI, nI_ltI, nI_eq, z_eq0, z_lt0, z_0le, z_0lt, z_le0, z_n9, z_n1, z_m1lt, z_m9lt, z_m9le, z_m1le, zB_0, zB_1, zz_bi_s, zz_bv_s, zz_bl_s, if_pos, if_neg, if_true, if_false, true_and, and_true, not_true_eq_false, not_false_eq_true, ite_self, l_150n, h2])
      rcases z_rngL (by decide) h2 with h4 | ⟨h4, h5⟩
      · simp (disch := first | omega | assumption) only [x_122_0, x_122_4, x_122_29, x_122_51, x_122_64, e_122, l_35, nI_add, pk_mul, z_in, z_ix, nI_leI, nI_ltI, nI_eq, z_eq0, z_lt0, z_0le, z_0lt, z_le0, z_n9, z_n1, z_m1lt, z_m9lt, z_m9le, z_m1le, zB_0, zB_1, zz_bi_s, zz_bv_s, zz_bl_s, if_pos, if_neg, if_true, if_false, true_and, and_true, not_true_eq_false, not_false_eq_true, ite_self, h4]
      · have h6 : nI 999 < v2 := by rw [Int32.lt_iff_toInt_lt]; rw [Int32.le_iff_toInt_le] at h5; omega
        simp (disch := first | omega | assumption) only [x_122_0, x_122_4, x_122_29, x_122_51, x_122_64, e_122, l_35, nI_add, pk_mul, z_in, z_ix, nI_leI, nI_ltI, nI_eq, z_eq0, z_lt0, z_0le, z_0lt, z_le0, z_n9, z_n1, z_m1lt, z_m9lt, z_m9le, z_m1le, zB_0, zB_1, zz_bi_s, zz_bv_s, zz_bl_s, if_pos, if_neg, if_true, if_false, true_and, and_true, not_true_eq_false, not_false_eq_true, ite_self, h4, h6]
  · exact sim_0 hw (.int (-1)) (fun f g h => by simp (disch := first | omega | assumption) only [x_122_0, x_122_4, x_122_29, x_122_51, x_122_64, e_122, l_35, nI_add, pk_mul, z_in, z_ix, nI_leI, nI_ltI, nI_eq, z_eq0, z_lt0, z_0le, z_0lt, z_le0, z_n9, z_n1, z_m1lt, z_m9lt, z_m9le, z_m1le, zB_0, zB_1, zz_bi_s, zz_bv_s, zz_bl_s, if_pos, if_neg, if_true, if_false, true_and, and_true, not_true_eq_false, not_false_eq_true, ite_self, h1]) (fun f g h => by simp (disch := first | omega | assumption) only [x_228_0, x_228_4, x_228_16, x_228_28, x_228_31, x_228_69, e_228, l_182, nI_add, pk_mul, z_in, z_ix, nI_leI, nI_ltI, nI_eq, z_eq0, z_lt0, z_0le, z_0lt, z_le0, z_n9, z_n1, z_m1lt, z_m9lt, z_m9le, z_m1le, zB_0, zB_1, zz_bi_s, zz_bv_s, zz_bl_s, if_pos, if_neg, if_true, if_false, true_and, and_true, not_true_eq_false, not_false_eq_true, ite_self, h1])
