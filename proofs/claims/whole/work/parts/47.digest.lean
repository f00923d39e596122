/-! DIGEST -/
def zfd (v : Nat → Int64) : Nat → Int64 → Int64
  | 0, x => x
  | n + 1, x => lN 31 * zfd v n x + v n
theorem zfd_s {v : Nat → Int64} {n : Nat} {x : Int64} : zfd v (n + 1) x = lN 31 * zfd v n x + v n := rfl
def zrf (s : Int32) (c : Nat → Int32) (x : Int64) : Int64 := zfd (fun i => (c i).toInt64) s.toNatClampNeg (lN 31 * x + s.toInt64)
def zrs (R : zR) : Nat → Int64 → Int64
  | 0, x => x
  | n + 1, x => zrf (R.1 n) (R.2 n) (zrs R n x)
theorem zsz_cl {s : Int32} {n : Nat} (h : zsz s n) (hn : n < 2 ^ 31) : s.toNatClampNeg ≤ n := by
  rcases h with rfl | ⟨m, hm, rfl⟩
  · have e : (-1 : Int32).toNatClampNeg = 0 := by decide +kernel
    omega
  · rw [nI_clamp (by omega)]; exact hm
theorem zsz_le {s : Int32} {n i : Nat} (h : zsz s n) (hn : n < 2 ^ 31) (hi : i ≤ n) : (s ≤ nI i) ↔ s.toNatClampNeg ≤ i := by
  rcases h with rfl | ⟨m, hm, rfl⟩
  · have e : (-1 : Int32).toNatClampNeg = 0 := by decide +kernel
    have e2 : (-1 : Int32).toInt = -1 := by decide +kernel
    rw [e, Int32.le_iff_toInt_le, nI_toInt (by omega)]
    omega
  · rw [nI_clamp (by omega), nI_leI (by omega) (by omega)]
theorem l_146 (f : Nat → Nat → Int32) (g : Nat → Nat → Int64) {r n : Nat} (hr : zs_S r n) (hn : n ≤ 60) {s : Int32} {c : Nat → Int32} (hs : f r 1 = s) (hz : zsz s n) (hc : ∀ i < n, f (r + 1) i = c i) (x : Int64) : zz_ca 146 [.ref r, .long x] (zK f g) = some (some (.long (zrf s c x)), zK f g) := by
  have hcl := zsz_cl hz (by omega)
  rw [e_146, x_146_0 f g r x hr, hs]
  refine (z_lp (fun i => zz_ev 146 14 [.ref r, .long (zfd (fun i => (c i).toInt64) i (lN 31 * x + s.toInt64)), .null, .int (nI i)] [] (zK f g)) s.toNatClampNeg (fun i hi => ?_) 0 (by omega)).trans ?_
  · show zz_ev 146 14 _ _ _ = zz_ev 146 14 _ _ _
    have e := hc i (by omega)
    have e2 := zsz_le (i := i) hz (by omega) (by omega)
    rw [x_146_14 f g r _ _ hr, hs]
    simp (disch := first | omega | assumption) only [nI_add, pk_mul, z_in, z_ix, nI_leI, nI_ltI, nI_eq, z_eq0, z_lt0, z_0le, z_0lt, z_le0, z_n9, z_n1, z_m1lt, z_m9lt, z_m9le, z_m1le, zB_0, zB_1, zz_bi_s, zz_bv_s, zz_bl_s, if_pos, if_neg, if_true, if_false, true_and, and_true, not_true_eq_false, not_false_eq_true, ite_self, e, e2]
    rfl
  · show zz_ev 146 14 _ _ _ = _
    rw [x_146_14 f g r _ _ hr, hs, if_pos ((zsz_le hz (by omega) hcl).mpr (Nat.le_refl _))]
    rfl
def zdk (A : zA) (i : Nat) : Int32 := if (aK A).1 i = true then nI (hD ((aK A).2 i)) else -1
def zvc (A : zA) (i : Nat) : Int64 := (zcn A i).toInt64
def zvp (A : zA) (k : Nat) : Int64 := (zlk A (k / 6) (k % 6)).toInt64
def zvk (A : zA) (i : Nat) : Int64 := (zdk A i).toInt64
theorem zvp_s {A : zA} {p w : Nat} (hw : w < 6) : zvp A (6 * p + w) = (zlk A p w).toInt64 := by
  unfold zvp; rw [show (6 * p + w) / 6 = p by omega, show (6 * p + w) % 6 = w by omega]
def zdg (A : zA) : Int64 := zrs (aT A) 4 (zrs (aR A) 6 (zfd (zvk A) 3 (zfd (zvp A) (6 * wP (aW A)) (zfd (zvc A) 9 (lN 17)))))
theorem l_145a {A : zA} (hw : wf A) {f : Nat → Nat → Int32} {g : Nat → Nat → Int64} (h : CX A f g) (x : Int64) : zz_ev 145 6 [.ref 0, .long x, .null, .int (nI 0), .null] [] (zK f g) = zz_ev 145 33 [.ref 0, .long (zfd (zvc A) 9 x), .null, .int (nI 0), .null] [] (zK f g) := by
  refine (z_lp (fun i => zz_ev 145 6 [.ref 0, .long (zfd (zvc A) i x), .null, .int (nI i), .null] [] (zK f g)) 9 (fun i hi => ?_) 0 (by omega)).trans ?_
  · show zz_ev 145 6 _ _ _ = zz_ev 145 6 _ _ _
    rw [x_145_6]; simp (disch := first | omega | assumption) only [nI_add, pk_mul, z_in, z_ix, nI_leI, nI_ltI, nI_eq, z_eq0, z_lt0, z_0le, z_0lt, z_le0, z_n9, z_n1, z_m1lt, z_m9lt, z_m9le, z_m1le, zB_0, zB_1, zz_bi_s, zz_bv_s, zz_bl_s, if_pos, if_neg, if_true, if_false, true_and, and_true, not_true_eq_false, not_false_eq_true, ite_self, l_139 hw h, x_145_22]; rfl
  · show zz_ev 145 6 _ _ _ = _
    rw [x_145_6, if_pos (by decide +kernel)]
theorem l_145b {A : zA} (hw : wf A) {f : Nat → Nat → Int32} {g : Nat → Nat → Int64} (h : CX A f g) (x : Int64) : zz_ev 145 33 [.ref 0, .long x, .null, .int (nI 0), .null] [] (zK f g) = zz_ev 145 85 [.ref 0, .long (zfd (zvp A) (6 * wP (aW A)) x), .null, .int (nI 0), .null] [] (zK f g) := by
  have hP6 := wfP hw
  refine (z_lp (fun p => zz_ev 145 33 [.ref 0, .long (zfd (zvp A) (6 * p) x), .null, .int (nI p), .null] [] (zK f g)) (wP (aW A)) (fun p hp => ?_) 0 (by omega)).trans ?_
  · show zz_ev 145 33 _ _ _ = zz_ev 145 33 _ _ _
    rw [x_145_33]; simp (disch := first | omega | assumption) only [nI_add, pk_mul, z_in, z_ix, nI_leI, nI_ltI, nI_eq, z_eq0, z_lt0, z_0le, z_0lt, z_le0, z_n9, z_n1, z_m1lt, z_m9lt, z_m9le, z_m1le, zB_0, zB_1, zz_bi_s, zz_bv_s, zz_bl_s, if_pos, if_neg, if_true, if_false, true_and, and_true, not_true_eq_false, not_false_eq_true, ite_self, cxP h, cxS h, cxB h, cxH h, cxD h, cxk h, cxr h, cxp h, cxd h, cxt h, cxa h, cxb h]
    refine (z_lp (fun w => zz_ev 145 47 [.ref 0, .long (zfd (zvp A) (6 * p + w) x), .null, .int (nI p), .int (nI w)] [] (zK f g)) 6 (fun w hw6 => ?_) 0 (by omega)).trans ?_
    · show zz_ev 145 47 _ _ _ = zz_ev 145 47 _ _ _
      rw [x_145_47]; simp (disch := first | omega | assumption) only [nI_add, pk_mul, z_in, z_ix, nI_leI, nI_ltI, nI_eq, z_eq0, z_lt0, z_0le, z_0lt, z_le0, z_n9, z_n1, z_m1lt, z_m9lt, z_m9le, z_m1le, zB_0, zB_1, zz_bi_s, zz_bv_s, zz_bl_s, if_pos, if_neg, if_true, if_false, true_and, and_true, not_true_eq_false, not_false_eq_true, ite_self, l_47 hw h hp, x_145_68]
      rw [← zvp_s hw6]; rfl
    · show zz_ev 145 47 _ _ _ = _
      rw [x_145_47, if_pos (by decide +kernel), hi_145_33, nI_add]; rfl
  · show zz_ev 145 33 _ _ _ = _
    rw [x_145_33]; simp (disch := first | omega | assumption) only [nI_add, pk_mul, z_in, z_ix, nI_leI, nI_ltI, nI_eq, z_eq0, z_lt0, z_0le, z_0lt, z_le0, z_n9, z_n1, z_m1lt, z_m9lt, z_m9le, z_m1le, zB_0, zB_1, zz_bi_s, zz_bv_s, zz_bl_s, if_pos, if_neg, if_true, if_false, true_and, and_true, not_true_eq_false, not_false_eq_true, ite_self, cxP h, cxS h, cxB h, cxH h, cxD h, cxk h, cxr h, cxp h, cxd h, cxt h, cxa h, cxb h]
theorem l_145c {A : zA} (hw : wf A) {f : Nat → Nat → Int32} {g : Nat → Nat → Int64} (h : CX A f g) (x : Int64) : zz_ev 145 85 [.ref 0, .long x, .null, .int (nI 0), .null] [] (zK f g) = zz_ev 145 128 [.ref 0, .long (zfd (zvk A) 3 x), .null, .int (nI 0), .null] [] (zK f g) := by
  refine (z_lp (fun i => zz_ev 145 85 [.ref 0, .long (zfd (zvk A) i x), .null, .int (nI i), .null] [] (zK f g)) 3 (fun i hi => ?_) 0 (by omega)).trans ?_
  · show zz_ev 145 85 _ _ _ = zz_ev 145 85 _ _ _
    have m := h.2.2.1 i hi
    have hz : zvk A i = (zdk A i).toInt64 := rfl
    rw [zfd_s, hz]
    unfold zdk
    by_cases q : (aK A).1 i = true
    · have m1 : f 16 i = nI 1 := by rw [m.1]; exact zB_t q
      have m2 := (m.2 q).2.2.2.2.1
      rw [x_145_85, if_pos q]; simp (disch := first | omega | assumption) only [nI_add, pk_mul, z_in, z_ix, nI_leI, nI_ltI, nI_eq, z_eq0, z_lt0, z_0le, z_0lt, z_le0, z_n9, z_n1, z_m1lt, z_m9lt, z_m9le, z_m1le, zB_0, zB_1, zz_bi_s, zz_bv_s, zz_bl_s, if_pos, if_neg, if_true, if_false, true_and, and_true, not_true_eq_false, not_false_eq_true, ite_self, m1, m2, x_145_117]
    · have m1 : f 16 i = nI 0 := by rw [m.1]; exact zB_f q
      rw [x_145_85, if_neg q]; simp (disch := first | omega | assumption) only [nI_add, pk_mul, z_in, z_ix, nI_leI, nI_ltI, nI_eq, z_eq0, z_lt0, z_0le, z_0lt, z_le0, z_n9, z_n1, z_m1lt, z_m9lt, z_m9le, z_m1le, zB_0, zB_1, zz_bi_s, zz_bv_s, zz_bl_s, if_pos, if_neg, if_true, if_false, true_and, and_true, not_true_eq_false, not_false_eq_true, ite_self, m1, x_145_117]
  · show zz_ev 145 85 _ _ _ = _
    rw [x_145_85, if_pos (by decide +kernel)]
theorem l_145d {A : zA} (hw : wf A) {f : Nat → Nat → Int32} {g : Nat → Nat → Int64} (h : CX A f g) (x : Int64) : zz_ev 145 128 [.ref 0, .long x, .null, .int (nI 0), .null] [] (zK f g) = zz_ev 145 153 [.ref 0, .long (zrs (aR A) 6 x), .null, .int (nI 0), .null] [] (zK f g) := by
  refine (z_lp (fun i => zz_ev 145 128 [.ref 0, .long (zrs (aR A) i x), .null, .int (nI i), .null] [] (zK f g)) 6 (fun i hi => ?_) 0 (by omega)).trans ?_
  · show zz_ev 145 128 _ _ _ = zz_ev 145 128 _ _ _
    have m := h.2.2.2.1 i hi
    have e := l_146 f g (zs_S_row i hi) (by decide) m.1 (hw.1 i hi) m.2 (zrs (aR A) i x)
    rw [x_145_128]; simp (disch := first | omega | assumption) only [nI_add, pk_mul, z_in, z_ix, nI_leI, nI_ltI, nI_eq, z_eq0, z_lt0, z_0le, z_0lt, z_le0, z_n9, z_n1, z_m1lt, z_m9lt, z_m9le, z_m1le, zB_0, zB_1, zz_bi_s, zz_bv_s, zz_bl_s, if_pos, if_neg, if_true, if_false, true_and, and_true, not_true_eq_false, not_false_eq_true, ite_self, e, x_145_144]; rfl
  · show zz_ev 145 128 _ _ _ = _
    rw [x_145_128, if_pos (by decide +kernel)]
theorem l_145e {A : zA} (hw : wf A) {f : Nat → Nat → Int32} {g : Nat → Nat → Int64} (h : CX A f g) (x : Int64) : zz_ev 145 153 [.ref 0, .long x, .null, .int (nI 0), .null] [] (zK f g) = some (some (.long (zrs (aT A) 4 x)), zK f g) := by
  refine (z_lp (fun i => zz_ev 145 153 [.ref 0, .long (zrs (aT A) i x), .null, .int (nI i), .null] [] (zK f g)) 4 (fun i hi => ?_) 0 (by omega)).trans ?_
  · show zz_ev 145 153 _ _ _ = zz_ev 145 153 _ _ _
    have m := h.2.2.2.2 i hi
    have e := l_146 f g (zs_S_text i hi) (by decide) m.1 (hw.2.1 i hi).1 m.2 (zrs (aT A) i x)
    rw [x_145_153]; simp (disch := first | omega | assumption) only [nI_add, pk_mul, z_in, z_ix, nI_leI, nI_ltI, nI_eq, z_eq0, z_lt0, z_0le, z_0lt, z_le0, z_n9, z_n1, z_m1lt, z_m9lt, z_m9le, z_m1le, zB_0, zB_1, zz_bi_s, zz_bv_s, zz_bl_s, if_pos, if_neg, if_true, if_false, true_and, and_true, not_true_eq_false, not_false_eq_true, ite_self, e, x_145_168]; rfl
  · show zz_ev 145 153 _ _ _ = _
    rw [x_145_153, if_pos (by decide +kernel)]
theorem l_145 {A : zA} (hw : wf A) {f : Nat → Nat → Int32} {g : Nat → Nat → Int64} (h : CX A f g) : zz_ca 145 [.ref 0] (zK f g) = some (some (.long (zdg A)), zK f g) := by
  rw [e_145, x_145_0, l_145a hw h, l_145b hw h, l_145c hw h, l_145d hw h, l_145e hw h]; rfl
/-! the reference's -/
theorem l_242a {A : zA} (hw : wf A) {f : Nat → Nat → Int32} {g : Nat → Nat → Int64} (h : CM A f g) (x : Int64) : zz_ev 242 6 [.ref 112, .long x, .null, .int (nI 0), .null] [] (zK f g) = zz_ev 242 33 [.ref 112, .long (zfd (zvc A) 9 x), .null, .int (nI 0), .null] [] (zK f g) := by
  refine (z_lp (fun i => zz_ev 242 6 [.ref 112, .long (zfd (zvc A) i x), .null, .int (nI i), .null] [] (zK f g)) 9 (fun i hi => ?_) 0 (by omega)).trans ?_
  · show zz_ev 242 6 _ _ _ = zz_ev 242 6 _ _ _
    rw [x_242_6]; simp (disch := first | omega | assumption) only [nI_add, pk_mul, z_in, z_ix, nI_leI, nI_ltI, nI_eq, z_eq0, z_lt0, z_0le, z_0lt, z_le0, z_n9, z_n1, z_m1lt, z_m9lt, z_m9le, z_m1le, zB_0, zB_1, zz_bi_s, zz_bv_s, zz_bl_s, if_pos, if_neg, if_true, if_false, true_and, and_true, not_true_eq_false, not_false_eq_true, ite_self, l_237 hw h, x_242_22]; rfl
  · show zz_ev 242 6 _ _ _ = _
    rw [x_242_6, if_pos (by decide +kernel)]
theorem l_242b {A : zA} (hw : wf A) {f : Nat → Nat → Int32} {g : Nat → Nat → Int64} (h : CM A f g) (x : Int64) : zz_ev 242 33 [.ref 112, .long x, .null, .int (nI 0), .null] [] (zK f g) = zz_ev 242 72 [.ref 112, .long (zfd (zvp A) (6 * wP (aW A)) x), .null, .int (nI 1), .null] [] (zK f g) := by
  have hP6 := wfP hw
  refine (z_lp (fun k => zz_ev 242 33 [.ref 112, .long (zfd (zvp A) k x), .null, .int (nI k), .null] [] (zK f g)) (6 * wP (aW A)) (fun k hk => ?_) 0 (by omega)).trans ?_
  · show zz_ev 242 33 _ _ _ = zz_ev 242 33 _ _ _
    rw [x_242_33]; simp (disch := first | omega | assumption) only [nI_add, pk_mul, z_in, z_ix, nI_leI, nI_ltI, nI_eq, z_eq0, z_lt0, z_0le, z_0lt, z_le0, z_n9, z_n1, z_m1lt, z_m9lt, z_m9le, z_m1le, zB_0, zB_1, zz_bi_s, zz_bv_s, zz_bl_s, if_pos, if_neg, if_true, if_false, true_and, and_true, not_true_eq_false, not_false_eq_true, ite_self, cmP h, cmS h, cmB h, cmH h, cmD h, cmk h, cmr h, cmp h, cmd h, cmt h, cma h, cmb h, cm0 h, pk_div, z_rem, l_177 hw h, x_242_61]; rfl
  · show zz_ev 242 33 _ _ _ = _
    rw [x_242_33]; simp (disch := first | omega | assumption) only [nI_add, pk_mul, z_in, z_ix, nI_leI, nI_ltI, nI_eq, z_eq0, z_lt0, z_0le, z_0lt, z_le0, z_n9, z_n1, z_m1lt, z_m9lt, z_m9le, z_m1le, zB_0, zB_1, zz_bi_s, zz_bv_s, zz_bl_s, if_pos, if_neg, if_true, if_false, true_and, and_true, not_true_eq_false, not_false_eq_true, ite_self, cmP h, cmS h, cmB h, cmH h, cmD h, cmk h, cmr h, cmp h, cmd h, cmt h, cma h, cmb h, cm0 h]
theorem l_242c {A : zA} (hw : wf A) {f : Nat → Nat → Int32} {g : Nat → Nat → Int64} (h : CM A f g) (x : Int64) : zz_ev 242 72 [.ref 112, .long x, .null, .int (nI 1), .null] [] (zK f g) = zz_ev 242 105 [.ref 112, .long (zfd (zvk A) 3 x), .null, .int (nI 0), .null] [] (zK f g) := by
  refine (z_lp (fun i => zz_ev 242 72 [.ref 112, .long (zfd (zvk A) i x), .null, .int (nI (1 + i)), .null] [] (zK f g)) 3 (fun i hi => ?_) 0 (by omega)).trans ?_
  · show zz_ev 242 72 _ _ _ = zz_ev 242 72 _ _ _
    have m : f 113 (827 * (1 + i)) = zdk A i := by
      unfold zdk
      rw [Nat.add_comm 1 i]
      by_cases q : (aK A).1 i = true
      · rw [if_pos q]; exact ((h.2.2.2.1 i hi).2 q).1
      · rw [if_neg q]; exact (h.2.2.2.1 i hi).1 (by simpa using q)
    rw [x_242_72]; simp (disch := first | omega | assumption) only [nI_add, pk_mul, z_in, z_ix, nI_leI, nI_ltI, nI_eq, z_eq0, z_lt0, z_0le, z_0lt, z_le0, z_n9, z_n1, z_m1lt, z_m9lt, z_m9le, z_m1le, zB_0, zB_1, zz_bi_s, zz_bv_s, zz_bl_s, if_pos, if_neg, if_true, if_false, true_and, and_true, not_true_eq_false, not_false_eq_true, ite_self, Nat.add_zero, m]; rfl
  · show zz_ev 242 72 _ _ _ = _
    rw [x_242_72, if_pos (by decide +kernel)]
theorem l_242d {A : zA} (hw : wf A) {f : Nat → Nat → Int32} {g : Nat → Nat → Int64} (h : CM A f g) (x : Int64) : zz_ev 242 105 [.ref 112, .long x, .null, .int (nI 0), .null] [] (zK f g) = zz_ev 242 173 [.ref 112, .long (zrs (aR A) 6 x), .null, .int (nI 0), .null] [] (zK f g) := by
  refine (z_lp (fun i => zz_ev 242 105 [.ref 112, .long (zrs (aR A) i x), .null, .int (nI i), .null] [] (zK f g)) 6 (fun r hr => ?_) 0 (by omega)).trans ?_
  · show zz_ev 242 105 _ _ _ = zz_ev 242 105 _ _ _
    have m := h.2.2.2.2.1 r hr
    have m1 := m.1
    have hz := hw.1 r hr
    have hcl := zsz_cl hz (by omega)
    rw [show zrs (aR A) (r + 1) x = zrf ((aR A).1 r) ((aR A).2 r) (zrs (aR A) r x) from rfl]
    generalize zrs (aR A) r x = y
    rw [x_242_105]; simp (disch := first | omega | assumption) only [nI_add, pk_mul, z_in, z_ix, nI_leI, nI_ltI, nI_eq, z_eq0, z_lt0, z_0le, z_0lt, z_le0, z_n9, z_n1, z_m1lt, z_m9lt, z_m9le, z_m1le, zB_0, zB_1, zz_bi_s, zz_bv_s, zz_bl_s, if_pos, if_neg, if_true, if_false, true_and, and_true, not_true_eq_false, not_false_eq_true, ite_self, m1]
    refine (z_lp (fun k => zz_ev 242 128 [.ref 112, .long (zfd (fun i => ((aR A).2 r i).toInt64) k (lN 31 * y + ((aR A).1 r).toInt64)), .null, .int (nI r), .int (nI k)] [] (zK f g)) ((aR A).1 r).toNatClampNeg (fun k hk => ?_) 0 (by omega)).trans ?_
    · show zz_ev 242 128 _ _ _ = zz_ev 242 128 _ _ _
      have e := m.2 k (by omega)
      have e2 := zsz_le (i := k) hz (by omega) (by omega)
      rw [x_242_128]; simp (disch := first | omega | assumption) only [nI_add, pk_mul, z_in, z_ix, nI_leI, nI_ltI, nI_eq, z_eq0, z_lt0, z_0le, z_0lt, z_le0, z_n9, z_n1, z_m1lt, z_m9lt, z_m9le, z_m1le, zB_0, zB_1, zz_bi_s, zz_bv_s, zz_bl_s, if_pos, if_neg, if_true, if_false, true_and, and_true, not_true_eq_false, not_false_eq_true, ite_self, m1, e, e2]; rfl
    · show zz_ev 242 128 _ _ _ = _
      have e2 := (zsz_le hz (by omega) hcl).mpr (Nat.le_refl _)
      rw [x_242_128]; simp (disch := first | omega | assumption) only [nI_add, pk_mul, z_in, z_ix, nI_leI, nI_ltI, nI_eq, z_eq0, z_lt0, z_0le, z_0lt, z_le0, z_n9, z_n1, z_m1lt, z_m9lt, z_m9le, z_m1le, zB_0, zB_1, zz_bi_s, zz_bv_s, zz_bl_s, if_pos, if_neg, if_true, if_false, true_and, and_true, not_true_eq_false, not_false_eq_true, ite_self, m1, e2, hi_242_105]; rfl
  · show zz_ev 242 105 _ _ _ = _
    rw [x_242_105, if_pos (by decide +kernel)]
theorem l_242e {A : zA} (hw : wf A) {f : Nat → Nat → Int32} {g : Nat → Nat → Int64} (h : CM A f g) (x : Int64) : zz_ev 242 173 [.ref 112, .long x, .null, .int (nI 0), .null] [] (zK f g) = some (some (.long (zrs (aT A) 4 x)), zK f g) := by
  refine (z_lp (fun i => zz_ev 242 173 [.ref 112, .long (zrs (aT A) i x), .null, .int (nI i), .null] [] (zK f g)) 4 (fun r hr => ?_) 0 (by omega)).trans ?_
  · show zz_ev 242 173 _ _ _ = zz_ev 242 173 _ _ _
    have m := h.2.2.2.2.2 r hr
    have m1 := m.1
    have hz := (hw.2.1 r hr).1
    have hcl := zsz_cl hz (by omega)
    rw [show zrs (aT A) (r + 1) x = zrf ((aT A).1 r) ((aT A).2 r) (zrs (aT A) r x) from rfl]
    generalize zrs (aT A) r x = y
    rw [x_242_173]; simp (disch := first | omega | assumption) only [nI_add, pk_mul, z_in, z_ix, nI_leI, nI_ltI, nI_eq, z_eq0, z_lt0, z_0le, z_0lt, z_le0, z_n9, z_n1, z_m1lt, z_m9lt, z_m9le, z_m1le, zB_0, zB_1, zz_bi_s, zz_bv_s, zz_bl_s, if_pos, if_neg, if_true, if_false, true_and, and_true, not_true_eq_false, not_false_eq_true, ite_self, m1]
    refine (z_lp (fun k => zz_ev 242 195 [.ref 112, .long (zfd (fun i => ((aT A).2 r i).toInt64) k (lN 31 * y + ((aT A).1 r).toInt64)), .null, .int (nI r), .int (nI k)] [] (zK f g)) ((aT A).1 r).toNatClampNeg (fun k hk => ?_) 0 (by omega)).trans ?_
    · show zz_ev 242 195 _ _ _ = zz_ev 242 195 _ _ _
      have e := m.2 k (by omega)
      have e2 := zsz_le (i := k) hz (by omega) (by omega)
      rw [x_242_195]; simp (disch := first | omega | assumption) only [nI_add, pk_mul, z_in, z_ix, nI_leI, nI_ltI, nI_eq, z_eq0, z_lt0, z_0le, z_0lt, z_le0, z_n9, z_n1, z_m1lt, z_m9lt, z_m9le, z_m1le, zB_0, zB_1, zz_bi_s, zz_bv_s, zz_bl_s, if_pos, if_neg, if_true, if_false, true_and, and_true, not_true_eq_false, not_false_eq_true, ite_self, m1, e, e2]; rfl
    · show zz_ev 242 195 _ _ _ = _
      have e2 := (zsz_le hz (by omega) hcl).mpr (Nat.le_refl _)
      rw [x_242_195]; simp (disch := first | omega | assumption) only [nI_add, pk_mul, z_in, z_ix, nI_leI, nI_ltI, nI_eq, z_eq0, z_lt0, z_0le, z_0lt, z_le0, z_n9, z_n1, z_m1lt, z_m9lt, z_m9le, z_m1le, zB_0, zB_1, zz_bi_s, zz_bv_s, zz_bl_s, if_pos, if_neg, if_true, if_false, true_and, and_true, not_true_eq_false, not_false_eq_true, ite_self, m1, e2, hi_242_173]; rfl
  · show zz_ev 242 173 _ _ _ = _
    rw [x_242_173, if_pos (by decide +kernel)]
theorem sim_digest (A : zA) (hw : wf A) : zSim A 145 242 [] := sim_0 hw (.long (zdg A)) (fun f g h => l_145 hw h) (fun f g h => by rw [e_242, x_242_0, l_242a hw h, l_242b hw h, l_242c hw h, l_242d hw h, l_242e hw h]; rfl)
