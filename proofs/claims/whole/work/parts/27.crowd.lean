/-! CROWD -/
def zcw (A : zA) (h room : Nat) : Nat := zct (fun q => decide (zrb A q h = room)) (wP (aW A))
def zmx (c : Nat → Nat) : Nat → Nat
  | 0 => 0
  | n + 1 => if zmx c n < c n then c n else zmx c n
theorem zmx_s {c : Nat → Nat} {n : Nat} : zmx c (n + 1) = if zmx c n < c n then c n else zmx c n := rfl
theorem zmx_ge {c : Nat → Nat} : ∀ {n i : Nat}, i < n → c i ≤ zmx c n
  | 0, i, h => by omega
  | n + 1, i, h => by
    rw [zmx_s]
    by_cases e : i = n
    · subst e; split <;> omega
    · have := zmx_ge (c := c) (n := n) (i := i) (by omega); split <;> omega
theorem zmx_eq {c : Nat → Nat} : ∀ {n : Nat}, zmx c n = 0 ∨ ∃ i < n, zmx c n = c i
  | 0 => Or.inl rfl
  | n + 1 => by
    rw [zmx_s]
    split
    · exact Or.inr ⟨n, by omega, rfl⟩
    · rcases zmx_eq (c := c) (n := n) with h | ⟨i, hi, h⟩
      · exact Or.inl h
      · exact Or.inr ⟨i, by omega, h⟩
def zmost (A : zA) (h : Nat) : Nat := zmx (fun p => zcw A h (zrb A p h)) (wP (aW A))
theorem zmost_r (A : zA) (h : Nat) : zmx (zcw A h) 12 = zmost A h := by
  have h1 : zmx (zcw A h) 12 ≤ zmost A h := by
    rcases zmx_eq (c := zcw A h) (n := 12) with e | ⟨r, hr, e⟩
    · omega
    · rw [e]
      by_cases h0 : zcw A h r = 0
      · omega
      · obtain ⟨q, hq, hz⟩ := zct_pos (show 0 < zct _ _ from Nat.pos_of_ne_zero h0)
        have hz := of_decide_eq_true hz
        have := zmx_ge (c := fun p => zcw A h (zrb A p h)) hq
        rw [← hz]; exact this
  have h2 : zmost A h ≤ zmx (zcw A h) 12 := by
    unfold zmost
    rcases zmx_eq (c := fun p => zcw A h (zrb A p h)) (n := wP (aW A)) with e | ⟨p, hp, e⟩
    · omega
    · rw [e]; exact zmx_ge (Nat.mod_lt _ (by decide))
  omega
theorem zcw_le (A : zA) (hw : wf A) (h r : Nat) : zcw A h r ≤ 6 := Nat.le_trans (zct_le _ _) (wfP hw)
theorem zmost_le (A : zA) (hw : wf A) (h : Nat) : zmost A h ≤ 6 := by
  rcases zmx_eq (c := fun p => zcw A h (zrb A p h)) (n := wP (aW A)) with e | ⟨p, hp, e⟩
  · unfold zmost; omega
  · unfold zmost; rw [e]; exact zcw_le A hw _ _
def zfb (m : Nat → Nat) : Nat → Nat × Nat
  | 0 => (0, 0)
  | n + 1 => if m n ≤ (zfb m n).2 then zfb m n else (n, m n)
theorem zfb_s {m : Nat → Nat} {n : Nat} : zfb m (n + 1) = if m n ≤ (zfb m n).2 then zfb m n else (n, m n) := rfl
theorem zfb_2 {m : Nat → Nat} : ∀ {n : Nat}, (zfb m (n + 1)).2 = m (zfb m (n + 1)).1
  | 0 => by
    rw [zfb_s]; split
    · rename_i h; exact (Nat.le_zero.mp h).symm
    · rfl
  | n + 1 => by
    rw [zfb_s]; split
    · exact zfb_2
    · rfl
theorem zfb_lt {m : Nat → Nat} : ∀ {n : Nat}, (zfb m n).1 ≤ n ∧ ((zfb m (n + 1)).1 < n + 1)
  | 0 => ⟨Nat.le_refl _, by rw [zfb_s]; split <;> exact Nat.lt_succ_self 0⟩
  | n + 1 => by
    have := zfb_lt (m := m) (n := n)
    refine ⟨by omega, ?_⟩
    rw [zfb_s]; split
    · omega
    · exact Nat.lt_succ_self _
theorem zfb_b {m : Nat → Nat} {b : Nat} (hb : ∀ i, m i ≤ b) : ∀ {n : Nat}, (zfb m n).2 ≤ b
  | 0 => Nat.zero_le _
  | n + 1 => by rw [zfb_s]; split; exact zfb_b hb; exact hb n
theorem l_116 {A : zA} (hw : wf A) {f : Nat → Nat → Int32} {g : Nat → Nat → Int64} (h : CX A f g) {n : Nat} (hn : n < 12) : zz_ca 116 [.ref 3, .int (nI n)] (zK f g) = some (some (.int (nI (zmost A n))), zK f g) := by
  have hP6 := wfP hw
  rw [e_116, x_116_0]
  refine (z_lp (fun i => zz_ev 116 4 [.ref 3, .int (nI n), .int (nI (zmx (fun p => zcw A n (zrb A p n)) i)), .int (nI i), .null, .null] [] (zK f g)) (wP (aW A)) (fun i hi => ?_) 0 (by omega)).trans ?_
  · show zz_ev 116 4 _ _ _ = zz_ev 116 4 _ _ _
    rw [x_116_4]; simp (disch := first | omega | assumption) only [nI_add, pk_mul, z_in, z_ix, nI_leI, nI_ltI, nI_eq, z_eq0, z_lt0, z_0le, z_0lt, z_le0, z_n9, z_n1, z_m1lt, z_m9lt, z_m9le, z_m1le, zB_0, zB_1, zz_bi_s, zz_bv_s, zz_bl_s, if_pos, if_neg, if_true, if_false, true_and, and_true, not_true_eq_false, not_false_eq_true, ite_self, cxP h, cxS h, cxB h, cxH h, cxD h, cxk h, cxr h, cxp h, cxd h, cxt h, cxa h, cxb h]
    have hm : zmx (fun p => zcw A n (zrb A p n)) i < 2 ^ 31 := by
      rcases zmx_eq (c := fun p => zcw A n (zrb A p n)) (n := i) with e | ⟨p, hp, e⟩
      · omega
      · rw [e]; have := zcw_le A hw n (zrb A p n); omega
    have hc := zcw_le A hw n (zrb A i n)
    have key := z_lp (fun j => zz_ev 116 18 [.ref 3, .int (nI n), .int (nI (zmx (fun p => zcw A n (zrb A p n)) i)), .int (nI i), .int (nI (zct (fun q => decide (zrb A q n = zrb A i n)) j)), .int (nI j)] [] (zK f g)) (wP (aW A)) (fun j hj => ?_) 0 (by omega)
    · refine Eq.trans ?_ (key.trans ?_)
      · rfl
      · rw [x_116_18, show zct (fun q => decide (zrb A q n = zrb A i n)) (wP (aW A)) = zcw A n (zrb A i n) from rfl]
        simp (disch := first | omega | assumption) only [nI_add, pk_mul, z_in, z_ix, nI_leI, nI_ltI, nI_eq, z_eq0, z_lt0, z_0le, z_0lt, z_le0, z_n9, z_n1, z_m1lt, z_m9lt, z_m9le, z_m1le, zB_0, zB_1, zz_bi_s, zz_bv_s, zz_bl_s, if_pos, if_neg, if_true, if_false, true_and, and_true, not_true_eq_false, not_false_eq_true, ite_self, cxP h, cxS h, cxB h, cxH h, cxD h, cxk h, cxr h, cxp h, cxd h, cxt h, cxa h, cxb h, hi_116_4]
        rw [zmx_s]
        by_cases e : zmx (fun p => zcw A n (zrb A p n)) i < zcw A n (zrb A i n)
        · rw [if_pos e, if_pos e]
        · rw [if_neg e, if_neg e]
    · have h2 : zrb A i n < 12 := Nat.mod_lt _ (by decide)
      have h3 : zrb A j n < 12 := Nat.mod_lt _ (by decide)
      show zz_ev 116 18 _ _ _ = zz_ev 116 18 _ _ _
      rw [x_116_18]; simp (disch := first | omega | assumption) only [nI_add, pk_mul, z_in, z_ix, nI_leI, nI_ltI, nI_eq, z_eq0, z_lt0, z_0le, z_0lt, z_le0, z_n9, z_n1, z_m1lt, z_m9lt, z_m9le, z_m1le, zB_0, zB_1, zz_bi_s, zz_bv_s, zz_bl_s, if_pos, if_neg, if_true, if_false, true_and, and_true, not_true_eq_false, not_false_eq_true, ite_self, cxP h, cxS h, cxB h, cxH h, cxD h, cxk h, cxr h, cxp h, cxd h, cxt h, cxa h, cxb h, l_109 hw h, x_116_34, x_116_40, x_116_46]
      by_cases e : zrb A j n = zrb A i n
      · rw [if_pos e, show zct (fun q => decide (zrb A q n = zrb A i n)) (j + 1) = zct (fun q => decide (zrb A q n = zrb A i n)) j + (decide (zrb A j n = zrb A i n)).toNat from rfl, b2n_t (decide_eq_true e)]
      · rw [if_neg e, show zct (fun q => decide (zrb A q n = zrb A i n)) (j + 1) = zct (fun q => decide (zrb A q n = zrb A i n)) j + (decide (zrb A j n = zrb A i n)).toNat from rfl, b2n_f (by simpa using e)]; rfl
  · show zz_ev 116 4 _ _ _ = _
    rw [x_116_4]; simp (disch := first | omega | assumption) only [nI_add, pk_mul, z_in, z_ix, nI_leI, nI_ltI, nI_eq, z_eq0, z_lt0, z_0le, z_0lt, z_le0, z_n9, z_n1, z_m1lt, z_m9lt, z_m9le, z_m1le, zB_0, zB_1, zz_bi_s, zz_bv_s, zz_bl_s, if_pos, if_neg, if_true, if_false, true_and, and_true, not_true_eq_false, not_false_eq_true, ite_self, cxP h, cxS h, cxB h, cxH h, cxD h, cxk h, cxr h, cxp h, cxd h, cxt h, cxa h, cxb h]; rfl
theorem l_115 {A : zA} (hw : wf A) {f : Nat → Nat → Int32} {g : Nat → Nat → Int64} (h : CX A f g) : zz_ca 115 [.ref 3] (zK f g) = some (some (.int (nI (zfb (zmost A) 12).1)), zK f g) := by
  rw [e_115, x_115_0]
  refine (z_lp (fun i => zz_ev 115 6 [.ref 3, .int (nI (zfb (zmost A) i).1), .int (nI (zfb (zmost A) i).2), .int (nI i), .null] [] (zK f g)) 12 (fun i hi => ?_) 0 (by omega)).trans ?_
  · show zz_ev 115 6 _ _ _ = zz_ev 115 6 _ _ _
    have h1 := zfb_b (m := zmost A) (zmost_le A hw) (n := i)
    have h2 := zmost_le A hw i
    rw [x_115_6]; simp (disch := first | omega | assumption) only [nI_add, pk_mul, z_in, z_ix, nI_leI, nI_ltI, nI_eq, z_eq0, z_lt0, z_0le, z_0lt, z_le0, z_n9, z_n1, z_m1lt, z_m9lt, z_m9le, z_m1le, zB_0, zB_1, zz_bi_s, zz_bv_s, zz_bl_s, if_pos, if_neg, if_true, if_false, true_and, and_true, not_true_eq_false, not_false_eq_true, ite_self, l_116 hw h, x_115_17, x_115_30, hi_115_6]
    rw [zfb_s]
    by_cases e : zmost A i ≤ (zfb (zmost A) i).2
    · rw [if_pos e, if_pos e]
    · rw [if_neg e, if_neg e]
  · show zz_ev 115 6 _ _ _ = _
    rw [x_115_6]; simp (disch := first | omega | assumption) only [nI_add, pk_mul, z_in, z_ix, nI_leI, nI_ltI, nI_eq, z_eq0, z_lt0, z_0le, z_0lt, z_le0, z_n9, z_n1, z_m1lt, z_m9lt, z_m9le, z_m1le, zB_0, zB_1, zz_bi_s, zz_bv_s, zz_bl_s, if_pos, if_neg, if_true, if_false, true_and, and_true, not_true_eq_false, not_false_eq_true, ite_self]
theorem l_225 {A : zA} (hw : wf A) {f : Nat → Nat → Int32} {g : Nat → Nat → Int64} (h : CM A f g) {n r : Nat} (hn : n < 12) (hr : r < 12) : zz_ca 225 [.ref 112, .int (nI r), .int (nI n)] (zK f g) = some (some (.int (nI (zcw A n r))), zK f g) := by
  have hP6 := wfP hw
  rw [e_225, x_225_0]
  refine (z_lp (fun i => zz_ev 225 5 [.ref 112, .int (nI r), .int (nI n), .int (nI (zct (fun q => decide (zrb A q n = r)) i)), .int (nI i)] [] (zK f g)) (wP (aW A)) (fun i hi => ?_) 0 (by omega)).trans ?_
  · have h2 : zrb A i n < 12 := Nat.mod_lt _ (by decide)
    show zz_ev 225 5 _ _ _ = zz_ev 225 5 _ _ _
    rw [x_225_5]; simp (disch := first | omega | assumption) only [nI_add, pk_mul, z_in, z_ix, nI_leI, nI_ltI, nI_eq, z_eq0, z_lt0, z_0le, z_0lt, z_le0, z_n9, z_n1, z_m1lt, z_m9lt, z_m9le, z_m1le, zB_0, zB_1, zz_bi_s, zz_bv_s, zz_bl_s, if_pos, if_neg, if_true, if_false, true_and, and_true, not_true_eq_false, not_false_eq_true, ite_self, cmP h, cmS h, cmB h, cmH h, cmD h, cmk h, cmr h, cmp h, cmd h, cmt h, cma h, cmb h, cm0 h, l_219 hw h, x_225_22, x_225_31]
    rw [show zct (fun q => decide (zrb A q n = r)) (i + 1) = zct (fun q => decide (zrb A q n = r)) i + (decide (zrb A i n = r)).toNat from rfl]
    by_cases e : zrb A i n = r
    · rw [if_pos e, b2n_t (decide_eq_true e)]
    · rw [if_neg e, b2n_f (by simpa using e)]
  · show zz_ev 225 5 _ _ _ = _
    rw [x_225_5]; simp (disch := first | omega | assumption) only [nI_add, pk_mul, z_in, z_ix, nI_leI, nI_ltI, nI_eq, z_eq0, z_lt0, z_0le, z_0lt, z_le0, z_n9, z_n1, z_m1lt, z_m9lt, z_m9le, z_m1le, zB_0, zB_1, zz_bi_s, zz_bv_s, zz_bl_s, if_pos, if_neg, if_true, if_false, true_and, and_true, not_true_eq_false, not_false_eq_true, ite_self, cmP h, cmS h, cmB h, cmH h, cmD h, cmk h, cmr h, cmp h, cmd h, cmt h, cma h, cmb h, cm0 h]; rfl
/-- the reference's search, hour by hour, room by room -/
def zfk (A : zA) : Nat → Nat × Nat
  | 0 => (0, 0)
  | k + 1 => if zcw A (k / 12) (k % 12) ≤ (zfk A k).2 then zfk A k else (k / 12, zcw A (k / 12) (k % 12))
theorem zfk_s {A : zA} {k : Nat} : zfk A (k + 1) = if zcw A (k / 12) (k % 12) ≤ (zfk A k).2 then zfk A k else (k / 12, zcw A (k / 12) (k % 12)) := rfl
theorem zfk_h (A : zA) (h : Nat) (e : zfk A (12 * h) = zfb (zmost A) h) : ∀ j ≤ 12, zfk A (12 * h + j) = if zmx (zcw A h) j ≤ (zfb (zmost A) h).2 then zfb (zmost A) h else (h, zmx (zcw A h) j)
  | 0, _ => by rw [Nat.add_zero, e, show zmx (zcw A h) 0 = 0 from rfl, if_pos (Nat.zero_le _)]
  | j + 1, hj => by
    rw [← Nat.add_assoc, zfk_s, zfk_h A h e j (by omega), show (12 * h + j) / 12 = h by omega, show (12 * h + j) % 12 = j by omega, zmx_s]
    by_cases h1 : zmx (zcw A h) j ≤ (zfb (zmost A) h).2
    · rw [if_pos h1]
      by_cases h2 : zmx (zcw A h) j < zcw A h j
      · rw [if_pos h2]
      · rw [if_neg h2, if_pos h1, if_pos (by omega)]
    · rw [if_neg h1]
      by_cases h2 : zmx (zcw A h) j < zcw A h j
      · rw [if_pos h2]; show (if zcw A h j ≤ zmx (zcw A h) j then _ else _) = _
        rw [if_neg (by omega), if_neg (by omega)]
      · rw [if_neg h2, if_neg h1]; show (if zcw A h j ≤ zmx (zcw A h) j then _ else _) = _
        rw [if_pos (by omega)]
theorem zfk_b (A : zA) : ∀ h, zfk A (12 * h) = zfb (zmost A) h
  | 0 => rfl
  | h + 1 => by
    rw [show 12 * (h + 1) = 12 * h + 12 by omega, zfk_h A h (zfk_b A h) 12 (Nat.le_refl _), zmost_r, zfb_s]
theorem zfk_le (A : zA) (hw : wf A) : ∀ k, (zfk A k).2 ≤ 6
  | 0 => Nat.zero_le _
  | k + 1 => by rw [zfk_s]; split; exact zfk_le A hw k; exact zcw_le A hw _ _
theorem sim_crowd (A : zA) (hw : wf A) : zSim A 114 224 [] := by
  have hP6 := wfP hw
  by_cases h0 : wP (aW A) = 0
  · exact sim_0 hw (.int (-4)) (fun f g h => by simp (disch := first | omega | assumption) only [x_114_0, x_114_20, x_114_30, e_114, nI_add, pk_mul, z_in, z_ix, nI_leI, nI_ltI, nI_eq, z_eq0, z_lt0, z_0le, z_0lt, z_le0, z_n9, z_n1, z_m1lt, z_m9lt, z_m9le, z_m1le, zB_0, zB_1, zz_bi_s, zz_bv_s, zz_bl_s, if_pos, if_neg, if_true, if_false, true_and, and_true, not_true_eq_false, not_false_eq_true, ite_self, cxP h, cxS h, cxB h, cxH h, cxD h, cxk h, cxr h, cxp h, cxd h, cxt h, cxa h, cxb h]) (fun f g h => by simp (disch := first | omega | assumption) only [x_224_0, x_224_35, x_224_51, x_224_64, e_224, nI_add, pk_mul, z_in, z_ix, nI_leI, nI_ltI, nI_eq, z_eq0, z_lt0, z_0le, z_0lt, z_le0, z_n9, z_n1, z_m1lt, z_m9lt, z_m9le, z_m1le, zB_0, zB_1, zz_bi_s, zz_bv_s, zz_bl_s, if_pos, if_neg, if_true, if_false, true_and, and_true, not_true_eq_false, not_false_eq_true, ite_self, cmP h, cmS h, cmB h, cmH h, cmD h, cmk h, cmr h, cmp h, cmd h, cmt h, cma h, cmb h, cm0 h])
  · refine sim_A hw (.int (nI (zfb (zmost A) 12).1)) (nI (zfb (zmost A) 12).2) (fun f g h => ⟨f, g, ?_, zXs_r⟩) (fun f g h => ⟨f, g, ?_, zMs_r⟩)
    · have h1 := (zfb_lt (m := zmost A) (n := 11)).2
      simp (disch := first | omega | assumption) only [x_114_0, x_114_20, x_114_30, e_114, nI_add, pk_mul, z_in, z_ix, nI_leI, nI_ltI, nI_eq, z_eq0, z_lt0, z_0le, z_0lt, z_le0, z_n9, z_n1, z_m1lt, z_m9lt, z_m9le, z_m1le, zB_0, zB_1, zz_bi_s, zz_bv_s, zz_bl_s, if_pos, if_neg, if_true, if_false, true_and, and_true, not_true_eq_false, not_false_eq_true, ite_self, cxP h, cxS h, cxB h, cxH h, cxD h, cxk h, cxr h, cxp h, cxd h, cxt h, cxa h, cxb h, l_115 hw h, l_116 hw h]
      rw [zfb_2]
    · simp (disch := first | omega | assumption) only [x_224_0, x_224_35, x_224_51, x_224_64, e_224, nI_add, pk_mul, z_in, z_ix, nI_leI, nI_ltI, nI_eq, z_eq0, z_lt0, z_0le, z_0lt, z_le0, z_n9, z_n1, z_m1lt, z_m9lt, z_m9le, z_m1le, zB_0, zB_1, zz_bi_s, zz_bv_s, zz_bl_s, if_pos, if_neg, if_true, if_false, true_and, and_true, not_true_eq_false, not_false_eq_true, ite_self, cmP h, cmS h, cmB h, cmH h, cmD h, cmk h, cmr h, cmp h, cmd h, cmt h, cma h, cmb h, cm0 h]
      refine (z_lp (fun i => zz_ev 224 16 [.ref 112, .int (nI (zfk A i).1), .int (nI (zfk A i).2), .int (nI i), .null] [] (zK f g)) 144 (fun i hi => ?_) 0 (by omega)).trans ?_
      · have h2 := zfk_le A hw i
        have h3 := zcw_le A hw (i / 12) (i % 12)
        show zz_ev 224 16 _ _ _ = zz_ev 224 16 _ _ _
        rw [x_224_16]; simp (disch := first | omega | assumption) only [nI_add, pk_mul, z_in, z_ix, nI_leI, nI_ltI, nI_eq, z_eq0, z_lt0, z_0le, z_0lt, z_le0, z_n9, z_n1, z_m1lt, z_m9lt, z_m9le, z_m1le, zB_0, zB_1, zz_bi_s, zz_bv_s, zz_bl_s, if_pos, if_neg, if_true, if_false, true_and, and_true, not_true_eq_false, not_false_eq_true, ite_self, z_rem, pk_div, l_225 hw h (n := i / 12) (r := i % 12) (by omega) (by omega), x_224_35, x_224_51, x_224_64]
        rw [zfk_s]
        by_cases e : zcw A (i / 12) (i % 12) ≤ (zfk A i).2
        · rw [if_pos e, if_pos e]; simp (disch := first | omega | assumption) only [hi_224_16, e, if_true]
        · rw [if_neg e, if_neg e]; simp (disch := first | omega | assumption) only [hi_224_16, e, if_false]
      · show zz_ev 224 16 _ _ _ = _
        have e : zfk A 144 = zfb (zmost A) 12 := zfk_b A 12
        rw [x_224_16, e]; simp (disch := first | omega | assumption) only [nI_add, pk_mul, z_in, z_ix, nI_leI, nI_ltI, nI_eq, z_eq0, z_lt0, z_0le, z_0lt, z_le0, z_n9, z_n1, z_m1lt, z_m9lt, z_m9le, z_m1le, zB_0, zB_1, zz_bi_s, zz_bv_s, zz_bl_s, if_pos, if_neg, if_true, if_false, true_and, and_true, not_true_eq_false, not_false_eq_true, ite_self]
/-! change -/
def zcg (A : zA) (p q : Nat) : Nat → Option Nat
  | 0 => none
  | v + 1 => match zcg A p q v with
    | none => if zmt A p v q = none then none else some v
    | some w => if zad v (hP (aH A) p) < zad w (hP (aH A) p) ∧ ¬ zmt A p v q = none then some v else some w
theorem zcg_s {A : zA} {p q v : Nat} : zcg A p q (v + 1) = match zcg A p q v with
    | none => if zmt A p v q = none then none else some v
    | some w => if zad v (hP (aH A) p) < zad w (hP (aH A) p) ∧ ¬ zmt A p v q = none then some v else some w := rfl
theorem zcg_sn {A : zA} {p q v : Nat} (e : zcg A p q v = none) : zcg A p q (v + 1) = if zmt A p v q = none then none else some v := by rw [zcg_s, e]
theorem zcg_ss {A : zA} {p q v w : Nat} (e : zcg A p q v = some w) : zcg A p q (v + 1) = if zad v (hP (aH A) p) < zad w (hP (aH A) p) ∧ ¬ zmt A p v q = none then some v else some w := by rw [zcg_s, e]
theorem zcg_lt {A : zA} {p q : Nat} : ∀ {v w : Nat}, zcg A p q v = some w → w < v
  | 0, w, h => by cases h
  | v + 1, w, h => by
    cases e : zcg A p q v with
    | none =>
      rw [zcg_sn e] at h
      split at h
      · cases h
      · cases h; omega
    | some u =>
      rw [zcg_ss e] at h
      have := zcg_lt e
      split at h <;> (cases h; omega)
def zc1 (o : Option Nat) (b d : Nat) : Nat := match o with
  | none => d
  | some w => zad w b
theorem zc1_n {b d : Nat} : zc1 none b d = d := rfl
theorem zc1_s {w b d : Nat} : zc1 (some w) b d = zad w b := rfl
theorem dI_n : dI none = -9 := rfl
theorem dI_s {n : Nat} : dI (some n) = nI n := rfl
theorem zmt_9 {A : zA} {p v q : Nat} : (dI (zmt A p v q) = -9) ↔ zmt A p v q = none := dI_9 (fun n h => zmt_lt h)
theorem l_118 {A : zA} (hw : wf A) {f : Nat → Nat → Int32} {g : Nat → Nat → Int64} (h : CX A f g) {p q : Nat} (hp : p < wP (aW A)) (hq : q < wP (aW A)) : zz_ca 118 [.ref 3, .int (nI p), .int (nI q)] (zK f g) = some (some (.int (dI (zcg A p q 10))), zK f g) := by
  have hP6 := wfP hw
  have hv := wfp hw hp
  rw [e_118, x_118_0]
  refine (z_lp (fun i => zz_ev 118 10 [.ref 3, .int (nI p), .int (nI q), .int (dI (zcg A p q i)), .int (nI (zc1 (zcg A p q i) (hP (aH A) p) 10)), .int (nI i), .null] [] (zK f g)) 10 (fun i hi => ?_) 0 (by omega)).trans ?_
  · show zz_ev 118 10 _ _ _ = zz_ev 118 10 _ _ _
    have hb : zad i (hP (aH A) p) < 10 := by unfold zad; omega
    have hc : zc1 (zcg A p q i) (hP (aH A) p) 10 ≤ 10 := by
      cases e : zcg A p q i with
      | none => exact Nat.le_refl _
      | some w => have := zcg_lt e; show zad w _ ≤ 10; unfold zad; omega
    rw [x_118_10]; simp (disch := first | omega | assumption) only [nI_add, pk_mul, z_in, z_ix, nI_leI, nI_ltI, nI_eq, z_eq0, z_lt0, z_0le, z_0lt, z_le0, z_n9, z_n1, z_m1lt, z_m9lt, z_m9le, z_m1le, zB_0, zB_1, zz_bi_s, zz_bv_s, zz_bl_s, if_pos, if_neg, if_true, if_false, true_and, and_true, not_true_eq_false, not_false_eq_true, ite_self, cxP h, cxS h, cxB h, cxH h, cxD h, cxk h, cxr h, cxp h, cxd h, cxt h, cxa h, cxb h, z_abs, l_113 hw h, x_118_46, x_118_58, zmt_9, hi_118_10]
    cases e : zcg A p q i with
    | none =>
      rw [zcg_sn e]
      by_cases e2 : zmt A p i q = none
      · rw [if_pos e2, if_pos e2, ite_self]
      · rw [if_neg e2, if_neg e2, zc1_n, zc1_s, dI_s, if_neg (by omega)]
    | some w =>
      rw [zcg_ss e, zc1_s]
      by_cases e2 : zmt A p i q = none
      · rw [if_neg (show ¬ (zad i (hP (aH A) p) < zad w (hP (aH A) p) ∧ ¬ zmt A p i q = none) from fun q => q.2 e2)]
        by_cases e3 : zad w (hP (aH A) p) ≤ zad i (hP (aH A) p)
        · rw [if_pos e3]; rfl
        · rw [if_neg e3, if_pos e2]; rfl
      · by_cases e3 : zad w (hP (aH A) p) ≤ zad i (hP (aH A) p)
        · rw [if_pos e3, if_neg (show ¬ (zad i (hP (aH A) p) < zad w (hP (aH A) p) ∧ ¬ zmt A p i q = none) from fun q => by omega)]; rfl
        · rw [if_neg e3, if_neg e2, if_pos ⟨by omega, e2⟩]; rfl
  · show zz_ev 118 10 _ _ _ = _
    rw [x_118_10]; simp (disch := first | omega | assumption) only [nI_add, pk_mul, z_in, z_ix, nI_leI, nI_ltI, nI_eq, z_eq0, z_lt0, z_0le, z_0lt, z_le0, z_n9, z_n1, z_m1lt, z_m9lt, z_m9le, z_m1le, zB_0, zB_1, zz_bi_s, zz_bv_s, zz_bl_s, if_pos, if_neg, if_true, if_false, true_and, and_true, not_true_eq_false, not_false_eq_true, ite_self]
def zc2 (o : Option Nat) (x : Int32) : Int32 := match o with
  | none => x
  | some w => nI w
theorem zc2_n {x : Int32} : zc2 none x = x := rfl
theorem zc2_s {w : Nat} {x : Int32} : zc2 (some w) x = nI w := rfl
theorem zu_u {α : Type} {f : Nat → Nat → α} {a i : Nat} {v w : α} : zz_u (zz_u f a i v) a i w = zz_u f a i w := by
  funext b j; unfold zz_u; split <;> rfl
theorem zu_self {α : Type} {f : Nat → Nat → α} {a i : Nat} {v : α} (h : f a i = v) : zz_u f a i v = f := by
  funext b j; unfold zz_u; split
  · rename_i q; rw [q.1, q.2, h]
  · rfl
theorem l_226 {A : zA} (hw : wf A) {f : Nat → Nat → Int32} {g : Nat → Nat → Int64} (h : CM A f g) {p q : Nat} (hp : p < wP (aW A)) (hq : q < wP (aW A)) : zz_ev 226 17 [.ref 112, .int (nI p), .int (nI q), .int (nI 99), .int (nI 0), .null, .null] [] (zK f g) = some (some (.int (match zcg A p q 10 with
    | none => -9
    | some w => nI (zad w (hP (aH A) p)))), zK (zz_u f 112 9 (zc2 (zcg A p q 10) (nA (aN A)))) g) := by
  have hP6 := wfP hw
  have hv := wfp hw hp
  have e0 : zz_u f 112 9 (zc2 (zcg A p q 0) (nA (aN A))) = f := zu_self h.1.2.1
  refine Eq.trans (show _ = zz_ev 226 17 [.ref 112, .int (nI p), .int (nI q), .int (nI (zc1 (zcg A p q 0) (hP (aH A) p) 99)), .int (nI 0), .null, .null] [] (zK (zz_u f 112 9 (zc2 (zcg A p q 0) (nA (aN A)))) g) by rw [e0]; rfl) ?_
  refine (z_lp (fun i => zz_ev 226 17 [.ref 112, .int (nI p), .int (nI q), .int (nI (zc1 (zcg A p q i) (hP (aH A) p) 99)), .int (nI i), .null, .null] [] (zK (zz_u f 112 9 (zc2 (zcg A p q i) (nA (aN A)))) g)) 10 (fun i hi => ?_) 0 (by omega)).trans ?_
  · show zz_ev 226 17 _ _ _ = zz_ev 226 17 _ _ _
    have hb : zad i (hP (aH A) p) < 10 := by unfold zad; omega
    have hc : zc1 (zcg A p q i) (hP (aH A) p) 99 ≤ 99 := by
      cases e : zcg A p q i with
      | none => exact Nat.le_refl _
      | some w => have := zcg_lt e; show zad w _ ≤ 99; unfold zad; omega
    have h' := CM_A hw h (zc2 (zcg A p q i) (nA (aN A)))
    have m1 : zz_u f 112 9 (zc2 (zcg A p q i) (nA (aN A))) 113 (21 + p) = nI (hP (aH A) p) := cmp h' hp
    have m2 : zz_ca 223 [.ref 112, .int (nI p), .int (nI i), .int (nI q)] (zK (zz_u f 112 9 (zc2 (zcg A p q i) (nA (aN A)))) g) = some (some (.int (dI (zmt A p i q))), zK (zz_u f 112 9 (zc2 (zcg A p q i) (nA (aN A)))) g) := l_223 (A := sA A (zc2 (zcg A p q i) (nA (aN A)))) hw h' hp hq hi
    have m3 : zz_ev 226 17 [.ref 112, .int (nI p), .int (nI q), .int (nI (zc1 (zcg A p q i) (hP (aH A) p) 99)), .int (nI i), .null, .null] [] (zK (zz_u f 112 9 (zc2 (zcg A p q i) (nA (aN A)))) g) = zz_ev 226 65 [.ref 112, .int (nI p), .int (nI q), .int (nI (zc1 (zcg A p q i) (hP (aH A) p) 99)), .int (nI i), .null, .null] [.int (nI (zad i (hP (aH A) p)))] (zK (zz_u f 112 9 (zc2 (zcg A p q i) (nA (aN A)))) g) := by
      rw [x_226_17]; simp (disch := first | omega | assumption) only [nI_add, pk_mul, z_in, z_ix, nI_leI, nI_ltI, nI_eq, z_eq0, z_lt0, z_0le, z_0lt, z_le0, z_n9, z_n1, z_m1lt, z_m9lt, z_m9le, z_m1le, zB_0, zB_1, zz_bi_s, zz_bv_s, zz_bl_s, if_pos, if_neg, if_true, if_false, true_and, and_true, not_true_eq_false, not_false_eq_true, ite_self, m1]
      by_cases e : hP (aH A) p ≤ i
      · rw [if_pos e, pk_sub e, show zad i (hP (aH A) p) = i - hP (aH A) p by unfold zad; omega]
      · rw [if_neg e, pk_sub (by omega), show zad i (hP (aH A) p) = hP (aH A) p - i by unfold zad; omega]
    rw [m3, x_226_65]; simp (disch := first | omega | assumption) only [nI_add, pk_mul, z_in, z_ix, nI_leI, nI_ltI, nI_eq, z_eq0, z_lt0, z_0le, z_0lt, z_le0, z_n9, z_n1, z_m1lt, z_m9lt, z_m9le, z_m1le, zB_0, zB_1, zz_bi_s, zz_bv_s, zz_bl_s, if_pos, if_neg, if_true, if_false, true_and, and_true, not_true_eq_false, not_false_eq_true, ite_self, m2, x_226_81, x_226_90, x_226_91, x_226_104, x_226_120, zmt_9, hi_226_17, zu_u, zu_s]
    cases e : zcg A p q i with
    | none =>
      rw [zcg_sn e]
      by_cases e2 : zmt A p i q = none
      · rw [if_pos e2, if_pos e2, ite_self]
      · rw [if_neg e2, if_neg e2, zc1_n, zc1_s, zc2_s, if_neg (by omega)]
    | some w =>
      rw [zcg_ss e, zc1_s]
      by_cases e2 : zmt A p i q = none
      · rw [if_neg (show ¬ (zad i (hP (aH A) p) < zad w (hP (aH A) p) ∧ ¬ zmt A p i q = none) from fun q => q.2 e2)]
        by_cases e3 : zad w (hP (aH A) p) ≤ zad i (hP (aH A) p)
        · rw [if_pos e3]; rfl
        · rw [if_neg e3, if_pos e2]; rfl
      · by_cases e3 : zad w (hP (aH A) p) ≤ zad i (hP (aH A) p)
        · rw [if_pos e3, if_neg (show ¬ (zad i (hP (aH A) p) < zad w (hP (aH A) p) ∧ ¬ zmt A p i q = none) from fun q => by omega)]; rfl
        · rw [if_neg e3, if_neg e2, if_pos ⟨by omega, e2⟩]; rfl
  · show zz_ev 226 17 _ _ _ = _
    rw [x_226_17]
    cases e : zcg A p q 10 with
    | none => simp (disch := first | omega | assumption) only [nI_add, pk_mul, z_in, z_ix, nI_leI, nI_ltI, nI_eq, z_eq0, z_lt0, z_0le, z_0lt, z_le0, z_n9, z_n1, z_m1lt, z_m9lt, z_m9le, z_m1le, zB_0, zB_1, zz_bi_s, zz_bv_s, zz_bl_s, if_pos, if_neg, if_true, if_false, true_and, and_true, not_true_eq_false, not_false_eq_true, ite_self, zc1_n, zc1_s]
    | some w =>
      have := zcg_lt e
      have hb : zad w (hP (aH A) p) < 10 := by unfold zad; omega
      simp (disch := first | omega | assumption) only [nI_add, pk_mul, z_in, z_ix, nI_leI, nI_ltI, nI_eq, z_eq0, z_lt0, z_0le, z_0lt, z_le0, z_n9, z_n1, z_m1lt, z_m9lt, z_m9le, z_m1le, zB_0, zB_1, zz_bi_s, zz_bv_s, zz_bl_s, if_pos, if_neg, if_true, if_false, true_and, and_true, not_true_eq_false, not_false_eq_true, ite_self, zc1_n, zc1_s]
theorem sim_change (A : zA) (hw : wf A) (v1 v2 : Int32) : zSim A 117 226 [.int v1, .int v2] := by
  have hP6 := wfP hw
  by_cases h1 : zz_in v1 (wP (aW A)) ∧ zz_in v2 (wP (aW A)) ∧ v1 ≠ v2
  · obtain ⟨p, hp, -, rfl⟩ := z_inx.mp h1.1
    obtain ⟨q, hq, -, rfl⟩ := z_inx.mp h1.2.1
    have hv := wfp hw hp
    cases hm : zcg A p q 10 with
    | none =>
      refine ⟨.int (-9), A, hw, fun f g h => ⟨f, g, ?_, h, zHi_r⟩, fun f g h => ⟨f, g, ?_, h, zLo_r⟩⟩
      · simp (disch := first | omega | assumption) only [x_117_0, x_117_6, x_117_20, e_117, z_101 (l_101 g _ _ (cxP h) hP6) h1, nI_add, pk_mul, z_in, z_ix, nI_leI, nI_ltI, nI_eq, z_eq0, z_lt0, z_0le, z_0lt, z_le0, z_n9, z_n1, z_m1lt, z_m9lt, z_m9le, z_m1le, zB_0, zB_1, zz_bi_s, zz_bv_s, zz_bl_s, if_pos, if_neg, if_true, if_false, true_and, and_true, not_true_eq_false, not_false_eq_true, ite_self, cxP h, cxS h, cxB h, cxH h, cxD h, cxk h, cxr h, cxp h, cxd h, cxt h, cxa h, cxb h, l_118 hw h, hm, dI_n]
      · simp (disch := first | omega | assumption) only [x_226_0, x_226_6, x_226_65, x_226_81, x_226_90, x_226_91, x_226_104, x_226_120, e_226, z_101 (l_215 g _ _ (cmP h) hP6) h1, nI_add, pk_mul, z_in, z_ix, nI_leI, nI_ltI, nI_eq, z_eq0, z_lt0, z_0le, z_0lt, z_le0, z_n9, z_n1, z_m1lt, z_m9lt, z_m9le, z_m1le, zB_0, zB_1, zz_bi_s, zz_bv_s, zz_bl_s, if_pos, if_neg, if_true, if_false, true_and, and_true, not_true_eq_false, not_false_eq_true, ite_self]
        rw [l_226 hw h hp hq, hm]; rw [zc2_n, zu_self h.1.2.1]
    | some w =>
      have hn := zcg_lt hm
      refine sim_A hw (.int (nI (zad w (hP (aH A) p)))) (nI w) (fun f g h => ⟨f, g, ?_, zXs_r⟩) (fun f g h => ⟨f, g, ?_, zMs_r⟩)
      · simp (disch := first | omega | assumption) only [x_117_0, x_117_6, x_117_20, e_117, z_101 (l_101 g _ _ (cxP h) hP6) h1, nI_add, pk_mul, z_in, z_ix, nI_leI, nI_ltI, nI_eq, z_eq0, z_lt0, z_0le, z_0lt, z_le0, z_n9, z_n1, z_m1lt, z_m9lt, z_m9le, z_m1le, zB_0, zB_1, zz_bi_s, zz_bv_s, zz_bl_s, if_pos, if_neg, if_true, if_false, true_and, and_true, not_true_eq_false, not_false_eq_true, ite_self, cxP h, cxS h, cxB h, cxH h, cxD h, cxk h, cxr h, cxp h, cxd h, cxt h, cxa h, cxb h, l_118 hw h, hm, dI_s, zu_c, z_abs]
      · simp (disch := first | omega | assumption) only [x_226_0, x_226_6, x_226_65, x_226_81, x_226_90, x_226_91, x_226_104, x_226_120, e_226, z_101 (l_215 g _ _ (cmP h) hP6) h1, nI_add, pk_mul, z_in, z_ix, nI_leI, nI_ltI, nI_eq, z_eq0, z_lt0, z_0le, z_0lt, z_le0, z_n9, z_n1, z_m1lt, z_m9lt, z_m9le, z_m1le, zB_0, zB_1, zz_bi_s, zz_bv_s, zz_bl_s, if_pos, if_neg, if_true, if_false, true_and, and_true, not_true_eq_false, not_false_eq_true, ite_self]
        rw [l_226 hw h hp hq, hm]; rfl
  · exact sim_0 hw (.int (-1)) (fun f g h => by simp (disch := first | omega | assumption) only [x_117_0, x_117_6, x_117_20, e_117, l_101 g _ _ (cxP h) hP6, nI_add, pk_mul, z_in, z_ix, nI_leI, nI_ltI, nI_eq, z_eq0, z_lt0, z_0le, z_0lt, z_le0, z_n9, z_n1, z_m1lt, z_m9lt, z_m9le, z_m1le, zB_0, zB_1, zz_bi_s, zz_bv_s, zz_bl_s, if_pos, if_neg, if_true, if_false, true_and, and_true, not_true_eq_false, not_false_eq_true, ite_self, h1]) (fun f g h => by simp (disch := first | omega | assumption) only [x_226_0, x_226_6, x_226_65, x_226_81, x_226_90, x_226_91, x_226_104, x_226_120, e_226, l_215 g _ _ (cmP h) hP6, nI_add, pk_mul, z_in, z_ix, nI_leI, nI_ltI, nI_eq, z_eq0, z_lt0, z_0le, z_0lt, z_le0, z_n9, z_n1, z_m1lt, z_m9lt, z_m9le, z_m1le, zB_0, zB_1, zz_bi_s, zz_bv_s, zz_bl_s, if_pos, if_neg, if_true, if_false, true_and, and_true, not_true_eq_false, not_false_eq_true, ite_self, h1])
