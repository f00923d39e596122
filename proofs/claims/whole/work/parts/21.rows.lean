/-! ROWS AND TEXTS -/
/-- the first n places of a cell anew -/
def zfl (f : Nat → Nat → Int32) (r n : Nat) (v : Int32) : Nat → Nat → Int32 := fun a i => if a = r ∧ i < n then v else f a i
theorem zfl_c {f : Nat → Nat → Int32} {r n a : Nat} {v : Int32} (h : a ≠ r) : zfl f r n v a = f a := by
  funext i; exact if_neg (fun q => h q.1)
theorem zfl_i {f : Nat → Nat → Int32} {r n i : Nat} {v : Int32} (h : i < n) : zfl f r n v r i = v := if_pos ⟨rfl, h⟩
theorem zfl_0 {f : Nat → Nat → Int32} {r : Nat} {v : Int32} : zfl f r 0 v = f := by
  funext a i; exact if_neg (fun q => by omega)
theorem zfl_u {f : Nat → Nat → Int32} {r n : Nat} {v : Int32} : zz_u (zfl f r n v) r n v = zfl f r (n + 1) v := by
  funext a i; unfold zz_u zfl
  by_cases h : a = r
  · subst h
    by_cases h2 : i = n
    · subst h2; simp
    · simp only [h2, and_false, if_false, true_and]
      by_cases h3 : i < n
      · rw [if_pos h3, if_pos (by omega)]
      · rw [if_neg h3, if_neg (by omega)]
  · simp [h]
theorem l_14 (f : Nat → Nat → Int32) (g : Nat → Nat → Int64) {r n : Nat} (hr : zs_I r n) (hn : n < 2 ^ 31) (v : Int32) : zz_ca 14 [.ref r, .int v] (zK f g) = some (none, zK (zfl f r n v) g) := by
  rw [e_14, x_14_0 _ _ _ _ hr]
  have h := z_lp (fun i => zz_ev 14 5 [.ref r, .int v, .int (nI i), .int (nI n)] [] (zK (zfl f r i v) g)) n (fun i hi => by
    show zz_ev 14 5 _ _ _ = zz_ev 14 5 _ _ _
    rw [x_14_5 _ _ _ _ _ _ hr]
    simp (disch := omega) only [nI_add, pk_mul, z_in, z_ix, nI_leI, nI_ltI, nI_eq, z_eq0, z_lt0, z_0le, z_0lt, z_le0, z_n9, z_n1, z_m1lt, z_m9lt, z_m9le, z_m1le, zB_0, zB_1, zz_bi_s, zz_bv_s, zz_bl_s, if_pos, if_neg, if_true, if_false, true_and, and_true, not_true_eq_false, not_false_eq_true, ite_self, zfl_u]) 0 (by omega)
  rw [zfl_0] at h
  refine h.trans ?_
  rw [x_14_5 _ _ _ _ _ _ hr]; simp (disch := omega) only [nI_add, pk_mul, z_in, z_ix, nI_leI, nI_ltI, nI_eq, z_eq0, z_lt0, z_0le, z_0lt, z_le0, z_n9, z_n1, z_m1lt, z_m9lt, z_m9le, z_m1le, zB_0, zB_1, zz_bi_s, zz_bv_s, zz_bl_s, if_pos, if_neg, if_true, if_false, true_and, and_true, not_true_eq_false, not_false_eq_true, ite_self]
theorem l_13 (f : Nat → Nat → Int32) (g : Nat → Nat → Int64) {r n : Nat} (hr : zs_S r n) (hn : n < 2 ^ 31) {m : Nat} (hm : m ≤ n) (v : Int32) : zz_ca 13 [.ref r, .int (nI m), .int v] (zK f g) = some (none, zK (zz_u (zfl f (r + 1) n v) r 1 (nI m)) g) := by
  rw [e_13, x_13_0 _ _ _ _ _ hr, l_14 _ _ hr.2 hn, zz_bv_s, x_13_8 _ _ _ _ _ hr]
  simp (disch := omega) only [nI_add, pk_mul, z_in, z_ix, nI_leI, nI_ltI, nI_eq, z_eq0, z_lt0, z_0le, z_0lt, z_le0, z_n9, z_n1, z_m1lt, z_m9lt, z_m9le, z_m1le, zB_0, zB_1, zz_bi_s, zz_bv_s, zz_bl_s, if_pos, if_neg, if_true, if_false, true_and, and_true, not_true_eq_false, not_false_eq_true, ite_self]
theorem l_17 (f : Nat → Nat → Int32) (g : Nat → Nat → Int64) {r n : Nat} (hr : zs_S r n) : zz_ca 17 [.ref r] (zK f g) = some (some (.int (zB (¬ f r 1 < 0))), zK f g) := by
  rw [e_17, x_17_0 _ _ _ hr]; unfold zB; split <;> rename_i h
  · rfl
  · rfl
theorem l_17r (f : Nat → Nat → Int32) (g : Nat → Nat → Int64) {r : Nat} (h : r < 6) : zz_ca 17 [.ref (56 + 2 * r)] (zK f g) = some (some (.int (zB (¬ f (56 + 2 * r) 1 < 0))), zK f g) := l_17 f g (zs_S_row r h)
theorem l_17t (f : Nat → Nat → Int32) (g : Nat → Nat → Int64) {r : Nat} (h : r < 4) : zz_ca 17 [.ref (68 + 2 * r)] (zK f g) = some (some (.int (zB (¬ f (68 + 2 * r) 1 < 0))), zK f g) := l_17 f g (zs_S_text r h)
theorem l_18 {f : Nat → Nat → Int32} {g : Nat → Nat → Int64} {r n m : Nat} (hr : zs_S r n) (v : Int32) (hs : f r 1 = nI m) (hm : m < 2 ^ 31) : zz_ca 18 [.ref r, .int v] (zK f g) = some (some (.int (zB (zz_in v m))), zK f g) := by
  rw [e_18, x_18_0 _ _ _ _ hr, x_18_16 _ _ _ _ hr, hs]; exact z_rngB hm
theorem zsz_lt {s : Int32} {n : Nat} (h : zsz s n) (hn : n < 2 ^ 31) : (s < 0 ∧ s = -1) ∨ ∃ m : Nat, m ≤ n ∧ s = nI m ∧ ¬ s < 0 := by
  rcases h with h | ⟨m, hm, h⟩
  · exact Or.inl ⟨by rw [h]; decide +kernel, h⟩
  · exact Or.inr ⟨m, hm, h, by rw [h]; exact nI_pos (by omega)⟩
/-- the finding for which a place is refused (0: none) -/
theorem l_16n {f : Nat → Nat → Int32} {g : Nat → Nat → Int64} {r n : Nat} (hr : zs_S r n) (v : Int32) (hs : f r 1 = -1) : zz_ca 16 [.ref r, .int v] (zK f g) = some (some (.int (nI 1)), zK f g) := by
  rw [e_16, x_16_0 _ _ _ _ hr, l_17 _ _ hr, zz_bi_s, x_16_4 _ _ _ _ _ hr, hs]; simp (disch := omega) only [nI_add, pk_mul, z_in, z_ix, nI_leI, nI_ltI, nI_eq, z_eq0, z_lt0, z_0le, z_0lt, z_le0, z_n9, z_n1, z_m1lt, z_m9lt, z_m9le, z_m1le, zB_0, zB_1, zz_bi_s, zz_bv_s, zz_bl_s, if_pos, if_neg, if_true, if_false, true_and, and_true, not_true_eq_false, not_false_eq_true, ite_self]
theorem l_16 {f : Nat → Nat → Int32} {g : Nat → Nat → Int64} {r n m : Nat} (hr : zs_S r n) (v : Int32) (hs : f r 1 = nI m) (hm : m < 2 ^ 31) : zz_ca 16 [.ref r, .int v] (zK f g) = some (some (.int (if zz_in v m then nI 0 else nI 2)), zK f g) := by
  rw [e_16, x_16_0 _ _ _ _ hr, l_17 _ _ hr, zz_bi_s, x_16_4 _ _ _ _ _ hr, l_18 hr v hs hm, zz_bi_s, x_16_14 _ _ _ _ _ hr, hs]
  simp (disch := omega) only [zB_0, z_lt0, not_false_eq_true, not_true_eq_false, if_false]
  split
  · rfl
  · rename_i h; rw [if_pos (Classical.not_not.mp h)]
theorem CX_R {A : zA} {f f' : Nat → Nat → Int32} {g : Nat → Nat → Int64} {R : zR} (h : CX A f g) (e : ∀ a, a < 56 ∨ 67 < a → f' a = f a) (hR : XR R f') : CX (sR A R) f' g :=
  ⟨XN_fr h.1 (e _ (by omega)) (e _ (by omega)) rfl, XH_fr h.2.1 (fun a h1 h2 => e a (by omega)), XK_fr h.2.2.1 (e _ (by omega)) (fun a h1 h2 => e a (by omega)), hR, XT_fr h.2.2.2.2 (fun a h1 h2 => e a (by omega))⟩
theorem CX_T {A : zA} {f f' : Nat → Nat → Int32} {g : Nat → Nat → Int64} {R : zR} (h : CX A f g) (e : ∀ a, a < 68 ∨ 75 < a → f' a = f a) (hR : XT R f') : CX (sT A R) f' g :=
  ⟨XN_fr h.1 (e _ (by omega)) (e _ (by omega)) rfl, XH_fr h.2.1 (fun a h1 h2 => e a (by omega)), XK_fr h.2.2.1 (e _ (by omega)) (fun a h1 h2 => e a (by omega)), XR_fr h.2.2.2.1 (fun a h1 h2 => e a (by omega)), hR⟩
theorem CM_R {A : zA} (hw : wf A) {f f' : Nat → Nat → Int32} {g : Nat → Nat → Int64} {R : zR} (h : CM A f g) (e : ∀ a, a ≠ 116 → a ≠ 117 → f' a = f a) (hR : MR R f') : CM (sR A R) f' g := by
  have e2 : ∀ j, f' 112 j = f 112 j := fun j => by rw [e 112 (by omega) (by omega)]
  have e3 : ∀ j, f' 113 j = f 113 j := fun j => by rw [e 113 (by omega) (by omega)]
  exact ⟨MN_fr h.1 (e2 _) (e2 _) (e2 _) (e _ (by omega) (by omega)) rfl, MW_fr h.2.1 (e2 _) (e2 _) (e _ (by omega) (by omega)) (e _ (by omega) (by omega)), MH_fr h.2.2.1 hw.2.2.1.1 hw.2.2.2.1.2.1 (fun j _ _ => e3 j), MK_fr h.2.2.2.1 hw.2.2.1.1 hw.2.2.2.2 (fun j _ _ => e3 j), hR, MT_fr h.2.2.2.2.2 (e _ (by omega) (by omega)) (e _ (by omega) (by omega))⟩
theorem CM_T {A : zA} (hw : wf A) {f f' : Nat → Nat → Int32} {g : Nat → Nat → Int64} {R : zR} (h : CM A f g) (e : ∀ a, a ≠ 118 → a ≠ 119 → f' a = f a) (hR : MT R f') : CM (sT A R) f' g := by
  have e2 : ∀ j, f' 112 j = f 112 j := fun j => by rw [e 112 (by omega) (by omega)]
  have e3 : ∀ j, f' 113 j = f 113 j := fun j => by rw [e 113 (by omega) (by omega)]
  exact ⟨MN_fr h.1 (e2 _) (e2 _) (e2 _) (e _ (by omega) (by omega)) rfl, MW_fr h.2.1 (e2 _) (e2 _) (e _ (by omega) (by omega)) (e _ (by omega) (by omega)), MH_fr h.2.2.1 hw.2.2.1.1 hw.2.2.2.1.2.1 (fun j _ _ => e3 j), MK_fr h.2.2.2.1 hw.2.2.1.1 hw.2.2.2.2 (fun j _ _ => e3 j), MR_fr h.2.2.2.2.1 (e _ (by omega) (by omega)) (e _ (by omega) (by omega)), hR⟩
/-- a row made anew -/
def rMk (R : zR) (r n : Nat) (v : Int32) : zR := (zup R.1 r (nI n), zup R.2 r (fun _ => v))
theorem XR_mk {R : zR} {f : Nat → Nat → Int32} (h : XR R f) {r n : Nat} (hr : r < 6) (v : Int32) : XR (rMk R r n v) (zz_u (zfl f (56 + 2 * r + 1) 40 v) (56 + 2 * r) 1 (nI n)) := by
  intro q hq
  by_cases e : q = r
  · subst e
    refine ⟨by rw [zu_s]; exact zup_s.symm, fun i hi => ?_⟩
    rw [zu_c (by omega), zfl_i hi]; show _ = zup R.2 q _ q i; rw [zup_s]
  · refine ⟨?_, fun i hi => ?_⟩
    · rw [zu_c (by omega), zfl_c (by omega)]; show _ = zup R.1 r _ q; rw [zup_n e]; exact (h q hq).1
    · rw [zu_c (by omega), zfl_c (by omega)]; show _ = zup R.2 r _ q i; rw [zup_n e]; exact (h q hq).2 i hi
theorem XT_mk {R : zR} {f : Nat → Nat → Int32} (h : XT R f) {r n : Nat} (hr : r < 4) (v : Int32) : XT (rMk R r n v) (zz_u (zfl f (68 + 2 * r + 1) 60 v) (68 + 2 * r) 1 (nI n)) := by
  intro q hq
  by_cases e : q = r
  · subst e
    refine ⟨by rw [zu_s]; exact zup_s.symm, fun i hi => ?_⟩
    rw [zu_c (by omega), zfl_i hi]; show _ = zup R.2 q _ q i; rw [zup_s]
  · refine ⟨?_, fun i hi => ?_⟩
    · rw [zu_c (by omega), zfl_c (by omega)]; show _ = zup R.1 r _ q; rw [zup_n e]; exact (h q hq).1
    · rw [zu_c (by omega), zfl_c (by omega)]; show _ = zup R.2 r _ q i; rw [zup_n e]; exact (h q hq).2 i hi
/-- a stretch of a cell anew -/
def zfs (f : Nat → Nat → Int32) (r o n : Nat) (v : Int32) : Nat → Nat → Int32 := fun a i => if a = r ∧ o ≤ i ∧ i < o + n then v else f a i
theorem zfs_c {f : Nat → Nat → Int32} {r o n a : Nat} {v : Int32} (h : a ≠ r) : zfs f r o n v a = f a := by
  funext i; exact if_neg (fun q => h q.1)
theorem zfs_0 {f : Nat → Nat → Int32} {r o : Nat} {v : Int32} : zfs f r o 0 v = f := by
  funext a i; exact if_neg (fun q => by omega)
theorem zfs_i {f : Nat → Nat → Int32} {r o n i : Nat} {v : Int32} (h : o ≤ i) (h2 : i < o + n) : zfs f r o n v r i = v := if_pos ⟨rfl, h, h2⟩
theorem zfs_o {f : Nat → Nat → Int32} {r o n i : Nat} {v : Int32} (h : i < o ∨ o + n ≤ i) : zfs f r o n v r i = f r i := if_neg (fun q => by omega)
theorem zfs_u {f : Nat → Nat → Int32} {r o n : Nat} {v : Int32} : zz_u (zfs f r o n v) r (o + n) v = zfs f r o (n + 1) v := by
  funext a i; unfold zz_u zfs
  by_cases h : a = r
  · subst h
    by_cases h2 : i = o + n
    · subst h2; simp
    · simp only [h2, and_false, if_false, true_and]
      by_cases h3 : o ≤ i ∧ i < o + n
      · rw [if_pos h3, if_pos (by omega)]
      · rw [if_neg h3, if_neg (by omega)]
  · simp [h]
theorem l_152 (f : Nat → Nat → Int32) (g : Nat → Nat → Int64) {r n : Nat} (hr : r < 6) : zz_ca 152 [.ref 112, .int (nI r), .int (nI n)] (zK f g) = some (none, zK (zfs (zz_u f 116 r (nI n)) 117 (40 * r) 40 (nI 0)) g) := by
  rw [e_152, x_152_0]; simp (disch := omega) only [nI_add, pk_mul, z_in, z_ix, nI_leI, nI_ltI, nI_eq, z_eq0, z_lt0, z_0le, z_0lt, z_le0, z_n9, z_n1, z_m1lt, z_m9lt, z_m9le, z_m1le, zB_0, zB_1, zz_bi_s, zz_bv_s, zz_bl_s, if_pos, if_neg, if_true, if_false, true_and, and_true, not_true_eq_false, not_false_eq_true, ite_self]
  have key : ∀ w, zz_ev 152 9 [.ref 112, .int (nI r), w, .int (nI 0)] [] (zK (zz_u f 116 r (nI n)) g) = some (none, zK (zfs (zz_u f 116 r (nI n)) 117 (40 * r) 40 (nI 0)) g) := by
    intro w
    rw [x_152_9]; simp (disch := omega) only [nI_add, pk_mul, z_in, z_ix, nI_leI, nI_ltI, nI_eq, z_eq0, z_lt0, z_0le, z_0lt, z_le0, z_n9, z_n1, z_m1lt, z_m9lt, z_m9le, z_m1le, zB_0, zB_1, zz_bi_s, zz_bv_s, zz_bl_s, if_pos, if_neg, if_true, if_false, true_and, and_true, not_true_eq_false, not_false_eq_true, ite_self]
    have h := z_lp (fun i => zz_ev 152 9 [.ref 112, .int (nI r), .null, .int (nI i)] [] (zK (zfs (zz_u f 116 r (nI n)) 117 (40 * r) i (nI 0)) g)) 40 (fun i hi => by
      show zz_ev 152 9 _ _ _ = zz_ev 152 9 _ _ _
      rw [x_152_9]
      simp (disch := omega) only [nI_add, pk_mul, z_in, z_ix, nI_leI, nI_ltI, nI_eq, z_eq0, z_lt0, z_0le, z_0lt, z_le0, z_n9, z_n1, z_m1lt, z_m9lt, z_m9le, z_m1le, zB_0, zB_1, zz_bi_s, zz_bv_s, zz_bl_s, if_pos, if_neg, if_true, if_false, true_and, and_true, not_true_eq_false, not_false_eq_true, ite_self, zfs_u]) 1 (by omega)
    rw [show zfs (zz_u f 116 r (nI n)) 117 (40 * r) 1 (nI 0) = zz_u (zz_u f 116 r (nI n)) 117 (40 * r + 0) (nI 0) by rw [← zfs_u, zfs_0]] at h
    refine h.trans ?_
    rw [x_152_9]; simp (disch := omega) only [nI_add, pk_mul, z_in, z_ix, nI_leI, nI_ltI, nI_eq, z_eq0, z_lt0, z_0le, z_0lt, z_le0, z_n9, z_n1, z_m1lt, z_m9lt, z_m9le, z_m1le, zB_0, zB_1, zz_bi_s, zz_bv_s, zz_bl_s, if_pos, if_neg, if_true, if_false, true_and, and_true, not_true_eq_false, not_false_eq_true, ite_self]
  exact key _
theorem MR_mk {R : zR} {f : Nat → Nat → Int32} (h : MR R f) {r n : Nat} (hr : r < 6) : MR (rMk R r n (nI 0)) (zfs (zz_u f 116 r (nI n)) 117 (40 * r) 40 (nI 0)) := by
  intro q hq
  rw [zfs_c (by omega), zu_if]
  by_cases e : q = r
  · subst e
    refine ⟨by rw [if_pos rfl]; exact zup_s.symm, fun i hi => ?_⟩
    rw [zfs_i (by omega) (by omega)]; show _ = zup R.2 q _ q i; rw [zup_s]
  · refine ⟨?_, fun i hi => ?_⟩
    · rw [if_neg e]; show _ = zup R.1 r _ q; rw [zup_n e]; exact (h q hq).1
    · rw [zfs_o (by omega), zu_c (by omega)]; show _ = zup R.2 r _ q i; rw [zup_n e]; exact (h q hq).2 i hi
theorem wfR_mk {R : zR} (h : wfR R) {r n : Nat} (hn : n ≤ 40) (v : Int32) : wfR (rMk R r n v) := by
  intro q hq
  show zsz (zup R.1 r (nI n) q) 40
  unfold zup; split
  · exact Or.inr ⟨n, hn, rfl⟩
  · exact h q hq
theorem wf_R {A : zA} (h : wf A) {R : zR} (hR : wfR R) : wf (sR A R) := ⟨hR, h.2⟩
theorem wf_T {A : zA} (h : wf A) {R : zR} (hR : wfT R) : wf (sT A R) := ⟨h.1, hR, h.2.2⟩
theorem z_le {x : Int32} {n : Nat} (hn : n < 2 ^ 31) (h0 : 0 ≤ x) (h : x ≤ nI n) : ∃ m : Nat, m ≤ n ∧ x = nI m := nI_of2 (nI_toInt hn) (fun q => by rw [Int32.lt_iff_toInt_lt] at q; rw [Int32.le_iff_toInt_le] at h0; omega) h
theorem sim_row (A : zA) (hw : wf A) (v1 v2 : Int32) : zSim A 10 148 [.int v1, .int v2] := by
  by_cases h1 : zz_in v1 6
  · obtain ⟨r, hr, -, rfl⟩ := z_inx.mp h1
    by_cases h2 : v2 ≤ nI 40
    · by_cases h3 : 0 ≤ v2
      · obtain ⟨n, hn, rfl⟩ := z_le (by decide) h3 h2
        refine ⟨.int (nI n), sR A (rMk (aR A) r n (nI 0)), wf_R hw (wfR_mk hw.1 hn _), fun f g h => ⟨zz_u (zfl f (56 + 2 * r + 1) 40 (nI 0)) (56 + 2 * r) 1 (nI n), g, ?_, ?_, ?_⟩, fun f g h => ⟨zfs (zz_u f 116 r (nI n)) 117 (40 * r) 40 (nI 0), g, ?_, ?_, ?_⟩⟩
        · simp (disch := first | omega | assumption) only [x_10_0, x_10_4, x_10_13, x_10_24, x_10_36, e_10, l_11, nI_add, pk_mul, z_in, z_ix, nI_leI, nI_ltI, nI_eq, z_eq0, z_lt0, z_0le, z_0lt, z_le0, z_n9, z_n1, z_m1lt, z_m9lt, z_m9le, z_m1le, zB_0, zB_1, zz_bi_s, zz_bv_s, zz_bl_s, if_pos, if_neg, if_true, if_false, true_and, and_true, not_true_eq_false, not_false_eq_true, ite_self, l_13 _ _ (zs_S_row r hr) (by decide)]
        · exact CX_R h (fun a ha => by rw [zu_c (by omega), zfl_c (by omega)]) (XR_mk h.2.2.2.1 hr _)
        · exact ⟨fun a ha => by rw [zu_c (by omega), zfl_c (by omega)], fun _ _ => rfl⟩
        · simp (disch := first | omega | assumption) only [x_148_0, x_148_4, x_148_13, x_148_24, x_148_31, e_148, l_149, nI_add, pk_mul, z_in, z_ix, nI_leI, nI_ltI, nI_eq, z_eq0, z_lt0, z_0le, z_0lt, z_le0, z_n9, z_n1, z_m1lt, z_m9lt, z_m9le, z_m1le, zB_0, zB_1, zz_bi_s, zz_bv_s, zz_bl_s, if_pos, if_neg, if_true, if_false, true_and, and_true, not_true_eq_false, not_false_eq_true, ite_self, l_152]
        · exact CM_R hw h (fun a h1 h2 => by rw [zfs_c h2, zu_c h1]) (MR_mk h.2.2.2.2.1 hr)
        · exact ⟨fun a ha => by rw [zfs_c (by omega), zu_c (by omega)], fun _ _ => rfl⟩
      · refine ⟨.int (-3), sF A 5, hw, fun f g h => ⟨_, g, ?_, CX_F h (w := 5) (by decide) (by decide), zHi_t (zHi_u (by decide)) (zHi_u (by decide))⟩, fun f g h => ⟨_, g, ?_, CM_F hw h (w := 5) (by decide) (by decide), zLo_t (zLo_u (by decide) (by decide)) (zLo_u (by decide) (by decide))⟩⟩
        · simp (disch := first | omega | assumption) only [x_10_0, x_10_4, x_10_13, x_10_24, x_10_36, e_10, l_11, nI_add, pk_mul, z_in, z_ix, nI_leI, nI_ltI, nI_eq, z_eq0, z_lt0, z_0le, z_0lt, z_le0, z_n9, z_n1, z_m1lt, z_m9lt, z_m9le, z_m1le, zB_0, zB_1, zz_bi_s, zz_bv_s, zz_bl_s, if_pos, if_neg, if_true, if_false, true_and, and_true, not_true_eq_false, not_false_eq_true, ite_self, h2, h3, l_12]
        · simp (disch := first | omega | assumption) only [x_148_0, x_148_4, x_148_13, x_148_24, x_148_31, e_148, l_149, nI_add, pk_mul, z_in, z_ix, nI_leI, nI_ltI, nI_eq, z_eq0, z_lt0, z_0le, z_0lt, z_le0, z_n9, z_n1, z_m1lt, z_m9lt, z_m9le, z_m1le, zB_0, zB_1, zz_bi_s, zz_bv_s, zz_bl_s, if_pos, if_neg, if_true, if_false, true_and, and_true, not_true_eq_false, not_false_eq_true, ite_self, h2, h3, l_151]
    · exact ⟨.int (-1), A, hw, fun f g h => ⟨f, g, by simp (disch := first | omega | assumption) only [x_10_0, x_10_4, x_10_13, x_10_24, x_10_36, e_10, l_11, nI_add, pk_mul, z_in, z_ix, nI_leI, nI_ltI, nI_eq, z_eq0, z_lt0, z_0le, z_0lt, z_le0, z_n9, z_n1, z_m1lt, z_m9lt, z_m9le, z_m1le, zB_0, zB_1, zz_bi_s, zz_bv_s, zz_bl_s, if_pos, if_neg, if_true, if_false, true_and, and_true, not_true_eq_false, not_false_eq_true, ite_self, h2], h, zHi_r⟩, fun f g h => ⟨f, g, by simp (disch := first | omega | assumption) only [x_148_0, x_148_4, x_148_13, x_148_24, x_148_31, e_148, l_149, nI_add, pk_mul, z_in, z_ix, nI_leI, nI_ltI, nI_eq, z_eq0, z_lt0, z_0le, z_0lt, z_le0, z_n9, z_n1, z_m1lt, z_m9lt, z_m9le, z_m1le, zB_0, zB_1, zz_bi_s, zz_bv_s, zz_bl_s, if_pos, if_neg, if_true, if_false, true_and, and_true, not_true_eq_false, not_false_eq_true, ite_self, h2], h, zLo_r⟩⟩
  · exact ⟨.int (-1), A, hw, fun f g h => ⟨f, g, by simp (disch := first | omega | assumption) only [x_10_0, x_10_4, x_10_13, x_10_24, x_10_36, e_10, l_11, nI_add, pk_mul, z_in, z_ix, nI_leI, nI_ltI, nI_eq, z_eq0, z_lt0, z_0le, z_0lt, z_le0, z_n9, z_n1, z_m1lt, z_m9lt, z_m9le, z_m1le, zB_0, zB_1, zz_bi_s, zz_bv_s, zz_bl_s, if_pos, if_neg, if_true, if_false, true_and, and_true, not_true_eq_false, not_false_eq_true, ite_self, h1], h, zHi_r⟩, fun f g h => ⟨f, g, by simp (disch := first | omega | assumption) only [x_148_0, x_148_4, x_148_13, x_148_24, x_148_31, e_148, l_149, nI_add, pk_mul, z_in, z_ix, nI_leI, nI_ltI, nI_eq, z_eq0, z_lt0, z_0le, z_0lt, z_le0, z_n9, z_n1, z_m1lt, z_m9lt, z_m9le, z_m1le, zB_0, zB_1, zz_bi_s, zz_bv_s, zz_bl_s, if_pos, if_neg, if_true, if_false, true_and, and_true, not_true_eq_false, not_false_eq_true, ite_self, h1], h, zLo_r⟩⟩
