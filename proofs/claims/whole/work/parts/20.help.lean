/-! SMALL CALLS -/
theorem z_rng {v : Int32} {n : Nat} (hn : n < 2 ^ 31) : (v < 0 ∨ nI n ≤ v) ↔ ¬ zz_in v n := by
  rw [Int32.lt_iff_toInt_lt, Int32.le_iff_toInt_le, nI_toInt hn]
  have h0 : (0 : Int32).toInt = 0 := by decide +kernel
  rw [h0]; unfold zz_in; omega
theorem z_rngB {v : Int32} {n : Nat} (hn : n < 2 ^ 31) {f : Nat → Nat → Int32} {g : Nat → Nat → Int64} : (if v < 0 then some (some (Value.int (nI 0)), zK f g) else if nI n ≤ v then some (some (Value.int (nI 0)), zK f g) else some (some (Value.int (nI 1)), zK f g)) = some (some (Value.int (zB (zz_in v n))), zK f g) := by
  have h := z_rng (v := v) hn
  by_cases h1 : v < 0
  · rw [if_pos h1, zB_f (h.mp (Or.inl h1))]
  · rw [if_neg h1]
    by_cases h2 : nI n ≤ v
    · rw [if_pos h2, zB_f (h.mp (Or.inr h2))]
    · rw [if_neg h2, zB_t]
      by_cases h3 : zz_in v n
      · exact h3
      · rcases h.mpr h3 with q | q
        · exact absurd q h1
        · exact absurd q h2
theorem l_11 (f : Nat → Nat → Int32) (g : Nat → Nat → Int64) (v : Int32) : zz_ca 11 [.int v] (zK f g) = some (some (.int (zB (zz_in v 6))), zK f g) := by
  rw [e_11, x_11_0, x_11_14]; exact z_rngB (by decide)
theorem l_27 (f : Nat → Nat → Int32) (g : Nat → Nat → Int64) (v : Int32) : zz_ca 27 [.int v] (zK f g) = some (some (.int (zB (zz_in v 4))), zK f g) := by
  rw [e_27, x_27_0, x_27_13]; exact z_rngB (by decide)
theorem l_35 (f : Nat → Nat → Int32) (g : Nat → Nat → Int64) (v : Int32) : zz_ca 35 [.int v] (zK f g) = some (some (.int (zB (zz_in v 12))), zK f g) := by
  rw [e_35, x_35_0, x_35_14]; exact z_rngB (by decide)
theorem l_80 (f : Nat → Nat → Int32) (g : Nat → Nat → Int64) (v : Int32) : zz_ca 80 [.int v] (zK f g) = some (some (.int (zB (zz_in v 3))), zK f g) := by
  rw [e_80, x_80_0, x_80_13]; exact z_rngB (by decide)
theorem l_46 {f : Nat → Nat → Int32} (g : Nat → Nat → Int64) (v : Int32) {P : Nat} (hP : f 3 0 = nI P) (h6 : P ≤ 6) : zz_ca 46 [.ref 0, .int v] (zK f g) = some (some (.int (zB (zz_in v P))), zK f g) := by
  rw [e_46, x_46_0, x_46_19, hP]; exact z_rngB (by omega)
/-- longs of a small range -/
theorem z_in64 {v : Int32} {n : Nat} (hn : n < 2 ^ 31) : (0 ≤ v.toInt64 ∧ v.toInt64 ≤ lN n) ↔ zz_in v (n + 1) := by
  rw [Int64.le_iff_toInt_le, Int64.le_iff_toInt_le, Int32.toInt_toInt64, lN_toInt hn]
  have h0 : (0 : Int64).toInt = 0 := by decide +kernel
  rw [h0]; unfold zz_in; omega
theorem lgc_lt {x y : Int64} : (lg_cmp x y < 0) ↔ x < y := by
  unfold lg_cmp
  split
  · rename_i h; constructor
    · intro q; exact absurd q (by decide)
    · intro q; rw [Int64.lt_iff_toInt_lt] at q; rw [gt_iff_lt, Int64.lt_iff_toInt_lt] at h; omega
  · split
    · rename_i h; subst h; constructor
      · intro q; exact absurd q (by decide)
      · intro q; rw [Int64.lt_iff_toInt_lt] at q; omega
    · rename_i h1 h2; constructor
      · intro _; rw [gt_iff_lt, Int64.lt_iff_toInt_lt] at h1; rw [← Int64.toInt_inj] at h2; rw [Int64.lt_iff_toInt_lt]; omega
      · intro _; decide
theorem lgc_gt {x y : Int64} : (0 < lg_cmp x y) ↔ y < x := by
  unfold lg_cmp
  split
  · rename_i h; constructor
    · intro q; exact h
    · intro q; decide
  · split
    · rename_i h; subst h; constructor
      · intro q; exact absurd q (by decide)
      · intro q; rw [Int64.lt_iff_toInt_lt] at q; omega
    · rename_i h1 h2; constructor
      · intro q; exact absurd q (by decide)
      · intro q; exact absurd q h1
theorem lgc_eq {x y : Int64} : (lg_cmp x y = 0) ↔ x = y := by
  unfold lg_cmp
  split
  · rename_i h; constructor
    · intro q; exact absurd q (by decide)
    · intro q; subst q; rw [gt_iff_lt, Int64.lt_iff_toInt_lt] at h; omega
  · split
    · rename_i h; exact ⟨fun _ => h, fun _ => rfl⟩
    · rename_i h1 h2; exact ⟨fun q => absurd q (by decide), fun q => absurd q h2⟩
theorem l_150 (f : Nat → Nat → Int32) (g : Nat → Nat → Int64) (v a b : Int64) : zz_ca 150 [.long v, .long a, .long b] (zK f g) = some (some (.int (zB (a ≤ v ∧ v ≤ b))), zK f g) := by
  rw [e_150, x_150_0, x_150_17]
  simp only [lgc_lt, lgc_gt]
  by_cases h1 : v < a
  · rw [if_pos h1, zB_f]; intro q; rw [Int64.lt_iff_toInt_lt] at h1; rw [Int64.le_iff_toInt_le] at q; omega
  · rw [if_neg h1]
    by_cases h2 : b < v
    · rw [if_pos h2, zB_f]; intro q; rw [Int64.lt_iff_toInt_lt] at h2; rw [Int64.le_iff_toInt_le, Int64.le_iff_toInt_le] at q; omega
    · rw [if_neg h2, zB_t]
      rw [Int64.lt_iff_toInt_lt] at h1 h2
      rw [Int64.le_iff_toInt_le, Int64.le_iff_toInt_le]; omega
/-- v of 0 .. n - 1, asked in longs -/
theorem l_150n (f : Nat → Nat → Int32) (g : Nat → Nat → Int64) (v : Int32) {n : Nat} (hn : n < 2 ^ 31) : zz_ca 150 [.long v.toInt64, .long 0, .long (lN n)] (zK f g) = some (some (.int (zB (zz_in v (n + 1)))), zK f g) := by
  rw [l_150, zB_c (z_in64 hn)]
theorem z_m1n {n : Nat} (hn : n < 2 ^ 31) : (nI n - nI 1).toInt64.toInt = (n : Int) - 1 := by
  rw [Int32.toInt_toInt64, Int32.toInt_sub, nI_toInt hn, nI_toInt (by decide)]
  exact Int.bmod_eq_of_le (by omega) (by omega)
theorem l_150p (f : Nat → Nat → Int32) (g : Nat → Nat → Int64) (v : Int32) {n : Nat} (hn : n < 2 ^ 31) : zz_ca 150 [.long v.toInt64, .long 0, .long (nI n - nI 1).toInt64] (zK f g) = some (some (.int (zB (zz_in v n))), zK f g) := by
  rw [l_150]
  refine congrArg (fun x => some (some (Value.int x), zK f g)) (zB_c ?_)
  rw [Int64.le_iff_toInt_le, Int64.le_iff_toInt_le, Int32.toInt_toInt64, z_m1n hn]
  have h0 : (0 : Int64).toInt = 0 := by decide +kernel
  rw [h0]; unfold zz_in; omega
theorem l_149 (f : Nat → Nat → Int32) (g : Nat → Nat → Int64) (v : Int32) : zz_ca 149 [.int v] (zK f g) = some (some (.int (zB (zz_in v 6))), zK f g) := by
  rw [e_149, x_149_0, l_150n _ _ _ (by decide), zz_bi_s, x_149_9 _ _ _ _ zB_bz]
theorem l_162 (f : Nat → Nat → Int32) (g : Nat → Nat → Int64) (v : Int32) : zz_ca 162 [.int v] (zK f g) = some (some (.int (zB (zz_in v 4))), zK f g) := by
  rw [e_162, x_162_0, l_150n _ _ _ (by decide), zz_bi_s, x_162_9 _ _ _ _ zB_bz]
theorem l_182 (f : Nat → Nat → Int32) (g : Nat → Nat → Int64) (v : Int32) : zz_ca 182 [.int v] (zK f g) = some (some (.int (zB (zz_in v 12))), zK f g) := by
  rw [e_182, x_182_0, l_150n _ _ _ (by decide), zz_bi_s, x_182_9 _ _ _ _ zB_bz]
theorem l_176 {f : Nat → Nat → Int32} (g : Nat → Nat → Int64) (v : Int32) {P : Nat} (hP : f 112 1 = nI P) (h6 : P ≤ 6) : zz_ca 176 [.ref 112, .int v] (zK f g) = some (some (.int (zB (zz_in v P))), zK f g) := by
  rw [e_176, x_176_0, hP, l_150p _ _ _ (by omega), zz_bi_s, x_176_13 _ _ _ _ zB_bz]
theorem l_101 {f : Nat → Nat → Int32} (g : Nat → Nat → Int64) (v w : Int32) {P : Nat} (hP : f 3 0 = nI P) (h6 : P ≤ 6) : zz_ca 101 [.ref 0, .int v, .int w] (zK f g) = some (some (.int (zB (zz_in v P ∧ zz_in w P ∧ v ≠ w))), zK f g) := by
  rw [e_101, x_101_0, l_46 g v hP h6, zz_bi_s, x_101_5, x_101_25, l_46 g w hP h6, zz_bi_s, x_101_13, x_101_25]
  simp only [zB_0]
  by_cases h1 : zz_in v P
  · rw [if_neg (fun q => q h1)]
    by_cases h2 : zz_in w P
    · rw [if_neg (fun q => q h2)]
      by_cases h3 : v = w
      · rw [if_pos h3, zB_f (fun q => q.2.2 h3)]
      · rw [if_neg h3, zB_t ⟨h1, h2, h3⟩]
    · rw [if_pos h2, zB_f (fun q => h2 q.2.1)]
  · rw [if_pos h1, zB_f (fun q => h1 q.1)]
theorem l_215 {f : Nat → Nat → Int32} (g : Nat → Nat → Int64) (v w : Int32) {P : Nat} (hP : f 112 1 = nI P) (h6 : P ≤ 6) : zz_ca 215 [.ref 112, .int v, .int w] (zK f g) = some (some (.int (zB (zz_in v P ∧ zz_in w P ∧ v ≠ w))), zK f g) := by
  rw [e_215, x_215_0, l_176 g v hP h6, zz_bi_s, x_215_5, x_215_25, l_176 g w hP h6, zz_bi_s, x_215_13, x_215_25]
  simp only [zB_0]
  by_cases h1 : zz_in v P
  · rw [if_neg (fun q => q h1)]
    by_cases h2 : zz_in w P
    · rw [if_neg (fun q => q h2)]
      by_cases h3 : v = w
      · rw [if_pos h3, zB_f (fun q => q.2.2 h3)]
      · rw [if_neg h3, zB_t ⟨h1, h2, h3⟩]
    · rw [if_pos h2, zB_f (fun q => h2 q.2.1)]
  · rw [if_pos h1, zB_f (fun q => h1 q.1)]
/-! bits, kinds -/
theorem l_38 (f : Nat → Nat → Int32) (g : Nat → Nat → Int64) {a k : Nat} (ha : a < 2 ^ 31) (hk : k < 32) : zz_ca 38 [.int (nI a), .int (nI k)] (zK f g) = some (some (.int (zB (a.testBit k = true))), zK f g) := by
  rw [e_38, x_38_0]; simp only [z_hasb ha hk, zB]; split <;> rfl
theorem l_171 (f : Nat → Nat → Int32) (g : Nat → Nat → Int64) {a k : Nat} (ha : a < 2 ^ 31) (hk : k < 32) : zz_ca 171 [.int (nI a), .int (nI k)] (zK f g) = some (some (.int (zB (a.testBit k = true))), zK f g) := by
  rw [e_171, x_171_0]; simp only [z_hasb ha hk, zB]; split <;> rfl
theorem l_61 (f : Nat → Nat → Int32) (g : Nat → Nat → Int64) {s : Nat} (hs : s < 4096) : zz_ca 61 [.int (nI s)] (zK f g) = some (some (.int (nI (zpc 12 s))), zK f g) := by
  rw [e_61, x_61_0]; rw [← zbc_eq hs]; rfl
theorem z_lp {R : Type} (E : Nat → R) (N : Nat) (hs : ∀ i, i < N → E i = E (i + 1)) : ∀ i, i ≤ N → E i = E N := by
  intro i hi
  induction h : N - i generalizing i with
  | zero => have : i = N := by omega
            rw [this]
  | succ n ih => rw [hs i (by omega)]; exact ih (i + 1) (by omega) (by omega)
theorem l_191 (f : Nat → Nat → Int32) (g : Nat → Nat → Int64) {s : Nat} (hs : s < 4096) : zz_ca 191 [.int (nI s)] (zK f g) = some (some (.int (nI (zpc 12 s))), zK f g) := by
  rw [e_191, x_191_0]
  have h := z_lp (fun i => zz_ev 191 4 [.int (nI s), .int (nI (zpc i s)), .int (nI i)] [] (zK f g)) 12 (fun i hi => by
    show zz_ev 191 4 _ _ _ = zz_ev 191 4 _ _ _
    rw [x_191_4, z_bit (by omega) (by omega)]
    simp (disch := omega) only [nI_add, pk_mul, z_in, z_ix, nI_leI, nI_ltI, nI_eq, z_eq0, z_lt0, z_0le, z_0lt, z_le0, z_n9, z_n1, z_m1lt, z_m9lt, z_m9le, z_m1le, zB_0, zB_1, zz_bi_s, zz_bv_s, zz_bl_s, if_pos, if_neg, if_true, if_false, true_and, and_true, not_true_eq_false, not_false_eq_true, ite_self]
    rfl) 0 (by omega)
  refine h.trans ?_
  show zz_ev 191 4 _ _ _ = _
  rw [x_191_4]; simp (disch := omega) only [nI_add, pk_mul, z_in, z_ix, nI_leI, nI_ltI, nI_eq, z_eq0, z_lt0, z_0le, z_0lt, z_le0, z_n9, z_n1, z_m1lt, z_m9lt, z_m9le, z_m1le, zB_0, zB_1, zz_bi_s, zz_bv_s, zz_bl_s, if_pos, if_neg, if_true, if_false, true_and, and_true, not_true_eq_false, not_false_eq_true, ite_self]
/-- is of a kind -/
def zOf (a b : Nat) : Prop := a = b ∨ (b = 1 ∧ a = 4) ∨ (b = 2 ∧ a = 5)
def zOfd (a b : Nat) : Decidable (zOf a b) := inferInstanceAs (Decidable (a = b ∨ (b = 1 ∧ a = 4) ∨ (b = 2 ∧ a = 5)))
theorem l_52 (f : Nat → Nat → Int32) (g : Nat → Nat → Int64) {a b : Nat} (ha : a < 2 ^ 31) (hb : b < 2 ^ 31) : zz_ca 52 [.int (nI a), .int (nI b)] (zK f g) = some (some (.int (zB (a = b ∨ (b = 1 ∧ a = 4) ∨ (b = 2 ∧ a = 5)))), zK f g) := by
  rw [e_52, x_52_0, x_52_25, x_52_15, x_52_25, x_52_29]
  simp (disch := omega) only [nI_eq]
  unfold zB
  split <;> split <;> (try split) <;> (try split) <;> (try split) <;> (try omega) <;> first | rfl | (exfalso; omega)
theorem l_180 {f : Nat → Nat → Int32} (g : Nat → Nat → Int64) {p k : Nat} (hp : p < 6) (hk : f 114 p = nI k) (hk6 : k < 6) : zz_ca 180 [.ref 112, .int (nI p)] (zK f g) = some (some (.int (zB (k = 1 ∨ k = 4))), zK f g) := by
  rw [e_180, x_180_0, x_180_20]
  simp (disch := omega) only [nI_add, pk_mul, z_in, z_ix, nI_leI, nI_ltI, nI_eq, z_eq0, z_lt0, z_0le, z_0lt, z_le0, z_n9, z_n1, z_m1lt, z_m9lt, z_m9le, z_m1le, zB_0, zB_1, zz_bi_s, zz_bv_s, zz_bl_s, if_pos, if_neg, if_true, if_false, true_and, and_true, not_true_eq_false, not_false_eq_true, ite_self, hk]
  unfold zB
  split <;> (try split) <;> first | rfl | (split <;> first | rfl | omega) | omega
theorem l_184 {f : Nat → Nat → Int32} (g : Nat → Nat → Int64) {p k b : Nat} (hp : p < 6) (hk : f 114 p = nI k) (hk6 : k < 6) (hb : b < 2 ^ 31) : zz_ca 184 [.ref 112, .int (nI p), .int (nI b)] (zK f g) = some (some (.int (zB (k = b ∨ (b = 1 ∧ k = 4) ∨ (b = 2 ∧ k = 5)))), zK f g) := by
  rw [e_184, x_184_0, x_184_40, x_184_25, x_184_40, x_184_44]
  simp (disch := omega) only [nI_add, pk_mul, z_in, z_ix, nI_leI, nI_ltI, nI_eq, z_eq0, z_lt0, z_0le, z_0lt, z_le0, z_n9, z_n1, z_m1lt, z_m9lt, z_m9le, z_m1le, zB_0, zB_1, zz_bi_s, zz_bv_s, zz_bl_s, if_pos, if_neg, if_true, if_false, true_and, and_true, not_true_eq_false, not_false_eq_true, ite_self, hk]
  unfold zB
  split <;> split <;> (try split) <;> (try split) <;> (try split) <;> (try omega) <;> first | rfl | (exfalso; omega)
/-! findings, what is told -/
theorem l_12 (f : Nat → Nat → Int32) (g : Nat → Nat → Int64) {w : Nat} (h1 : 1 ≤ w) (h5 : w ≤ 5) : zz_ca 12 [.ref 0, .int (nI w)] (zK f g) = some (some (.int (-3)), zK (zz_u (zz_u f 0 12 (nI w)) 55 w (f 55 w + nI 1)) g) := by
  rw [e_12, x_12_0]
  simp (disch := omega) only [nI_add, pk_mul, z_in, z_ix, nI_leI, nI_ltI, nI_eq, z_eq0, z_lt0, z_0le, z_0lt, z_le0, z_n9, z_n1, z_m1lt, z_m9lt, z_m9le, z_m1le, zB_0, zB_1, zz_bi_s, zz_bv_s, zz_bl_s, if_pos, if_neg, if_true, if_false, true_and, and_true, not_true_eq_false, not_false_eq_true, ite_self]
  rw [x_12_25, zu_c (by omega)]
theorem l_151 (f : Nat → Nat → Int32) (g : Nat → Nat → Int64) {w : Nat} (h1 : 1 ≤ w) (h5 : w ≤ 5) : zz_ca 151 [.ref 112, .int (nI w)] (zK f g) = some (some (.int (-3)), zK (zz_u (zz_u f 112 12 (nI w)) 120 w (f 120 w + nI 1)) g) := by
  rw [e_151, x_151_0]
  simp (disch := omega) only [nI_add, pk_mul, z_in, z_ix, nI_leI, nI_ltI, nI_eq, z_eq0, z_lt0, z_0le, z_0lt, z_le0, z_n9, z_n1, z_m1lt, z_m9lt, z_m9le, z_m1le, zB_0, zB_1, zz_bi_s, zz_bv_s, zz_bl_s, if_pos, if_neg, if_true, if_false, true_and, and_true, not_true_eq_false, not_false_eq_true, ite_self]
  rw [zu_c (by omega)]
theorem l_19 (f : Nat → Nat → Int32) (g : Nat → Nat → Int64) (v : Int32) : zz_ca 19 [.ref 0, .int v] (zK f g) = some (some (.int (nI 1)), zK (zz_u f 0 13 v) g) := by rw [e_19, x_19_0]
theorem l_155 (f : Nat → Nat → Int32) (g : Nat → Nat → Int64) (v : Int32) : zz_ca 155 [.ref 112, .int v] (zK f g) = some (some (.int (nI 1)), zK (zz_u f 112 9 v) g) := by rw [e_155, x_155_0]
theorem CX_F {A : zA} {f : Nat → Nat → Int32} {g : Nat → Nat → Int64} (h : CX A f g) {w : Nat} (h1 : 1 ≤ w) (h5 : w ≤ 5) : CX (sF A w) (zz_u (zz_u f 0 12 (nI w)) 55 w (f 55 w + nI 1)) g := by
  have e : ∀ a, a ≠ 0 → a ≠ 55 → zz_u (zz_u f 0 12 (nI w)) 55 w (f 55 w + nI 1) a = f a := fun a h1 h2 => by rw [zu_c h2, zu_c h1]
  obtain ⟨⟨n1, n2, n3, n4, n5⟩, h2, h3, h4, h5'⟩ := h
  refine ⟨⟨?_, ?_, n3, n4, fun i hi => ?_⟩, XH_fr h2 (fun a h1 h2 => e a (by omega) (by omega)), XK_fr h3 (e 16 (by omega) (by omega)) (fun a h1 h2 => e a (by omega) (by omega)), XR_fr h4 (fun a h1 h2 => e a (by omega) (by omega)), XT_fr h5' (fun a h1 h2 => e a (by omega) (by omega))⟩
  · rw [zu_c (by omega), zu_s]; rfl
  · rw [zu_c (by omega), zu_i (by omega)]; exact n2
  · rw [zu_if, n5 w (by omega)]
    show _ = (zup (nC (aN A)) w (nC (aN A) w + nI 1)) i
    unfold zup
    split
    · rfl
    · rw [zu_c (by omega)]; exact n5 i hi
theorem CM_F {A : zA} (hw : wf A) {f : Nat → Nat → Int32} {g : Nat → Nat → Int64} (h : CM A f g) {w : Nat} (h1 : 1 ≤ w) (h5 : w ≤ 5) : CM (sF A w) (zz_u (zz_u f 112 12 (nI w)) 120 w (f 120 w + nI 1)) g := by
  have e : ∀ a, a ≠ 112 → a ≠ 120 → zz_u (zz_u f 112 12 (nI w)) 120 w (f 120 w + nI 1) a = f a := fun a h1 h2 => by rw [zu_c h2, zu_c h1]
  have e2 : ∀ j, j ≠ 12 → zz_u (zz_u f 112 12 (nI w)) 120 w (f 120 w + nI 1) 112 j = f 112 j := fun j hj => by rw [zu_c (by omega), zu_i hj]
  obtain ⟨⟨n1, n2, n3, n4, n5, n6⟩, h2, h3, h4, h5', h6⟩ := h
  refine ⟨⟨?_, (e2 9 (by omega)).trans n2, (e2 22 (by omega)).trans n3, n4, n5, fun i hi => ?_⟩, MW_fr h2 (e2 1 (by omega)) (e2 3 (by omega)) (e _ (by omega) (by omega)) (e _ (by omega) (by omega)), MH_fr h3 hw.2.2.1.1 hw.2.2.2.1.2.1 (fun j _ _ => by rw [e _ (by omega) (by omega)]), MK_fr h4 hw.2.2.1.1 hw.2.2.2.2 (fun j _ _ => by rw [e _ (by omega) (by omega)]), MR_fr h5' (e _ (by omega) (by omega)) (e _ (by omega) (by omega)), MT_fr h6 (e _ (by omega) (by omega)) (e _ (by omega) (by omega))⟩
  · rw [zu_c (by omega), zu_s]; rfl
  · rw [zu_if, n6 w (by omega)]
    show _ = (zup (nC (aN A)) w (nC (aN A) w + nI 1)) i
    unfold zup
    split
    · rfl
    · rw [zu_c (by omega)]; exact n6 i hi
theorem CX_A {A : zA} {f : Nat → Nat → Int32} {g : Nat → Nat → Int64} (h : CX A f g) (v : Int32) : CX (sA A v) (zz_u f 0 13 v) g := by
  have e : ∀ a, a ≠ 0 → zz_u f 0 13 v a = f a := fun a h1 => zu_c h1
  obtain ⟨⟨n1, n2, n3, n4, n5⟩, h2, h3, h4, h5'⟩ := h
  refine ⟨⟨?_, zu_s, n3, n4, fun i hi => ?_⟩, XH_fr h2 (fun a h1 h2 => e a (by omega)), XK_fr h3 (e 16 (by omega)) (fun a h1 h2 => e a (by omega)), XR_fr h4 (fun a h1 h2 => e a (by omega)), XT_fr h5' (fun a h1 h2 => e a (by omega))⟩
  · rw [zu_i (by omega)]; exact n1
  · rw [e _ (by omega)]; exact n5 i hi
theorem CM_A {A : zA} (hw : wf A) {f : Nat → Nat → Int32} {g : Nat → Nat → Int64} (h : CM A f g) (v : Int32) : CM (sA A v) (zz_u f 112 9 v) g := by
  have e : ∀ a, a ≠ 112 → zz_u f 112 9 v a = f a := fun a h1 => zu_c h1
  have e2 : ∀ j, j ≠ 9 → zz_u f 112 9 v 112 j = f 112 j := fun j hj => zu_i hj
  obtain ⟨⟨n1, n2, n3, n4, n5, n6⟩, h2, h3, h4, h5', h6⟩ := h
  refine ⟨⟨(e2 12 (by omega)).trans n1, zu_s, (e2 22 (by omega)).trans n3, n4, n5, fun i hi => by rw [e _ (by omega)]; exact n6 i hi⟩, MW_fr h2 (e2 1 (by omega)) (e2 3 (by omega)) (e _ (by omega)) (e _ (by omega)), MH_fr h3 hw.2.2.1.1 hw.2.2.2.1.2.1 (fun j _ _ => by rw [e _ (by omega)]), MK_fr h4 hw.2.2.1.1 hw.2.2.2.2 (fun j _ _ => by rw [e _ (by omega)]), MR_fr h5' (e _ (by omega)) (e _ (by omega)), MT_fr h6 (e _ (by omega)) (e _ (by omega))⟩
theorem CX_U {A : zA} {f : Nat → Nat → Int32} {g : Nat → Nat → Int64} (h : CX A f g) (u l : Int64) : CX (sU A u l) f (zz_u (zz_u g 0 14 u) 0 15 l) := by
  obtain ⟨⟨n1, n2, n3, n4, n5⟩, h2, h3, h4, h5'⟩ := h
  exact ⟨⟨n1, n2, by rw [zu_i (by omega), zu_s]; rfl, by rw [zu_s]; rfl, n5⟩, h2, h3, h4, h5'⟩
theorem CM_U {A : zA} {f : Nat → Nat → Int32} {g : Nat → Nat → Int64} (h : CM A f g) (u l : Int64) : CM (sU A u l) f (zz_u (zz_u g 112 10 u) 112 11 l) := by
  obtain ⟨⟨n1, n2, n3, n4, n5, n6⟩, h2, h3, h4, h5', h6⟩ := h
  exact ⟨⟨n1, n2, n3, by rw [zu_i (by omega), zu_s]; rfl, by rw [zu_s]; rfl, n6⟩, h2, h3, h4, h5', h6⟩
theorem zHi_u {f : Nat → Nat → Int32} {g : Nat → Nat → Int64} {a i : Nat} {v : Int32} (h : a < 112) : zHi f (zz_u f a i v) g g := ⟨fun b hb => zu_c (by omega), fun _ _ => rfl⟩
theorem zLo_u {f : Nat → Nat → Int32} {g : Nat → Nat → Int64} {a i : Nat} {v : Int32} (h : 112 ≤ a) (h2 : a < 128) : zLo f (zz_u f a i v) g g := ⟨fun b hb => zu_c (by omega), fun _ _ => rfl⟩
theorem zHi_ug {f : Nat → Nat → Int32} {g : Nat → Nat → Int64} {a i : Nat} {v : Int64} (h : a < 112) : zHi f f g (zz_u g a i v) := ⟨fun _ _ => rfl, fun b hb => zu_c (by omega)⟩
theorem zLo_ug {f : Nat → Nat → Int32} {g : Nat → Nat → Int64} {a i : Nat} {v : Int64} (h : 112 ≤ a) (h2 : a < 128) : zLo f f g (zz_u g a i v) := ⟨fun _ _ => rfl, fun b hb => zu_c (by omega)⟩
theorem wf_F {A : zA} (h : wf A) (w : Nat) : wf (sF A w) := h
theorem wf_A {A : zA} (h : wf A) (v : Int32) : wf (sA A v) := h
theorem wf_U {A : zA} (h : wf A) (u l : Int64) : wf (sU A u l) := h
