/-! SEARCHES, COUNTS -/
def zff (c : Nat → Bool) : Nat → Nat → Option Nat
  | 0, _ => none
  | n + 1, i => if c i = true then some i else zff c n (i + 1)
def dI : Option Nat → Int32
  | none => -9
  | some n => nI n
theorem z_srch {R : Type} (E : Nat → R) (X : Nat → R) (Y : R) (c : Nat → Bool) (N a : Nat) (hs : ∀ i, a ≤ i → i < N → E i = if c i = true then X i else E (i + 1)) (he : E N = Y) : ∀ i, a ≤ i → i ≤ N → E i = match zff c (N - i) i with
    | some j => X j
    | none => Y := by
  intro i hi hN
  induction h : N - i generalizing i with
  | zero => have : i = N := by omega
            subst this; exact he
  | succ n ih =>
    rw [hs i hi (by omega)]; unfold zff
    by_cases hc : c i = true
    · rw [if_pos hc, if_pos hc]
    · rw [if_neg hc, if_neg hc]; exact ih (i + 1) (by omega) (by omega) (by omega)
theorem z_srchI {E : Nat → Option (Option Value × zz_H)} {h : zz_H} (c : Nat → Bool) (N a : Nat) (hs : ∀ i, a ≤ i → i < N → E i = if c i = true then some (some (.int (nI i)), h) else E (i + 1)) (he : E N = some (some (.int (-9)), h)) (i : Nat) (hi : a ≤ i) (hN : i ≤ N) : E i = some (some (.int (dI (zff c (N - i) i))), h) := by
  rw [z_srch E (fun j => some (some (.int (nI j)), h)) _ c N a hs he i hi hN]
  cases zff c (N - i) i <;> rfl
theorem zff_some {c : Nat → Bool} : ∀ {n i j : Nat}, zff c n i = some j → i ≤ j ∧ j < i + n ∧ c j = true
  | 0, i, j, h => by cases h
  | n + 1, i, j, h => by
    unfold zff at h
    by_cases hc : c i = true
    · rw [if_pos hc] at h; cases h; exact ⟨Nat.le_refl _, by omega, hc⟩
    · rw [if_neg hc] at h; have := zff_some h; exact ⟨by omega, by omega, this.2.2⟩
theorem zff_none {c : Nat → Bool} : ∀ {n i : Nat}, zff c n i = none → ∀ j, i ≤ j → j < i + n → c j = false
  | 0, i, _, j, h1, h2 => by omega
  | n + 1, i, h, j, h1, h2 => by
    unfold zff at h
    by_cases hc : c i = true
    · rw [if_pos hc] at h; cases h
    · rw [if_neg hc] at h
      by_cases e : j = i
      · subst e; simpa using hc
      · exact zff_none h j (by omega) (by omega)
theorem zff_min {c : Nat → Bool} : ∀ {n i j : Nat}, zff c n i = some j → ∀ k, i ≤ k → k < j → c k = false
  | 0, i, j, h => by cases h
  | n + 1, i, j, h => by
    intro k h1 h2
    unfold zff at h
    by_cases hc : c i = true
    · rw [if_pos hc] at h; cases h; omega
    · rw [if_neg hc] at h
      by_cases e : k = i
      · subst e; simpa using hc
      · exact zff_min h k (by omega) h2
theorem dI_9 {o : Option Nat} (h : ∀ n, o = some n → n < 2 ^ 31) : (dI o = -9) ↔ o = none := by
  cases o with
  | none => exact ⟨fun _ => rfl, fun _ => rfl⟩
  | some n => exact ⟨fun q => absurd q (by show ¬ nI n = -9; rw [z_n9 (h n rfl)]; exact id), fun q => by cases q⟩
def zct (c : Nat → Bool) : Nat → Nat
  | 0 => 0
  | n + 1 => zct c n + (c n).toNat
theorem zct_le (c : Nat → Bool) (n : Nat) : zct c n ≤ n := by
  induction n with
  | zero => exact Nat.le_refl _
  | succ n ih => unfold zct; have := Bool.toNat_le (c n); omega
theorem zct_c {c d : Nat → Bool} : ∀ {n : Nat}, (∀ i < n, c i = d i) → zct c n = zct d n
  | 0, _ => rfl
  | n + 1, h => by unfold zct; rw [zct_c (fun i hi => h i (by omega)), h n (by omega)]
theorem zct_0 {c : Nat → Bool} : ∀ {n : Nat}, (∀ i < n, c i = false) → zct c n = 0
  | 0, _ => rfl
  | n + 1, h => by unfold zct; rw [zct_0 (fun i hi => h i (by omega)), h n (by omega)]; rfl
theorem zct_pos {c : Nat → Bool} : ∀ {n : Nat}, 0 < zct c n → ∃ i < n, c i = true
  | 0, h => by cases h
  | n + 1, h => by
    cases hc : c n with
    | true => exact ⟨n, by omega, hc⟩
    | false => unfold zct at h; rw [hc] at h; obtain ⟨i, hi, q⟩ := zct_pos (n := n) h; exact ⟨i, by omega, q⟩
def zal (c : Nat → Bool) : Nat → Bool
  | 0 => true
  | n + 1 => zal c n && c n
theorem zal_iff {c : Nat → Bool} : ∀ {n : Nat}, zal c n = true ↔ ∀ i < n, c i = true
  | 0 => ⟨fun _ i hi => by omega, fun _ => rfl⟩
  | n + 1 => by
    unfold zal; rw [Bool.and_eq_true, zal_iff]
    exact ⟨fun h i hi => by by_cases e : i = n; · subst e; exact h.2
                            · exact h.1 i (by omega), fun h => ⟨fun i hi => h i (by omega), h n (by omega)⟩⟩
/-- distance of two numbers -/
def zad (a b : Nat) : Nat := (a - b) + (b - a)
theorem z_abs {a b : Nat} (ha : a < 2 ^ 30) (hb : b < 2 ^ 30) : (if 0 ≤ nI a - nI b then nI a - nI b else 0 - (nI a - nI b)) = nI (zad a b) := by
  by_cases h : b ≤ a
  · rw [pk_sub h, if_pos (nI_pos' (by omega))]; unfold zad; congr 1; omega
  · have h1 : nI a - nI b < 0 := pk_sneg hb (by omega)
    rw [if_neg (by rw [Int32.lt_iff_toInt_lt] at h1; rw [Int32.le_iff_toInt_le]; omega)]
    have h2 : 0 - (nI a - nI b) = nI b - nI a := by
      apply Int32.toBitVec_inj.mp
      show 0#32 - (BitVec.ofNat 32 a - BitVec.ofNat 32 b) = BitVec.ofNat 32 b - BitVec.ofNat 32 a
      grind
    rw [h2, pk_sub (by omega)]; unfold zad; congr 1; omega
/-! count -/
theorem b2n_t {c : Bool} (h : c = true) : c.toNat = 1 := by rw [h]; rfl
theorem b2n_f {c : Bool} (h : ¬ c = true) : c.toNat = 0 := by cases c; rfl; exact absurd rfl h
def zsv (W : zW) (p : Nat) : Bool := decide (wK W p = 1 ∨ wK W p = 4)
def zcn (A : zA) : Nat → Int32
  | 0 => nI (wP (aW A))
  | 1 => nI (wS (aW A))
  | 2 => nI (zpc 12 (qS (hC (aH A))))
  | 3 => qH (hC (aH A))
  | 4 => nI (hD (aH A))
  | 5 => nI (zct (zsv (aW A)) (wP (aW A)))
  | 6 => nI (zct (fun r => decide (¬ (aR A).1 r < 0)) 6)
  | 7 => nI (zct (fun r => decide (¬ (aT A).1 r < 0)) 4)
  | _ => nI (zct (aK A).1 3)
theorem l_140 {A : zA} (hw : wf A) {f : Nat → Nat → Int32} {g : Nat → Nat → Int64} (h : CX A f g) : zz_ca 140 [.ref 3] (zK f g) = some (some (.int (nI (zct (zsv (aW A)) (wP (aW A))))), zK f g) := by
  have hP6 := wfP hw
  rw [e_140, x_140_0]
  refine (z_lp (fun i => zz_ev 140 4 [.ref 3, .int (nI (zct (zsv (aW A)) i)), .int (nI i)] [] (zK f g)) (wP (aW A)) (fun i hi => ?_) 0 (by omega)).trans ?_
  · have hk := wfk hw hi
    show zz_ev 140 4 _ _ _ = zz_ev 140 4 _ _ _
    rw [x_140_4]
    simp (disch := first | omega | assumption) only [nI_add, pk_mul, z_in, z_ix, nI_leI, nI_ltI, nI_eq, z_eq0, z_lt0, z_0le, z_0lt, z_le0, z_n9, z_n1, z_m1lt, z_m9lt, z_m9le, z_m1le, zB_0, zB_1, zz_bi_s, zz_bv_s, zz_bl_s, if_pos, if_neg, if_true, if_false, true_and, and_true, not_true_eq_false, not_false_eq_true, ite_self, cxP h, cxS h, cxB h, cxH h, cxD h, cxk h, cxr h, cxp h, cxd h, cxt h, cxa h, cxb h, l_52, x_140_22, x_140_28]
    have e : zct (zsv (aW A)) (i + 1) = zct (zsv (aW A)) i + (zsv (aW A) i).toNat := rfl
    by_cases h2 : wK (aW A) i = 1 ∨ wK (aW A) i = 4
    · rw [if_neg (by omega), e, b2n_t (show zsv (aW A) i = true from decide_eq_true h2)]
    · rw [if_pos (by omega), e, b2n_f (by unfold zsv; simpa using h2)]; rfl
  · show zz_ev 140 4 _ _ _ = _
    rw [x_140_4]; simp (disch := first | omega | assumption) only [nI_add, pk_mul, z_in, z_ix, nI_leI, nI_ltI, nI_eq, z_eq0, z_lt0, z_0le, z_0lt, z_le0, z_n9, z_n1, z_m1lt, z_m9lt, z_m9le, z_m1le, zB_0, zB_1, zz_bi_s, zz_bv_s, zz_bl_s, if_pos, if_neg, if_true, if_false, true_and, and_true, not_true_eq_false, not_false_eq_true, ite_self, cxP h, cxS h, cxB h, cxH h, cxD h, cxk h, cxr h, cxp h, cxd h, cxt h, cxa h, cxb h]
theorem l_238 {A : zA} (hw : wf A) {f : Nat → Nat → Int32} {g : Nat → Nat → Int64} (h : CM A f g) : zz_ca 238 [.ref 112] (zK f g) = some (some (.int (nI (zct (zsv (aW A)) (wP (aW A))))), zK f g) := by
  have hP6 := wfP hw
  rw [e_238, x_238_0]
  refine (z_lp (fun i => zz_ev 238 4 [.ref 112, .int (nI (zct (zsv (aW A)) i)), .int (nI i)] [] (zK f g)) (wP (aW A)) (fun i hi => ?_) 0 (by omega)).trans ?_
  · have hk := wfk hw hi
    show zz_ev 238 4 _ _ _ = zz_ev 238 4 _ _ _
    rw [x_238_4]
    simp (disch := first | omega | assumption) only [nI_add, pk_mul, z_in, z_ix, nI_leI, nI_ltI, nI_eq, z_eq0, z_lt0, z_0le, z_0lt, z_le0, z_n9, z_n1, z_m1lt, z_m9lt, z_m9le, z_m1le, zB_0, zB_1, zz_bi_s, zz_bv_s, zz_bl_s, if_pos, if_neg, if_true, if_false, true_and, and_true, not_true_eq_false, not_false_eq_true, ite_self, cmP h, cmS h, cmB h, cmH h, cmD h, cmk h, cmr h, cmp h, cmd h, cmt h, cma h, cmb h, cm0 h, l_180 g (p := i) (by omega) (cmk h hi) hk, x_238_18, x_238_26]
    have e : zct (zsv (aW A)) (i + 1) = zct (zsv (aW A)) i + (zsv (aW A) i).toNat := rfl
    by_cases h2 : wK (aW A) i = 1 ∨ wK (aW A) i = 4
    · rw [if_neg (by omega), e, b2n_t (show zsv (aW A) i = true from decide_eq_true h2)]
    · rw [if_pos (by omega), e, b2n_f (by unfold zsv; simpa using h2)]
  · show zz_ev 238 4 _ _ _ = _
    rw [x_238_4]; simp (disch := first | omega | assumption) only [nI_add, pk_mul, z_in, z_ix, nI_leI, nI_ltI, nI_eq, z_eq0, z_lt0, z_0le, z_0lt, z_le0, z_n9, z_n1, z_m1lt, z_m9lt, z_m9le, z_m1le, zB_0, zB_1, zz_bi_s, zz_bv_s, zz_bl_s, if_pos, if_neg, if_true, if_false, true_and, and_true, not_true_eq_false, not_false_eq_true, ite_self, cmP h, cmS h, cmB h, cmH h, cmD h, cmk h, cmr h, cmp h, cmd h, cmt h, cma h, cmb h, cm0 h]
theorem zR_sz {s : Int32} {n : Nat} (h : zsz s n) (hn : n < 2 ^ 31) : (0 ≤ s) ↔ ¬ s < 0 := by
  rw [Int32.lt_iff_toInt_lt, Int32.le_iff_toInt_le]; omega
theorem l_141 (f : Nat → Nat → Int32) (g : Nat → Nat → Int64) {r n : Nat} (hr : zs_R r n) {c : Nat → Bool} (hc : ∀ i < n, c i = decide (¬ f (44 + 12 * r + 2 * i) 1 < 0)) : zz_ca 141 [.ref r] (zK f g) = some (some (.int (nI (zct c n))), zK f g) := by
  have hn : n ≤ 6 := by unfold zs_R at hr; omega
  rw [e_141, x_141_0 _ _ _ hr]
  refine (z_lp (fun i => zz_ev 141 4 [.ref r, .int (nI (zct c i)), .int (nI i)] [] (zK f g)) n (fun i hi => ?_) 0 (by omega)).trans ?_
  · show zz_ev 141 4 _ _ _ = zz_ev 141 4 _ _ _
    obtain ⟨q, hq⟩ := zs_R_S hr hi
    rw [x_141_4 _ _ _ _ _ hr]
    simp (disch := first | omega | assumption) only [nI_add, pk_mul, z_in, z_ix, nI_leI, nI_ltI, nI_eq, z_eq0, z_lt0, z_0le, z_0lt, z_le0, z_n9, z_n1, z_m1lt, z_m9lt, z_m9le, z_m1le, zB_0, zB_1, zz_bi_s, zz_bv_s, zz_bl_s, if_pos, if_neg, if_true, if_false, true_and, and_true, not_true_eq_false, not_false_eq_true, ite_self, l_17 _ _ hq, x_141_16 _ _ _ _ _ _ hr, x_141_22 _ _ _ _ _ hr]
    have e : zct c (i + 1) = zct c i + (c i).toNat := rfl
    by_cases h2 : f (44 + 12 * r + 2 * i) 1 < 0
    · rw [if_pos (fun q => q h2), e, hc i hi, b2n_f (by simpa using h2)]; rfl
    · rw [if_neg (fun q => q h2), e, hc i hi, b2n_t (by simpa using h2)]
  · show zz_ev 141 4 _ _ _ = _
    rw [x_141_4 _ _ _ _ _ hr]; simp (disch := first | omega | assumption) only [nI_add, pk_mul, z_in, z_ix, nI_leI, nI_ltI, nI_eq, z_eq0, z_lt0, z_0le, z_0lt, z_le0, z_n9, z_n1, z_m1lt, z_m9lt, z_m9le, z_m1le, zB_0, zB_1, zz_bi_s, zz_bv_s, zz_bl_s, if_pos, if_neg, if_true, if_false, true_and, and_true, not_true_eq_false, not_false_eq_true, ite_self]
theorem l_142 {A : zA} {f : Nat → Nat → Int32} {g : Nat → Nat → Int64} (h : CX A f g) : zz_ca 142 [.ref 0] (zK f g) = some (some (.int (nI (zct (aK A).1 3))), zK f g) := by
  rw [e_142, x_142_0]
  refine (z_lp (fun i => zz_ev 142 4 [.ref 0, .int (nI (zct (aK A).1 i)), .int (nI i)] [] (zK f g)) 3 (fun i hi => ?_) 0 (by omega)).trans ?_
  · show zz_ev 142 4 _ _ _ = zz_ev 142 4 _ _ _
    have e0 := (h.2.2.1 i hi).1
    rw [x_142_4]
    simp (disch := first | omega | assumption) only [nI_add, pk_mul, z_in, z_ix, nI_leI, nI_ltI, nI_eq, z_eq0, z_lt0, z_0le, z_0lt, z_le0, z_n9, z_n1, z_m1lt, z_m9lt, z_m9le, z_m1le, zB_0, zB_1, zz_bi_s, zz_bv_s, zz_bl_s, if_pos, if_neg, if_true, if_false, true_and, and_true, not_true_eq_false, not_false_eq_true, ite_self, e0, x_142_21]
    have e : zct (aK A).1 (i + 1) = zct (aK A).1 i + ((aK A).1 i).toNat := rfl
    by_cases h2 : (aK A).1 i = true
    · rw [if_neg (fun q => q h2), e, b2n_t h2]
    · rw [if_pos h2, e, b2n_f h2]; rfl
  · show zz_ev 142 4 _ _ _ = _
    rw [x_142_4]; simp (disch := first | omega | assumption) only [nI_add, pk_mul, z_in, z_ix, nI_leI, nI_ltI, nI_eq, z_eq0, z_lt0, z_0le, z_0lt, z_le0, z_n9, z_n1, z_m1lt, z_m9lt, z_m9le, z_m1le, zB_0, zB_1, zz_bi_s, zz_bv_s, zz_bl_s, if_pos, if_neg, if_true, if_false, true_and, and_true, not_true_eq_false, not_false_eq_true, ite_self]
theorem l_239 {A : zA} (hw : wf A) {f : Nat → Nat → Int32} {g : Nat → Nat → Int64} (h : CM A f g) {w : Nat} (h6 : 6 ≤ w) (h8 : w ≤ 8) : zz_ca 239 [.ref 112, .int (nI w)] (zK f g) = some (some (.int (zcn A w)), zK f g) := by
  have key : ∀ c : Nat → Bool, (∀ i < 6, ∀ v, zz_ev 239 4 [.ref 112, .int (nI w), .int v, .int (nI i)] [] (zK f g) = zz_ev 239 4 [.ref 112, .int (nI w), .int (v + nI (c i).toNat), .int (nI (i + 1))] [] (zK f g)) → zz_ca 239 [.ref 112, .int (nI w)] (zK f g) = some (some (.int (nI (zct c 6))), zK f g) := by
    intro c hc
    rw [e_239, x_239_0]
    refine (z_lp (fun i => zz_ev 239 4 [.ref 112, .int (nI w), .int (nI (zct c i)), .int (nI i)] [] (zK f g)) 6 (fun i hi => ?_) 0 (by omega)).trans ?_
    · show zz_ev 239 4 _ _ _ = zz_ev 239 4 _ _ _
      rw [hc i hi, nI_add]; rfl
    · show zz_ev 239 4 _ _ _ = _
      rw [x_239_4]; simp (disch := first | omega | assumption) only [nI_add, pk_mul, z_in, z_ix, nI_leI, nI_ltI, nI_eq, z_eq0, z_lt0, z_0le, z_0lt, z_le0, z_n9, z_n1, z_m1lt, z_m9lt, z_m9le, z_m1le, zB_0, zB_1, zz_bi_s, zz_bv_s, zz_bl_s, if_pos, if_neg, if_true, if_false, true_and, and_true, not_true_eq_false, not_false_eq_true, ite_self]
  obtain rfl | rfl | rfl : w = 6 ∨ w = 7 ∨ w = 8 := by omega
  · refine key _ (fun i hi v => ?_)
    have e := (h.2.2.2.2.1 i hi).1
    have e2 := zR_sz (hw.1 i hi) (by decide)
    rw [x_239_4]
    simp (disch := first | omega | assumption) only [nI_add, pk_mul, z_in, z_ix, nI_leI, nI_ltI, nI_eq, z_eq0, z_lt0, z_0le, z_0lt, z_le0, z_n9, z_n1, z_m1lt, z_m9lt, z_m9le, z_m1le, zB_0, zB_1, zz_bi_s, zz_bv_s, zz_bl_s, if_pos, if_neg, if_true, if_false, true_and, and_true, not_true_eq_false, not_false_eq_true, ite_self, e, e2, x_239_89]
    by_cases h2 : (aR A).1 i < 0
    · rw [if_neg (fun q => q h2), b2n_f (by simpa using h2)]
    · rw [if_pos h2, b2n_t (by simpa using h2)]
  · have hz : zct (fun r => decide (r < 4 ∧ ¬ (aT A).1 r < 0)) 6 = zct (fun r => decide (¬ (aT A).1 r < 0)) 4 := by
      simp [zct]
    show _ = some (some (Value.int (nI (zct (fun r => decide (¬ (aT A).1 r < 0)) 4))), zK f g)
    rw [← hz]
    refine key _ (fun i hi v => ?_)
    rw [x_239_4]
    by_cases h4 : i < 4
    · have e := (h.2.2.2.2.2 i h4).1
      simp (disch := first | omega | assumption) only [nI_add, pk_mul, z_in, z_ix, nI_leI, nI_ltI, nI_eq, z_eq0, z_lt0, z_0le, z_0lt, z_le0, z_n9, z_n1, z_m1lt, z_m9lt, z_m9le, z_m1le, zB_0, zB_1, zz_bi_s, zz_bv_s, zz_bl_s, if_pos, if_neg, if_true, if_false, true_and, and_true, not_true_eq_false, not_false_eq_true, ite_self, e, x_239_89, x_239_58]
      by_cases h2 : (aT A).1 i < 0
      · rw [if_pos h2, b2n_f (by simp [h2])]
      · rw [if_neg h2, b2n_t (by simp [h2, h4])]
    · simp (disch := first | omega | assumption) only [nI_add, pk_mul, z_in, z_ix, nI_leI, nI_ltI, nI_eq, z_eq0, z_lt0, z_0le, z_0lt, z_le0, z_n9, z_n1, z_m1lt, z_m9lt, z_m9le, z_m1le, zB_0, zB_1, zz_bi_s, zz_bv_s, zz_bl_s, if_pos, if_neg, if_true, if_false, true_and, and_true, not_true_eq_false, not_false_eq_true, ite_self, x_239_89, x_239_58]
      rw [b2n_f (by simp; omega)]
  · have hz : zct (fun r => decide (r < 3 ∧ (aK A).1 r = true)) 6 = zct (aK A).1 3 := by
      simp [zct]
    show _ = some (some (Value.int (nI (zct (aK A).1 3))), zK f g)
    rw [← hz]
    refine key _ (fun i hi v => ?_)
    rw [x_239_4]
    by_cases h3 : i < 3
    · have e := h.2.2.2.1 i h3
      simp (disch := first | omega | assumption) only [nI_add, pk_mul, z_in, z_ix, nI_leI, nI_ltI, nI_eq, z_eq0, z_lt0, z_0le, z_0lt, z_le0, z_n9, z_n1, z_m1lt, z_m9lt, z_m9le, z_m1le, zB_0, zB_1, zz_bi_s, zz_bv_s, zz_bl_s, if_pos, if_neg, if_true, if_false, true_and, and_true, not_true_eq_false, not_false_eq_true, ite_self, x_239_89, x_239_88, Nat.add_zero]
      by_cases h2 : (aK A).1 i = true
      · have e2 := (e.2 h2).1
        have := (hw.2.2.2.2 i h3 h2).2.1
        rw [Nat.add_comm 1 i, e2, if_neg (by rw [z_lt0 (by omega)]; exact id), b2n_t (by simp [h2, h3])]
      · have e2 := e.1 (by simpa using h2)
        rw [Nat.add_comm 1 i, e2, if_pos (by decide +kernel), b2n_f (by simp [h2])]
    · simp (disch := first | omega | assumption) only [nI_add, pk_mul, z_in, z_ix, nI_leI, nI_ltI, nI_eq, z_eq0, z_lt0, z_0le, z_0lt, z_le0, z_n9, z_n1, z_m1lt, z_m9lt, z_m9le, z_m1le, zB_0, zB_1, zz_bi_s, zz_bv_s, zz_bl_s, if_pos, if_neg, if_true, if_false, true_and, and_true, not_true_eq_false, not_false_eq_true, ite_self, x_239_89, x_239_88]
      rw [b2n_f (by simp; omega)]
theorem l_139 {A : zA} (hw : wf A) {f : Nat → Nat → Int32} {g : Nat → Nat → Int64} (h : CX A f g) {w : Nat} (h8 : w ≤ 8) : zz_ca 139 [.ref 0, .int (nI w)] (zK f g) = some (some (.int (zcn A w)), zK f g) := by
  have hB := wfB hw
  obtain rfl | rfl | rfl | rfl | rfl | rfl | rfl | rfl | rfl : w = 0 ∨ w = 1 ∨ w = 2 ∨ w = 3 ∨ w = 4 ∨ w = 5 ∨ w = 6 ∨ w = 7 ∨ w = 8 := by omega
  · simp (disch := first | omega | assumption) only [x_139_0, x_139_52, x_139_60, x_139_68, x_139_78, x_139_79, x_139_87, x_139_95, x_139_102, x_139_103, x_139_110, x_139_111, x_139_118, x_139_119, x_139_123, x_139_124, e_139, nI_add, pk_mul, z_in, z_ix, nI_leI, nI_ltI, nI_eq, z_eq0, z_lt0, z_0le, z_0lt, z_le0, z_n9, z_n1, z_m1lt, z_m9lt, z_m9le, z_m1le, zB_0, zB_1, zz_bi_s, zz_bv_s, zz_bl_s, if_pos, if_neg, if_true, if_false, true_and, and_true, not_true_eq_false, not_false_eq_true, ite_self, cxP h, cxS h, cxB h, cxH h, cxD h, cxk h, cxr h, cxp h, cxd h, cxt h, cxa h, cxb h]; rfl
  · simp (disch := first | omega | assumption) only [x_139_0, x_139_52, x_139_60, x_139_68, x_139_78, x_139_79, x_139_87, x_139_95, x_139_102, x_139_103, x_139_110, x_139_111, x_139_118, x_139_119, x_139_123, x_139_124, e_139, nI_add, pk_mul, z_in, z_ix, nI_leI, nI_ltI, nI_eq, z_eq0, z_lt0, z_0le, z_0lt, z_le0, z_n9, z_n1, z_m1lt, z_m9lt, z_m9le, z_m1le, zB_0, zB_1, zz_bi_s, zz_bv_s, zz_bl_s, if_pos, if_neg, if_true, if_false, true_and, and_true, not_true_eq_false, not_false_eq_true, ite_self, cxP h, cxS h, cxB h, cxH h, cxD h, cxk h, cxr h, cxp h, cxd h, cxt h, cxa h, cxb h]; rfl
  · simp (disch := first | omega | assumption) only [x_139_0, x_139_52, x_139_60, x_139_68, x_139_78, x_139_79, x_139_87, x_139_95, x_139_102, x_139_103, x_139_110, x_139_111, x_139_118, x_139_119, x_139_123, x_139_124, e_139, nI_add, pk_mul, z_in, z_ix, nI_leI, nI_ltI, nI_eq, z_eq0, z_lt0, z_0le, z_0lt, z_le0, z_n9, z_n1, z_m1lt, z_m9lt, z_m9le, z_m1le, zB_0, zB_1, zz_bi_s, zz_bv_s, zz_bl_s, if_pos, if_neg, if_true, if_false, true_and, and_true, not_true_eq_false, not_false_eq_true, ite_self, cxP h, cxS h, cxB h, cxH h, cxD h, cxk h, cxr h, cxp h, cxd h, cxt h, cxa h, cxb h, l_61]; rfl
  · simp (disch := first | omega | assumption) only [x_139_0, x_139_52, x_139_60, x_139_68, x_139_78, x_139_79, x_139_87, x_139_95, x_139_102, x_139_103, x_139_110, x_139_111, x_139_118, x_139_119, x_139_123, x_139_124, e_139, nI_add, pk_mul, z_in, z_ix, nI_leI, nI_ltI, nI_eq, z_eq0, z_lt0, z_0le, z_0lt, z_le0, z_n9, z_n1, z_m1lt, z_m9lt, z_m9le, z_m1le, zB_0, zB_1, zz_bi_s, zz_bv_s, zz_bl_s, if_pos, if_neg, if_true, if_false, true_and, and_true, not_true_eq_false, not_false_eq_true, ite_self, cxP h, cxS h, cxB h, cxH h, cxD h, cxk h, cxr h, cxp h, cxd h, cxt h, cxa h, cxb h]; rfl
  · simp (disch := first | omega | assumption) only [x_139_0, x_139_52, x_139_60, x_139_68, x_139_78, x_139_79, x_139_87, x_139_95, x_139_102, x_139_103, x_139_110, x_139_111, x_139_118, x_139_119, x_139_123, x_139_124, e_139, nI_add, pk_mul, z_in, z_ix, nI_leI, nI_ltI, nI_eq, z_eq0, z_lt0, z_0le, z_0lt, z_le0, z_n9, z_n1, z_m1lt, z_m9lt, z_m9le, z_m1le, zB_0, zB_1, zz_bi_s, zz_bv_s, zz_bl_s, if_pos, if_neg, if_true, if_false, true_and, and_true, not_true_eq_false, not_false_eq_true, ite_self, cxP h, cxS h, cxB h, cxH h, cxD h, cxk h, cxr h, cxp h, cxd h, cxt h, cxa h, cxb h]; rfl
  · simp (disch := first | omega | assumption) only [x_139_0, x_139_52, x_139_60, x_139_68, x_139_78, x_139_79, x_139_87, x_139_95, x_139_102, x_139_103, x_139_110, x_139_111, x_139_118, x_139_119, x_139_123, x_139_124, e_139, nI_add, pk_mul, z_in, z_ix, nI_leI, nI_ltI, nI_eq, z_eq0, z_lt0, z_0le, z_0lt, z_le0, z_n9, z_n1, z_m1lt, z_m9lt, z_m9le, z_m1le, zB_0, zB_1, zz_bi_s, zz_bv_s, zz_bl_s, if_pos, if_neg, if_true, if_false, true_and, and_true, not_true_eq_false, not_false_eq_true, ite_self, l_140 hw h]; rfl
  · simp (disch := first | omega | assumption) only [x_139_0, x_139_52, x_139_60, x_139_68, x_139_78, x_139_79, x_139_87, x_139_95, x_139_102, x_139_103, x_139_110, x_139_111, x_139_118, x_139_119, x_139_123, x_139_124, e_139, nI_add, pk_mul, z_in, z_ix, nI_leI, nI_ltI, nI_eq, z_eq0, z_lt0, z_0le, z_0lt, z_le0, z_n9, z_n1, z_m1lt, z_m9lt, z_m9le, z_m1le, zB_0, zB_1, zz_bi_s, zz_bv_s, zz_bl_s, if_pos, if_neg, if_true, if_false, true_and, and_true, not_true_eq_false, not_false_eq_true, ite_self, l_141 f g (r := 1) (Or.inl ⟨rfl, rfl⟩) (c := fun r => decide (¬ (aR A).1 r < 0)) (fun i hi => by rw [← (h.2.2.2.1 i hi).1])]; rfl
  · simp (disch := first | omega | assumption) only [x_139_0, x_139_52, x_139_60, x_139_68, x_139_78, x_139_79, x_139_87, x_139_95, x_139_102, x_139_103, x_139_110, x_139_111, x_139_118, x_139_119, x_139_123, x_139_124, e_139, nI_add, pk_mul, z_in, z_ix, nI_leI, nI_ltI, nI_eq, z_eq0, z_lt0, z_0le, z_0lt, z_le0, z_n9, z_n1, z_m1lt, z_m9lt, z_m9le, z_m1le, zB_0, zB_1, zz_bi_s, zz_bv_s, zz_bl_s, if_pos, if_neg, if_true, if_false, true_and, and_true, not_true_eq_false, not_false_eq_true, ite_self, l_141 f g (r := 2) (Or.inr ⟨rfl, rfl⟩) (c := fun r => decide (¬ (aT A).1 r < 0)) (fun i hi => by rw [← (h.2.2.2.2 i hi).1])]; rfl
  · simp (disch := first | omega | assumption) only [x_139_0, x_139_52, x_139_60, x_139_68, x_139_78, x_139_79, x_139_87, x_139_95, x_139_102, x_139_103, x_139_110, x_139_111, x_139_118, x_139_119, x_139_123, x_139_124, e_139, nI_add, pk_mul, z_in, z_ix, nI_leI, nI_ltI, nI_eq, z_eq0, z_lt0, z_0le, z_0lt, z_le0, z_n9, z_n1, z_m1lt, z_m9lt, z_m9le, z_m1le, zB_0, zB_1, zz_bi_s, zz_bv_s, zz_bl_s, if_pos, if_neg, if_true, if_false, true_and, and_true, not_true_eq_false, not_false_eq_true, ite_self, l_142 h]; rfl
theorem l_237 {A : zA} (hw : wf A) {f : Nat → Nat → Int32} {g : Nat → Nat → Int64} (h : CM A f g) {w : Nat} (h8 : w ≤ 8) : zz_ca 237 [.ref 112, .int (nI w)] (zK f g) = some (some (.int (zcn A w)), zK f g) := by
  have hB := wfB hw
  obtain rfl | rfl | rfl | rfl | rfl | rfl | h6 : w = 0 ∨ w = 1 ∨ w = 2 ∨ w = 3 ∨ w = 4 ∨ w = 5 ∨ 6 ≤ w := by omega
  · simp (disch := first | omega | assumption) only [x_237_0, x_237_40, x_237_45, x_237_50, x_237_59, x_237_60, x_237_67, x_237_74, x_237_78, x_237_79, x_237_84, e_237, nI_add, pk_mul, z_in, z_ix, nI_leI, nI_ltI, nI_eq, z_eq0, z_lt0, z_0le, z_0lt, z_le0, z_n9, z_n1, z_m1lt, z_m9lt, z_m9le, z_m1le, zB_0, zB_1, zz_bi_s, zz_bv_s, zz_bl_s, if_pos, if_neg, if_true, if_false, true_and, and_true, not_true_eq_false, not_false_eq_true, ite_self, cmP h, cmS h, cmB h, cmH h, cmD h, cmk h, cmr h, cmp h, cmd h, cmt h, cma h, cmb h, cm0 h]; rfl
  · simp (disch := first | omega | assumption) only [x_237_0, x_237_40, x_237_45, x_237_50, x_237_59, x_237_60, x_237_67, x_237_74, x_237_78, x_237_79, x_237_84, e_237, nI_add, pk_mul, z_in, z_ix, nI_leI, nI_ltI, nI_eq, z_eq0, z_lt0, z_0le, z_0lt, z_le0, z_n9, z_n1, z_m1lt, z_m9lt, z_m9le, z_m1le, zB_0, zB_1, zz_bi_s, zz_bv_s, zz_bl_s, if_pos, if_neg, if_true, if_false, true_and, and_true, not_true_eq_false, not_false_eq_true, ite_self, cmP h, cmS h, cmB h, cmH h, cmD h, cmk h, cmr h, cmp h, cmd h, cmt h, cma h, cmb h, cm0 h]; rfl
  · simp (disch := first | omega | assumption) only [x_237_0, x_237_40, x_237_45, x_237_50, x_237_59, x_237_60, x_237_67, x_237_74, x_237_78, x_237_79, x_237_84, e_237, nI_add, pk_mul, z_in, z_ix, nI_leI, nI_ltI, nI_eq, z_eq0, z_lt0, z_0le, z_0lt, z_le0, z_n9, z_n1, z_m1lt, z_m9lt, z_m9le, z_m1le, zB_0, zB_1, zz_bi_s, zz_bv_s, zz_bl_s, if_pos, if_neg, if_true, if_false, true_and, and_true, not_true_eq_false, not_false_eq_true, ite_self, cmP h, cmS h, cmB h, cmH h, cmD h, cmk h, cmr h, cmp h, cmd h, cmt h, cma h, cmb h, cm0 h, l_191]; rfl
  · simp (disch := first | omega | assumption) only [x_237_0, x_237_40, x_237_45, x_237_50, x_237_59, x_237_60, x_237_67, x_237_74, x_237_78, x_237_79, x_237_84, e_237, nI_add, pk_mul, z_in, z_ix, nI_leI, nI_ltI, nI_eq, z_eq0, z_lt0, z_0le, z_0lt, z_le0, z_n9, z_n1, z_m1lt, z_m9lt, z_m9le, z_m1le, zB_0, zB_1, zz_bi_s, zz_bv_s, zz_bl_s, if_pos, if_neg, if_true, if_false, true_and, and_true, not_true_eq_false, not_false_eq_true, ite_self, cmP h, cmS h, cmB h, cmH h, cmD h, cmk h, cmr h, cmp h, cmd h, cmt h, cma h, cmb h, cm0 h]; rfl
  · simp (disch := first | omega | assumption) only [x_237_0, x_237_40, x_237_45, x_237_50, x_237_59, x_237_60, x_237_67, x_237_74, x_237_78, x_237_79, x_237_84, e_237, nI_add, pk_mul, z_in, z_ix, nI_leI, nI_ltI, nI_eq, z_eq0, z_lt0, z_0le, z_0lt, z_le0, z_n9, z_n1, z_m1lt, z_m9lt, z_m9le, z_m1le, zB_0, zB_1, zz_bi_s, zz_bv_s, zz_bl_s, if_pos, if_neg, if_true, if_false, true_and, and_true, not_true_eq_false, not_false_eq_true, ite_self, cmP h, cmS h, cmB h, cmH h, cmD h, cmk h, cmr h, cmp h, cmd h, cmt h, cma h, cmb h, cm0 h]; rfl
  · simp (disch := first | omega | assumption) only [x_237_0, x_237_40, x_237_45, x_237_50, x_237_59, x_237_60, x_237_67, x_237_74, x_237_78, x_237_79, x_237_84, e_237, nI_add, pk_mul, z_in, z_ix, nI_leI, nI_ltI, nI_eq, z_eq0, z_lt0, z_0le, z_0lt, z_le0, z_n9, z_n1, z_m1lt, z_m9lt, z_m9le, z_m1le, zB_0, zB_1, zz_bi_s, zz_bv_s, zz_bl_s, if_pos, if_neg, if_true, if_false, true_and, and_true, not_true_eq_false, not_false_eq_true, ite_self, l_238 hw h]; rfl
  · simp (disch := first | omega | assumption) only [x_237_0, x_237_40, x_237_45, x_237_50, x_237_59, x_237_60, x_237_67, x_237_74, x_237_78, x_237_79, x_237_84, e_237, nI_add, pk_mul, z_in, z_ix, nI_leI, nI_ltI, nI_eq, z_eq0, z_lt0, z_0le, z_0lt, z_le0, z_n9, z_n1, z_m1lt, z_m9lt, z_m9le, z_m1le, zB_0, zB_1, zz_bi_s, zz_bv_s, zz_bl_s, if_pos, if_neg, if_true, if_false, true_and, and_true, not_true_eq_false, not_false_eq_true, ite_self, l_239 hw h]
theorem sim_count (A : zA) (hw : wf A) (v : Int32) : zSim A 139 236 [.int v] := by
  by_cases h1 : zz_in v 9
  · obtain ⟨w, hw9, -, rfl⟩ := z_inx.mp h1
    refine sim_0 hw (.int (zcn A w)) (fun f g h => l_139 hw h (by omega)) (fun f g h => ?_)
    simp (disch := first | omega | assumption) only [x_236_0, x_236_9, x_236_17, e_236, l_150n, nI_add, pk_mul, z_in, z_ix, nI_leI, nI_ltI, nI_eq, z_eq0, z_lt0, z_0le, z_0lt, z_le0, z_n9, z_n1, z_m1lt, z_m9lt, z_m9le, z_m1le, zB_0, zB_1, zz_bi_s, zz_bv_s, zz_bl_s, if_pos, if_neg, if_true, if_false, true_and, and_true, not_true_eq_false, not_false_eq_true, ite_self, l_237 hw h]
  · refine sim_0 hw (.int (-1)) (fun f g h => ?_) (fun f g h => by simp (disch := first | omega | assumption) only [x_236_0, x_236_9, x_236_17, e_236, l_150n, nI_add, pk_mul, z_in, z_ix, nI_leI, nI_ltI, nI_eq, z_eq0, z_lt0, z_0le, z_0lt, z_le0, z_n9, z_n1, z_m1lt, z_m9lt, z_m9le, z_m1le, zB_0, zB_1, zz_bi_s, zz_bv_s, zz_bl_s, if_pos, if_neg, if_true, if_false, true_and, and_true, not_true_eq_false, not_false_eq_true, ite_self, h1])
    have e : ∀ w : Nat, w < 9 → ¬ v = nI w := fun w hw e => h1 (by rw [e]; exact (z_in (by omega)).mpr hw)
    rw [e_139, x_139_0, if_neg (e 0 (by decide)), if_neg (e 1 (by decide)), if_neg (e 2 (by decide)), if_neg (e 3 (by decide)), if_neg (e 4 (by decide)), if_neg (e 5 (by decide)), if_neg (e 6 (by decide)), if_neg (e 7 (by decide)), if_neg (e 8 (by decide)), x_139_124]
