/-! WAY -/
/-- the first room beside x from which it is m steps to the goal -/
def znw (N : Nat → Nat) (b x m : Nat) : Option Nat := zff (fun c => (N x).testBit c && decide (zfa N c b = some m)) 12 0
theorem znw_ex {N : Nat → Nat} (hN : ∀ c < 12, N c < 4096) {b x m : Nat} (hx : x < 12) (h : zfa N x b = some (m + 1)) : ∃ c, znw N b x m = some c := by
  cases e : znw N b x m with
  | some c => exact ⟨c, rfl⟩
  | none =>
    exfalso
    have h1 := (zff_some h).2.2
    have h2 := zff_min h m (by omega) (by omega)
    have h3 := zfa_lt h
    rcases (zS_left hN hx m).mp h1 with q | ⟨c, hc, q1, q2⟩
    · rw [q] at h2; cases h2
    · obtain ⟨k, hk, hkm⟩ := (zfa_le (by omega)).mp q2
      have : k = m := by
        by_cases e2 : k = m
        · exact e2
        · exfalso
          obtain ⟨l, rfl⟩ : ∃ l, m = l + 1 := ⟨m - 1, by omega⟩
          have q3 : (zS N c l).testBit b = true := (zfa_le (by omega)).mpr ⟨k, hk, by omega⟩
          rw [(zS_left hN hx l).mpr (Or.inr ⟨c, hc, q1, q3⟩)] at h2; cases h2
      subst this
      have := zff_none e c (by omega) (by omega)
      rw [q1, hk] at this; simp at this
/-- the i-th room of the way -/
def zwy (N : Nat → Nat) (b x n : Nat) : Nat → Nat
  | 0 => x
  | i + 1 => match znw N b (zwy N b x n i) (n - i - 1) with
    | some c => c
    | none => 0
theorem zwy_s {N : Nat → Nat} {b x n i : Nat} : zwy N b x n (i + 1) = match znw N b (zwy N b x n i) (n - i - 1) with
    | some c => c
    | none => 0 := rfl
theorem zwy_ok {N : Nat → Nat} (hN : ∀ c < 12, N c < 4096) {b x n : Nat} (hx : x < 12) (h : zfa N x b = some n) : ∀ i, i ≤ n → zwy N b x n i < 12 ∧ zfa N (zwy N b x n i) b = some (n - i) ∧ (i < n → znw N b (zwy N b x n i) (n - i - 1) = some (zwy N b x n (i + 1)))
  | 0, _ => by
    refine ⟨hx, h, fun hn => ?_⟩
    obtain ⟨c, hc⟩ := znw_ex hN (m := n - 0 - 1) hx (by rw [h]; congr 1; omega)
    rw [zwy_s]; show znw N b (zwy N b x n 0) _ = _
    rw [show zwy N b x n 0 = x from rfl, hc]
  | i + 1, hi => by
    have ih := zwy_ok hN hx h i (by omega)
    have h1 := ih.2.2 (by omega)
    have h2 := zff_some h1
    have h3 : zwy N b x n (i + 1) < 12 := by omega
    have h4 : zfa N (zwy N b x n (i + 1)) b = some (n - (i + 1)) := by
      have := h2.2.2
      rw [Bool.and_eq_true, decide_eq_true_eq] at this
      rw [this.2]; congr 1
    refine ⟨h3, h4, fun hn => ?_⟩
    obtain ⟨c, hc⟩ := znw_ex hN (m := n - (i + 1) - 1) h3 (by rw [h4]; congr 1; omega)
    rw [zwy_s (i := i + 1), hc]
theorem dI_some {o : Option Nat} {m : Nat} (h : ∀ n, o = some n → n < 2 ^ 31) (hm : m < 2 ^ 31) : (dI o = nI m) ↔ o = some m := by
  cases o with
  | none =>
    refine ⟨fun q => ?_, fun q => by cases q⟩
    have : nI m = -9 := q.symm
    rw [z_n9 hm] at this; exact this.elim
  | some n => rw [dI_s, nI_eq (h n rfl) hm]; simp
/-- class: the first room of a set so many steps away -/
theorem l_86 {f : Nat → Nat → Int32} {g : Nat → Nat → Int64} {N : Nat → Nat} (hN : ∀ c < 12, N c < 4096) (hs : zsym N) {b x m : Nat} (hx : x < 12) (hb : b < 12) (hm : m < 12) (hf : ∀ c < 12, f 32 c = dI (zfa N b c)) : zz_ca 86 [.ref 30, .int (nI (N x)), .int (nI m)] (zK f g) = some (some (.int (nI (match znw N b x m with
    | some c => c
    | none => 0))), zK f g) := by
  rw [e_86, x_86_0]
  refine (z_srch (fun i => zz_ev 86 2 [.ref 30, .int (nI (N x)), .int (nI m), .int (nI i)] [] (zK f g)) (fun i => some (some (.int (nI i)), zK f g)) (some (some (.int (nI 0)), zK f g)) (fun c => (N x).testBit c && decide (zfa N c b = some m)) 12 0 (fun i _ hi => ?_) ?_ 0 (by omega) (by omega)).trans ?_
  · show zz_ev 86 2 _ _ _ = _
    have hl := hN x hx
    have m1 := hf i hi
    rw [x_86_2]; simp (disch := first | omega | assumption) only [nI_add, pk_mul, z_in, z_ix, nI_leI, nI_ltI, nI_eq, z_eq0, z_lt0, z_0le, z_0lt, z_le0, z_n9, z_n1, z_m1lt, z_m9lt, z_m9le, z_m1le, zB_0, zB_1, zz_bi_s, zz_bv_s, zz_bl_s, if_pos, if_neg, if_true, if_false, true_and, and_true, not_true_eq_false, not_false_eq_true, ite_self, l_38, x_86_13, m1, dI_some zfa_l, x_86_28]
    rw [zfa_sym hN hs hb hi]
    by_cases q : (N x).testBit i = true
    · rw [if_neg (fun w => w q), q, Bool.true_and]
      by_cases q2 : zfa N i b = some m
      · rw [if_pos q2, if_pos (decide_eq_true q2)]
      · rw [if_neg q2, if_neg (by simpa using q2)]
    · rw [if_pos q, if_neg (by simp [q])]
  · show zz_ev 86 2 _ _ _ = _
    rw [x_86_2]; simp (disch := first | omega | assumption) only [nI_add, pk_mul, z_in, z_ix, nI_leI, nI_ltI, nI_eq, z_eq0, z_lt0, z_0le, z_0lt, z_le0, z_n9, z_n1, z_m1lt, z_m9lt, z_m9le, z_m1le, zB_0, zB_1, zz_bi_s, zz_bv_s, zz_bl_s, if_pos, if_neg, if_true, if_false, true_and, and_true, not_true_eq_false, not_false_eq_true, ite_self]
  · show (match znw N b x m with
      | some j => some (some (Value.int (nI j)), zK f g)
      | none => some (some (Value.int (nI 0)), zK f g)) = _
    cases znw N b x m <;> rfl
theorem l_86z {f : Nat → Nat → Int32} {g : Nat → Nat → Int64} {N : Nat → Nat} (hN : ∀ c < 12, N c < 4096) {b x : Nat} (hx : x < 12) (hf : ∀ c < 12, f 32 c = dI (zfa N b c)) : zz_ca 86 [.ref 30, .int (nI (N x)), .int (-1)] (zK f g) = some (some (.int (nI 0)), zK f g) := by
  rw [e_86, x_86_0]
  refine (z_lp (fun i => zz_ev 86 2 [.ref 30, .int (nI (N x)), .int (-1), .int (nI i)] [] (zK f g)) 12 (fun i hi => ?_) 0 (by omega)).trans ?_
  · show zz_ev 86 2 _ _ _ = zz_ev 86 2 _ _ _
    have hl := hN x hx
    have m1 := hf i hi
    have m2 : ¬ dI (zfa N b i) = -1 := by
      cases e : zfa N b i with
      | none => exact by decide +kernel
      | some n => rw [dI_s, z_n1 (by have := zfa_lt e; omega)]; exact id
    rw [x_86_2]; simp (disch := first | omega | assumption) only [nI_add, pk_mul, z_in, z_ix, nI_leI, nI_ltI, nI_eq, z_eq0, z_lt0, z_0le, z_0lt, z_le0, z_n9, z_n1, z_m1lt, z_m9lt, z_m9le, z_m1le, zB_0, zB_1, zz_bi_s, zz_bv_s, zz_bl_s, if_pos, if_neg, if_true, if_false, true_and, and_true, not_true_eq_false, not_false_eq_true, ite_self, l_38, x_86_13, m1, m2, x_86_28]
  · show zz_ev 86 2 _ _ _ = _
    rw [x_86_2]; simp (disch := first | omega | assumption) only [nI_add, pk_mul, z_in, z_ix, nI_leI, nI_ltI, nI_eq, z_eq0, z_lt0, z_0le, z_0lt, z_le0, z_n9, z_n1, z_m1lt, z_m9lt, z_m9le, z_m1le, zB_0, zB_1, zz_bi_s, zz_bv_s, zz_bl_s, if_pos, if_neg, if_true, if_false, true_and, and_true, not_true_eq_false, not_false_eq_true, ite_self]
/-- the reference: the same, from the last room on -/
theorem zff_last {c : Nat → Bool} : ∀ {n i : Nat}, zff c (n + 1) i = if c i = true then some i else zff c n (i + 1) := rfl
theorem l_205 {W : zW} (hW : wfW W) {s : Nat} {f : Nat → Nat → Int32} {g : Nat → Nat → Int64} (h : VM W s f) {p b x m t : Nat} (hp : p < wP W) (hx : x < 12) (hb : b < 12) (hm : m < 12) (ht : t = znx W (wK W p) (zdr (wK W p) s) x) : zz_ca 205 [.ref 112, .int (nI p), .int (nI t), .int (nI b), .int (nI m)] (zK f g) = some (some (.int (dI (znw (znx W (wK W p) (zdr (wK W p) s)) b x m))), zK f g) := by
  have hl : t < 4096 := by rw [ht]; exact znx_lt hW _ _ _
  have key : ∀ k, k ≤ 12 → zz_ev 205 8 [.ref 112, .int (nI p), .int (nI t), .int (nI b), .int (nI m), .int (dI (zff (fun c => t.testBit c && decide (zfa (znx W (wK W p) (zdr (wK W p) s)) c b = some m)) (12 - k) k)), .int (nI k + -1)] [] (zK f g) = some (some (.int (dI (zff (fun c => t.testBit c && decide (zfa (znx W (wK W p) (zdr (wK W p) s)) c b = some m)) 12 0))), zK f g) := by
    intro k
    induction k with
    | zero =>
      intro _
      rw [x_205_8, if_pos (by decide +kernel)]
    | succ k ih =>
      intro hk
      rw [pk_m1, x_205_8]
      have m1 := l_204 (g := g) hW h hp (a := k) (b := b) (by omega) hb
      simp (disch := first | omega | assumption) only [nI_add, pk_mul, z_in, z_ix, nI_leI, nI_ltI, nI_eq, z_eq0, z_lt0, z_0le, z_0lt, z_le0, z_n9, z_n1, z_m1lt, z_m9lt, z_m9le, z_m1le, zB_0, zB_1, zz_bi_s, zz_bv_s, zz_bl_s, if_pos, if_neg, if_true, if_false, true_and, and_true, not_true_eq_false, not_false_eq_true, ite_self, l_171, x_205_19, m1, x_205_30, x_205_40, x_205_42, dI_some zfa_l]
      have ih := ih (by omega)
      rw [show 12 - k = (12 - (k + 1)) + 1 by omega, zff_last] at ih
      by_cases q : t.testBit k = true
      · rw [if_neg (fun w => w q)]
        by_cases q2 : zfa (znx W (wK W p) (zdr (wK W p) s)) k b = some m
        · rw [if_pos q2]
          rw [if_pos (by rw [q, decide_eq_true q2]; rfl)] at ih
          exact ih
        · rw [if_neg q2]
          rw [if_neg (by rw [q]; simpa using q2)] at ih
          exact ih
      · rw [if_pos q]
        rw [if_neg (by simp [q])] at ih
        exact ih
  rw [e_205, x_205_0]
  have := key 12 (Nat.le_refl _)
  rw [show nI 12 + -1 = nI 11 from pk_m1 11] at this
  refine Eq.trans this ?_
  unfold znw
  rw [ht]
/-- places of cell 117 from o on anew -/
def zbo (f : Nat → Nat → Int32) (o : Nat) (N : Nat → Nat) (n : Nat) : Nat → Nat → Int32 := fun x i => if x = 117 ∧ o ≤ i ∧ i < o + n then nI (N (i - o)) else f x i
theorem zbo_c {f : Nat → Nat → Int32} {o n x : Nat} {N : Nat → Nat} (h : x ≠ 117) : zbo f o N n x = f x := by funext c; exact if_neg (fun q => h q.1)
theorem zbo_u {f : Nat → Nat → Int32} {o n : Nat} {N : Nat → Nat} : zz_u (zbo f o N n) 117 (o + n) (nI (N n)) = zbo f o N (n + 1) := by
  funext x i; unfold zz_u zbo
  by_cases h : x = 117 ∧ i = o + n
  · rw [if_pos h, if_pos (by omega), show i - o = n by omega]
  · rw [if_neg h]
    by_cases h2 : x = 117 ∧ o ≤ i ∧ i < o + n
    · rw [if_pos h2, if_pos (by omega)]
    · rw [if_neg h2, if_neg (by omega)]
theorem zbo_0 {f : Nat → Nat → Int32} {o : Nat} {N : Nat → Nat} : zbo f o N 0 = f := by funext x c; exact if_neg (fun q => by omega)
/-- a row made anew of n numbers -/
def rNw (R : zR) (r n : Nat) (c : Nat → Nat) : zR := (zup R.1 r (nI n), zup R.2 r (fun i => if i < n then nI (c i) else nI 0))
theorem wfR_nw {R : zR} (h : wfR R) {r n : Nat} (hn : n ≤ 40) (c : Nat → Nat) : wfR (rNw R r n c) := by
  intro q hq
  show zsz (zup R.1 r (nI n) q) 40
  unfold zup; split
  · exact Or.inr ⟨n, hn, rfl⟩
  · exact h q hq
theorem XR_nw {R : zR} {f f' : Nat → Nat → Int32} (h : XR R f) {r n : Nat} (hr : r < 6) (hn : n ≤ 40) (c : Nat → Nat) (e : ∀ a, a ≠ 56 + 2 * r → a ≠ 56 + 2 * r + 1 → f' a = f a) (e1 : f' (56 + 2 * r) 1 = nI n) (e2 : ∀ i < 40, f' (56 + 2 * r + 1) i = if i < n then nI (c i) else nI 0) : XR (rNw R r n c) f' := by
  intro q hq
  by_cases eq : q = r
  · subst eq
    refine ⟨by rw [e1]; exact zup_s.symm, fun i hi => ?_⟩
    rw [e2 i hi]; show _ = zup R.2 q _ q i; rw [zup_s]
  · refine ⟨?_, fun i hi => ?_⟩
    · rw [e _ (by omega) (by omega)]; show _ = zup R.1 r _ q; rw [zup_n eq]; exact (h q hq).1
    · rw [e _ (by omega) (by omega)]; show _ = zup R.2 r _ q i; rw [zup_n eq]; exact (h q hq).2 i hi
theorem MR_nw {R : zR} {f : Nat → Nat → Int32} (h : MR R f) {r n : Nat} (hr : r < 6) (hn : n ≤ 40) (c : Nat → Nat) : MR (rNw R r n c) (zbo (zfs (zz_u f 116 r (nI n)) 117 (40 * r) 40 (nI 0)) (40 * r) c n) := by
  intro q hq
  rw [zbo_c (by omega), zfs_c (by omega), zu_if]
  by_cases e : q = r
  · subst e
    refine ⟨by rw [if_pos rfl]; exact zup_s.symm, fun i hi => ?_⟩
    show _ = zup R.2 q _ q i; rw [zup_s]; unfold zbo
    by_cases hi2 : i < n
    · rw [if_pos (by omega), if_pos hi2, show 40 * q + i - 40 * q = i by omega]
    · rw [if_neg (by omega), if_neg hi2, zfs_i (by omega) (by omega)]
  · refine ⟨?_, fun i hi => ?_⟩
    · rw [if_neg e]; show _ = zup R.1 r _ q; rw [zup_n e]; exact (h q hq).1
    · show _ = zup R.2 r _ q i; rw [zup_n e]; unfold zbo
      rw [if_neg (by omega), zfs_o (by omega), zu_c (by omega)]; exact (h q hq).2 i hi
theorem z_m1 {n : Nat} : nI n - nI n - nI 1 = -1 := by
  rw [pk_sub (Nat.le_refl _), Nat.sub_self]; decide +kernel
theorem l_85 {f : Nat → Nat → Int32} {g : Nat → Nat → Int64} {N : Nat → Nat} (hN : ∀ c < 12, N c < 4096) (hs : zsym N) {b x n r : Nat} (hx : x < 12) (hb : b < 12) (hr : r < 6) (h1 : ∀ c < 12, f 31 c = nI (N c)) (h2 : ∀ c < 12, f 32 c = dI (zfa N b c)) (hz : zfa N x b = some n) : ∃ f', zz_ca 85 [.ref 30, .int (nI x), .int (nI n), .ref (56 + 2 * r)] (zK f g) = some (none, zK f' g) ∧ (∀ a, a ≠ 56 + 2 * r → a ≠ 56 + 2 * r + 1 → f' a = f a) ∧ f' (56 + 2 * r) 1 = nI (n + 1) ∧ ∀ i < 40, f' (56 + 2 * r + 1) i = if i < n + 1 then nI (zwy N b x n i) else nI 0 := by
  have hn := zfa_lt hz
  have hS := zs_S_row r hr
  rw [e_85, x_85_0 _ _ _ _ _ hS, nI_add, l_13 _ _ hS (by decide) (by omega), zz_bv_s, x_85_8 _ _ _ _ _ hS, hw_85_14 _ _ _ _ _ _ _ hS]
  have key := z_lp (fun i => zz_ev 85 14 [.ref 30, .null, .int (nI n), .ref (56 + 2 * r), .int (nI (zwy N b x n i)), .int (nI i)] [] (zK (zbs (zz_u (zfl f (56 + 2 * r + 1) 40 (nI 0)) (56 + 2 * r) 1 (nI (n + 1))) (56 + 2 * r + 1) (zwy N b x n) i) g)) n (fun i hi => ?_) 0 (by omega)
  · rw [zbs_0] at key
    have ok := zwy_ok hN hx hz n (Nat.le_refl _)
    have c0 : ∀ j, zbs (zz_u (zfl f (56 + 2 * r + 1) 40 (nI 0)) (56 + 2 * r) 1 (nI (n + 1))) (56 + 2 * r + 1) (zwy N b x n) j (56 + 2 * r) 1 = nI (n + 1) := fun j => by rw [zbs_c (by omega), zu_s]
    have c1 : ∀ j a, a ≠ 56 + 2 * r → a ≠ 56 + 2 * r + 1 → zbs (zz_u (zfl f (56 + 2 * r + 1) 40 (nI 0)) (56 + 2 * r) 1 (nI (n + 1))) (56 + 2 * r + 1) (zwy N b x n) j a = f a := fun j a q1 q2 => by rw [zbs_c q2, zu_c q1, zfl_c q2]
    refine ⟨zbs (zz_u (zfl f (56 + 2 * r + 1) 40 (nI 0)) (56 + 2 * r) 1 (nI (n + 1))) (56 + 2 * r + 1) (zwy N b x n) (n + 1), ?_, c1 _, c0 _, fun i hi => ?_⟩
    · refine key.trans ?_
      have m1 : zbs (zz_u (zfl f (56 + 2 * r + 1) 40 (nI 0)) (56 + 2 * r) 1 (nI (n + 1))) (56 + 2 * r + 1) (zwy N b x n) (n + 1) 31 (zwy N b x n n) = nI (N (zwy N b x n n)) := by rw [c1 _ _ (by omega) (by omega)]; exact h1 _ ok.1
      have m2 := l_86z (g := g) (f := zbs (zz_u (zfl f (56 + 2 * r + 1) 40 (nI 0)) (56 + 2 * r) 1 (nI (n + 1))) (56 + 2 * r + 1) (zwy N b x n) (n + 1)) hN (b := b) ok.1 (fun c hc => by rw [c1 _ _ (by omega) (by omega)]; exact h2 c hc)
      have ok1 := ok.1
      rw [x_85_14 _ _ _ _ _ _ _ hS, c0]
      simp (disch := first | omega | assumption) only [nI_add, pk_mul, z_in, z_ix, nI_leI, nI_ltI, nI_eq, z_eq0, z_lt0, z_0le, z_0lt, z_le0, z_n9, z_n1, z_m1lt, z_m9lt, z_m9le, z_m1le, zB_0, zB_1, zz_bi_s, zz_bv_s, zz_bl_s, if_pos, if_neg, if_true, if_false, true_and, and_true, not_true_eq_false, not_false_eq_true, ite_self]
      rw [zbs_u, m1, z_m1, m2, zz_bi_s, x_85_49 _ _ _ _ _ _ _ hS, x_85_14 _ _ _ _ _ _ _ hS, c0]
      simp (disch := first | omega | assumption) only [nI_add, pk_mul, z_in, z_ix, nI_leI, nI_ltI, nI_eq, z_eq0, z_lt0, z_0le, z_0lt, z_le0, z_n9, z_n1, z_m1lt, z_m9lt, z_m9le, z_m1le, zB_0, zB_1, zz_bi_s, zz_bv_s, zz_bl_s, if_pos, if_neg, if_true, if_false, true_and, and_true, not_true_eq_false, not_false_eq_true, ite_self]
    · unfold zbs
      by_cases q : i < n + 1
      · rw [if_pos ⟨rfl, q⟩, if_pos q]
      · rw [if_neg (fun w => q w.2), if_neg q, zu_c (by omega), zfl_i hi]
  · have ok := zwy_ok hN hx hz i (by omega)
    have c0 : ∀ j, zbs (zz_u (zfl f (56 + 2 * r + 1) 40 (nI 0)) (56 + 2 * r) 1 (nI (n + 1))) (56 + 2 * r + 1) (zwy N b x n) j (56 + 2 * r) 1 = nI (n + 1) := fun j => by rw [zbs_c (by omega), zu_s]
    have c1 : ∀ j a, a ≠ 56 + 2 * r → a ≠ 56 + 2 * r + 1 → zbs (zz_u (zfl f (56 + 2 * r + 1) 40 (nI 0)) (56 + 2 * r) 1 (nI (n + 1))) (56 + 2 * r + 1) (zwy N b x n) j a = f a := fun j a q1 q2 => by rw [zbs_c q2, zu_c q1, zfl_c q2]
    have m1 : zbs (zz_u (zfl f (56 + 2 * r + 1) 40 (nI 0)) (56 + 2 * r) 1 (nI (n + 1))) (56 + 2 * r + 1) (zwy N b x n) (i + 1) 31 (zwy N b x n i) = nI (N (zwy N b x n i)) := by rw [c1 _ _ (by omega) (by omega)]; exact h1 _ ok.1
    have m2 := l_86 (g := g) (f := zbs (zz_u (zfl f (56 + 2 * r + 1) 40 (nI 0)) (56 + 2 * r) 1 (nI (n + 1))) (56 + 2 * r + 1) (zwy N b x n) (i + 1)) hN hs (b := b) (m := n - i - 1) ok.1 hb (by omega) (fun c hc => by rw [c1 _ _ (by omega) (by omega)]; exact h2 c hc)
    have ok1 := ok.1
    show zz_ev 85 14 _ _ _ = zz_ev 85 14 _ _ _
    rw [x_85_14 _ _ _ _ _ _ _ hS, c0]
    simp (disch := first | omega | assumption) only [nI_add, pk_mul, z_in, z_ix, nI_leI, nI_ltI, nI_eq, z_eq0, z_lt0, z_0le, z_0lt, z_le0, z_n9, z_n1, z_m1lt, z_m9lt, z_m9le, z_m1le, zB_0, zB_1, zz_bi_s, zz_bv_s, zz_bl_s, if_pos, if_neg, if_true, if_false, true_and, and_true, not_true_eq_false, not_false_eq_true, ite_self]
    rw [zbs_u, m1, pk_sub (by omega), pk_sub (by omega), m2, zz_bi_s, x_85_49 _ _ _ _ _ _ _ hS, nI_add]
    rfl
theorem sim_way (A : zA) (hw : wf A) (v1 v2 v3 : Int32) : zSim A 82 203 [.int v1, .int v2, .int v3] := by
  have hP6 := wfP hw
  by_cases h1 : zz_in v1 (wP (aW A))
  · obtain ⟨p, hp, -, rfl⟩ := z_inx.mp h1
    have hx := wfr hw hp
    by_cases h2 : zz_in v2 12
    · obtain ⟨b, hb, -, rfl⟩ := z_inx.mp h2
      by_cases h3 : zz_in v3 6
      · obtain ⟨r, hr, -, rfl⟩ := z_inx.mp h3
        have hN : ∀ c < 12, zgo A p c < 4096 := fun c _ => zgo_lt hw p c
        have hs := zgo_sym A p
        cases hz : zfa (zgo A p) (qR (hC (aH A)) p) b with
        | none =>
          refine sim_s hw (.int (-9)) (fun f g h => ?_) (fun f g h => ⟨f, g, ?_, zMs_r⟩)
          · obtain ⟨f', e, hxs, h', -, hf⟩ := l_lm hw h hp hb
            refine ⟨f', g, ?_, hxs⟩
            have m := hf _ hx
            rw [zfa_sym hN hs hb hx, hz] at m
            have m2 := cxr h' hp
            simp (disch := first | omega | assumption) only [x_82_0, x_82_5, x_82_12, x_82_19, x_82_22, x_82_44, x_82_52, x_82_103, e_82, l_46 g _ (cxP h) hP6, l_35, l_11, nI_add, pk_mul, z_in, z_ix, nI_leI, nI_ltI, nI_eq, z_eq0, z_lt0, z_0le, z_0lt, z_le0, z_n9, z_n1, z_m1lt, z_m9lt, z_m9le, z_m1le, zB_0, zB_1, zz_bi_s, zz_bv_s, zz_bl_s, if_pos, if_neg, if_true, if_false, true_and, and_true, not_true_eq_false, not_false_eq_true, ite_self, cxP h, cxS h, cxB h, cxH h, cxD h, cxk h, cxr h, cxp h, cxd h, cxt h, cxa h, cxb h, l_look hw h hp, e, m2, m, dI_n]
          · have m : zz_ca 204 [.ref 112, .int (nI p), .int (nI (qR (hC (aH A)) p)), .int (nI b)] (zK f g) = some (some (.int (dI (zfa (zgo A p) (qR (hC (aH A)) p) b))), zK f g) := l_204 hw.2.2.1 (CM_V hw h) hp hx hb
            simp (disch := first | omega | assumption) only [x_203_0, x_203_5, x_203_12, x_203_19, x_203_22, x_203_42, x_203_63, x_203_93, x_203_102, e_203, l_176 g _ (cmP h) hP6, l_182, l_149, nI_add, pk_mul, z_in, z_ix, nI_leI, nI_ltI, nI_eq, z_eq0, z_lt0, z_0le, z_0lt, z_le0, z_n9, z_n1, z_m1lt, z_m9lt, z_m9le, z_m1le, zB_0, zB_1, zz_bi_s, zz_bv_s, zz_bl_s, if_pos, if_neg, if_true, if_false, true_and, and_true, not_true_eq_false, not_false_eq_true, ite_self, cmP h, cmS h, cmB h, cmH h, cmD h, cmk h, cmr h, cmp h, cmd h, cmt h, cma h, cmb h, cm0 h, m, hz, dI_n]
        | some n =>
          have hn := zfa_lt hz
          refine ⟨.int (nI n), sR A (rNw (aR A) r (n + 1) (zwy (zgo A p) b (qR (hC (aH A)) p) n)), wf_R hw (wfR_nw hw.1 (by omega) _), fun f g h => ?_, fun f g h => ⟨zbo (zfs (zz_u f 116 r (nI (n + 1))) 117 (40 * r) 40 (nI 0)) (40 * r) (zwy (zgo A p) b (qR (hC (aH A)) p) n) (n + 1), g, ?_, CM_R hw h (fun a q1 q2 => by rw [zbo_c q2, zfs_c q2, zu_c q1]) (MR_nw h.2.2.2.2.1 hr (by omega) _), ⟨fun a ha => by rw [zbo_c (by omega), zfs_c (by omega), zu_c (by omega)], fun _ _ => rfl⟩⟩⟩
          · obtain ⟨f', e, hxs, h', hf1, hf⟩ := l_lm hw h hp hb
            obtain ⟨f2, e2, k1, k2, k3⟩ := l_85 (g := g) hN hs hx hb hr hf1 hf hz
            have m := hf _ hx
            rw [zfa_sym hN hs hb hx, hz, dI_s] at m
            have m2 := cxr h' hp
            refine ⟨f2, g, ?_, CX_R h' (fun a ha => k1 a (by omega) (by omega)) (XR_nw h'.2.2.2.1 hr (by omega) _ k1 k2 k3), zHi_t (zXs_hi hxs) ⟨fun a ha => k1 a (by omega) (by omega), fun _ _ => rfl⟩⟩
            simp (disch := first | omega | assumption) only [x_82_0, x_82_5, x_82_12, x_82_19, x_82_22, x_82_44, x_82_52, x_82_103, e_82, l_46 g _ (cxP h) hP6, l_35, l_11, nI_add, pk_mul, z_in, z_ix, nI_leI, nI_ltI, nI_eq, z_eq0, z_lt0, z_0le, z_0lt, z_le0, z_n9, z_n1, z_m1lt, z_m9lt, z_m9le, z_m1le, zB_0, zB_1, zz_bi_s, zz_bv_s, zz_bl_s, if_pos, if_neg, if_true, if_false, true_and, and_true, not_true_eq_false, not_false_eq_true, ite_self, cxP h, cxS h, cxB h, cxH h, cxD h, cxk h, cxr h, cxp h, cxd h, cxt h, cxa h, cxb h, l_look hw h hp, e, m2, m, e2]
          · have m : zz_ca 204 [.ref 112, .int (nI p), .int (nI (qR (hC (aH A)) p)), .int (nI b)] (zK f g) = some (some (.int (dI (zfa (zgo A p) (qR (hC (aH A)) p) b))), zK f g) := l_204 hw.2.2.1 (CM_V hw h) hp hx hb
            simp (disch := first | omega | assumption) only [e_203, x_203_0, x_203_5, x_203_12, x_203_19, x_203_42, x_203_63, l_176 g _ (cmP h) hP6, l_182, l_149, nI_add, pk_mul, z_in, z_ix, nI_leI, nI_ltI, nI_eq, z_eq0, z_lt0, z_0le, z_0lt, z_le0, z_n9, z_n1, z_m1lt, z_m9lt, z_m9le, z_m1le, zB_0, zB_1, zz_bi_s, zz_bv_s, zz_bl_s, if_pos, if_neg, if_true, if_false, true_and, and_true, not_true_eq_false, not_false_eq_true, ite_self, cmP h, cmS h, cmB h, cmH h, cmD h, cmk h, cmr h, cmp h, cmd h, cmt h, cma h, cmb h, cm0 h, m, hz, dI_s, l_152]
            refine Eq.trans ?_ ((z_lp (fun i => zz_ev 203 77 [.ref 112, .int (nI p), .int (nI b), .int (nI r), .int (nI (zwy (zgo A p) b (qR (hC (aH A)) p) n i)), .int (nI n), .int (nI (i + 1))] [] (zK (zbo (zfs (zz_u f 116 r (nI (n + 1))) 117 (40 * r) 40 (nI 0)) (40 * r) (zwy (zgo A p) b (qR (hC (aH A)) p) n) (i + 1)) g)) n (fun i hi => ?_) 0 (by omega)).trans ?_)
            · rw [← zbo_u, zbo_0]; rfl
            · have ok := zwy_ok hN hx hz i (by omega)
              have ok1 := ok.1
              have hV : VM (aW A) (qS (hC (aH A))) (zbo (zfs (zz_u f 116 r (nI (n + 1))) 117 (40 * r) 40 (nI 0)) (40 * r) (zwy (zgo A p) b (qR (hC (aH A)) p) n) (i + 1)) := by
                have q := CM_V hw h
                refine ⟨?_, q.2.1, MW_fr q.2.2 ?_ ?_ ?_ ?_⟩
                · obtain ⟨sh, br, q1, q2, q3⟩ := q.1
                  exact ⟨sh, br, by rw [zbo_c (by omega), zfs_c (by omega), zu_c (by omega)]; exact q1, by rw [zbo_c (by omega), zfs_c (by omega), zu_c (by omega)]; exact q2, q3⟩
                · rw [zbo_c (by omega), zfs_c (by omega), zu_c (by omega)]
                · rw [zbo_c (by omega), zfs_c (by omega), zu_c (by omega)]
                · rw [zbo_c (by omega), zfs_c (by omega), zu_c (by omega)]
                · rw [zbo_c (by omega), zfs_c (by omega), zu_c (by omega)]
              have m1 := l_178 (g := g) hw.2.2.1 hV hp ok1
              have m2 := l_205 (g := g) hw.2.2.1 hV (m := n - (i + 1)) hp ok1 hb (by omega) rfl
              have m3 : znw (znx (aW A) (wK (aW A) p) (zdr (wK (aW A) p) (qS (hC (aH A))))) b (zwy (zgo A p) b (qR (hC (aH A)) p) n i) (n - (i + 1)) = some (zwy (zgo A p) b (qR (hC (aH A)) p) n (i + 1)) := ok.2.2 hi
              show zz_ev 203 77 _ _ _ = zz_ev 203 77 _ _ _
              rw [x_203_77, m1, zz_bi_s, x_203_93, pk_sub (by omega), m2, m3, zz_bi_s, x_203_102, dI_s]
              simp (disch := first | omega | assumption) only [nI_add, pk_mul, z_in, z_ix, nI_leI, nI_ltI, nI_eq, z_eq0, z_lt0, z_0le, z_0lt, z_le0, z_n9, z_n1, z_m1lt, z_m9lt, z_m9le, z_m1le, zB_0, zB_1, zz_bi_s, zz_bv_s, zz_bl_s, if_pos, if_neg, if_true, if_false, true_and, and_true, not_true_eq_false, not_false_eq_true, ite_self, zbo_u]
            · show zz_ev 203 77 _ _ _ = _
              rw [x_203_77]; simp (disch := first | omega | assumption) only [nI_add, pk_mul, z_in, z_ix, nI_leI, nI_ltI, nI_eq, z_eq0, z_lt0, z_0le, z_0lt, z_le0, z_n9, z_n1, z_m1lt, z_m9lt, z_m9le, z_m1le, zB_0, zB_1, zz_bi_s, zz_bv_s, zz_bl_s, if_pos, if_neg, if_true, if_false, true_and, and_true, not_true_eq_false, not_false_eq_true, ite_self]
      · exact sim_0 hw (.int (-1)) (fun f g h => by simp (disch := first | omega | assumption) only [x_82_0, x_82_5, x_82_12, x_82_19, x_82_22, x_82_44, x_82_52, x_82_103, e_82, l_46 g _ (cxP h) hP6, l_35, l_11, nI_add, pk_mul, z_in, z_ix, nI_leI, nI_ltI, nI_eq, z_eq0, z_lt0, z_0le, z_0lt, z_le0, z_n9, z_n1, z_m1lt, z_m9lt, z_m9le, z_m1le, zB_0, zB_1, zz_bi_s, zz_bv_s, zz_bl_s, if_pos, if_neg, if_true, if_false, true_and, and_true, not_true_eq_false, not_false_eq_true, ite_self, h3]) (fun f g h => by simp (disch := first | omega | assumption) only [x_203_0, x_203_5, x_203_12, x_203_19, x_203_22, x_203_42, x_203_63, x_203_93, x_203_102, e_203, l_176 g _ (cmP h) hP6, l_182, l_149, nI_add, pk_mul, z_in, z_ix, nI_leI, nI_ltI, nI_eq, z_eq0, z_lt0, z_0le, z_0lt, z_le0, z_n9, z_n1, z_m1lt, z_m9lt, z_m9le, z_m1le, zB_0, zB_1, zz_bi_s, zz_bv_s, zz_bl_s, if_pos, if_neg, if_true, if_false, true_and, and_true, not_true_eq_false, not_false_eq_true, ite_self, h3])
    · exact sim_0 hw (.int (-1)) (fun f g h => by simp (disch := first | omega | assumption) only [x_82_0, x_82_5, x_82_12, x_82_19, x_82_22, x_82_44, x_82_52, x_82_103, e_82, l_46 g _ (cxP h) hP6, l_35, nI_add, pk_mul, z_in, z_ix, nI_leI, nI_ltI, nI_eq, z_eq0, z_lt0, z_0le, z_0lt, z_le0, z_n9, z_n1, z_m1lt, z_m9lt, z_m9le, z_m1le, zB_0, zB_1, zz_bi_s, zz_bv_s, zz_bl_s, if_pos, if_neg, if_true, if_false, true_and, and_true, not_true_eq_false, not_false_eq_true, ite_self, h2]) (fun f g h => by simp (disch := first | omega | assumption) only [x_203_0, x_203_5, x_203_12, x_203_19, x_203_22, x_203_42, x_203_63, x_203_93, x_203_102, e_203, l_176 g _ (cmP h) hP6, l_182, nI_add, pk_mul, z_in, z_ix, nI_leI, nI_ltI, nI_eq, z_eq0, z_lt0, z_0le, z_0lt, z_le0, z_n9, z_n1, z_m1lt, z_m9lt, z_m9le, z_m1le, zB_0, zB_1, zz_bi_s, zz_bv_s, zz_bl_s, if_pos, if_neg, if_true, if_false, true_and, and_true, not_true_eq_false, not_false_eq_true, ite_self, h2])
  · exact sim_0 hw (.int (-1)) (fun f g h => by simp (disch := first | omega | assumption) only [x_82_0, x_82_5, x_82_12, x_82_19, x_82_22, x_82_44, x_82_52, x_82_103, e_82, l_46 g _ (cxP h) hP6, nI_add, pk_mul, z_in, z_ix, nI_leI, nI_ltI, nI_eq, z_eq0, z_lt0, z_0le, z_0lt, z_le0, z_n9, z_n1, z_m1lt, z_m9lt, z_m9le, z_m1le, zB_0, zB_1, zz_bi_s, zz_bv_s, zz_bl_s, if_pos, if_neg, if_true, if_false, true_and, and_true, not_true_eq_false, not_false_eq_true, ite_self, h1]) (fun f g h => by simp (disch := first | omega | assumption) only [x_203_0, x_203_5, x_203_12, x_203_19, x_203_22, x_203_42, x_203_63, x_203_93, x_203_102, e_203, l_176 g _ (cmP h) hP6, nI_add, pk_mul, z_in, z_ix, nI_leI, nI_ltI, nI_eq, z_eq0, z_lt0, z_0le, z_0lt, z_le0, z_n9, z_n1, z_m1lt, z_m9lt, z_m9le, z_m1le, zB_0, zB_1, zz_bi_s, zz_bv_s, zz_bl_s, if_pos, if_neg, if_true, if_false, true_and, and_true, not_true_eq_false, not_false_eq_true, ite_self, h1])
