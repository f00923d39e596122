/-! BAR -/
theorem zuo_mono {N M : Nat → Nat} {s t : Nat} (h : ∀ i, s.testBit i = true → t.testBit i = true) (hN : ∀ c b, (N c).testBit b = true → (M c).testBit b = true) {n b : Nat} (q : (zuo N s n).testBit b = true) : (zuo M t n).testBit b = true := by
  rw [zuo_t] at q ⊢
  obtain ⟨c, hc, q1, q2⟩ := q
  exact ⟨c, hc, h c q1, hN c b q2⟩
theorem zS_mono {N M : Nat → Nat} (hN : ∀ c b, (N c).testBit b = true → (M c).testBit b = true) {a : Nat} : ∀ n b, (zS N a n).testBit b = true → (zS M a n).testBit b = true
  | 0, b, h => by rw [zS_0] at h ⊢; exact h
  | n + 1, b, h => by
    rw [zS_s, Nat.testBit_or, Bool.or_eq_true] at h ⊢
    rcases h with h | h
    · exact Or.inl (zS_mono hN n b h)
    · exact Or.inr (zuo_mono (zS_mono hN n) hN h)
theorem znx_mono {W : zW} {k d e : Nat} (h : ∀ i, d.testBit i = true → e.testBit i = true) (c b : Nat) (q : (znx W k d c).testBit b = true) : (znx W k e c).testBit b = true := by
  unfold znx at q ⊢
  rw [Nat.testBit_or, Bool.or_eq_true] at q ⊢
  rcases q with q | q
  · left; rw [znb_t] at q ⊢
    rcases q with ⟨q1, q2⟩ | ⟨q1, q2⟩
    · exact Or.inl ⟨h _ q1, q2⟩
    · exact Or.inr ⟨h _ q1, q2⟩
  · exact Or.inr q
/-- whether one does not come there with these doors shut, too -/
def zbl (W : zW) (k dr a b s : Nat) : Bool := !(zcl (znx W k (zdf dr s)) a).testBit b
theorem zdr_or {k sh s : Nat} (hk : k ≠ 3) : zdr k (sh ||| s) = zdf (zdr k sh) s := by
  refine z_ext (n := 12) (zdr_lt _ _) (z_df_lt (zdr_lt _ _)) (fun d hd => ?_)
  rw [zdf_t, zdr_t hd, zdr_t hd, Nat.testBit_or]
  cases sh.testBit d <;> cases s.testBit d <;> simp [hk]
/-- the two searches -/
def zbC (bl : Nat → Bool) (dr : Nat) : Nat → Nat
  | 0 => dr
  | i + 1 => if zdf i dr = 0 ∧ zpc 12 i < zpc 12 (zbC bl dr i) ∧ bl i = true then i else zbC bl dr i
def zbM (bl : Nat → Bool) (dr : Nat) : Nat → Option Nat
  | 0 => none
  | i + 1 => match zbM bl dr i with
    | none => if zdf i dr = 0 ∧ bl i = true then some i else none
    | some c => if zdf i dr = 0 ∧ zpc 12 i < zpc 12 c ∧ bl i = true then some i else some c
theorem zbC_s {bl : Nat → Bool} {dr i : Nat} : zbC bl dr (i + 1) = if zdf i dr = 0 ∧ zpc 12 i < zpc 12 (zbC bl dr i) ∧ bl i = true then i else zbC bl dr i := rfl
theorem zbM_n {bl : Nat → Bool} {dr i : Nat} (h : zbM bl dr i = none) : zbM bl dr (i + 1) = if zdf i dr = 0 ∧ bl i = true then some i else none := by
  show (match zbM bl dr i with
    | none => if zdf i dr = 0 ∧ bl i = true then some i else none
    | some c => if zdf i dr = 0 ∧ zpc 12 i < zpc 12 c ∧ bl i = true then some i else some c) = _
  rw [h]
theorem zbM_s {bl : Nat → Bool} {dr i c : Nat} (h : zbM bl dr i = some c) : zbM bl dr (i + 1) = if zdf i dr = 0 ∧ zpc 12 i < zpc 12 c ∧ bl i = true then some i else some c := by
  show (match zbM bl dr i with
    | none => if zdf i dr = 0 ∧ bl i = true then some i else none
    | some c => if zdf i dr = 0 ∧ zpc 12 i < zpc 12 c ∧ bl i = true then some i else some c) = _
  rw [h]
theorem zdf_sub {s t : Nat} (h : zdf s t = 0) {i : Nat} (q : s.testBit i = true) : t.testBit i = true := by
  have e : (zdf s t).testBit i = false := by rw [h, Nat.zero_testBit]
  rw [zdf_t, q] at e; simpa using e
theorem zdf_self (s : Nat) : zdf s s = 0 := by
  apply Nat.eq_of_testBit_eq; intro i; rw [zdf_t, Nat.zero_testBit]; cases s.testBit i <;> rfl
theorem zbC_lt {bl : Nat → Bool} {dr : Nat} (hd : dr < 4096) : ∀ {i : Nat}, i ≤ 4096 → zbC bl dr i < 4096
  | 0, _ => hd
  | i + 1, h => by rw [zbC_s]; split; omega; exact zbC_lt hd (by omega)
theorem zbM_lt {bl : Nat → Bool} {dr : Nat} : ∀ {i c : Nat}, zbM bl dr i = some c → c < i
  | 0, c, h => by cases h
  | i + 1, c, h => by
    cases e : zbM bl dr i with
    | none => rw [zbM_n e] at h; split at h; cases h; omega; cases h
    | some d =>
      rw [zbM_s e] at h
      have := zbM_lt e
      split at h <;> (cases h; omega)
theorem zbCM {bl : Nat → Bool} {dr : Nat} (hd : dr < 4096) (hb : bl dr = true) : ∀ {i : Nat}, i ≤ 4096 → (zbM bl dr i = none ∧ zbC bl dr i = dr ∧ i ≤ dr) ∨ zbM bl dr i = some (zbC bl dr i)
  | 0, _ => Or.inl ⟨rfl, rfl, Nat.zero_le _⟩
  | i + 1, hi => by
    rcases zbCM hd hb (i := i) (by omega) with ⟨h1, h2, h3⟩ | h
    · rw [zbM_n h1, zbC_s, h2]
      by_cases q : zdf i dr = 0 ∧ bl i = true
      · right
        rw [if_pos q]
        by_cases e : i = dr
        · subst e; rw [if_neg (by omega)]
        · obtain ⟨b, hb12, q1, q2⟩ := z_sub_eq hd (show i < 4096 by omega) (fun j hj => zdf_sub q.1 hj) (fun w => e w.symm)
          have := zpc_strict (fun j hj => zdf_sub q.1 hj) q1 q2 12 hb12
          rw [if_pos ⟨q.1, this, q.2⟩]
      · left
        rw [if_neg q, if_neg (fun w => q ⟨w.1, w.2.2⟩)]
        refine ⟨rfl, rfl, ?_⟩
        by_cases e : i = dr
        · subst e; exact absurd ⟨zdf_self i, hb⟩ q
        · omega
    · right
      rw [zbM_s h, zbC_s]
      by_cases q : zdf i dr = 0 ∧ zpc 12 i < zpc 12 (zbC bl dr i) ∧ bl i = true
      · rw [if_pos q, if_pos q]
      · rw [if_neg q, if_neg q]
theorem zbCM_end {bl : Nat → Bool} {dr : Nat} (hd : dr < 4096) (hb : bl dr = true) : zbM bl dr 4096 = some (zbC bl dr 4096) := by
  rcases zbCM hd hb (Nat.le_refl 4096) with ⟨-, -, h⟩ | h
  · omega
  · exact h
theorem zbM_no {bl : Nat → Bool} {dr : Nat} (hb : ∀ s, zdf s dr = 0 → bl s = false) : ∀ i, zbM bl dr i = none
  | 0 => rfl
  | i + 1 => by
    rw [zbM_n (zbM_no hb i), if_neg]
    rintro ⟨h1, h2⟩
    rw [hb i h1] at h2; cases h2
theorem zbC_stop {bl : Nat → Bool} {dr : Nat} {i : Nat} (h : zpc 12 (zbC bl dr i) = 0) : ∀ m, i ≤ m → zbC bl dr m = zbC bl dr i := by
  intro m hm
  induction hm with
  | refl => rfl
  | step _ ih => rw [zbC_s, ih, if_neg (by omega)]
theorem l_105 {A : zA} (hw : wf A) {f : Nat → Nat → Int32} {g : Nat → Nat → Int64} (h : CX A f g) {k dr a b : Nat} (hk : k < 6) (hd : dr < 4096) (ha : a < 12) (hb : b < 12) : zz_ca 105 [.ref 30, .ref 3, .int (nI k), .int (nI dr), .int (nI a), .int (nI b)] (zK f g) = some (some (.int (zB ((zcl (znx (aW A) k dr) a).testBit b = true))), zK (zbs f 31 (znx (aW A) k dr) 12) g) := by
  have hN : ∀ c < 12, znx (aW A) k dr c < 4096 := fun c _ => znx_lt hw.2.2.1 _ _ _
  have hl := zS_lt hN ha 11
  have m1 := l_64 hw h zs_P_30 (by decide) (by decide) hk hd
  have m2 : zz_ca 65 [.ref 30, .int (nI a)] (zK (zbs f 31 (znx (aW A) k dr) 12) g) = _ := l_65 hN (fun c hc => zbs_i hc) ha
  rw [e_105, x_105_0, m1, zz_bv_s, x_105_7]
  rw [show zbs f (30 + 1) (znx (aW A) k dr) 12 = zbs f 31 (znx (aW A) k dr) 12 from rfl, m2, zz_bi_s, x_105_13, l_38 _ _ (show zcl (znx (aW A) k dr) a < 2 ^ 31 by unfold zcl; omega) (by omega), zz_bi_s, x_105_18 _ _ _ _ _ _ _ zB_bz]
theorem z_8 (k : Nat) : k = 3 ∨ k ≠ 3 := by omega
theorem l_104 {A : zA} (hw : wf A) {f : Nat → Nat → Int32} {g : Nat → Nat → Int64} (h : CX A f g) {p b : Nat} (hp : p < wP (aW A)) (hb : b < 12) (hk3 : wK (aW A) p ≠ 3) : ∃ f', zz_ca 104 [.ref 30, .ref 3, .int (nI p), .int (nI b)] (zK f g) = some (some (.int (if zbl (aW A) (wK (aW A) p) (zdr (wK (aW A) p) (qS (hC (aH A)))) (qR (hC (aH A)) p) b (zdr (wK (aW A) p) (qS (hC (aH A)))) = true then nI (zbC (zbl (aW A) (wK (aW A) p) (zdr (wK (aW A) p) (qS (hC (aH A)))) (qR (hC (aH A)) p) b) (zdr (wK (aW A) p) (qS (hC (aH A)))) 4096) else -9)), zK f' g) ∧ zXs f f' g g := by
  have hP6 := wfP hw
  have hk := wfk hw hp
  have ha := wfr hw hp
  have hd := zdr_lt (wK (aW A) p) (qS (hC (aH A)))
  rw [e_104, x_104_0]
  simp (disch := first | omega | assumption) only [nI_add, pk_mul, z_in, z_ix, nI_leI, nI_ltI, nI_eq, z_eq0, z_lt0, z_0le, z_0lt, z_le0, z_n9, z_n1, z_m1lt, z_m9lt, z_m9le, z_m1le, zB_0, zB_1, zz_bi_s, zz_bv_s, zz_bl_s, if_pos, if_neg, if_true, if_false, true_and, and_true, not_true_eq_false, not_false_eq_true, ite_self, cxP h, cxS h, cxB h, cxH h, cxD h, cxk h, cxr h, cxp h, cxd h, cxt h, cxa h, cxb h, l_49 hw h, x_104_22, x_104_36]
  revert hd
  generalize hdr : zdr (wK (aW A) p) (qS (hC (aH A))) = dr
  intro hd
  rw [z_andn, l_105 hw h hk (z_df_lt hd) ha hb, zz_bi_s, x_104_55]
  simp (disch := first | omega | assumption) only [nI_add, pk_mul, z_in, z_ix, nI_leI, nI_ltI, nI_eq, z_eq0, z_lt0, z_0le, z_0lt, z_le0, z_n9, z_n1, z_m1lt, z_m9lt, z_m9le, z_m1le, zB_0, zB_1, zz_bi_s, zz_bv_s, zz_bl_s, if_pos, if_neg, if_true, if_false, true_and, and_true, not_true_eq_false, not_false_eq_true, ite_self]
  by_cases hbl : zbl (aW A) (wK (aW A) p) dr (qR (hC (aH A)) p) b dr = true
  · have hz : ¬ (zcl (znx (aW A) (wK (aW A) p) (zdf dr dr)) (qR (hC (aH A)) p)).testBit b = true := by unfold zbl at hbl; simpa using hbl
    rw [if_pos hz, if_pos hbl, l_61 _ _ hd, zz_bi_s, x_104_70, hw_104_75]
    have key := z_loop (fun i (f' : Nat → Nat → Int32) => zz_ev 104 75 [.ref 30, .ref 3, .null, .int (nI b), .int (nI (wK (aW A) p)), .int (nI (qR (hC (aH A)) p)), .int (nI dr), .int (nI dr), .int (nI (zbC (zbl (aW A) (wK (aW A) p) dr (qR (hC (aH A)) p) b) dr i)), .int (nI (zpc 12 (zbC (zbl (aW A) (wK (aW A) p) dr (qR (hC (aH A)) p) b) dr i))), .int (nI i), .null] [] (zK f' g))
      (fun i f' => ∀ x, x ≠ 31 → f' x = f x)
      (fun x => ∃ f', x = some (some (.int (nI (zbC (zbl (aW A) (wK (aW A) p) dr (qR (hC (aH A)) p) b) dr 4096))), zK f' g) ∧ zXs f f' g g) 4096 ?_ ?_ 0 (zbs f 31 (znx (aW A) (wK (aW A) p) (zdf dr dr)) 12) (by omega) (fun x hx => zbs_c hx)
    · exact key
    · intro i f' hi hf
      have h' : CX A f' g := CX_s h (zXs_c (by decide) (by decide) hf)
      have hc := zbC_lt (bl := zbl (aW A) (wK (aW A) p) dr (qR (hC (aH A)) p) b) hd (i := i) (by omega)
      have hpc := zpc_le 12 (zbC (zbl (aW A) (wK (aW A) p) dr (qR (hC (aH A)) p) b) dr i)
      have hpi := zpc_le 12 i
      have hdl := z_df_lt (b := dr) (show i < 4096 from hi)
      by_cases q0 : zpc 12 (zbC (zbl (aW A) (wK (aW A) p) dr (qR (hC (aH A)) p) b) dr i) = 0
      · right
        refine ⟨f', ?_, zXs_c (by decide) (by decide) hf⟩
        rw [x_104_75]; simp (disch := first | omega | assumption) only [nI_add, pk_mul, z_in, z_ix, nI_leI, nI_ltI, nI_eq, z_eq0, z_lt0, z_0le, z_0lt, z_le0, z_n9, z_n1, z_m1lt, z_m9lt, z_m9le, z_m1le, zB_0, zB_1, zz_bi_s, zz_bv_s, zz_bl_s, if_pos, if_neg, if_true, if_false, true_and, and_true, not_true_eq_false, not_false_eq_true, ite_self, x_104_157]
        rw [zbC_stop q0 4096 (by omega)]
      · left
        have m1 := l_105 hw h' hk (z_df_lt (b := i) hd) ha hb
        rw [x_104_75]
        simp (disch := first | omega | assumption) only [nI_add, pk_mul, z_in, z_ix, nI_leI, nI_ltI, nI_eq, z_eq0, z_lt0, z_0le, z_0lt, z_le0, z_n9, z_n1, z_m1lt, z_m9lt, z_m9le, z_m1le, zB_0, zB_1, zz_bi_s, zz_bv_s, zz_bl_s, if_pos, if_neg, if_true, if_false, true_and, and_true, not_true_eq_false, not_false_eq_true, ite_self, z_andn, l_61 _ _ hi, x_104_103, x_104_112, x_104_113, m1, x_104_137, x_104_149, x_104_151]
        rw [zbC_s]
        by_cases q1 : zdf i dr = 0
        · rw [if_pos q1]
          by_cases q2 : zpc 12 i < zpc 12 (zbC (zbl (aW A) (wK (aW A) p) dr (qR (hC (aH A)) p) b) dr i)
          · rw [if_neg (by omega)]
            by_cases q3 : zbl (aW A) (wK (aW A) p) dr (qR (hC (aH A)) p) b i = true
            · have q4 : ¬ (zcl (znx (aW A) (wK (aW A) p) (zdf dr i)) (qR (hC (aH A)) p)).testBit b = true := by unfold zbl at q3; simpa using q3
              rw [if_pos q4, if_pos ⟨q1, q2, q3⟩]
              exact ⟨_, hw_104_75 _ _ _ _ _ _ _ _ _ _ _ _, fun x hx => by rw [zbs_c hx]; exact hf x hx⟩
            · have q4 : ¬ ¬ (zcl (znx (aW A) (wK (aW A) p) (zdf dr i)) (qR (hC (aH A)) p)).testBit b = true := by unfold zbl at q3; simpa using q3
              rw [if_neg q4, if_neg (fun w => q3 w.2.2)]
              exact ⟨_, hw_104_75 _ _ _ _ _ _ _ _ _ _ _ _, fun x hx => by rw [zbs_c hx]; exact hf x hx⟩
          · rw [if_pos (by omega), if_neg (fun w => q2 w.2.1)]
            exact ⟨f', hw_104_75 _ _ _ _ _ _ _ _ _ _ _ _, hf⟩
        · rw [if_neg q1, if_neg (fun w => q1 w.1)]
          exact ⟨f', hw_104_75 _ _ _ _ _ _ _ _ _ _ _ _, hf⟩
    · intro f' hf
      refine ⟨f', ?_, zXs_c (by decide) (by decide) hf⟩
      rw [x_104_75]; simp (disch := first | omega | assumption) only [nI_add, pk_mul, z_in, z_ix, nI_leI, nI_ltI, nI_eq, z_eq0, z_lt0, z_0le, z_0lt, z_le0, z_n9, z_n1, z_m1lt, z_m9lt, z_m9le, z_m1le, zB_0, zB_1, zz_bi_s, zz_bv_s, zz_bl_s, if_pos, if_neg, if_true, if_false, true_and, and_true, not_true_eq_false, not_false_eq_true, ite_self, x_104_157]
  · have hz : ¬ ¬ (zcl (znx (aW A) (wK (aW A) p) (zdf dr dr)) (qR (hC (aH A)) p)).testBit b = true := by unfold zbl at hbl; simpa using hbl
    rw [if_neg hz, if_neg hbl]
    exact ⟨_, rfl, zXs_look⟩
/-! the reference -/
def zmy (k sh : Nat) : Nat := zps (fun d => (zdr k sh).testBit d && !sh.testBit d) 12
theorem zps_lt {c : Nat → Bool} : zps c 12 < 4096 := by
  have : ∀ n, n ≤ 12 → zps c n < 4096 := by
    intro n
    induction n with
    | zero => intro _; show 0 < 4096; decide
    | succ n ih => intro h; rw [zps_s]; exact z_or_lt (ih (by omega)) (by split; exact z_p_lt (by omega); decide)
  exact this 12 (Nat.le_refl _)
theorem zmy_eq {k sh : Nat} (hk : k ≠ 3) : zmy k sh = zdr k sh := by
  refine z_ext (n := 12) zps_lt (zdr_lt _ _) (fun d hd => ?_)
  apply zuu
  unfold zmy
  rw [zps_t, Bool.and_eq_true]
  refine ⟨fun q => q.2.1, fun q => ⟨hd, q, ?_⟩⟩
  rw [zdr_t hd] at q
  have := of_decide_eq_true q
  rcases this with w | w
  · exact absurd w hk
  · simpa using w.1
theorem l_216_34 {A : zA} (hw : wf A) {f : Nat → Nat → Int32} {g : Nat → Nat → Int64} (h : CM A f g) {p b : Nat} (hp : p < wP (aW A)) : zz_ev 216 34 [.ref 112, .int (nI p), .int (nI b), .int (nI 0), .int (nI 0), .null] [] (zK f g) = zz_ev 216 89 [.ref 112, .int (nI p), .int (nI b), .int (nI (zmy (wK (aW A) p) (qS (hC (aH A))))), .int (-9), .int (nI 0)] [] (zK f g) := by
  have hB := wfB hw
  refine (z_lp (fun i => zz_ev 216 34 [.ref 112, .int (nI p), .int (nI b), .int (nI (zps (fun d => (zdr (wK (aW A) p) (qS (hC (aH A)))).testBit d && !(qS (hC (aH A))).testBit d) i)), .int (nI i), .null] [] (zK f g)) 12 (fun i hi => ?_) 0 (by omega)).trans ?_
  · show zz_ev 216 34 _ _ _ = zz_ev 216 34 _ _ _
    rw [x_216_34]; simp (disch := first | omega | assumption) only [nI_add, pk_mul, z_in, z_ix, nI_leI, nI_ltI, nI_eq, z_eq0, z_lt0, z_0le, z_0lt, z_le0, z_n9, z_n1, z_m1lt, z_m9lt, z_m9le, z_m1le, zB_0, zB_1, zz_bi_s, zz_bv_s, zz_bl_s, if_pos, if_neg, if_true, if_false, true_and, and_true, not_true_eq_false, not_false_eq_true, ite_self, l_179 hw.2.2.1 (CM_V hw h) hp, x_216_49, cmP h, cmS h, cmB h, cmH h, cmD h, cmk h, cmr h, cmp h, cmd h, cmt h, cma h, cmb h, cm0 h, l_171, x_216_63, x_216_73, x_216_74, z_1shl, z_or]
    rw [zps_s]
    by_cases q : (zdr (wK (aW A) p) (qS (hC (aH A)))).testBit i = true
    · rw [if_neg (fun w => w q), q]
      by_cases q2 : (qS (hC (aH A))).testBit i = true
      · rw [if_neg (fun w => w q2), q2]; rfl
      · rw [if_pos q2, show (qS (hC (aH A))).testBit i = false by simpa using q2]; rfl
    · rw [if_pos q, show (zdr (wK (aW A) p) (qS (hC (aH A)))).testBit i = false by simpa using q]; rfl
  · show zz_ev 216 34 _ _ _ = _
    rw [x_216_34]; simp (disch := first | omega | assumption) only [nI_add, pk_mul, z_in, z_ix, nI_leI, nI_ltI, nI_eq, z_eq0, z_lt0, z_0le, z_0lt, z_le0, z_n9, z_n1, z_m1lt, z_m9lt, z_m9le, z_m1le, zB_0, zB_1, zz_bi_s, zz_bv_s, zz_bl_s, if_pos, if_neg, if_true, if_false, true_and, and_true, not_true_eq_false, not_false_eq_true, ite_self]; rfl
/-- what the search of the reference finds -/
def zbo9 (o : Option Nat) : Int32 := match o with
  | none => -9
  | some c => nI c
theorem zbo9_9 {bl : Nat → Bool} {dr i : Nat} (hi : i ≤ 4096) : (zbo9 (zbM bl dr i) = -9) ↔ zbM bl dr i = none := by
  cases e : zbM bl dr i with
  | none => exact ⟨fun _ => rfl, fun _ => rfl⟩
  | some c => have := zbM_lt e; exact ⟨fun q => absurd q (by show ¬ nI c = -9; rw [z_n9 (by omega)]; exact id), fun q => by cases q⟩
theorem l_216 {A : zA} (hw : wf A) {f : Nat → Nat → Int32} {g : Nat → Nat → Int64} (h : CM A f g) {p b m : Nat} (hp : p < wP (aW A)) (hb : b < 12) (hm : m < 4096) : ∃ f', zz_ev 216 89 [.ref 112, .int (nI p), .int (nI b), .int (nI m), .int (-9), .int (nI 0)] [] (zK f g) = zz_ev 216 89 [.ref 112, .int (nI p), .int (nI b), .int (nI m), .int (zbo9 (zbM (fun s => decide (zfa (znx (aW A) (wK (aW A) p) (zdr (wK (aW A) p) (qS (hC (aH A)) ||| s))) (qR (hC (aH A)) p) b = none)) m 4096)), .int (nI 4096)] [] (zK f' g) ∧ (∀ x, x ≠ 112 → f' x = f x) ∧ ∀ j, j ≠ 22 → f' 112 j = f 112 j := by
  have hP6 := wfP hw
  have ha := wfr hw hp
  have key := z_loop (fun i (f' : Nat → Nat → Int32) => zz_ev 216 89 [.ref 112, .int (nI p), .int (nI b), .int (nI m), .int (zbo9 (zbM (fun s => decide (zfa (znx (aW A) (wK (aW A) p) (zdr (wK (aW A) p) (qS (hC (aH A)) ||| s))) (qR (hC (aH A)) p) b = none)) m i)), .int (nI i)] [] (zK f' g))
    (fun i f' => (∀ x, x ≠ 112 → f' x = f x) ∧ ∀ j, j ≠ 22 → f' 112 j = f 112 j)
    (fun x => ∃ f', x = zz_ev 216 89 [.ref 112, .int (nI p), .int (nI b), .int (nI m), .int (zbo9 (zbM (fun s => decide (zfa (znx (aW A) (wK (aW A) p) (zdr (wK (aW A) p) (qS (hC (aH A)) ||| s))) (qR (hC (aH A)) p) b = none)) m 4096)), .int (nI 4096)] [] (zK f' g) ∧ (∀ x, x ≠ 112 → f' x = f x) ∧ ∀ j, j ≠ 22 → f' 112 j = f 112 j) 4096 ?_ ?_ 0 f (by omega) ⟨fun _ _ => rfl, fun _ _ => rfl⟩
  · exact key
  · intro i f' hi ⟨hf1, hf2⟩
    left
    have hV : VM (aW A) (qS (hC (aH A)) ||| i) (zz_u f' 112 22 (nI i)) := by
      refine ⟨⟨qS (hC (aH A)), i, by rw [zu_c (by decide), hf1 113 (by decide)]; exact cmB h, zu_s, rfl⟩, z_or_lt (wfB hw) hi, MW_fr h.2.1 ?_ ?_ ?_ ?_⟩
      · rw [zu_i (by decide)]; exact hf2 1 (by decide)
      · rw [zu_i (by decide)]; exact hf2 3 (by decide)
      · rw [zu_c (by decide)]; exact hf1 114 (by decide)
      · rw [zu_c (by decide)]; exact hf1 115 (by decide)
    have m0 : zz_u f' 112 22 (nI i) 113 (3 + p) = nI (qR (hC (aH A)) p) := by rw [zu_c (by decide), hf1 113 (by decide)]; exact cmr h hp
    have m1 := l_204 (g := g) hw.2.2.1 hV hp ha hb
    have hdl := z_df_lt (b := m) (show i < 4096 from hi)
    have hpi := zpc_le 12 i
    have tr : ∀ o : Option Nat, zz_ev 216 126 [.ref 112, .int (nI p), .int (nI b), .int (nI m), .int (zbo9 o), .int (nI i)] [] (zK f' g) = zz_ev 216 89 [.ref 112, .int (nI p), .int (nI b), .int (nI m), .int (if zfa (znx (aW A) (wK (aW A) p) (zdr (wK (aW A) p) (qS (hC (aH A)) ||| i))) (qR (hC (aH A)) p) b = none then nI i else zbo9 o), .int (nI (i + 1))] [] (zK (zz_u f' 112 22 (nI i)) g) := fun o => by
      rw [x_216_126]; simp (disch := first | omega | assumption) only [nI_add, pk_mul, z_in, z_ix, nI_leI, nI_ltI, nI_eq, z_eq0, z_lt0, z_0le, z_0lt, z_le0, z_n9, z_n1, z_m1lt, z_m9lt, z_m9le, z_m1le, zB_0, zB_1, zz_bi_s, zz_bv_s, zz_bl_s, if_pos, if_neg, if_true, if_false, true_and, and_true, not_true_eq_false, not_false_eq_true, ite_self, m0, m1, x_216_146, dI_9 zfa_l, x_216_158, x_216_160]
      by_cases q : zfa (znx (aW A) (wK (aW A) p) (zdr (wK (aW A) p) (qS (hC (aH A)) ||| i))) (qR (hC (aH A)) p) b = none
      · rw [if_pos q, if_pos q]
      · rw [if_neg q, if_neg q]
    have fr : (∀ x, x ≠ 112 → zz_u f' 112 22 (nI i) x = f x) ∧ ∀ j, j ≠ 22 → zz_u f' 112 22 (nI i) 112 j = f 112 j := ⟨fun x hx => by rw [zu_c hx]; exact hf1 x hx, fun j hj => by rw [zu_i hj]; exact hf2 j hj⟩
    rw [x_216_89]; simp (disch := first | omega | assumption) only [nI_add, pk_mul, z_in, z_ix, nI_leI, nI_ltI, nI_eq, z_eq0, z_lt0, z_0le, z_0lt, z_le0, z_n9, z_n1, z_m1lt, z_m9lt, z_m9le, z_m1le, zB_0, zB_1, zz_bi_s, zz_bv_s, zz_bl_s, if_pos, if_neg, if_true, if_false, true_and, and_true, not_true_eq_false, not_false_eq_true, ite_self, z_andn, zbo9_9 (show i ≤ 4096 by omega), l_191 _ _ hi, x_216_118]
    by_cases q1 : zdf i m = 0
    · rw [if_pos q1]
      cases e : zbM (fun s => decide (zfa (znx (aW A) (wK (aW A) p) (zdr (wK (aW A) p) (qS (hC (aH A)) ||| s))) (qR (hC (aH A)) p) b = none)) m i with
      | none =>
        rw [if_pos rfl, tr, zbM_n e]
        by_cases q2 : zfa (znx (aW A) (wK (aW A) p) (zdr (wK (aW A) p) (qS (hC (aH A)) ||| i))) (qR (hC (aH A)) p) b = none
        · rw [if_pos q2, if_pos ⟨q1, decide_eq_true q2⟩]; exact ⟨_, rfl, fr⟩
        · rw [if_neg q2, if_neg (fun w => q2 (of_decide_eq_true w.2))]; exact ⟨_, rfl, fr⟩
      | some c =>
        have hc := zbM_lt e
        have hpc := zpc_le 12 c
        rw [if_neg (by simp), zbM_s e, show zbo9 (some c) = nI c from rfl, l_191 _ _ (show c < 4096 by omega), zz_bi_s, x_216_123]
        simp (disch := first | omega | assumption) only [nI_add, pk_mul, z_in, z_ix, nI_leI, nI_ltI, nI_eq, z_eq0, z_lt0, z_0le, z_0lt, z_le0, z_n9, z_n1, z_m1lt, z_m9lt, z_m9le, z_m1le, zB_0, zB_1, zz_bi_s, zz_bv_s, zz_bl_s, if_pos, if_neg, if_true, if_false, true_and, and_true, not_true_eq_false, not_false_eq_true, ite_self, x_216_160]
        by_cases q3 : zpc 12 i < zpc 12 c
        · rw [if_neg (by omega)]
          have := tr (some c)
          rw [show zbo9 (some c) = nI c from rfl] at this
          rw [this]
          by_cases q2 : zfa (znx (aW A) (wK (aW A) p) (zdr (wK (aW A) p) (qS (hC (aH A)) ||| i))) (qR (hC (aH A)) p) b = none
          · rw [if_pos q2, if_pos ⟨q1, q3, decide_eq_true q2⟩]; exact ⟨_, rfl, fr⟩
          · rw [if_neg q2, if_neg (fun w => q2 (of_decide_eq_true w.2.2))]; exact ⟨_, rfl, fr⟩
        · rw [if_pos (by omega), if_neg (fun w => q3 w.2.1)]; exact ⟨f', rfl, hf1, hf2⟩
    · rw [if_neg q1]
      refine ⟨f', ?_, hf1, hf2⟩
      rw [x_216_160, nI_add]
      cases e : zbM (fun s => decide (zfa (znx (aW A) (wK (aW A) p) (zdr (wK (aW A) p) (qS (hC (aH A)) ||| s))) (qR (hC (aH A)) p) b = none)) m i with
      | none => rw [zbM_n e, if_neg (fun w => q1 w.1)]
      | some c => rw [zbM_s e, if_neg (fun w => q1 w.1)]
  · intro f' hf
    exact ⟨f', rfl, hf⟩
theorem z_ring : ∀ a < 12, zS (znb 4095) a 11 = 4095 := by decide +kernel
theorem znx_cat (W : zW) : znx W 3 4095 = znb 4095 := by
  funext c; unfold znx; rw [if_neg (by decide), Nat.or_zero]
theorem sim_bar (A : zA) (hw : wf A) (v1 v2 : Int32) : zSim A 103 216 [.int v1, .int v2] := by
  have hP6 := wfP hw
  by_cases h1 : zz_in v1 (wP (aW A))
  · obtain ⟨p, hp, -, rfl⟩ := z_inx.mp h1
    have ha := wfr hw hp
    have hk := wfk hw hp
    by_cases h2 : zz_in v2 12
    · obtain ⟨b, hb, -, rfl⟩ := z_inx.mp h2
      by_cases h3 : qR (hC (aH A)) p = b
      · exact sim_0 hw (.int (-1)) (fun f g h => by simp (disch := first | omega | assumption) only [x_103_0, x_103_5, x_103_12, x_103_28, x_103_43, x_103_62, e_103, l_46 g _ (cxP h) hP6, l_35, nI_add, pk_mul, z_in, z_ix, nI_leI, nI_ltI, nI_eq, z_eq0, z_lt0, z_0le, z_0lt, z_le0, z_n9, z_n1, z_m1lt, z_m9lt, z_m9le, z_m1le, zB_0, zB_1, zz_bi_s, zz_bv_s, zz_bl_s, if_pos, if_neg, if_true, if_false, true_and, and_true, not_true_eq_false, not_false_eq_true, ite_self, cxP h, cxS h, cxB h, cxH h, cxD h, cxk h, cxr h, cxp h, cxd h, cxt h, cxa h, cxb h]) (fun f g h => by simp (disch := first | omega | assumption) only [x_216_0, x_216_5, x_216_12, x_216_27, x_216_49, x_216_63, x_216_73, x_216_74, x_216_118, x_216_123, x_216_126, x_216_146, x_216_158, x_216_160, x_216_188, x_216_208, e_216, l_176 g _ (cmP h) hP6, l_182, nI_add, pk_mul, z_in, z_ix, nI_leI, nI_ltI, nI_eq, z_eq0, z_lt0, z_0le, z_0lt, z_le0, z_n9, z_n1, z_m1lt, z_m9lt, z_m9le, z_m1le, zB_0, zB_1, zz_bi_s, zz_bv_s, zz_bl_s, if_pos, if_neg, if_true, if_false, true_and, and_true, not_true_eq_false, not_false_eq_true, ite_self, cmP h, cmS h, cmB h, cmH h, cmD h, cmk h, cmr h, cmp h, cmd h, cmt h, cma h, cmb h, cm0 h])
      · have hmy : zmy (wK (aW A) p) (qS (hC (aH A))) < 4096 := zps_lt
        have hd := zdr_lt (wK (aW A) p) (qS (hC (aH A)))
        -- the reference ends with what its search finds
        have keyM : ∀ f g, CM A f g → ∃ f', zz_ca 216 [.ref 112, .int (nI p), .int (nI b)] (zK f g) = zz_ev 216 89 [.ref 112, .int (nI p), .int (nI b), .int (nI (zmy (wK (aW A) p) (qS (hC (aH A))))), .int (zbo9 (zbM (fun s => decide (zfa (znx (aW A) (wK (aW A) p) (zdr (wK (aW A) p) (qS (hC (aH A)) ||| s))) (qR (hC (aH A)) p) b = none)) (zmy (wK (aW A) p) (qS (hC (aH A)))) 4096)), .int (nI 4096)] [] (zK f' g) ∧ (∀ x, x ≠ 112 → f' x = f x) ∧ ∀ j, j ≠ 22 → f' 112 j = f 112 j := by
          intro f g h
          obtain ⟨f', e1, e2, e3⟩ := l_216 (g := g) hw h hp hb hmy
          refine ⟨f', ?_, e2, e3⟩
          simp (disch := first | omega | assumption) only [e_216, x_216_0, x_216_5, x_216_12, l_176 g _ (cmP h) hP6, l_182, nI_add, pk_mul, z_in, z_ix, nI_leI, nI_ltI, nI_eq, z_eq0, z_lt0, z_0le, z_0lt, z_le0, z_n9, z_n1, z_m1lt, z_m9lt, z_m9le, z_m1le, zB_0, zB_1, zz_bi_s, zz_bv_s, zz_bl_s, if_pos, if_neg, if_true, if_false, true_and, and_true, not_true_eq_false, not_false_eq_true, ite_self, cmP h, cmS h, cmB h, cmH h, cmD h, cmk h, cmr h, cmp h, cmd h, cmt h, cma h, cmb h, cm0 h]
          rw [l_216_34 hw h hp, e1]
        have fin : ∀ f f' g, CM A f g → (∀ x, x ≠ 112 → f' x = f x) → (∀ j, j ≠ 22 → f' 112 j = f 112 j) → zMs f (zz_u f' 112 22 (nI 0)) g g := fun f f' g h q1 q2 => ⟨fun a x1 x2 => by rw [zu_c x1]; exact q1 a x1, fun _ _ => rfl, fun j hj => by
          by_cases e : j = 22
          · subst e; rw [zu_s]; exact (cm0 h).symm
          · rw [zu_i e]; exact q2 j e⟩
        rcases z_8 (wK (aW A) p) with k3 | k3
        · -- a cat
          have hcl : ∀ d, (zcl (znx (aW A) (wK (aW A) p) (zdr (wK (aW A) p) d)) (qR (hC (aH A)) p)).testBit b = true := fun d => by
            rw [k3, show zdr 3 d = 4095 from rfl, znx_cat]; unfold zcl; rw [z_ring _ ha]; exact z_4095 hb
          have hM : zbM (fun s => decide (zfa (znx (aW A) (wK (aW A) p) (zdr (wK (aW A) p) (qS (hC (aH A)) ||| s))) (qR (hC (aH A)) p) b = none)) (zmy (wK (aW A) p) (qS (hC (aH A)))) 4096 = none := zbM_no (fun s _ => by
            have := hcl (qS (hC (aH A)) ||| s)
            simp only [decide_eq_false_iff_not]
            intro q; rw [zfa_none.mp q] at this; cases this) _
          refine sim_s hw (.int (-9)) (fun f g h => ?_) (fun f g h => ?_)
          · have m := l_105 hw h (k := 3) (dr := zdf 4095 0) (by decide) (by decide +kernel) ha hb
            have q : (zcl (znx (aW A) 3 (zdf 4095 0)) (qR (hC (aH A)) p)).testBit b = true := by
              have := hcl 0; rw [k3] at this; rw [zdf_0]; exact this
            rw [zB_t q] at m
            refine ⟨zbs f 31 (znx (aW A) 3 (zdf 4095 0)) 12, g, ?_, zXs_look⟩
            simp (disch := first | omega | assumption) only [x_103_0, x_103_5, x_103_12, x_103_28, x_103_43, x_103_62, e_103, l_46 g _ (cxP h) hP6, l_35, nI_add, pk_mul, z_in, z_ix, nI_leI, nI_ltI, nI_eq, z_eq0, z_lt0, z_0le, z_0lt, z_le0, z_n9, z_n1, z_m1lt, z_m9lt, z_m9le, z_m1le, zB_0, zB_1, zz_bi_s, zz_bv_s, zz_bl_s, if_pos, if_neg, if_true, if_false, true_and, and_true, not_true_eq_false, not_false_eq_true, ite_self, cxP h, cxS h, cxB h, cxH h, cxD h, cxk h, cxr h, cxp h, cxd h, cxt h, cxa h, cxb h, e_104, x_104_0, l_49 hw h, k3, x_104_22, x_104_36]
            rw [show zdr 3 (qS (hC (aH A))) = 4095 from rfl, z_andn, m, zz_bi_s, x_104_55]
            simp (disch := first | omega | assumption) only [nI_add, pk_mul, z_in, z_ix, nI_leI, nI_ltI, nI_eq, z_eq0, z_lt0, z_0le, z_0lt, z_le0, z_n9, z_n1, z_m1lt, z_m9lt, z_m9le, z_m1le, zB_0, zB_1, zz_bi_s, zz_bv_s, zz_bl_s, if_pos, if_neg, if_true, if_false, true_and, and_true, not_true_eq_false, not_false_eq_true, ite_self, x_103_43]
          · obtain ⟨f', e1, e2, e3⟩ := keyM f g h
            refine ⟨zz_u f' 112 22 (nI 0), g, ?_, fin f f' g h e2 e3⟩
            rw [e1, hM, show zbo9 none = -9 from rfl, x_216_89]
            simp (disch := first | omega | assumption) only [nI_add, pk_mul, z_in, z_ix, nI_leI, nI_ltI, nI_eq, z_eq0, z_lt0, z_0le, z_0lt, z_le0, z_n9, z_n1, z_m1lt, z_m9lt, z_m9le, z_m1le, zB_0, zB_1, zz_bi_s, zz_bv_s, zz_bl_s, if_pos, if_neg, if_true, if_false, true_and, and_true, not_true_eq_false, not_false_eq_true, ite_self, x_216_188]
            rw [zu_self rfl]
        · have hbl : ∀ s, decide (zfa (znx (aW A) (wK (aW A) p) (zdr (wK (aW A) p) (qS (hC (aH A)) ||| s))) (qR (hC (aH A)) p) b = none) = zbl (aW A) (wK (aW A) p) (zdr (wK (aW A) p) (qS (hC (aH A)))) (qR (hC (aH A)) p) b s := fun s => by
            apply zuu
            unfold zbl
            rw [decide_eq_true_eq, zfa_none, zdr_or k3]; simp
          have hfun : (fun s => decide (zfa (znx (aW A) (wK (aW A) p) (zdr (wK (aW A) p) (qS (hC (aH A)) ||| s))) (qR (hC (aH A)) p) b = none)) = zbl (aW A) (wK (aW A) p) (zdr (wK (aW A) p) (qS (hC (aH A)))) (qR (hC (aH A)) p) b := funext hbl
          rw [hfun, zmy_eq k3] at keyM
          by_cases q : zbl (aW A) (wK (aW A) p) (zdr (wK (aW A) p) (qS (hC (aH A)))) (qR (hC (aH A)) p) b (zdr (wK (aW A) p) (qS (hC (aH A)))) = true
          · have hc := zbC_lt (bl := zbl (aW A) (wK (aW A) p) (zdr (wK (aW A) p) (qS (hC (aH A)))) (qR (hC (aH A)) p) b) hd (Nat.le_refl 4096)
            refine sim_A hw (.int (nI (zpc 12 (zbC (zbl (aW A) (wK (aW A) p) (zdr (wK (aW A) p) (qS (hC (aH A)))) (qR (hC (aH A)) p) b) (zdr (wK (aW A) p) (qS (hC (aH A)))) 4096)))) (nI (zbC (zbl (aW A) (wK (aW A) p) (zdr (wK (aW A) p) (qS (hC (aH A)))) (qR (hC (aH A)) p) b) (zdr (wK (aW A) p) (qS (hC (aH A)))) 4096)) (fun f g h => ?_) (fun f g h => ?_)
            · obtain ⟨f', e1, e2⟩ := l_104 hw h hp hb k3
              rw [if_pos q] at e1
              refine ⟨f', g, ?_, e2⟩
              simp (disch := first | omega | assumption) only [x_103_0, x_103_5, x_103_12, x_103_28, x_103_43, x_103_62, e_103, l_46 g _ (cxP h) hP6, l_35, nI_add, pk_mul, z_in, z_ix, nI_leI, nI_ltI, nI_eq, z_eq0, z_lt0, z_0le, z_0lt, z_le0, z_n9, z_n1, z_m1lt, z_m9lt, z_m9le, z_m1le, zB_0, zB_1, zz_bi_s, zz_bv_s, zz_bl_s, if_pos, if_neg, if_true, if_false, true_and, and_true, not_true_eq_false, not_false_eq_true, ite_self, cxP h, cxS h, cxB h, cxH h, cxD h, cxk h, cxr h, cxp h, cxd h, cxt h, cxa h, cxb h, e1, l_61 _ _ hc]
            · obtain ⟨f', e1, e2, e3⟩ := keyM f g h
              refine ⟨zz_u f' 112 22 (nI 0), g, ?_, fin f f' g h e2 e3⟩
              rw [e1, zbCM_end hd q, show ∀ c, zbo9 (some c) = nI c from fun _ => rfl, x_216_89]
              simp (disch := first | omega | assumption) only [nI_add, pk_mul, z_in, z_ix, nI_leI, nI_ltI, nI_eq, z_eq0, z_lt0, z_0le, z_0lt, z_le0, z_n9, z_n1, z_m1lt, z_m9lt, z_m9le, z_m1le, zB_0, zB_1, zz_bi_s, zz_bv_s, zz_bl_s, if_pos, if_neg, if_true, if_false, true_and, and_true, not_true_eq_false, not_false_eq_true, ite_self, x_216_188, l_191 _ _ hc, x_216_208]
          · have hno : ∀ s, zdf s (zdr (wK (aW A) p) (qS (hC (aH A)))) = 0 → zbl (aW A) (wK (aW A) p) (zdr (wK (aW A) p) (qS (hC (aH A)))) (qR (hC (aH A)) p) b s = false := fun s hs => by
              unfold zbl at q ⊢
              have q' : (zcl (znx (aW A) (wK (aW A) p) (zdf (zdr (wK (aW A) p) (qS (hC (aH A)))) (zdr (wK (aW A) p) (qS (hC (aH A)))))) (qR (hC (aH A)) p)).testBit b = true := by simpa using q
              have := zS_mono (a := qR (hC (aH A)) p) (fun c b' w => znx_mono (W := aW A) (k := wK (aW A) p) (d := zdf (zdr (wK (aW A) p) (qS (hC (aH A)))) (zdr (wK (aW A) p) (qS (hC (aH A))))) (e := zdf (zdr (wK (aW A) p) (qS (hC (aH A)))) s) (fun i hi => by rw [zdf_self, Nat.zero_testBit] at hi; cases hi) c b' w) 11 b q'
              unfold zcl; rw [this]; rfl
            refine sim_s hw (.int (-9)) (fun f g h => ?_) (fun f g h => ?_)
            · obtain ⟨f', e1, e2⟩ := l_104 hw h hp hb k3
              rw [if_neg q] at e1
              refine ⟨f', g, ?_, e2⟩
              simp (disch := first | omega | assumption) only [x_103_0, x_103_5, x_103_12, x_103_28, x_103_43, x_103_62, e_103, l_46 g _ (cxP h) hP6, l_35, nI_add, pk_mul, z_in, z_ix, nI_leI, nI_ltI, nI_eq, z_eq0, z_lt0, z_0le, z_0lt, z_le0, z_n9, z_n1, z_m1lt, z_m9lt, z_m9le, z_m1le, zB_0, zB_1, zz_bi_s, zz_bv_s, zz_bl_s, if_pos, if_neg, if_true, if_false, true_and, and_true, not_true_eq_false, not_false_eq_true, ite_self, cxP h, cxS h, cxB h, cxH h, cxD h, cxk h, cxr h, cxp h, cxd h, cxt h, cxa h, cxb h, e1]
            · obtain ⟨f', e1, e2, e3⟩ := keyM f g h
              refine ⟨zz_u f' 112 22 (nI 0), g, ?_, fin f f' g h e2 e3⟩
              rw [e1, zbM_no hno, show zbo9 none = -9 from rfl, x_216_89]
              simp (disch := first | omega | assumption) only [nI_add, pk_mul, z_in, z_ix, nI_leI, nI_ltI, nI_eq, z_eq0, z_lt0, z_0le, z_0lt, z_le0, z_n9, z_n1, z_m1lt, z_m9lt, z_m9le, z_m1le, zB_0, zB_1, zz_bi_s, zz_bv_s, zz_bl_s, if_pos, if_neg, if_true, if_false, true_and, and_true, not_true_eq_false, not_false_eq_true, ite_self, x_216_188]
              rw [zu_self rfl]
    · exact sim_0 hw (.int (-1)) (fun f g h => by simp (disch := first | omega | assumption) only [x_103_0, x_103_5, x_103_12, x_103_28, x_103_43, x_103_62, e_103, l_46 g _ (cxP h) hP6, l_35, nI_add, pk_mul, z_in, z_ix, nI_leI, nI_ltI, nI_eq, z_eq0, z_lt0, z_0le, z_0lt, z_le0, z_n9, z_n1, z_m1lt, z_m9lt, z_m9le, z_m1le, zB_0, zB_1, zz_bi_s, zz_bv_s, zz_bl_s, if_pos, if_neg, if_true, if_false, true_and, and_true, not_true_eq_false, not_false_eq_true, ite_self, h2]) (fun f g h => by simp (disch := first | omega | assumption) only [x_216_0, x_216_5, x_216_12, x_216_27, x_216_49, x_216_63, x_216_73, x_216_74, x_216_118, x_216_123, x_216_126, x_216_146, x_216_158, x_216_160, x_216_188, x_216_208, e_216, l_176 g _ (cmP h) hP6, l_182, nI_add, pk_mul, z_in, z_ix, nI_leI, nI_ltI, nI_eq, z_eq0, z_lt0, z_0le, z_0lt, z_le0, z_n9, z_n1, z_m1lt, z_m9lt, z_m9le, z_m1le, zB_0, zB_1, zz_bi_s, zz_bv_s, zz_bl_s, if_pos, if_neg, if_true, if_false, true_and, and_true, not_true_eq_false, not_false_eq_true, ite_self, h2])
  · exact sim_0 hw (.int (-1)) (fun f g h => by simp (disch := first | omega | assumption) only [x_103_0, x_103_5, x_103_12, x_103_28, x_103_43, x_103_62, e_103, l_46 g _ (cxP h) hP6, nI_add, pk_mul, z_in, z_ix, nI_leI, nI_ltI, nI_eq, z_eq0, z_lt0, z_0le, z_0lt, z_le0, z_n9, z_n1, z_m1lt, z_m9lt, z_m9le, z_m1le, zB_0, zB_1, zz_bi_s, zz_bv_s, zz_bl_s, if_pos, if_neg, if_true, if_false, true_and, and_true, not_true_eq_false, not_false_eq_true, ite_self, h1]) (fun f g h => by simp (disch := first | omega | assumption) only [x_216_0, x_216_5, x_216_12, x_216_27, x_216_49, x_216_63, x_216_73, x_216_74, x_216_118, x_216_123, x_216_126, x_216_146, x_216_158, x_216_160, x_216_188, x_216_208, e_216, l_176 g _ (cmP h) hP6, nI_add, pk_mul, z_in, z_ix, nI_leI, nI_ltI, nI_eq, z_eq0, z_lt0, z_0le, z_0lt, z_le0, z_n9, z_n1, z_m1lt, z_m9lt, z_m9le, z_m1le, zB_0, zB_1, zz_bi_s, zz_bv_s, zz_bl_s, if_pos, if_neg, if_true, if_false, true_and, and_true, not_true_eq_false, not_false_eq_true, ite_self, h1])
