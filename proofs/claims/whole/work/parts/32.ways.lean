/-! WITHIN, PARTS, MIDDLE -/
theorem l_look {A : zA} (hw : wf A) {f : Nat → Nat → Int32} {g : Nat → Nat → Int64} (h : CX A f g) {p : Nat} (hp : p < wP (aW A)) : zz_ca 63 [.ref 30, .ref 3, .int (nI (wK (aW A) p))] (zK f g) = some (none, zK (zbs f 31 (zgo A p) 12) g) := l_63 hw h zs_P_30 (by decide) (by decide) (wfk hw hp)
theorem CX_look {A : zA} {f : Nat → Nat → Int32} {g : Nat → Nat → Int64} (h : CX A f g) (N : Nat → Nat) : CX A (zbs f 31 N 12) g := CX_s h (zXs_c (by decide) (by decide) (fun x hx => zbs_c hx))
theorem zXs_look {f : Nat → Nat → Int32} {g : Nat → Nat → Int64} {N : Nat → Nat} : zXs f (zbs f 31 N 12) g g := zXs_c (by decide) (by decide) (fun x hx => zbs_c hx)
theorem dI_lt0 {o : Option Nat} (h : ∀ n, o = some n → n < 2 ^ 31) : (dI o < 0) ↔ o = none := by
  cases o with
  | none => exact ⟨fun _ => rfl, fun _ => by decide +kernel⟩
  | some n => exact ⟨fun q => absurd q (by show ¬ nI n < 0; rw [z_lt0 (h n rfl)]; exact id), fun q => by cases q⟩
theorem zfa_l {N : Nat → Nat} {a b : Nat} : ∀ n, zfa N a b = some n → n < 2 ^ 31 := fun n h => by have := zfa_lt h; omega
theorem zps_t {c : Nat → Bool} {b : Nat} : ∀ {n : Nat}, (zps c n).testBit b = true ↔ b < n ∧ c b = true
  | 0 => ⟨fun h => (by rw [show zps c 0 = 0 from rfl, Nat.zero_testBit] at h; cases h), fun ⟨h, _⟩ => by omega⟩
  | n + 1 => by
    rw [zps_s, Nat.testBit_or, Bool.or_eq_true, zps_t]
    have e1 : (if c n = true then 2 ^ n else 0).testBit b = true ↔ c n = true ∧ n = b := by
      by_cases h : c n = true
      · rw [if_pos h, z_tp]; simp [h]
      · rw [if_neg h, Nat.zero_testBit]; simp [h]
    rw [e1]
    constructor
    · rintro (⟨h1, h2⟩ | ⟨h1, h2⟩)
      · exact ⟨by omega, h2⟩
      · subst h2; exact ⟨by omega, h1⟩
    · rintro ⟨h1, h2⟩
      by_cases e : b = n
      · subst e; exact Or.inr ⟨h2, rfl⟩
      · exact Or.inl ⟨by omega, h2⟩
def znr (N : Nat → Nat) (a n b : Nat) : Bool := match zfa N a b with
  | some m => decide (m ≤ n)
  | none => false
theorem znr_S {N : Nat → Nat} (hN : ∀ c < 12, N c < 4096) {a n : Nat} (ha : a < 12) (hn : n ≤ 12) : zps (znr N a n) 12 = zS N a n := by
  have key : ∀ n, n < 12 → zps (znr N a n) 12 = zS N a n := by
    intro n hn
    apply Nat.eq_of_testBit_eq; intro b
    apply zuu
    rw [zps_t, zfa_le hn]
    unfold znr
    constructor
    · rintro ⟨h1, h2⟩
      cases e : zfa N a b with
      | none => rw [e] at h2; cases h2
      | some m => rw [e] at h2; exact ⟨m, rfl, of_decide_eq_true h2⟩
    · rintro ⟨m, h1, h2⟩
      have h3 : (zS N a n).testBit b = true := (zfa_le hn).mpr ⟨m, h1, h2⟩
      refine ⟨z_b12 (zS_lt hN ha n) h3, ?_⟩
      rw [h1]; exact decide_eq_true h2
  by_cases e : n = 12
  · subst e
    rw [zS_12 hN ha, ← key 11 (by omega)]
    apply Nat.eq_of_testBit_eq; intro b
    apply zuu
    rw [zps_t, zps_t]
    unfold znr
    cases e : zfa N a b with
    | none => rfl
    | some m => have := zfa_lt e; simp; intro _; omega
  · exact key n (by omega)
theorem l_88 {f : Nat → Nat → Int32} {g : Nat → Nat → Int64} {N : Nat → Nat} {a n : Nat} (hf : ∀ b < 12, f 32 b = dI (zfa N a b)) (hn : n ≤ 12) : zz_ca 88 [.ref 30, .int (nI n)] (zK f g) = some (some (.int (nI (zps (znr N a n) 12))), zK f g) := by
  rw [e_88, x_88_0]
  refine (z_lp (fun i => zz_ev 88 4 [.ref 30, .int (nI n), .int (nI (zps (znr N a n) i)), .int (nI i)] [] (zK f g)) 12 (fun i hi => ?_) 0 (by omega)).trans ?_
  · show zz_ev 88 4 _ _ _ = zz_ev 88 4 _ _ _
    have m := hf i hi
    rw [x_88_4]; simp (disch := first | omega | assumption) only [nI_add, pk_mul, z_in, z_ix, nI_leI, nI_ltI, nI_eq, z_eq0, z_lt0, z_0le, z_0lt, z_le0, z_n9, z_n1, z_m1lt, z_m9lt, z_m9le, z_m1le, zB_0, zB_1, zz_bi_s, zz_bv_s, zz_bl_s, if_pos, if_neg, if_true, if_false, true_and, and_true, not_true_eq_false, not_false_eq_true, ite_self, m, dI_lt0 zfa_l, x_88_35, z_1shl, z_or]
    rw [zps_s]
    have hz : znr N a n i = match zfa N a i with
      | some m => decide (m ≤ n)
      | none => false := rfl
    cases e : zfa N a i with
    | none => rw [if_pos rfl, if_neg (by rw [hz, e]; exact Bool.false_ne_true), Nat.or_zero]
    | some m =>
      have hl := zfa_lt e
      rw [if_neg (by simp), dI_s]
      simp (disch := first | omega | assumption) only [nI_add, pk_mul, z_in, z_ix, nI_leI, nI_ltI, nI_eq, z_eq0, z_lt0, z_0le, z_0lt, z_le0, z_n9, z_n1, z_m1lt, z_m9lt, z_m9le, z_m1le, zB_0, zB_1, zz_bi_s, zz_bv_s, zz_bl_s, if_pos, if_neg, if_true, if_false, true_and, and_true, not_true_eq_false, not_false_eq_true, ite_self]
      by_cases q : m ≤ n
      · rw [if_neg (by omega), if_pos (by rw [hz, e]; exact decide_eq_true q)]
      · rw [if_pos (by omega), if_neg (by rw [hz, e]; simpa using q), Nat.or_zero]
  · show zz_ev 88 4 _ _ _ = _
    rw [x_88_4]; simp (disch := first | omega | assumption) only [nI_add, pk_mul, z_in, z_ix, nI_leI, nI_ltI, nI_eq, z_eq0, z_lt0, z_0le, z_0lt, z_le0, z_n9, z_n1, z_m1lt, z_m9lt, z_m9le, z_m1le, zB_0, zB_1, zz_bi_s, zz_bv_s, zz_bl_s, if_pos, if_neg, if_true, if_false, true_and, and_true, not_true_eq_false, not_false_eq_true, ite_self]
/-- behind the look and the measuring -/
theorem l_lm {A : zA} (hw : wf A) {f : Nat → Nat → Int32} {g : Nat → Nat → Int64} (h : CX A f g) {p a : Nat} (hp : p < wP (aW A)) (ha : a < 12) : ∃ f', zz_ca 83 [.ref 30, .int (nI a)] (zK (zbs f 31 (zgo A p) 12) g) = some (none, zK f' g) ∧ zXs f f' g g ∧ CX A f' g ∧ (∀ c < 12, f' 31 c = nI (zgo A p c)) ∧ ∀ b < 12, f' 32 b = dI (zfa (zgo A p) a b) := by
  obtain ⟨f', e, h1, h2⟩ := l_83 (f := zbs f 31 (zgo A p) 12) (g := g) zs_P_30 (N := zgo A p) (fun c _ => zgo_lt hw p c) (fun c hc => zbs_i hc) ha
  have hx : zXs f f' g g := ⟨fun a ha => by rw [h1 a (by omega), zbs_c (by omega)], fun _ _ => rfl⟩
  exact ⟨f', e, hx, CX_s h hx, fun c hc => by rw [h1 31 (by decide)]; exact zbs_i hc, h2⟩
theorem sim_within (A : zA) (hw : wf A) (v1 v2 : Int32) : zSim A 87 206 [.int v1, .int v2] := by
  have hP6 := wfP hw
  by_cases h1 : zz_in v1 (wP (aW A))
  · obtain ⟨p, hp, -, rfl⟩ := z_inx.mp h1
    have hr := wfr hw hp
    by_cases h2 : zz_in v2 13
    · obtain ⟨n, hn, -, rfl⟩ := z_inx.mp h2
      have hN : ∀ c < 12, zgo A p c < 4096 := fun c _ => zgo_lt hw p c
      refine sim_s hw (.int (nI (zS (zgo A p) (qR (hC (aH A)) p) n))) (fun f g h => ?_) (fun f g h => ⟨f, g, ?_, zMs_r⟩)
      · obtain ⟨f', e, hx, h', -, hf⟩ := l_lm hw h hp hr
        refine ⟨f', g, ?_, hx⟩
        have m := cxr (CX_look h (zgo A p)) hp
        simp (disch := first | omega | assumption) only [x_87_0, x_87_5, x_87_18, x_87_40, x_87_56, x_87_64, e_87, l_46 g _ (cxP h) hP6, nI_add, pk_mul, z_in, z_ix, nI_leI, nI_ltI, nI_eq, z_eq0, z_lt0, z_0le, z_0lt, z_le0, z_n9, z_n1, z_m1lt, z_m9lt, z_m9le, z_m1le, zB_0, zB_1, zz_bi_s, zz_bv_s, zz_bl_s, if_pos, if_neg, if_true, if_false, true_and, and_true, not_true_eq_false, not_false_eq_true, ite_self, cxP h, cxS h, cxB h, cxH h, cxD h, cxk h, cxr h, cxp h, cxd h, cxt h, cxa h, cxb h, l_look hw h hp, m, e, l_88 (g := g) hf (show n ≤ 12 by omega)]
        rw [znr_S hN hr (by omega)]
      · have m := l_189 (g := g) hw.2.2.1 (CM_V hw h) hp hr (show n ≤ 12 by omega)
        simp (disch := first | omega | assumption) only [x_206_0, x_206_5, x_206_17, x_206_34, x_206_37, e_206, l_176 g _ (cmP h) hP6, nI_add, pk_mul, z_in, z_ix, nI_leI, nI_ltI, nI_eq, z_eq0, z_lt0, z_0le, z_0lt, z_le0, z_n9, z_n1, z_m1lt, z_m9lt, z_m9le, z_m1le, zB_0, zB_1, zz_bi_s, zz_bv_s, zz_bl_s, if_pos, if_neg, if_true, if_false, true_and, and_true, not_true_eq_false, not_false_eq_true, ite_self, cmP h, cmS h, cmB h, cmH h, cmD h, cmk h, cmr h, cmp h, cmd h, cmt h, cma h, cmb h, cm0 h, l_150n, m]; rfl
    · refine sim_0 hw (.int (-1)) (fun f g h => ?_) (fun f g h => by simp (disch := first | omega | assumption) only [x_206_0, x_206_5, x_206_17, x_206_34, x_206_37, e_206, l_176 g _ (cmP h) hP6, nI_add, pk_mul, z_in, z_ix, nI_leI, nI_ltI, nI_eq, z_eq0, z_lt0, z_0le, z_0lt, z_le0, z_n9, z_n1, z_m1lt, z_m9lt, z_m9le, z_m1le, zB_0, zB_1, zz_bi_s, zz_bv_s, zz_bl_s, if_pos, if_neg, if_true, if_false, true_and, and_true, not_true_eq_false, not_false_eq_true, ite_self, l_150n, h2])
      rcases z_rngL5 (by decide) h2 with h3 | ⟨h3, h4⟩
      · simp (disch := first | omega | assumption) only [x_87_0, x_87_5, x_87_18, x_87_40, x_87_56, x_87_64, e_87, l_46 g _ (cxP h) hP6, nI_add, pk_mul, z_in, z_ix, nI_leI, nI_ltI, nI_eq, z_eq0, z_lt0, z_0le, z_0lt, z_le0, z_n9, z_n1, z_m1lt, z_m9lt, z_m9le, z_m1le, zB_0, zB_1, zz_bi_s, zz_bv_s, zz_bl_s, if_pos, if_neg, if_true, if_false, true_and, and_true, not_true_eq_false, not_false_eq_true, ite_self, h3]
      · simp (disch := first | omega | assumption) only [x_87_0, x_87_5, x_87_18, x_87_40, x_87_56, x_87_64, e_87, l_46 g _ (cxP h) hP6, nI_add, pk_mul, z_in, z_ix, nI_leI, nI_ltI, nI_eq, z_eq0, z_lt0, z_0le, z_0lt, z_le0, z_n9, z_n1, z_m1lt, z_m9lt, z_m9le, z_m1le, zB_0, zB_1, zz_bi_s, zz_bv_s, zz_bl_s, if_pos, if_neg, if_true, if_false, true_and, and_true, not_true_eq_false, not_false_eq_true, ite_self, h3, h4]
  · exact sim_0 hw (.int (-1)) (fun f g h => by simp (disch := first | omega | assumption) only [x_87_0, x_87_5, x_87_18, x_87_40, x_87_56, x_87_64, e_87, l_46 g _ (cxP h) hP6, nI_add, pk_mul, z_in, z_ix, nI_leI, nI_ltI, nI_eq, z_eq0, z_lt0, z_0le, z_0lt, z_le0, z_n9, z_n1, z_m1lt, z_m9lt, z_m9le, z_m1le, zB_0, zB_1, zz_bi_s, zz_bv_s, zz_bl_s, if_pos, if_neg, if_true, if_false, true_and, and_true, not_true_eq_false, not_false_eq_true, ite_self, h1]) (fun f g h => by simp (disch := first | omega | assumption) only [x_206_0, x_206_5, x_206_17, x_206_34, x_206_37, e_206, l_176 g _ (cmP h) hP6, nI_add, pk_mul, z_in, z_ix, nI_leI, nI_ltI, nI_eq, z_eq0, z_lt0, z_0le, z_0lt, z_le0, z_n9, z_n1, z_m1lt, z_m9lt, z_m9le, z_m1le, zB_0, zB_1, zz_bi_s, zz_bv_s, zz_bl_s, if_pos, if_neg, if_true, if_false, true_and, and_true, not_true_eq_false, not_false_eq_true, ite_self, h1])
/-! parts -/
def zpt (N : Nat → Nat) : Nat → Nat × Nat
  | 0 => (0, 0)
  | n + 1 => ((zpt N n).1 + (!(zpt N n).2.testBit n).toNat, (zpt N n).2 ||| zcl N n)
theorem zpt_s {N : Nat → Nat} {n : Nat} : zpt N (n + 1) = ((zpt N n).1 + (!(zpt N n).2.testBit n).toNat, (zpt N n).2 ||| zcl N n) := rfl
theorem zpt_lt {N : Nat → Nat} (hN : ∀ c < 12, N c < 4096) : ∀ {n : Nat}, n ≤ 12 → (zpt N n).2 < 4096
  | 0, _ => by show 0 < 4096; decide
  | n + 1, hn => by rw [zpt_s]; exact z_or_lt (zpt_lt hN (by omega)) (zS_lt hN (by omega) 11)
theorem zpt_cl {N : Nat → Nat} (hN : ∀ c < 12, N c < 4096) : ∀ {n : Nat}, n ≤ 12 → ∀ c < 12, (zpt N n).2.testBit c = true → ∀ b, (N c).testBit b = true → (zpt N n).2.testBit b = true
  | 0, _, c, hc, h, b, hb => by rw [show (zpt N 0).2 = 0 from rfl, Nat.zero_testBit] at h; cases h
  | n + 1, hn, c, hc, h, b, hb => by
    rw [zpt_s] at h ⊢
    dsimp only at h ⊢
    rw [Nat.testBit_or, Bool.or_eq_true] at h ⊢
    rcases h with h | h
    · exact Or.inl (zpt_cl hN (by omega) c hc h b hb)
    · exact Or.inr (zS_cl hN (by omega) hc h hb)
theorem zpt_in {N : Nat → Nat} (hN : ∀ c < 12, N c < 4096) {n : Nat} (hn : n < 12) (h : (zpt N n).2.testBit n = true) : (zpt N n).2 ||| zcl N n = (zpt N n).2 := by
  apply Nat.eq_of_testBit_eq; intro b
  apply zuu
  rw [Nat.testBit_or, Bool.or_eq_true]
  refine ⟨fun q => ?_, fun q => Or.inl q⟩
  rcases q with q | q
  · exact q
  · exact zS_min h (zpt_cl hN (by omega)) 11 b q
theorem zpt_le {N : Nat → Nat} : ∀ n, (zpt N n).1 ≤ n
  | 0 => Nat.le_refl _
  | n + 1 => by rw [zpt_s]; have := zpt_le (N := N) n; have := Bool.toNat_le (!(zpt N n).2.testBit n); dsimp only; omega
theorem l_107 {f : Nat → Nat → Int32} {g : Nat → Nat → Int64} {N : Nat → Nat} (hN : ∀ c < 12, N c < 4096) (hf : ∀ c < 12, f 31 c = nI (N c)) : zz_ca 107 [.ref 30] (zK f g) = some (some (.int (nI (zpt N 12).1)), zK f g) := by
  rw [e_107, x_107_0]
  refine (z_lp (fun i => zz_ev 107 6 [.ref 30, .int (nI (zpt N i).1), .int (nI (zpt N i).2), .int (nI i)] [] (zK f g)) 12 (fun i hi => ?_) 0 (by omega)).trans ?_
  · show zz_ev 107 6 _ _ _ = zz_ev 107 6 _ _ _
    have hl := zpt_lt hN (n := i) (by omega)
    rw [x_107_6]; simp (disch := first | omega | assumption) only [nI_add, pk_mul, z_in, z_ix, nI_leI, nI_ltI, nI_eq, z_eq0, z_lt0, z_0le, z_0lt, z_le0, z_n9, z_n1, z_m1lt, z_m9lt, z_m9le, z_m1le, zB_0, zB_1, zz_bi_s, zz_bv_s, zz_bl_s, if_pos, if_neg, if_true, if_false, true_and, and_true, not_true_eq_false, not_false_eq_true, ite_self, l_38, x_107_17, l_65 hN hf hi, x_107_29, x_107_31, z_or]
    rw [zpt_s]
    by_cases q : (zpt N i).2.testBit i = true
    · rw [if_neg (fun w => w q), zpt_in hN hi q, q]; rfl
    · rw [if_pos q, show (zpt N i).2.testBit i = false by simpa using q]; rfl
  · show zz_ev 107 6 _ _ _ = _
    rw [x_107_6]; simp (disch := first | omega | assumption) only [nI_add, pk_mul, z_in, z_ix, nI_leI, nI_ltI, nI_eq, z_eq0, z_lt0, z_0le, z_0lt, z_le0, z_n9, z_n1, z_m1lt, z_m9lt, z_m9le, z_m1le, zB_0, zB_1, zz_bi_s, zz_bv_s, zz_bl_s, if_pos, if_neg, if_true, if_false, true_and, and_true, not_true_eq_false, not_false_eq_true, ite_self]
theorem sim_parts (A : zA) (hw : wf A) (v1 : Int32) : zSim A 106 217 [.int v1] := by
  have hP6 := wfP hw
  by_cases h1 : zz_in v1 (wP (aW A))
  · obtain ⟨p, hp, -, rfl⟩ := z_inx.mp h1
    have hN : ∀ c < 12, zgo A p c < 4096 := fun c _ => zgo_lt hw p c
    refine sim_s hw (.int (nI (zpt (zgo A p) 12).1)) (fun f g h => ⟨zbs f 31 (zgo A p) 12, g, ?_, zXs_look⟩) (fun f g h => ⟨f, g, ?_, zMs_r⟩)
    · simp (disch := first | omega | assumption) only [x_106_0, x_106_5, x_106_30, x_106_37, e_106, l_46 g _ (cxP h) hP6, nI_add, pk_mul, z_in, z_ix, nI_leI, nI_ltI, nI_eq, z_eq0, z_lt0, z_0le, z_0lt, z_le0, z_n9, z_n1, z_m1lt, z_m9lt, z_m9le, z_m1le, zB_0, zB_1, zz_bi_s, zz_bv_s, zz_bl_s, if_pos, if_neg, if_true, if_false, true_and, and_true, not_true_eq_false, not_false_eq_true, ite_self, cxP h, cxS h, cxB h, cxH h, cxD h, cxk h, cxr h, cxp h, cxd h, cxt h, cxa h, cxb h, l_look hw h hp, l_107 (g := g) hN (fun c hc => zbs_i hc)]
    · simp (disch := first | omega | assumption) only [x_217_0, x_217_5, x_217_31, x_217_39, x_217_51, e_217, l_176 g _ (cmP h) hP6, nI_add, pk_mul, z_in, z_ix, nI_leI, nI_ltI, nI_eq, z_eq0, z_lt0, z_0le, z_0lt, z_le0, z_n9, z_n1, z_m1lt, z_m9lt, z_m9le, z_m1le, zB_0, zB_1, zz_bi_s, zz_bv_s, zz_bl_s, if_pos, if_neg, if_true, if_false, true_and, and_true, not_true_eq_false, not_false_eq_true, ite_self]
      refine (z_lp (fun i => zz_ev 217 17 [.ref 112, .int (nI p), .int (nI (zpt (zgo A p) i).1), .int (nI (zpt (zgo A p) i).2), .int (nI i)] [] (zK f g)) 12 (fun i hi => ?_) 0 (by omega)).trans ?_
      · show zz_ev 217 17 _ _ _ = zz_ev 217 17 _ _ _
        have hl := zpt_lt hN (n := i) (by omega)
        have m := l_189 (g := g) hw.2.2.1 (CM_V hw h) hp hi (Nat.le_refl 12)
        rw [show zS (znx (aW A) (wK (aW A) p) (zdr (wK (aW A) p) (qS (hC (aH A))))) i 12 = zcl (zgo A p) i from zS_12 hN hi] at m
        rw [x_217_17]; simp (disch := first | omega | assumption) only [nI_add, pk_mul, z_in, z_ix, nI_leI, nI_ltI, nI_eq, z_eq0, z_lt0, z_0le, z_0lt, z_le0, z_n9, z_n1, z_m1lt, z_m9lt, z_m9le, z_m1le, zB_0, zB_1, zz_bi_s, zz_bv_s, zz_bl_s, if_pos, if_neg, if_true, if_false, true_and, and_true, not_true_eq_false, not_false_eq_true, ite_self, l_171, x_217_31, x_217_39, m, x_217_51, z_or]
        rw [zpt_s]
        by_cases q : (zpt (zgo A p) i).2.testBit i = true
        · rw [if_neg (fun w => w q), q]; rfl
        · rw [if_pos q, show (zpt (zgo A p) i).2.testBit i = false by simpa using q]; rfl
      · show zz_ev 217 17 _ _ _ = _
        rw [x_217_17]; simp (disch := first | omega | assumption) only [nI_add, pk_mul, z_in, z_ix, nI_leI, nI_ltI, nI_eq, z_eq0, z_lt0, z_0le, z_0lt, z_le0, z_n9, z_n1, z_m1lt, z_m9lt, z_m9le, z_m1le, zB_0, zB_1, zz_bi_s, zz_bv_s, zz_bl_s, if_pos, if_neg, if_true, if_false, true_and, and_true, not_true_eq_false, not_false_eq_true, ite_self]
  · exact sim_0 hw (.int (-1)) (fun f g h => by simp (disch := first | omega | assumption) only [x_106_0, x_106_5, x_106_30, x_106_37, e_106, l_46 g _ (cxP h) hP6, nI_add, pk_mul, z_in, z_ix, nI_leI, nI_ltI, nI_eq, z_eq0, z_lt0, z_0le, z_0lt, z_le0, z_n9, z_n1, z_m1lt, z_m9lt, z_m9le, z_m1le, zB_0, zB_1, zz_bi_s, zz_bv_s, zz_bl_s, if_pos, if_neg, if_true, if_false, true_and, and_true, not_true_eq_false, not_false_eq_true, ite_self, h1]) (fun f g h => by simp (disch := first | omega | assumption) only [x_217_0, x_217_5, x_217_31, x_217_39, x_217_51, e_217, l_176 g _ (cmP h) hP6, nI_add, pk_mul, z_in, z_ix, nI_leI, nI_ltI, nI_eq, z_eq0, z_lt0, z_0le, z_0lt, z_le0, z_n9, z_n1, z_m1lt, z_m9lt, z_m9le, z_m1le, zB_0, zB_1, zz_bi_s, zz_bv_s, zz_bl_s, if_pos, if_neg, if_true, if_false, true_and, and_true, not_true_eq_false, not_false_eq_true, ite_self, h1])
/-! middle -/
def zmd (N M : Nat → Nat) (a b : Nat) : Nat → Option (Nat × Nat)
  | 0 => none
  | n + 1 => match zfa N a n, zfa M b n with
    | some x, some y => (match zmd N M a b n with
      | none => some (n, x + y)
      | some s => if x + y < s.2 then some (n, x + y) else some s)
    | _, _ => zmd N M a b n
theorem zmd_1 {N M : Nat → Nat} {a b n x y : Nat} (h1 : zfa N a n = some x) (h2 : zfa M b n = some y) (h3 : zmd N M a b n = none) : zmd N M a b (n + 1) = some (n, x + y) := by
  show (match zfa N a n, zfa M b n with
    | some x, some y => (match zmd N M a b n with
      | none => some (n, x + y)
      | some s => if x + y < s.2 then some (n, x + y) else some s)
    | _, _ => zmd N M a b n) = _
  rw [h1, h2, h3]
theorem zmd_2 {N M : Nat → Nat} {a b n x y : Nat} {s : Nat × Nat} (h1 : zfa N a n = some x) (h2 : zfa M b n = some y) (h3 : zmd N M a b n = some s) : zmd N M a b (n + 1) = if x + y < s.2 then some (n, x + y) else some s := by
  show (match zfa N a n, zfa M b n with
    | some x, some y => (match zmd N M a b n with
      | none => some (n, x + y)
      | some s => if x + y < s.2 then some (n, x + y) else some s)
    | _, _ => zmd N M a b n) = _
  rw [h1, h2, h3]
theorem zmd_3 {N M : Nat → Nat} {a b n : Nat} (h1 : zfa N a n = none) : zmd N M a b (n + 1) = zmd N M a b n := by
  show (match zfa N a n, zfa M b n with
    | some x, some y => (match zmd N M a b n with
      | none => some (n, x + y)
      | some s => if x + y < s.2 then some (n, x + y) else some s)
    | _, _ => zmd N M a b n) = _
  rw [h1]
theorem zmd_4 {N M : Nat → Nat} {a b n x : Nat} (h1 : zfa N a n = some x) (h2 : zfa M b n = none) : zmd N M a b (n + 1) = zmd N M a b n := by
  show (match zfa N a n, zfa M b n with
    | some x, some y => (match zmd N M a b n with
      | none => some (n, x + y)
      | some s => if x + y < s.2 then some (n, x + y) else some s)
    | _, _ => zmd N M a b n) = _
  rw [h1, h2]
theorem zmd_ok {N M : Nat → Nat} {a b : Nat} : ∀ {n : Nat} {s : Nat × Nat}, zmd N M a b n = some s → s.1 < n ∧ ∃ x y, zfa N a s.1 = some x ∧ zfa M b s.1 = some y ∧ s.2 = x + y
  | 0, s, h => by cases h
  | n + 1, s, h => by
    have up : ∀ {s}, zmd N M a b n = some s → s.1 < n + 1 ∧ ∃ x y, zfa N a s.1 = some x ∧ zfa M b s.1 = some y ∧ s.2 = x + y := fun q => by
      have := zmd_ok q; exact ⟨by omega, this.2⟩
    cases e1 : zfa N a n with
    | none => rw [zmd_3 e1] at h; exact up h
    | some x =>
      cases e2 : zfa M b n with
      | none => rw [zmd_4 e1 e2] at h; exact up h
      | some y =>
        cases e3 : zmd N M a b n with
        | none => rw [zmd_1 e1 e2 e3] at h; cases h; exact ⟨by show n < n + 1; omega, x, y, e1, e2, rfl⟩
        | some t =>
          rw [zmd_2 e1 e2 e3] at h
          split at h
          · cases h; exact ⟨by show n < n + 1; omega, x, y, e1, e2, rfl⟩
          · cases h; exact up e3
def zm1 (o : Option (Nat × Nat)) : Int32 := match o with
  | none => -9
  | some s => nI s.1
def zm2 (o : Option (Nat × Nat)) (d : Nat) : Nat := match o with
  | none => d
  | some s => s.2
theorem zm1_9 {N M : Nat → Nat} {a b n : Nat} (hn : n < 13) : (zm1 (zmd N M a b n) = -9) ↔ zmd N M a b n = none := by
  cases e : zmd N M a b n with
  | none => exact ⟨fun _ => rfl, fun _ => rfl⟩
  | some s =>
    have := (zmd_ok e).1
    exact ⟨fun q => absurd q (by show ¬ nI s.1 = -9; rw [z_n9 (by omega)]; exact id), fun q => by cases q⟩
theorem l_102 {f : Nat → Nat → Int32} {g : Nat → Nat → Int64} {N M : Nat → Nat} {a b : Nat} (h1 : ∀ c < 12, f 32 c = dI (zfa N a c)) (h2 : ∀ c < 12, f 35 c = dI (zfa M b c)) : zz_ca 102 [.ref 30, .ref 33] (zK f g) = some (some (.int (zm1 (zmd N M a b 12))), zK f g) := by
  rw [e_102, x_102_0]
  refine (z_lp (fun i => zz_ev 102 8 [.ref 30, .ref 33, .int (zm1 (zmd N M a b i)), .int (nI (zm2 (zmd N M a b i) 0)), .int (nI i), .null, .null] [] (zK f g)) 12 (fun i hi => ?_) 0 (by omega)).trans ?_
  · show zz_ev 102 8 _ _ _ = zz_ev 102 8 _ _ _
    have m1 := h1 i hi
    have m2 := h2 i hi
    rw [x_102_8]; simp (disch := first | omega | assumption) only [nI_add, pk_mul, z_in, z_ix, nI_leI, nI_ltI, nI_eq, z_eq0, z_lt0, z_0le, z_0lt, z_le0, z_n9, z_n1, z_m1lt, z_m9lt, z_m9le, z_m1le, zB_0, zB_1, zz_bi_s, zz_bv_s, zz_bl_s, if_pos, if_neg, if_true, if_false, true_and, and_true, not_true_eq_false, not_false_eq_true, ite_self, m1, m2, dI_lt0 zfa_l, x_102_39, x_102_40, x_102_76, x_102_82, zm1_9]
    cases e1 : zfa N a i with
    | none => rw [zmd_3 e1, if_pos rfl, hi_102_8]
    | some x =>
      have l1 := zfa_lt e1
      rw [if_neg (by simp)]
      cases e2 : zfa M b i with
      | none => rw [zmd_4 e1 e2, if_pos rfl, hi_102_8]
      | some y =>
        have l2 := zfa_lt e2
        rw [if_neg (by simp), dI_s, dI_s, nI_add]
        cases e3 : zmd N M a b i with
        | none => rw [zmd_1 e1 e2 e3, if_pos rfl, hi_102_8]; rfl
        | some s =>
          obtain ⟨q1, x', y', q2, q3, q4⟩ := zmd_ok e3
          have l3 := zfa_lt q2
          have l4 := zfa_lt q3
          rw [zmd_2 e1 e2 e3, if_neg (by simp), show zm2 (some s) 0 = s.2 from rfl]
          simp (disch := first | omega | assumption) only [nI_add, pk_mul, z_in, z_ix, nI_leI, nI_ltI, nI_eq, z_eq0, z_lt0, z_0le, z_0lt, z_le0, z_n9, z_n1, z_m1lt, z_m9lt, z_m9le, z_m1le, zB_0, zB_1, zz_bi_s, zz_bv_s, zz_bl_s, if_pos, if_neg, if_true, if_false, true_and, and_true, not_true_eq_false, not_false_eq_true, ite_self]
          by_cases q : x + y < s.2
          · rw [if_neg (by omega), if_pos q, hi_102_8]; rfl
          · rw [if_pos (by omega), if_neg q, hi_102_8]; rfl
  · show zz_ev 102 8 _ _ _ = _
    rw [x_102_8]; simp (disch := first | omega | assumption) only [nI_add, pk_mul, z_in, z_ix, nI_leI, nI_ltI, nI_eq, z_eq0, z_lt0, z_0le, z_0lt, z_le0, z_n9, z_n1, z_m1lt, z_m9lt, z_m9le, z_m1le, zB_0, zB_1, zz_bi_s, zz_bv_s, zz_bl_s, if_pos, if_neg, if_true, if_false, true_and, and_true, not_true_eq_false, not_false_eq_true, ite_self]
theorem sim_middle (A : zA) (hw : wf A) (v1 v2 : Int32) : zSim A 100 214 [.int v1, .int v2] := by
  have hP6 := wfP hw
  by_cases h1 : zz_in v1 (wP (aW A)) ∧ zz_in v2 (wP (aW A)) ∧ v1 ≠ v2
  · obtain ⟨p, hp, -, rfl⟩ := z_inx.mp h1.1
    obtain ⟨q, hq, -, rfl⟩ := z_inx.mp h1.2.1
    have hrp := wfr hw hp
    have hrq := wfr hw hq
    have keyX : ∀ f g, CX A f g → ∃ f', zXs f f' g g ∧ zz_ca 100 [.ref 0, .int (nI p), .int (nI q)] (zK f g) = zz_ev 100 94 [.ref 0, .int (nI p), .int (nI q), .null] [.int (zm1 (zmd (zgo A p) (zgo A q) (qR (hC (aH A)) p) (qR (hC (aH A)) q) 12))] (zK f' g) ∧ (∀ b < 12, f' 32 b = dI (zfa (zgo A p) (qR (hC (aH A)) p) b)) ∧ (∀ b < 12, f' 35 b = dI (zfa (zgo A q) (qR (hC (aH A)) q) b)) := by
      intro f g h
      obtain ⟨f1, e1, hx1, hc1, -, hf1⟩ := l_lm hw h hp hrp
      have m1 := cxr (CX_look h (zgo A p)) hp
      have m2 := l_63 hw hc1 zs_P_33 (by decide) (by decide) (wfk hw hq)
      have hx2 : zXs f1 (zbs f1 34 (zgo A q) 12) g g := zXs_c (by decide) (by decide) (fun x hx => zbs_c hx)
      have hc2 := CX_s hc1 hx2
      obtain ⟨f3, e3, h31, h32⟩ := l_83 (f := zbs f1 34 (zgo A q) 12) (g := g) zs_P_33 (N := zgo A q) (fun c _ => zgo_lt hw q c) (fun c hc => zbs_i hc) hrq
      have m4 := cxr hc2 hq
      have hf3 : ∀ b < 12, f3 32 b = dI (zfa (zgo A p) (qR (hC (aH A)) p) b) := fun b hb => by rw [h31 32 (by decide), zbs_c (by decide)]; exact hf1 b hb
      refine ⟨f3, zXs_t (zXs_t hx1 hx2) ⟨fun a ha => h31 a (by omega), fun _ _ => rfl⟩, ?_, hf3, h32⟩
      simp (disch := first | omega | assumption) only [e_100, x_100_0, x_100_6, x_100_31, x_100_47, x_100_67, x_100_83, z_101 (l_101 g _ _ (cxP h) hP6) h1, nI_add, pk_mul, z_in, z_ix, nI_leI, nI_ltI, nI_eq, z_eq0, z_lt0, z_0le, z_0lt, z_le0, z_n9, z_n1, z_m1lt, z_m9lt, z_m9le, z_m1le, zB_0, zB_1, zz_bi_s, zz_bv_s, zz_bl_s, if_pos, if_neg, if_true, if_false, true_and, and_true, not_true_eq_false, not_false_eq_true, ite_self, cxP h, cxS h, cxB h, cxH h, cxD h, cxk h, cxr h, cxp h, cxd h, cxt h, cxa h, cxb h, l_look hw h hp, m1, e1, cxk hc1]
      rw [m2, zz_bv_s, x_100_67]
      simp (disch := first | omega | assumption) only [nI_add, pk_mul, z_in, z_ix, nI_leI, nI_ltI, nI_eq, z_eq0, z_lt0, z_0le, z_0lt, z_le0, z_n9, z_n1, z_m1lt, z_m9lt, z_m9le, z_m1le, zB_0, zB_1, zz_bi_s, zz_bv_s, zz_bl_s, if_pos, if_neg, if_true, if_false, true_and, and_true, not_true_eq_false, not_false_eq_true, ite_self]
      rw [show zbs f1 (33 + 1) (znx (aW A) (wK (aW A) q) (zdr (wK (aW A) q) (qS (hC (aH A))))) 12 = zbs f1 34 (zgo A q) 12 from rfl, m4, e3, zz_bv_s, x_100_83, l_102 hf3 h32, zz_bi_s]
    have keyM : ∀ f g, CM A f g → zz_ca 214 [.ref 112, .int (nI p), .int (nI q)] (zK f g) = zz_ev 214 21 [.ref 112, .int (nI p), .int (nI q), .int (zm1 (zmd (zgo A p) (zgo A q) (qR (hC (aH A)) p) (qR (hC (aH A)) q) 12)), .int (nI (zm2 (zmd (zgo A p) (zgo A q) (qR (hC (aH A)) p) (qR (hC (aH A)) q) 12) 99)), .int (nI 12), .null, .null, .null] [] (zK f g) := by
      intro f g h
      simp (disch := first | omega | assumption) only [x_214_0, x_214_6, x_214_43, x_214_60, x_214_90, x_214_91, x_214_104, x_214_120, x_214_144, e_214, z_101 (l_215 g _ _ (cmP h) hP6) h1, nI_add, pk_mul, z_in, z_ix, nI_leI, nI_ltI, nI_eq, z_eq0, z_lt0, z_0le, z_0lt, z_le0, z_n9, z_n1, z_m1lt, z_m9lt, z_m9le, z_m1le, zB_0, zB_1, zz_bi_s, zz_bv_s, zz_bl_s, if_pos, if_neg, if_true, if_false, true_and, and_true, not_true_eq_false, not_false_eq_true, ite_self]
      refine z_lp (fun i => zz_ev 214 21 [.ref 112, .int (nI p), .int (nI q), .int (zm1 (zmd (zgo A p) (zgo A q) (qR (hC (aH A)) p) (qR (hC (aH A)) q) i)), .int (nI (zm2 (zmd (zgo A p) (zgo A q) (qR (hC (aH A)) p) (qR (hC (aH A)) q) i) 99)), .int (nI i), .null, .null, .null] [] (zK f g)) 12 (fun i hi => ?_) 0 (by omega)
      show zz_ev 214 21 _ _ _ = zz_ev 214 21 _ _ _
      have m1 : zz_ca 204 [.ref 112, .int (nI p), .int (nI (qR (hC (aH A)) p)), .int (nI i)] (zK f g) = some (some (.int (dI (zfa (zgo A p) (qR (hC (aH A)) p) i))), zK f g) := l_204 hw.2.2.1 (CM_V hw h) hp hrp hi
      have m2 : zz_ca 204 [.ref 112, .int (nI q), .int (nI (qR (hC (aH A)) q)), .int (nI i)] (zK f g) = some (some (.int (dI (zfa (zgo A q) (qR (hC (aH A)) q) i))), zK f g) := l_204 hw.2.2.1 (CM_V hw h) hq hrq hi
      rw [x_214_21]; simp (disch := first | omega | assumption) only [nI_add, pk_mul, z_in, z_ix, nI_leI, nI_ltI, nI_eq, z_eq0, z_lt0, z_0le, z_0lt, z_le0, z_n9, z_n1, z_m1lt, z_m9lt, z_m9le, z_m1le, zB_0, zB_1, zz_bi_s, zz_bv_s, zz_bl_s, if_pos, if_neg, if_true, if_false, true_and, and_true, not_true_eq_false, not_false_eq_true, ite_self, cmP h, cmS h, cmB h, cmH h, cmD h, cmk h, cmr h, cmp h, cmd h, cmt h, cma h, cmb h, cm0 h, m1, m2, x_214_43, x_214_60, x_214_90, x_214_91, x_214_104, x_214_120, dI_9 zfa_l]
      cases e1 : zfa (zgo A p) (qR (hC (aH A)) p) i with
      | none => rw [zmd_3 e1, if_pos rfl, hi_214_21]
      | some x =>
        have l1 := zfa_lt e1
        rw [if_neg (by simp)]
        cases e2 : zfa (zgo A q) (qR (hC (aH A)) q) i with
        | none => rw [zmd_4 e1 e2, if_pos rfl, hi_214_21]
        | some y =>
          have l2 := zfa_lt e2
          rw [if_neg (by simp), dI_s, dI_s, nI_add]
          cases e3 : zmd (zgo A p) (zgo A q) (qR (hC (aH A)) p) (qR (hC (aH A)) q) i with
          | none =>
            rw [zmd_1 e1 e2 e3, show zm2 none 99 = 99 from rfl]
            simp (disch := first | omega | assumption) only [nI_add, pk_mul, z_in, z_ix, nI_leI, nI_ltI, nI_eq, z_eq0, z_lt0, z_0le, z_0lt, z_le0, z_n9, z_n1, z_m1lt, z_m9lt, z_m9le, z_m1le, zB_0, zB_1, zz_bi_s, zz_bv_s, zz_bl_s, if_pos, if_neg, if_true, if_false, true_and, and_true, not_true_eq_false, not_false_eq_true, ite_self, hi_214_21]; rfl
          | some s =>
            obtain ⟨q1, x', y', q2, q3, q4⟩ := zmd_ok e3
            have l3 := zfa_lt q2
            have l4 := zfa_lt q3
            rw [zmd_2 e1 e2 e3, show zm2 (some s) 99 = s.2 from rfl]
            simp (disch := first | omega | assumption) only [nI_add, pk_mul, z_in, z_ix, nI_leI, nI_ltI, nI_eq, z_eq0, z_lt0, z_0le, z_0lt, z_le0, z_n9, z_n1, z_m1lt, z_m9lt, z_m9le, z_m1le, zB_0, zB_1, zz_bi_s, zz_bv_s, zz_bl_s, if_pos, if_neg, if_true, if_false, true_and, and_true, not_true_eq_false, not_false_eq_true, ite_self]
            by_cases q : x + y < s.2
            · rw [if_neg (by omega), if_pos q, hi_214_21]; rfl
            · rw [if_pos (by omega), if_neg q, hi_214_21]; rfl
    cases hm : zmd (zgo A p) (zgo A q) (qR (hC (aH A)) p) (qR (hC (aH A)) q) 12 with
    | none =>
      refine ⟨.int (-9), A, hw, fun f g h => ?_, fun f g h => ⟨f, g, ?_, h, zLo_r⟩⟩
      · obtain ⟨f', hx, e, -, -⟩ := keyX f g h
        refine ⟨f', g, ?_, CX_s h hx, zXs_hi hx⟩
        rw [e, hm, show zm1 none = -9 from rfl, x_100_94, if_pos rfl, x_100_124]
      · rw [keyM f g h, hm, show zm1 none = -9 from rfl, x_214_21]
        simp (disch := first | omega | assumption) only [nI_add, pk_mul, z_in, z_ix, nI_leI, nI_ltI, nI_eq, z_eq0, z_lt0, z_0le, z_0lt, z_le0, z_n9, z_n1, z_m1lt, z_m9lt, z_m9le, z_m1le, zB_0, zB_1, zz_bi_s, zz_bv_s, zz_bl_s, if_pos, if_neg, if_true, if_false, true_and, and_true, not_true_eq_false, not_false_eq_true, ite_self, x_214_144]
        rw [zu_self rfl]
    | some s =>
      obtain ⟨q1, x, y, q2, q3, q4⟩ := zmd_ok hm
      have l3 := zfa_lt q2
      have l4 := zfa_lt q3
      refine sim_A hw (.int (nI s.1)) (nI s.2) (fun f g h => ?_) (fun f g h => ⟨f, g, ?_, zMs_r⟩)
      · obtain ⟨f', hx, e, m1, m2⟩ := keyX f g h
        refine ⟨f', g, ?_, hx⟩
        have m1 := m1 s.1 q1; rw [q2] at m1
        have m2 := m2 s.1 q1; rw [q3] at m2
        rw [e, hm, show zm1 (some s) = nI s.1 from rfl, x_100_94]
        simp (disch := first | omega | assumption) only [nI_add, pk_mul, z_in, z_ix, nI_leI, nI_ltI, nI_eq, z_eq0, z_lt0, z_0le, z_0lt, z_le0, z_n9, z_n1, z_m1lt, z_m9lt, z_m9le, z_m1le, zB_0, zB_1, zz_bi_s, zz_bv_s, zz_bl_s, if_pos, if_neg, if_true, if_false, true_and, and_true, not_true_eq_false, not_false_eq_true, ite_self, m1, m2, dI_s, x_100_124]
        rw [q4]
      · rw [keyM f g h, hm, show zm1 (some s) = nI s.1 from rfl, show zm2 (some s) 99 = s.2 from rfl, x_214_21]
        simp (disch := first | omega | assumption) only [nI_add, pk_mul, z_in, z_ix, nI_leI, nI_ltI, nI_eq, z_eq0, z_lt0, z_0le, z_0lt, z_le0, z_n9, z_n1, z_m1lt, z_m9lt, z_m9le, z_m1le, zB_0, zB_1, zz_bi_s, zz_bv_s, zz_bl_s, if_pos, if_neg, if_true, if_false, true_and, and_true, not_true_eq_false, not_false_eq_true, ite_self, x_214_144]
  · exact sim_0 hw (.int (-1)) (fun f g h => by simp (disch := first | omega | assumption) only [x_100_0, x_100_6, x_100_31, x_100_47, x_100_67, x_100_83, x_100_94, x_100_124, e_100, l_101 g _ _ (cxP h) hP6, nI_add, pk_mul, z_in, z_ix, nI_leI, nI_ltI, nI_eq, z_eq0, z_lt0, z_0le, z_0lt, z_le0, z_n9, z_n1, z_m1lt, z_m9lt, z_m9le, z_m1le, zB_0, zB_1, zz_bi_s, zz_bv_s, zz_bl_s, if_pos, if_neg, if_true, if_false, true_and, and_true, not_true_eq_false, not_false_eq_true, ite_self, h1]) (fun f g h => by simp (disch := first | omega | assumption) only [x_214_0, x_214_6, x_214_43, x_214_60, x_214_90, x_214_91, x_214_104, x_214_120, x_214_144, e_214, l_215 g _ _ (cmP h) hP6, nI_add, pk_mul, z_in, z_ix, nI_leI, nI_ltI, nI_eq, z_eq0, z_lt0, z_0le, z_0lt, z_le0, z_n9, z_n1, z_m1lt, z_m9lt, z_m9le, z_m1le, zB_0, zB_1, zz_bi_s, zz_bv_s, zz_bl_s, if_pos, if_neg, if_true, if_false, true_and, and_true, not_true_eq_false, not_false_eq_true, ite_self, h1])
