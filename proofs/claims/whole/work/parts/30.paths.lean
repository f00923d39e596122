/-! PATHS of the class -/
def zbs (f : Nat → Nat → Int32) (r : Nat) (N : Nat → Nat) (n : Nat) : Nat → Nat → Int32 := fun x c => if x = r ∧ c < n then nI (N c) else f x c
theorem zbs_c {f : Nat → Nat → Int32} {r n x : Nat} {N : Nat → Nat} (h : x ≠ r) : zbs f r N n x = f x := by funext c; exact if_neg (fun q => h q.1)
theorem zbs_i {f : Nat → Nat → Int32} {r n c : Nat} {N : Nat → Nat} (h : c < n) : zbs f r N n r c = nI (N c) := if_pos ⟨rfl, h⟩
theorem zbs_0 {f : Nat → Nat → Int32} {r : Nat} {N : Nat → Nat} : zbs f r N 0 = f := by funext x c; exact if_neg (fun q => by omega)
theorem zbs_u {f : Nat → Nat → Int32} {r n : Nat} {N : Nat → Nat} : zz_u (zbs f r N n) r n (nI (N n)) = zbs f r N (n + 1) := by
  funext x c; unfold zz_u zbs
  by_cases h : x = r
  · subst h
    by_cases h2 : c = n
    · subst h2; simp
    · simp only [h2, and_false, if_false, true_and]
      by_cases h3 : c < n
      · rw [if_pos h3, if_pos (by omega)]
      · rw [if_neg h3, if_neg (by omega)]
  · simp [h]
theorem zXs_c {f f' : Nat → Nat → Int32} {g : Nat → Nat → Int64} {r : Nat} (h1 : 17 ≤ r) (h2 : r ≤ 54) (h : ∀ x, x ≠ r → f' x = f x) : zXs f f' g g := ⟨fun a ha => h a (by omega), fun _ _ => rfl⟩
theorem l_64 {A : zA} (hw : wf A) {f : Nat → Nat → Int32} {g : Nat → Nat → Int64} (h : CX A f g) {r k dr : Nat} (hr : zs_P r) (h17 : 17 ≤ r + 1) (h54 : r + 1 ≤ 54) (hk : k < 6) (hd : dr < 4096) : zz_ca 64 [.ref r, .ref 3, .int (nI k), .int (nI dr)] (zK f g) = some (none, zK (zbs f (r + 1) (znx (aW A) k dr) 12) g) := by
  rw [e_64, x_64_0 _ _ _ _ _ hr]
  have key := z_lp (fun i => zz_ev 64 3 [.ref r, .ref 3, .int (nI k), .int (nI dr), .int (nI i)] [] (zK (zbs f (r + 1) (znx (aW A) k dr) i) g)) 12 (fun i hi => ?_) 0 (by omega)
  · rw [zbs_0] at key
    refine key.trans ?_
    rw [x_64_3 _ _ _ _ _ _ hr]; simp (disch := first | omega | assumption) only [nI_add, pk_mul, z_in, z_ix, nI_leI, nI_ltI, nI_eq, z_eq0, z_lt0, z_0le, z_0lt, z_le0, z_n9, z_n1, z_m1lt, z_m9lt, z_m9le, z_m1le, zB_0, zB_1, zz_bi_s, zz_bv_s, zz_bl_s, if_pos, if_neg, if_true, if_false, true_and, and_true, not_true_eq_false, not_false_eq_true, ite_self]
  · show zz_ev 64 3 _ _ _ = zz_ev 64 3 _ _ _
    have h' : CX A (zbs f (r + 1) (znx (aW A) k dr) i) g := CX_s h (zXs_c h17 h54 (fun x hx => zbs_c hx))
    rw [x_64_3 _ _ _ _ _ _ hr]; simp (disch := first | omega | assumption) only [nI_add, pk_mul, z_in, z_ix, nI_leI, nI_ltI, nI_eq, z_eq0, z_lt0, z_0le, z_0lt, z_le0, z_n9, z_n1, z_m1lt, z_m9lt, z_m9le, z_m1le, zB_0, zB_1, zz_bi_s, zz_bv_s, zz_bl_s, if_pos, if_neg, if_true, if_false, true_and, and_true, not_true_eq_false, not_false_eq_true, ite_self, l_50 hw h', x_64_24 _ _ _ _ _ _ _ _ _ hr hr.2.1, zbs_u]
theorem l_63 {A : zA} (hw : wf A) {f : Nat → Nat → Int32} {g : Nat → Nat → Int64} (h : CX A f g) {r k : Nat} (hr : zs_P r) (h17 : 17 ≤ r + 1) (h54 : r + 1 ≤ 54) (hk : k < 6) : zz_ca 63 [.ref r, .ref 3, .int (nI k)] (zK f g) = some (none, zK (zbs f (r + 1) (znx (aW A) k (zdr k (qS (hC (aH A))))) 12) g) := by
  rw [e_63, x_63_0 _ _ _ _ hr, l_49 hw h hk, zz_bi_s, x_63_8 _ _ _ _ _ _ _ hr hr, l_64 hw h hr h17 h54 hk (zdr_lt _ _), zz_bv_s, x_63_11 _ _ _ _ hr]
/-! reach -/
theorem zdf_or {a b c : Nat} (hc : a.testBit c = true) (hb : b.testBit c = false) : zdf a b ≠ 0 := by
  intro e
  have : (zdf a b).testBit c = true := by rw [zdf_t, hc, hb]; rfl
  rw [e, Nat.zero_testBit] at this; cases this
theorem l_65 {f : Nat → Nat → Int32} {g : Nat → Nat → Int64} {N : Nat → Nat} (hN : ∀ c < 12, N c < 4096) (hf : ∀ c < 12, f 31 c = nI (N c)) {a : Nat} (ha : a < 12) : zz_ca 65 [.ref 30, .int (nI a)] (zK f g) = some (some (.int (nI (zcl N a))), zK f g) := by
  rw [e_65, x_65_0, z_1shl (by omega), hw_65_9]
  have key := z_loop (fun i (s : Nat × Nat) => zz_ev 65 9 [.ref 30, .null, .int (nI s.1), .int (nI s.2), .int (nI i), .null] [] (zK f g))
    (fun i s => s.1 < 4096 ∧ s.2 < 4096 ∧ (∀ b, s.2.testBit b = true → s.1.testBit b = true) ∧ s.1.testBit a = true ∧ (∀ c < 12, s.2.testBit c = true → ∀ b, (N c).testBit b = true → s.1.testBit b = true) ∧ (∀ b, s.1.testBit b = true → (zcl N a).testBit b = true) ∧ i ≤ zpc 12 s.2)
    (fun x => x = some (some (.int (nI (zcl N a))), zK f g)) 12 ?_ ?_ 0 (2 ^ a, 0) (by omega) ⟨z_p_lt ha, (by show 0 < 4096; decide), (fun b hb => (by rw [Nat.zero_testBit] at hb; cases hb)), (by rw [z_tp]; exact decide_eq_true rfl), (fun c hc hb => (by rw [Nat.zero_testBit] at hb; cases hb)), (fun b hb => zS_up (zS_0.mpr (by rw [z_tp] at hb; exact of_decide_eq_true hb)) 11 (by omega)), Nat.zero_le _⟩
  · exact key
  · rintro i ⟨seen, done⟩ hi ⟨h1, h2, h3, h4, h5, h6, h7⟩
    dsimp only at h1 h2 h3 h4 h5 h6 h7 ⊢
    by_cases e : seen = done
    · right
      rw [x_65_9]; simp (disch := first | omega | assumption) only [nI_add, pk_mul, z_in, z_ix, nI_leI, nI_ltI, nI_eq, z_eq0, z_lt0, z_0le, z_0lt, z_le0, z_n9, z_n1, z_m1lt, z_m9lt, z_m9le, z_m1le, zB_0, zB_1, zz_bi_s, zz_bv_s, zz_bl_s, if_pos, if_neg, if_true, if_false, true_and, and_true, not_true_eq_false, not_false_eq_true, ite_self, x_65_54]
      subst e
      have : seen = zcl N a := z_ext (n := 12) h1 (zS_lt hN ha 11) (fun b hb => by
        cases q : seen.testBit b with
        | true => exact (h6 b q).symm
        | false => cases q2 : (zcl N a).testBit b with
          | false => rfl
          | true => rw [zS_min h4 h5 11 b q2] at q; cases q)
      rw [this]
    · left
      obtain ⟨b, hb, hb1, hb2⟩ := z_sub_eq h1 h2 h3 e
      have hz := zdf_or hb2 hb1
      have hx := zlow_t (z_df_lt (b := done) h1) hz
      have hx2 := hx.2
      rw [zdf_t] at hx2
      have hx3 : seen.testBit (zlow (zdf seen done)) = true := by cases q : seen.testBit (zlow (zdf seen done)); rw [q] at hx2; simp at hx2; rfl
      have hx4 : done.testBit (zlow (zdf seen done)) = false := by rw [hx3] at hx2; simpa using hx2
      have hm := hf _ hx.1
      refine ⟨(seen ||| N (zlow (zdf seen done)), done ||| 2 ^ zlow (zdf seen done)), ?_, z_or_lt h1 (hN _ hx.1), z_or_lt h2 (z_p_lt hx.1), fun b hb => ?_, ?_, fun c hc hd b hb => ?_, fun b hb => ?_, ?_⟩
      · rw [x_65_9]; simp (disch := first | omega | assumption) only [nI_add, pk_mul, z_in, z_ix, nI_leI, nI_ltI, nI_eq, z_eq0, z_lt0, z_0le, z_0lt, z_le0, z_n9, z_n1, z_m1lt, z_m9lt, z_m9le, z_m1le, zB_0, zB_1, zz_bi_s, zz_bv_s, zz_bl_s, if_pos, if_neg, if_true, if_false, true_and, and_true, not_true_eq_false, not_false_eq_true, ite_self, z_andn, l_66 f g (z_df_lt (b := done) h1), x_65_29, hm, z_or, z_1shl]
        rw [hw_65_9]
      · dsimp only at hb ⊢
        rw [Nat.testBit_or, Bool.or_eq_true] at hb ⊢
        rcases hb with hb | hb
        · exact Or.inl (h3 b hb)
        · rw [z_tp] at hb; have := of_decide_eq_true hb; subst this; exact Or.inl hx3
      · dsimp only; rw [Nat.testBit_or, h4, Bool.true_or]
      · dsimp only at hd ⊢
        rw [Nat.testBit_or, Bool.or_eq_true] at hd ⊢
        rcases hd with hd | hd
        · exact Or.inl (h5 c hc hd b hb)
        · rw [z_tp] at hd; have := of_decide_eq_true hd; subst this; exact Or.inr hb
      · dsimp only at hb
        rw [Nat.testBit_or, Bool.or_eq_true] at hb
        rcases hb with hb | hb
        · exact h6 b hb
        · exact zS_cl hN ha hx.1 (h6 _ hx3) hb
      · dsimp only
        have := zpc_strict (s := done) (t := done ||| 2 ^ zlow (zdf seen done)) (fun i hi => by rw [Nat.testBit_or, hi, Bool.true_or]) hx4 (by rw [Nat.testBit_or, z_tp]; simp) 12 hx.1
        omega
  · rintro ⟨seen, done⟩ ⟨h1, h2, h3, h4, h5, h6, h7⟩
    dsimp only at h1 h2 h3 h4 h5 h6 h7 ⊢
    rw [x_65_9]; simp (disch := first | omega | assumption) only [nI_add, pk_mul, z_in, z_ix, nI_leI, nI_ltI, nI_eq, z_eq0, z_lt0, z_0le, z_0lt, z_le0, z_n9, z_n1, z_m1lt, z_m9lt, z_m9le, z_m1le, zB_0, zB_1, zz_bi_s, zz_bv_s, zz_bl_s, if_pos, if_neg, if_true, if_false, true_and, and_true, not_true_eq_false, not_false_eq_true, ite_self, x_65_54]
    have hd := zpc_full h7
    have : seen = zS N a 11 := by
      rw [z_4095u h1 (fun i hi => h3 i (hd i hi)), z_4095u (zS_lt hN ha 11) (fun i hi => h6 i (h3 i (hd i hi)))]
    rw [this]; rfl
/-! measure -/
def zmk (f : Nat → Nat → Int32) (r e : Nat) (v : Int32) (n : Nat) : Nat → Nat → Int32 := fun x b => if x = r ∧ b < n ∧ e.testBit b = true then v else f x b
theorem zmk_c {f : Nat → Nat → Int32} {r e n x : Nat} {v : Int32} (h : x ≠ r) : zmk f r e v n x = f x := by funext c; exact if_neg (fun q => h q.1)
theorem zmk_0 {f : Nat → Nat → Int32} {r e : Nat} {v : Int32} : zmk f r e v 0 = f := by funext x c; exact if_neg (fun q => by omega)
theorem zmk_n {f : Nat → Nat → Int32} {r e n : Nat} {v : Int32} (h : ¬ e.testBit n = true) : zmk f r e v (n + 1) = zmk f r e v n := by
  funext x b; unfold zmk
  by_cases h2 : x = r ∧ b < n ∧ e.testBit b = true
  · rw [if_pos h2, if_pos ⟨h2.1, by omega, h2.2.2⟩]
  · rw [if_neg h2, if_neg]
    intro q
    by_cases e2 : b = n
    · subst e2; exact h q.2.2
    · exact h2 ⟨q.1, by omega, q.2.2⟩
theorem zmk_u {f : Nat → Nat → Int32} {r e n : Nat} {v : Int32} (h : e.testBit n = true) : zz_u (zmk f r e v n) r n v = zmk f r e v (n + 1) := by
  funext x b; unfold zz_u zmk
  by_cases h1 : x = r ∧ b = n
  · rw [if_pos h1, if_pos ⟨h1.1, by omega, by rw [h1.2]; exact h⟩]
  · rw [if_neg h1]
    by_cases h2 : x = r ∧ b < n ∧ e.testBit b = true
    · rw [if_pos h2, if_pos ⟨h2.1, by omega, h2.2.2⟩]
    · rw [if_neg h2, if_neg (fun q => h2 ⟨q.1, by have := h1; omega, q.2.2⟩)]
theorem l_84 {f : Nat → Nat → Int32} {g : Nat → Nat → Int64} {r : Nat} (hr : zs_P r) {N : Nat → Nat} (hf : ∀ c < 12, f (r + 1) c = nI (N c)) {e : Nat} (he : e < 4096) (v : Int32) : zz_ca 84 [.ref r, .int (nI e), .int v] (zK f g) = some (some (.int (nI (zuo N e 12))), zK (zmk f (r + 2) e v 12) g) := by
  rw [e_84, x_84_0 _ _ _ _ _ hr]
  have key := z_lp (fun i => zz_ev 84 5 [.ref r, .int (nI e), .int v, .int (nI (zuo N e i)), .int (nI i)] [] (zK (zmk f (r + 2) e v i) g)) 12 (fun i hi => ?_) 0 (by omega)
  · rw [zmk_0] at key
    refine key.trans ?_
    rw [x_84_5 _ _ _ _ _ _ _ hr]; simp (disch := first | omega | assumption) only [nI_add, pk_mul, z_in, z_ix, nI_leI, nI_ltI, nI_eq, z_eq0, z_lt0, z_0le, z_0lt, z_le0, z_n9, z_n1, z_m1lt, z_m9lt, z_m9le, z_m1le, zB_0, zB_1, zz_bi_s, zz_bv_s, zz_bl_s, if_pos, if_neg, if_true, if_false, true_and, and_true, not_true_eq_false, not_false_eq_true, ite_self]
  · show zz_ev 84 5 _ _ _ = zz_ev 84 5 _ _ _
    have m : zmk f (r + 2) e v i (r + 1) i = nI (N i) := by rw [zmk_c (by omega)]; exact hf i hi
    rw [x_84_5 _ _ _ _ _ _ _ hr]; simp (disch := first | omega | assumption) only [nI_add, pk_mul, z_in, z_ix, nI_leI, nI_ltI, nI_eq, z_eq0, z_lt0, z_0le, z_0lt, z_le0, z_n9, z_n1, z_m1lt, z_m9lt, z_m9le, z_m1le, zB_0, zB_1, zz_bi_s, zz_bv_s, zz_bl_s, if_pos, if_neg, if_true, if_false, true_and, and_true, not_true_eq_false, not_false_eq_true, ite_self, l_38, x_84_18 _ _ _ _ _ _ _ _ hr, x_84_39 _ _ _ _ _ _ _ hr]
    rw [zuo_s]
    by_cases h : e.testBit i = true
    · rw [if_neg (fun q => q h), if_pos h, zmk_u h, show zmk f (r + 2) e v (i + 1) (r + 1) i = nI (N i) by rw [zmk_c (by omega)]; exact hf i hi, z_or]
    · rw [if_pos h, if_neg h, zmk_n h, Nat.or_zero]
/-- those within fewer than n steps; those by just n steps -/
def zsn (N : Nat → Nat) (a : Nat) : Nat → Nat
  | 0 => 0
  | n + 1 => zS N a n
def zE (N : Nat → Nat) (a n : Nat) : Nat := zdf (zS N a n) (zsn N a n)
theorem zE_t {N : Nat → Nat} {a n b : Nat} : (zE N a n).testBit b = true ↔ (zS N a n).testBit b = true ∧ (zsn N a n).testBit b = false := by
  unfold zE; rw [zdf_t]; cases (zS N a n).testBit b <;> cases (zsn N a n).testBit b <;> simp
theorem zsn_up {N : Nat → Nat} {a n b : Nat} (h : (zsn N a n).testBit b = true) : (zS N a n).testBit b = true := by
  cases n with
  | zero => rw [show zsn N a 0 = 0 from rfl, Nat.zero_testBit] at h; cases h
  | succ n => exact zS_t.mpr (Or.inl h)
theorem zE_or {N : Nat → Nat} (hN : ∀ c < 12, N c < 4096) {a : Nat} (ha : a < 12) (n : Nat) : zsn N a n ||| zE N a n = zS N a n := by
  apply Nat.eq_of_testBit_eq; intro b
  rw [Nat.testBit_or]; unfold zE; rw [zdf_t]
  cases e : (zsn N a n).testBit b with
  | true => rw [zsn_up e]; rfl
  | false => simp
theorem zE_next {N : Nat → Nat} {a : Nat} (n : Nat) : zdf (zuo N (zE N a n) 12) (zS N a n) = zE N a (n + 1) := by
  apply Nat.eq_of_testBit_eq; intro b
  rw [zdf_t]; unfold zE; rw [zdf_t]
  show _ = ((zS N a (n + 1)).testBit b && !(zS N a n).testBit b)
  cases e : (zS N a n).testBit b with
  | true => simp
  | false =>
    simp only [Bool.not_false, Bool.and_true]
    have hz : ∀ x y : Bool, (x = true ↔ y = true) → x = y := by intro x y; cases x <;> cases y <;> simp
    apply hz
    rw [zuo_t, zS_t]
    constructor
    · rintro ⟨c, hc, h1, h2⟩
      exact Or.inr ⟨c, hc, (zE_t.mp h1).1, h2⟩
    · rintro (h | ⟨c, hc, h1, h2⟩)
      · rw [h] at e; cases e
      · refine ⟨c, hc, zE_t.mpr ⟨h1, ?_⟩, h2⟩
        cases q : (zsn N a n).testBit c with
        | false => rfl
        | true =>
          cases n with
          | zero => rw [show zsn N a 0 = 0 from rfl, Nat.zero_testBit] at q; cases q
          | succ n => rw [zS_t.mpr (Or.inr ⟨c, hc, q, h2⟩)] at e; cases e
theorem zE_lt {N : Nat → Nat} (hN : ∀ c < 12, N c < 4096) {a : Nat} (ha : a < 12) (n : Nat) : zE N a n < 4096 := z_df_lt (zS_lt hN ha n)
theorem zff_snoc {c : Nat → Bool} : ∀ {n i : Nat}, zff c (n + 1) i = match zff c n i with
    | some j => some j
    | none => if c (i + n) = true then some (i + n) else none
  | 0, i => by show (if c i = true then some i else none) = _; rfl
  | n + 1, i => by
    rw [show zff c (n + 1 + 1) i = if c i = true then some i else zff c (n + 1) (i + 1) from rfl, show zff c (n + 1) i = if c i = true then some i else zff c n (i + 1) from rfl]
    by_cases h : c i = true
    · rw [if_pos h, if_pos h]
    · rw [if_neg h, if_neg h, zff_snoc, show i + 1 + n = i + (n + 1) by omega]
theorem zff_E {N : Nat → Nat} {a b n : Nat} : dI (zff (fun n => (zS N a n).testBit b) (n + 1) 0) = if (zE N a n).testBit b = true then nI n else dI (zff (fun n => (zS N a n).testBit b) n 0) := by
  rw [zff_snoc]
  cases e : zff (fun n => (zS N a n).testBit b) n 0 with
  | some j =>
    have h := zff_some e
    show dI (some j) = _
    rw [if_neg]
    intro q
    have q2 := (zE_t.mp q).2
    cases n with
    | zero => omega
    | succ n => rw [show zsn N a (n + 1) = zS N a n from rfl, zS_up h.2.2 n (by omega)] at q2; cases q2
  | none =>
    show dI (if (zS N a (0 + n)).testBit b = true then some (0 + n) else none) = _
    rw [Nat.zero_add]
    by_cases h : (zS N a n).testBit b = true
    · rw [if_pos h, if_pos]
      · rfl
      · refine zE_t.mpr ⟨h, ?_⟩
        cases n with
        | zero => exact Nat.zero_testBit _
        | succ n => exact zff_none e n (by omega) (by omega)
    · rw [if_neg h, if_neg (fun q => h (zE_t.mp q).1)]
theorem zff_stop {N : Nat → Nat} {a b n : Nat} (h : zE N a n = 0) (hn : 0 < n) (h12 : n ≤ 12) : zff (fun n => (zS N a n).testBit b) n 0 = zfa N a b := by
  obtain ⟨m, rfl⟩ : ∃ m, n = m + 1 := ⟨n - 1, by omega⟩
  have e : zS N a (m + 1) = zS N a m := by
    apply Nat.eq_of_testBit_eq; intro i
    cases q : (zS N a m).testBit i with
    | true => exact zS_t.mpr (Or.inl q)
    | false =>
      cases q2 : (zS N a (m + 1)).testBit i with
      | false => rfl
      | true =>
        have := zE_t.mpr ⟨q2, q⟩
        rw [h, Nat.zero_testBit] at this; cases this
  have key : ∀ k, m + 1 ≤ k → zff (fun n => (zS N a n).testBit b) k 0 = zff (fun n => (zS N a n).testBit b) (m + 1) 0 := by
    intro k hk
    induction hk with
    | refl => rfl
    | @step k hk ih =>
      rw [zff_snoc, ih]
      cases q : zff (fun n => (zS N a n).testBit b) (m + 1) 0 with
      | some j => rfl
      | none =>
        have := zff_none q m (by omega) (by omega)
        dsimp only at this ⊢
        have hk' : m + 1 ≤ k := hk
        rw [zS_stop e (0 + k) (by omega), this]; rfl
  exact (key 12 h12).symm
theorem l_83 {f : Nat → Nat → Int32} {g : Nat → Nat → Int64} {r : Nat} (hr : zs_P r) {N : Nat → Nat} (hN : ∀ c < 12, N c < 4096) (hf : ∀ c < 12, f (r + 1) c = nI (N c)) {a : Nat} (ha : a < 12) : ∃ f', zz_ca 83 [.ref r, .int (nI a)] (zK f g) = some (none, zK f' g) ∧ (∀ x, x ≠ r + 2 → f' x = f x) ∧ ∀ b < 12, f' (r + 2) b = dI (zfa N a b) := by
  rw [e_83, x_83_0 _ _ _ _ hr, l_14 _ _ hr.2.2 (by decide), zz_bv_s, x_83_9 _ _ _ _ hr, z_1shl (by omega), hw_83_18 _ _ _ _ _ _ _ hr]
  have h := z_loop (fun i (f' : Nat → Nat → Int32) => zz_ev 83 18 [.ref r, .null, .int (nI (zsn N a i)), .int (nI (zE N a i)), .int (nI i)] [] (zK f' g))
    (fun i f' => (∀ x, x ≠ r + 2 → f' x = f x) ∧ ∀ b < 12, f' (r + 2) b = dI (zff (fun n => (zS N a n).testBit b) i 0))
    (fun x => ∃ f', x = some (none, zK f' g) ∧ (∀ x, x ≠ r + 2 → f' x = f x) ∧ ∀ b < 12, f' (r + 2) b = dI (zfa N a b)) 12 ?_ ?_ 0 (zfl f (r + 2) 12 (-9)) (by omega) ⟨fun x hx => zfl_c hx, fun b hb => zfl_i hb⟩
  · have e : zE N a 0 = 2 ^ a := by unfold zE; exact zdf_0 _
    rw [e] at h; exact h
  · intro i f' hi ⟨h1, h2⟩
    have hl := zE_lt hN ha i
    by_cases e : zE N a i = 0
    · right
      refine ⟨f', ?_, h1, fun b hb => ?_⟩
      · rw [x_83_18 _ _ _ _ _ _ _ hr]; simp (disch := first | omega | assumption) only [nI_add, pk_mul, z_in, z_ix, nI_leI, nI_ltI, nI_eq, z_eq0, z_lt0, z_0le, z_0lt, z_le0, z_n9, z_n1, z_m1lt, z_m9lt, z_m9le, z_m1le, zB_0, zB_1, zz_bi_s, zz_bv_s, zz_bl_s, if_pos, if_neg, if_true, if_false, true_and, and_true, not_true_eq_false, not_false_eq_true, ite_self]
      · rw [h2 b hb]
        by_cases e0 : i = 0
        · subst e0
          have : (zE N a 0).testBit a = true := zE_t.mpr ⟨zS_0.mpr rfl, Nat.zero_testBit _⟩
          rw [e, Nat.zero_testBit] at this; cases this
        · rw [zff_stop e (by omega) (by omega)]
    · left
      refine ⟨zmk f' (r + 2) (zE N a i) (nI i) 12, ?_, fun x hx => by rw [zmk_c hx]; exact h1 x hx, fun b hb => ?_⟩
      · have m := l_84 (f := f') (g := g) hr (N := N) (fun c hc => by rw [h1 _ (by omega)]; exact hf c hc) hl (nI i)
        rw [x_83_18 _ _ _ _ _ _ _ hr]; simp (disch := first | omega | assumption) only [nI_add, pk_mul, z_in, z_ix, nI_leI, nI_ltI, nI_eq, z_eq0, z_lt0, z_0le, z_0lt, z_le0, z_n9, z_n1, z_m1lt, z_m9lt, z_m9le, z_m1le, zB_0, zB_1, zz_bi_s, zz_bv_s, zz_bl_s, if_pos, if_neg, if_true, if_false, true_and, and_true, not_true_eq_false, not_false_eq_true, ite_self, m, x_83_40 _ _ _ _ _ _ _ hr, z_or, zE_or hN ha, z_andn, zE_next]
        rfl
      · rw [zff_E, ← h2 b hb]; unfold zmk
        by_cases q : (zE N a i).testBit b = true
        · rw [if_pos ⟨rfl, hb, q⟩, if_pos q]
        · rw [if_neg (fun w => q w.2.2), if_neg q]
  · intro f' ⟨h1, h2⟩
    refine ⟨f', ?_, h1, h2⟩
    rw [x_83_18 _ _ _ _ _ _ _ hr]; simp (disch := first | omega | assumption) only [nI_add, pk_mul, z_in, z_ix, nI_leI, nI_ltI, nI_eq, z_eq0, z_lt0, z_0le, z_0lt, z_le0, z_n9, z_n1, z_m1lt, z_m9lt, z_m9le, z_m1le, zB_0, zB_1, zz_bi_s, zz_bv_s, zz_bl_s, if_pos, if_neg, if_true, if_false, true_and, and_true, not_true_eq_false, not_false_eq_true, ite_self]
/-! the reference's -/
theorem l_190 {W : zW} (hW : wfW W) {s : Nat} {f : Nat → Nat → Int32} {g : Nat → Nat → Int64} (h : VM W s f) {p t : Nat} (hp : p < wP W) (ht : t < 4096) : zz_ca 190 [.ref 112, .int (nI p), .int (nI t)] (zK f g) = some (some (.int (nI (t ||| zuo (znx W (wK W p) (zdr (wK W p) s)) t 12))), zK f g) := by
  rw [e_190, x_190_0]
  refine Eq.trans (show _ = zz_ev 190 5 [.ref 112, .int (nI p), .int (nI t), .int (nI (t ||| zuo (znx W (wK W p) (zdr (wK W p) s)) t 0)), .int (nI 0)] [] (zK f g) by rw [show zuo (znx W (wK W p) (zdr (wK W p) s)) t 0 = 0 from rfl, Nat.or_zero]) ?_
  refine (z_lp (fun i => zz_ev 190 5 [.ref 112, .int (nI p), .int (nI t), .int (nI (t ||| zuo (znx W (wK W p) (zdr (wK W p) s)) t i)), .int (nI i)] [] (zK f g)) 12 (fun i hi => ?_) 0 (by omega)).trans ?_
  · show zz_ev 190 5 _ _ _ = zz_ev 190 5 _ _ _
    rw [x_190_5]; simp (disch := first | omega | assumption) only [nI_add, pk_mul, z_in, z_ix, nI_leI, nI_ltI, nI_eq, z_eq0, z_lt0, z_0le, z_0lt, z_le0, z_n9, z_n1, z_m1lt, z_m9lt, z_m9le, z_m1le, zB_0, zB_1, zz_bi_s, zz_bv_s, zz_bl_s, if_pos, if_neg, if_true, if_false, true_and, and_true, not_true_eq_false, not_false_eq_true, ite_self, l_171, x_190_19, l_178 hW h, x_190_29, x_190_33, z_or]
    rw [zuo_s]
    by_cases e : t.testBit i = true
    · rw [if_neg (fun q => q e), if_pos e, Nat.or_assoc]
    · rw [if_pos e, if_neg e, Nat.or_zero, Nat.or_zero]
  · show zz_ev 190 5 _ _ _ = _
    rw [x_190_5]; simp (disch := first | omega | assumption) only [nI_add, pk_mul, z_in, z_ix, nI_leI, nI_ltI, nI_eq, z_eq0, z_lt0, z_0le, z_0lt, z_le0, z_n9, z_n1, z_m1lt, z_m9lt, z_m9le, z_m1le, zB_0, zB_1, zz_bi_s, zz_bv_s, zz_bl_s, if_pos, if_neg, if_true, if_false, true_and, and_true, not_true_eq_false, not_false_eq_true, ite_self]
theorem l_189 {W : zW} (hW : wfW W) {s : Nat} {f : Nat → Nat → Int32} {g : Nat → Nat → Int64} (h : VM W s f) {p a n : Nat} (hp : p < wP W) (ha : a < 12) (hn : n ≤ 12) : zz_ca 189 [.ref 112, .int (nI p), .int (nI a), .int (nI n)] (zK f g) = some (some (.int (nI (zS (znx W (wK W p) (zdr (wK W p) s)) a n))), zK f g) := by
  have hN : ∀ c < 12, znx W (wK W p) (zdr (wK W p) s) c < 4096 := fun c _ => znx_lt hW _ _ _
  rw [e_189, x_189_0, z_1shl (by omega), hw_189_8]
  refine (z_lp (fun i => zz_ev 189 8 [.ref 112, .int (nI p), .null, .int (nI n), .int (nI (zS (znx W (wK W p) (zdr (wK W p) s)) a i)), .int (nI i)] [] (zK f g)) n (fun i hi => ?_) 0 (by omega)).trans ?_
  · show zz_ev 189 8 _ _ _ = zz_ev 189 8 _ _ _
    have hl := zS_lt hN ha i
    rw [x_189_8]; simp (disch := first | omega | assumption) only [nI_add, pk_mul, z_in, z_ix, nI_leI, nI_ltI, nI_eq, z_eq0, z_lt0, z_0le, z_0lt, z_le0, z_n9, z_n1, z_m1lt, z_m9lt, z_m9le, z_m1le, zB_0, zB_1, zz_bi_s, zz_bv_s, zz_bl_s, if_pos, if_neg, if_true, if_false, true_and, and_true, not_true_eq_false, not_false_eq_true, ite_self, l_190 hW h, x_189_21]; rfl
  · show zz_ev 189 8 _ _ _ = _
    rw [x_189_8]; simp (disch := first | omega | assumption) only [nI_add, pk_mul, z_in, z_ix, nI_leI, nI_ltI, nI_eq, z_eq0, z_lt0, z_0le, z_0lt, z_le0, z_n9, z_n1, z_m1lt, z_m9lt, z_m9le, z_m1le, zB_0, zB_1, zz_bi_s, zz_bv_s, zz_bl_s, if_pos, if_neg, if_true, if_false, true_and, and_true, not_true_eq_false, not_false_eq_true, ite_self]
theorem l_204 {W : zW} (hW : wfW W) {s : Nat} {f : Nat → Nat → Int32} {g : Nat → Nat → Int64} (h : VM W s f) {p a b : Nat} (hp : p < wP W) (ha : a < 12) (hb : b < 12) : zz_ca 204 [.ref 112, .int (nI p), .int (nI a), .int (nI b)] (zK f g) = some (some (.int (dI (zfa (znx W (wK W p) (zdr (wK W p) s)) a b))), zK f g) := by
  have hN : ∀ c < 12, znx W (wK W p) (zdr (wK W p) s) c < 4096 := fun c _ => znx_lt hW _ _ _
  rw [e_204, x_204_0, z_1shl (by omega), hw_204_8]
  refine z_srchI (E := fun i => zz_ev 204 8 [.ref 112, .int (nI p), .null, .int (nI b), .int (nI (zS (znx W (wK W p) (zdr (wK W p) s)) a i)), .int (nI i)] [] (zK f g)) (h := zK f g) (fun n => (zS (znx W (wK W p) (zdr (wK W p) s)) a n).testBit b) 12 0 (fun i _ hi => ?_) ?_ 0 (by omega) (by omega)
  · show zz_ev 204 8 _ _ _ = _
    have hl := zS_lt hN ha i
    rw [x_204_8]; simp (disch := first | omega | assumption) only [nI_add, pk_mul, z_in, z_ix, nI_leI, nI_ltI, nI_eq, z_eq0, z_lt0, z_0le, z_0lt, z_le0, z_n9, z_n1, z_m1lt, z_m9lt, z_m9le, z_m1le, zB_0, zB_1, zz_bi_s, zz_bv_s, zz_bl_s, if_pos, if_neg, if_true, if_false, true_and, and_true, not_true_eq_false, not_false_eq_true, ite_self, l_171, l_190 hW h, x_204_21, x_204_34]
    by_cases e : (zS (znx W (wK W p) (zdr (wK W p) s)) a i).testBit b = true
    · rw [if_neg (fun q => q e), if_pos e]
    · rw [if_pos e, if_neg e]; rfl
  · show zz_ev 204 8 _ _ _ = _
    rw [x_204_8]; simp (disch := first | omega | assumption) only [nI_add, pk_mul, z_in, z_ix, nI_leI, nI_ltI, nI_eq, z_eq0, z_lt0, z_0le, z_0lt, z_le0, z_n9, z_n1, z_m1lt, z_m9lt, z_m9le, z_m1le, zB_0, zB_1, zz_bi_s, zz_bv_s, zz_bl_s, if_pos, if_neg, if_true, if_false, true_and, and_true, not_true_eq_false, not_false_eq_true, ite_self]
