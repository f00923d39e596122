/-! ROOMS THAT ARE REACHED, and by how many steps -/
/-- beside those of a set (of its first n rooms) -/
def zuo (N : Nat → Nat) (s : Nat) : Nat → Nat
  | 0 => 0
  | n + 1 => zuo N s n ||| (if s.testBit n = true then N n else 0)
theorem zuo_s {N : Nat → Nat} {s n : Nat} : zuo N s (n + 1) = zuo N s n ||| (if s.testBit n = true then N n else 0) := rfl
theorem zuo_t {N : Nat → Nat} {s b : Nat} : ∀ {n : Nat}, (zuo N s n).testBit b = true ↔ ∃ c < n, s.testBit c = true ∧ (N c).testBit b = true
  | 0 => ⟨fun h => (by rw [show zuo N s 0 = 0 from rfl, Nat.zero_testBit] at h; cases h), fun ⟨c, hc, _⟩ => by omega⟩
  | n + 1 => by
    rw [zuo_s, Nat.testBit_or, Bool.or_eq_true, zuo_t]
    constructor
    · rintro (⟨c, hc, h⟩ | h)
      · exact ⟨c, by omega, h⟩
      · by_cases e : s.testBit n = true
        · rw [if_pos e] at h; exact ⟨n, by omega, e, h⟩
        · rw [if_neg e, Nat.zero_testBit] at h; cases h
    · rintro ⟨c, hc, h⟩
      by_cases e : c = n
      · subst e; rw [if_pos h.1]; exact Or.inr h.2
      · exact Or.inl ⟨c, by omega, h⟩
theorem zuo_lt {N : Nat → Nat} (hN : ∀ c < 12, N c < 4096) {s : Nat} : ∀ {n : Nat}, n ≤ 12 → zuo N s n < 4096
  | 0, _ => by show 0 < 4096; decide
  | n + 1, hn => by
    rw [zuo_s]; refine z_or_lt (zuo_lt hN (by omega)) ?_
    split; exact hN n (by omega); decide
/-- those within n steps -/
def zS (N : Nat → Nat) (a : Nat) : Nat → Nat
  | 0 => 2 ^ a
  | n + 1 => zS N a n ||| zuo N (zS N a n) 12
theorem zS_s {N : Nat → Nat} {a n : Nat} : zS N a (n + 1) = zS N a n ||| zuo N (zS N a n) 12 := rfl
theorem zS_lt {N : Nat → Nat} (hN : ∀ c < 12, N c < 4096) {a : Nat} (ha : a < 12) : ∀ n, zS N a n < 4096
  | 0 => z_p_lt ha
  | n + 1 => by rw [zS_s]; exact z_or_lt (zS_lt hN ha n) (zuo_lt hN (Nat.le_refl _))
theorem zS_t {N : Nat → Nat} {a b n : Nat} : (zS N a (n + 1)).testBit b = true ↔ (zS N a n).testBit b = true ∨ ∃ c < 12, (zS N a n).testBit c = true ∧ (N c).testBit b = true := by
  rw [zS_s, Nat.testBit_or, Bool.or_eq_true, zuo_t]
theorem zS_0 {N : Nat → Nat} {a b : Nat} : (zS N a 0).testBit b = true ↔ a = b := by
  rw [show zS N a 0 = 2 ^ a from rfl, z_tp, decide_eq_true_eq]
theorem z_b12 {s b : Nat} (hs : s < 4096) (h : s.testBit b = true) : b < 12 := by
  by_cases e : b < 12
  · exact e
  · rw [z_lt2 (n := 12) hs (by omega)] at h; cases h
theorem zS_up {N : Nat → Nat} {a b n : Nat} (h : (zS N a n).testBit b = true) : ∀ m, n ≤ m → (zS N a m).testBit b = true := by
  intro m hm
  induction hm with
  | refl => exact h
  | step _ ih => exact zS_t.mpr (Or.inl ih)
theorem zS_left {N : Nat → Nat} (hN : ∀ c < 12, N c < 4096) {a b : Nat} (ha : a < 12) : ∀ n, (zS N a (n + 1)).testBit b = true ↔ (zS N a n).testBit b = true ∨ ∃ c < 12, (N a).testBit c = true ∧ (zS N c n).testBit b = true
  | 0 => by
    rw [zS_t]
    constructor
    · rintro (h | ⟨c, hc, h1, h2⟩)
      · exact Or.inl h
      · rw [zS_0] at h1; subst h1
        exact Or.inr ⟨b, z_b12 (hN _ ha) h2, h2, zS_0.mpr rfl⟩
    · rintro (h | ⟨c, hc, h1, h2⟩)
      · exact Or.inl h
      · rw [zS_0] at h2; subst h2; exact Or.inr ⟨a, ha, zS_0.mpr rfl, h1⟩
  | n + 1 => by
    constructor
    · intro h
      rcases zS_t.mp h with h | ⟨c, hc, h1, h2⟩
      · exact Or.inl h
      · rcases (zS_left hN ha n).mp h1 with h3 | ⟨d, hd, h3, h4⟩
        · exact Or.inl (zS_t.mpr (Or.inr ⟨c, hc, h3, h2⟩))
        · exact Or.inr ⟨d, hd, h3, zS_t.mpr (Or.inr ⟨c, hc, h4, h2⟩)⟩
    · rintro (h | ⟨c, hc, h1, h2⟩)
      · exact zS_t.mpr (Or.inl h)
      · rcases zS_t.mp h2 with h3 | ⟨d, hd, h3, h4⟩
        · exact zS_t.mpr (Or.inl ((zS_left hN ha n).mpr (Or.inr ⟨c, hc, h1, h3⟩)))
        · exact zS_t.mpr (Or.inr ⟨d, hd, (zS_left hN ha n).mpr (Or.inr ⟨c, hc, h1, h3⟩), h4⟩)
def zsym (N : Nat → Nat) : Prop := ∀ a < 12, ∀ b < 12, (N a).testBit b = (N b).testBit a
theorem zS_sym {N : Nat → Nat} (hN : ∀ c < 12, N c < 4096) (hs : zsym N) : ∀ n, ∀ a < 12, ∀ b < 12, (zS N a n).testBit b = true → (zS N b n).testBit a = true
  | 0, a, ha, b, hb, h => by rw [zS_0] at h ⊢; exact h.symm
  | n + 1, a, ha, b, hb, h => by
    rcases zS_t.mp h with h | ⟨c, hc, h1, h2⟩
    · exact zS_t.mpr (Or.inl (zS_sym hN hs n a ha b hb h))
    · exact (zS_left hN hb n).mpr (Or.inr ⟨c, hc, by rw [hs b hb c hc]; exact h2, zS_sym hN hs n a ha c hc h1⟩)
/-! how many there are -/
theorem zpc_mono {s t : Nat} (h : ∀ i, s.testBit i = true → t.testBit i = true) : ∀ n, zpc n s ≤ zpc n t
  | 0 => Nat.le_refl _
  | n + 1 => by
    show zpc n s + _ ≤ zpc n t + _
    have := zpc_mono h n
    cases e : s.testBit n with
    | false => simp; omega
    | true => rw [h n e]; omega
theorem zpc_strict {s t : Nat} (h : ∀ i, s.testBit i = true → t.testBit i = true) {b : Nat} (h1 : s.testBit b = false) (h2 : t.testBit b = true) : ∀ n, b < n → zpc n s < zpc n t
  | 0, hb => by omega
  | n + 1, hb => by
    show zpc n s + _ < zpc n t + _
    by_cases e : b = n
    · subst e; have := zpc_mono h b; rw [h1, h2]; show zpc b s + 0 < zpc b t + 1; omega
    · have := zpc_strict h h1 h2 n (by omega)
      cases e : s.testBit n with
      | false => simp; omega
      | true => rw [h n e]; omega
theorem zpc_full {s : Nat} : ∀ {n : Nat}, n ≤ zpc n s → ∀ i < n, s.testBit i = true
  | 0, _, i, hi => by omega
  | n + 1, h, i, hi => by
    have h' : n + 1 ≤ zpc n s + (s.testBit n).toNat := h
    have := zpc_le n s
    have h2 := Bool.toNat_le (s.testBit n)
    by_cases e : i = n
    · subst e; cases q : s.testBit i; rw [q] at h'; simp at h'; omega; rfl
    · exact zpc_full (n := n) (by omega) i (by omega)
theorem zpc_p {a : Nat} (ha : a < 12) : zpc 12 (2 ^ a) = 1 := by
  have : ∀ a < 12, zpc 12 (2 ^ a) = 1 := by decide
  exact this a ha
theorem zS_stop {N : Nat → Nat} {a n : Nat} (h : zS N a (n + 1) = zS N a n) : ∀ m, n ≤ m → zS N a m = zS N a n := by
  intro m hm
  induction hm with
  | refl => rfl
  | step _ ih => rw [zS_s, ih, ← zS_s, h]
theorem z_sub_eq {s t : Nat} (ht : t < 4096) (hs : s < 4096) (h : ∀ i, s.testBit i = true → t.testBit i = true) (hn : ¬ t = s) : ∃ b < 12, s.testBit b = false ∧ t.testBit b = true := by
  by_cases e : ∃ b < 12, s.testBit b = false ∧ t.testBit b = true
  · exact e
  · exact absurd (z_ext (n := 12) ht hs (fun i hi => by
      cases q : s.testBit i with
      | true => exact h i q
      | false => cases q2 : t.testBit i with
        | false => rfl
        | true => exact absurd ⟨i, hi, q, q2⟩ e)) hn
theorem zS_grow {N : Nat → Nat} (hN : ∀ c < 12, N c < 4096) {a : Nat} (ha : a < 12) : ∀ n, zS N a (n + 1) = zS N a n ∨ n + 1 ≤ zpc 12 (zS N a n)
  | 0 => Or.inr (by rw [show zS N a 0 = 2 ^ a from rfl, zpc_p ha]; omega)
  | n + 1 => by
    by_cases e : zS N a (n + 1) = zS N a n
    · exact Or.inl (by rw [zS_stop e (n + 2) (by omega), e])
    · rcases zS_grow hN ha n with h | h
      · exact absurd h e
      · obtain ⟨b, hb, h1, h2⟩ := z_sub_eq (zS_lt hN ha (n + 1)) (zS_lt hN ha n) (fun i hi => zS_t.mpr (Or.inl hi)) e
        have := zpc_strict (fun i hi => zS_t.mpr (Or.inl hi)) h1 h2 12 hb
        exact Or.inr (by omega)
theorem z_4095u {s : Nat} (hs : s < 4096) (h : ∀ i < 12, s.testBit i = true) : s = 4095 := by
  refine z_ext (n := 12) hs (by decide) (fun i hi => ?_)
  rw [h i hi]
  have : ∀ d < 12, (4095 : Nat).testBit d = true := by decide
  exact (this i hi).symm
theorem zS_12 {N : Nat → Nat} (hN : ∀ c < 12, N c < 4096) {a : Nat} (ha : a < 12) : zS N a 12 = zS N a 11 := by
  rcases zS_grow hN ha 11 with h | h
  · exact h
  · have h1 := zpc_full h
    rw [z_4095u (zS_lt hN ha 11) h1, z_4095u (zS_lt hN ha 12) (fun i hi => zS_t.mpr (Or.inl (h1 i hi)))]
theorem zS_cl {N : Nat → Nat} (hN : ∀ c < 12, N c < 4096) {a b c : Nat} (ha : a < 12) (hc : c < 12) (h : (zS N a 11).testBit c = true) (h2 : (N c).testBit b = true) : (zS N a 11).testBit b = true := by
  rw [← zS_12 hN ha]; exact zS_t.mpr (Or.inr ⟨c, hc, h, h2⟩)
theorem zS_min {N : Nat → Nat} {a t : Nat} (h0 : t.testBit a = true) (h : ∀ c < 12, t.testBit c = true → ∀ b, (N c).testBit b = true → t.testBit b = true) : ∀ n b, (zS N a n).testBit b = true → t.testBit b = true
  | 0, b, q => by rw [zS_0] at q; subst q; exact h0
  | n + 1, b, q => by
    rcases zS_t.mp q with q | ⟨c, hc, h1, h2⟩
    · exact zS_min h0 h n b q
    · exact h c hc (zS_min h0 h n c h1) b h2
/-- all that is reached -/
def zcl (N : Nat → Nat) (a : Nat) : Nat := zS N a 11
/-- by how many steps -/
def zfa (N : Nat → Nat) (a b : Nat) : Option Nat := zff (fun n => (zS N a n).testBit b) 12 0
theorem zfa_lt {N : Nat → Nat} {a b n : Nat} (h : zfa N a b = some n) : n < 12 := by have := zff_some h; omega
theorem zff_ext {c d : Nat → Bool} : ∀ {n i : Nat}, (∀ j, i ≤ j → j < i + n → c j = d j) → zff c n i = zff d n i
  | 0, i, _ => rfl
  | n + 1, i, h => by
    show (if c i = true then some i else zff c n (i + 1)) = (if d i = true then some i else zff d n (i + 1))
    rw [h i (by omega) (by omega), zff_ext (fun j h1 h2 => h j (by omega) (by omega))]
theorem zfa_sym {N : Nat → Nat} (hN : ∀ c < 12, N c < 4096) (hs : zsym N) {a b : Nat} (ha : a < 12) (hb : b < 12) : zfa N a b = zfa N b a := by
  refine zff_ext (fun j _ _ => ?_)
  have h1 := zS_sym hN hs j a ha b hb
  have h2 := zS_sym hN hs j b hb a ha
  cases e : (zS N a j).testBit b with
  | true => rw [h1 e]
  | false => cases e2 : (zS N b j).testBit a with
    | false => rfl
    | true => rw [h2 e2] at e; cases e
theorem zfa_none {N : Nat → Nat} {a b : Nat} : zfa N a b = none ↔ (zcl N a).testBit b = false := by
  constructor
  · intro h; exact zff_none h 11 (by omega) (by omega)
  · intro h
    cases e : zfa N a b with
    | none => rfl
    | some n =>
      have h1 := zff_some e
      rw [zcl, zS_up h1.2.2 11 (by omega)] at h; cases h
theorem zfa_le {N : Nat → Nat} {a b n : Nat} (hn : n < 12) : (zS N a n).testBit b = true ↔ ∃ m, zfa N a b = some m ∧ m ≤ n := by
  constructor
  · intro h
    cases e : zfa N a b with
    | none => have := zff_none e n (by omega) (by omega); rw [h] at this; cases this
    | some m =>
      refine ⟨m, rfl, ?_⟩
      by_cases q : m ≤ n
      · exact q
      · have := zff_min e n (by omega) (by omega); rw [h] at this; cases this
  · rintro ⟨m, e, hm⟩
    exact zS_up (zff_some e).2.2 n hm
/-- the lowest of a set -/
def zlow (x : Nat) : Nat := match zff (fun i => x.testBit i) 12 0 with
  | some i => i
  | none => 0
theorem zlow_t {x : Nat} (hx : x < 4096) (h : x ≠ 0) : zlow x < 12 ∧ x.testBit (zlow x) = true := by
  unfold zlow
  cases e : zff (fun i => x.testBit i) 12 0 with
  | some i => have := zff_some e; exact ⟨by show i < 12; omega, this.2.2⟩
  | none => exact absurd (z_ext (n := 12) hx (by decide) (fun i hi => by rw [zff_none e i (by omega) (by omega), Nat.zero_testBit])) h
theorem zlow_0 : zlow 0 = 0 := by decide
theorem z_low {x : Nat} (hx : x < 4096) : (nI x &&& nI 4095) &&& (-nI x) = nI (if x = 0 then 0 else 2 ^ zlow x) := by
  have : ∀ a < 64, ∀ b < 64, (nI (64 * a + b) &&& nI 4095) &&& (-nI (64 * a + b)) = nI (if 64 * a + b = 0 then 0 else 2 ^ zlow (64 * a + b)) := by decide +kernel
  have h := this (x / 64) (by omega) (x % 64) (by omega)
  rwa [Nat.div_add_mod] at h
theorem zpc_low {k : Nat} (hk : k < 12) : zpc 12 (2 ^ k - 1) = k := by
  have : ∀ k < 12, zpc 12 (2 ^ k - 1) = k := by decide
  exact this k hk
theorem l_66 (f : Nat → Nat → Int32) (g : Nat → Nat → Int64) {x : Nat} (hx : x < 4096) : zz_ca 66 [.int (nI x)] (zK f g) = some (some (.int (nI (zlow x))), zK f g) := by
  rw [e_66, x_66_0, z_low hx]
  by_cases h : x = 0
  · subst h; simp (disch := first | omega | assumption) only [nI_add, pk_mul, z_in, z_ix, nI_leI, nI_ltI, nI_eq, z_eq0, z_lt0, z_0le, z_0lt, z_le0, z_n9, z_n1, z_m1lt, z_m9lt, z_m9le, z_m1le, zB_0, zB_1, zz_bi_s, zz_bv_s, zz_bl_s, if_pos, if_neg, if_true, if_false, true_and, and_true, not_true_eq_false, not_false_eq_true, ite_self, zlow_0]
  · have h1 := zlow_t hx h
    have h2 : 1 ≤ 2 ^ zlow x := Nat.one_le_two_pow
    have h3 := z_p_lt h1.1
    rw [if_neg h, pk_sub h2]
    simp (disch := first | omega | assumption) only [nI_add, pk_mul, z_in, z_ix, nI_leI, nI_ltI, nI_eq, z_eq0, z_lt0, z_0le, z_0lt, z_le0, z_n9, z_n1, z_m1lt, z_m9lt, z_m9le, z_m1le, zB_0, zB_1, zz_bi_s, zz_bv_s, zz_bl_s, if_pos, if_neg, if_true, if_false, true_and, and_true, not_true_eq_false, not_false_eq_true, ite_self, l_61 (s := 2 ^ zlow x - 1), x_66_23]
    rw [zpc_low h1.1]
