/-! MARK, WITHIN, PARTS -/
theorem zuu {b c : Bool} (h : b = true ↔ c = true) : b = c := by cases b <;> cases c <;> simp at h ⊢
theorem zst_t {W : zW} {room b : Nat} : ∀ {n : Nat}, (zst W room n).testBit b = true ↔ ∃ s < n, (wA W s = room ∧ wB W s = b) ∨ (wB W s = room ∧ wA W s = b)
  | 0 => ⟨fun h => (by rw [show zst W room 0 = 0 from rfl, Nat.zero_testBit] at h; cases h), fun ⟨c, hc, _⟩ => by omega⟩
  | n + 1 => by
    rw [zst_s, Nat.testBit_or, Nat.testBit_or, Bool.or_eq_true, Bool.or_eq_true, zst_t]
    have e1 : (if wA W n = room then 2 ^ wB W n else 0).testBit b = true ↔ wA W n = room ∧ wB W n = b := by
      by_cases h : wA W n = room
      · rw [if_pos h, z_tp]; simp [h]
      · rw [if_neg h, Nat.zero_testBit]; simp [h]
    have e2 : (if wB W n = room then 2 ^ wA W n else 0).testBit b = true ↔ wB W n = room ∧ wA W n = b := by
      by_cases h : wB W n = room
      · rw [if_pos h, z_tp]; simp [h]
      · rw [if_neg h, Nat.zero_testBit]; simp [h]
    rw [e1, e2]
    constructor
    · rintro ((⟨s, hs, h⟩ | h) | h)
      · exact ⟨s, by omega, h⟩
      · exact ⟨n, by omega, Or.inl h⟩
      · exact ⟨n, by omega, Or.inr h⟩
    · rintro ⟨s, hs, h⟩
      by_cases e : s = n
      · subst e; rcases h with h | h
        · exact Or.inl (Or.inr h)
        · exact Or.inr h
      · exact Or.inl (Or.inl ⟨s, by omega, h⟩)
theorem znb_t {dr a b : Nat} : (znb dr a).testBit b = true ↔ (dr.testBit a = true ∧ (a + 1) % 12 = b) ∨ (dr.testBit ((a + 11) % 12) = true ∧ (a + 11) % 12 = b) := by
  unfold znb
  rw [Nat.testBit_or, Bool.or_eq_true]
  have e1 : (if dr.testBit a = true then 2 ^ ((a + 1) % 12) else 0).testBit b = true ↔ dr.testBit a = true ∧ (a + 1) % 12 = b := by
    by_cases h : dr.testBit a = true
    · rw [if_pos h, z_tp]; simp [h]
    · rw [if_neg h, Nat.zero_testBit]; simp [h]
  have e2 : (if dr.testBit ((a + 11) % 12) = true then 2 ^ ((a + 11) % 12) else 0).testBit b = true ↔ dr.testBit ((a + 11) % 12) = true ∧ (a + 11) % 12 = b := by
    by_cases h : dr.testBit ((a + 11) % 12) = true
    · rw [if_pos h, z_tp]; simp [h]
    · rw [if_neg h, Nat.zero_testBit]; simp [h]
  rw [e1, e2]
theorem znb_sym {dr a b : Nat} (ha : a < 12) (hb : b < 12) (h : (znb dr a).testBit b = true) : (znb dr b).testBit a = true := by
  rw [znb_t] at h ⊢
  rcases h with ⟨h1, h2⟩ | ⟨h1, h2⟩
  · have e : (b + 11) % 12 = a := by omega
    exact Or.inr ⟨by rw [e]; exact h1, e⟩
  · have e : (b + 1) % 12 = a := by omega
    exact Or.inl ⟨by rw [← h2]; exact h1, e⟩
theorem znx_sym (W : zW) (k dr : Nat) : zsym (znx W k dr) := by
  have key : ∀ a < 12, ∀ b < 12, (znx W k dr a).testBit b = true → (znx W k dr b).testBit a = true := by
    intro a ha b hb h
    unfold znx at h ⊢
    rw [Nat.testBit_or, Bool.or_eq_true] at h ⊢
    rcases h with h | h
    · exact Or.inl (znb_sym ha hb h)
    · right
      by_cases c : k = 1 ∨ k = 4
      · rw [if_pos c, zst_t] at h ⊢
        obtain ⟨s, hs, h⟩ := h
        exact ⟨s, hs, h.symm.imp (fun q => ⟨q.2, q.1⟩) (fun q => ⟨q.2, q.1⟩) |>.symm.symm⟩
      · rw [if_neg c, Nat.zero_testBit] at h; cases h
  intro a ha b hb
  exact zuu ⟨key a ha b hb, key b hb a ha⟩
theorem zgo_lt {A : zA} (hw : wf A) (p room : Nat) : zgo A p room < 4096 := znx_lt hw.2.2.1 _ _ _
theorem zgo_sym (A : zA) (p : Nat) : zsym (zgo A p) := znx_sym _ _ _
/-! what a person tells by its kind -/
def zsa (A : zA) (room : Nat) : Nat := zct (fun s => decide (wA (aW A) s = room ∨ wB (aW A) s = room)) (wS (aW A))
theorem l_56 {A : zA} (hw : wf A) {f : Nat → Nat → Int32} {g : Nat → Nat → Int64} (h : CX A f g) {room : Nat} (hr : room < 12) : zz_ca 56 [.ref 3, .int (nI room)] (zK f g) = some (some (.int (nI (zsa A room))), zK f g) := by
  have hS := wfS hw
  rw [e_56, x_56_0]
  refine (z_lp (fun i => zz_ev 56 4 [.ref 3, .int (nI room), .int (nI (zct (fun s => decide (wA (aW A) s = room ∨ wB (aW A) s = room)) i)), .int (nI i)] [] (zK f g)) (wS (aW A)) (fun i hi => ?_) 0 (by omega)).trans ?_
  · have hab := wfab hw hi
    show zz_ev 56 4 _ _ _ = zz_ev 56 4 _ _ _
    rw [x_56_4]; simp (disch := first | omega | assumption) only [nI_add, pk_mul, z_in, z_ix, nI_leI, nI_ltI, nI_eq, z_eq0, z_lt0, z_0le, z_0lt, z_le0, z_n9, z_n1, z_m1lt, z_m9lt, z_m9le, z_m1le, zB_0, zB_1, zz_bi_s, zz_bv_s, zz_bl_s, if_pos, if_neg, if_true, if_false, true_and, and_true, not_true_eq_false, not_false_eq_true, ite_self, cxP h, cxS h, cxB h, cxH h, cxD h, cxk h, cxr h, cxp h, cxd h, cxt h, cxa h, cxb h, x_56_32, x_56_35]
    rw [show zct (fun s => decide (wA (aW A) s = room ∨ wB (aW A) s = room)) (i + 1) = zct (fun s => decide (wA (aW A) s = room ∨ wB (aW A) s = room)) i + (decide (wA (aW A) i = room ∨ wB (aW A) i = room)).toNat from rfl]
    by_cases h1 : wA (aW A) i = room
    · rw [if_pos h1, b2n_t (decide_eq_true (Or.inl h1))]
    · rw [if_neg h1]
      by_cases h2 : wB (aW A) i = room
      · rw [if_pos h2, b2n_t (decide_eq_true (Or.inr h2))]
      · rw [if_neg h2, b2n_f (by simp [h1, h2])]; rfl
  · show zz_ev 56 4 _ _ _ = _
    rw [x_56_4]; simp (disch := first | omega | assumption) only [nI_add, pk_mul, z_in, z_ix, nI_leI, nI_ltI, nI_eq, z_eq0, z_lt0, z_0le, z_0lt, z_le0, z_n9, z_n1, z_m1lt, z_m9lt, z_m9le, z_m1le, zB_0, zB_1, zz_bi_s, zz_bv_s, zz_bl_s, if_pos, if_neg, if_true, if_false, true_and, and_true, not_true_eq_false, not_false_eq_true, ite_self, cxP h, cxS h, cxB h, cxH h, cxD h, cxk h, cxr h, cxp h, cxd h, cxt h, cxa h, cxb h]; rfl
theorem l_185 {A : zA} (hw : wf A) {f : Nat → Nat → Int32} {g : Nat → Nat → Int64} (h : CM A f g) {room : Nat} (hr : room < 12) : zz_ca 185 [.ref 112, .int (nI room)] (zK f g) = some (some (.int (nI (zsa A room))), zK f g) := by
  have hS := wfS hw
  rw [e_185, x_185_0]
  refine (z_lp (fun i => zz_ev 185 4 [.ref 112, .int (nI room), .int (nI (zct (fun s => decide (wA (aW A) s = room ∨ wB (aW A) s = room)) i)), .int (nI (2 * i))] [] (zK f g)) (wS (aW A)) (fun i hi => ?_) 0 (by omega)).trans ?_
  · have hab := wfab hw hi
    show zz_ev 185 4 _ _ _ = zz_ev 185 4 _ _ _
    have s1 : ∀ b, zz_ev 185 4 [.ref 112, .int (nI room), .int (nI b), .int (nI (2 * i))] [] (zK f g) = zz_ev 185 4 [.ref 112, .int (nI room), .int (nI (b + (decide (wA (aW A) i = room)).toNat)), .int (nI (2 * i + 1))] [] (zK f g) := fun b => by
      rw [x_185_4]; simp (disch := first | omega | assumption) only [nI_add, pk_mul, z_in, z_ix, nI_leI, nI_ltI, nI_eq, z_eq0, z_lt0, z_0le, z_0lt, z_le0, z_n9, z_n1, z_m1lt, z_m9lt, z_m9le, z_m1le, zB_0, zB_1, zz_bi_s, zz_bv_s, zz_bl_s, if_pos, if_neg, if_true, if_false, true_and, and_true, not_true_eq_false, not_false_eq_true, ite_self, cmP h, cmS h, cmB h, cmH h, cmD h, cmk h, cmr h, cmp h, cmd h, cmt h, cma h, cmb h, cm0 h, x_185_30]
      by_cases e : wA (aW A) i = room
      · rw [if_pos e, b2n_t (decide_eq_true e)]
      · rw [if_neg e, b2n_f (by simpa using e)]
    have s2 : ∀ b, zz_ev 185 4 [.ref 112, .int (nI room), .int (nI b), .int (nI (2 * i + 1))] [] (zK f g) = zz_ev 185 4 [.ref 112, .int (nI room), .int (nI (b + (decide (wB (aW A) i = room)).toNat)), .int (nI (2 * (i + 1)))] [] (zK f g) := fun b => by
      rw [x_185_4]; simp (disch := first | omega | assumption) only [nI_add, pk_mul, z_in, z_ix, nI_leI, nI_ltI, nI_eq, z_eq0, z_lt0, z_0le, z_0lt, z_le0, z_n9, z_n1, z_m1lt, z_m9lt, z_m9le, z_m1le, zB_0, zB_1, zz_bi_s, zz_bv_s, zz_bl_s, if_pos, if_neg, if_true, if_false, true_and, and_true, not_true_eq_false, not_false_eq_true, ite_self, cmP h, cmS h, cmB h, cmH h, cmD h, cmk h, cmr h, cmp h, cmd h, cmt h, cma h, cmb h, cm0 h, x_185_30]
      rw [show 2 * i + 1 + 1 = 2 * (i + 1) by omega]
      by_cases e : wB (aW A) i = room
      · rw [if_pos e, b2n_t (decide_eq_true e)]
      · rw [if_neg e, b2n_f (by simpa using e)]
    rw [s1, s2, show zct (fun s => decide (wA (aW A) s = room ∨ wB (aW A) s = room)) (i + 1) = zct (fun s => decide (wA (aW A) s = room ∨ wB (aW A) s = room)) i + (decide (wA (aW A) i = room ∨ wB (aW A) i = room)).toNat from rfl]
    by_cases h1 : wA (aW A) i = room
    · rw [b2n_t (decide_eq_true h1), b2n_f (c := decide (wB (aW A) i = room)) (by simp; omega), b2n_t (decide_eq_true (Or.inl h1))]
    · by_cases h2 : wB (aW A) i = room
      · rw [b2n_f (by simpa using h1), b2n_t (decide_eq_true h2), b2n_t (decide_eq_true (Or.inr h2))]
      · rw [b2n_f (by simpa using h1), b2n_f (by simpa using h2), b2n_f (by simp [h1, h2])]
  · show zz_ev 185 4 _ _ _ = _
    rw [x_185_4]; simp (disch := first | omega | assumption) only [nI_add, pk_mul, z_in, z_ix, nI_leI, nI_ltI, nI_eq, z_eq0, z_lt0, z_0le, z_0lt, z_le0, z_n9, z_n1, z_m1lt, z_m9lt, z_m9le, z_m1le, zB_0, zB_1, zz_bi_s, zz_bv_s, zz_bl_s, if_pos, if_neg, if_true, if_false, true_and, and_true, not_true_eq_false, not_false_eq_true, ite_self, cmP h, cmS h, cmB h, cmH h, cmD h, cmk h, cmr h, cmp h, cmd h, cmt h, cma h, cmb h, cm0 h]; rfl
def zdy (A : zA) (p : Nat) : Option Nat := zff (fun i => decide (0 < zdo A p i)) 12 1
theorem zdo_lt {A : zA} (hw : wf A) {p n : Nat} (hp : p < wP (aW A)) (hn : n < 1000) : zdo A p n < 2 ^ 31 := by
  have := z_small (wfr hw hp) hn (wfp hw hp); unfold zdo; omega
theorem l_57 {A : zA} (hw : wf A) {f : Nat → Nat → Int32} {g : Nat → Nat → Int64} (h : CX A f g) {p : Nat} (hp : p < wP (aW A)) : zz_ca 57 [.ref 3, .int (nI p)] (zK f g) = some (some (.int (dI (zdy A p))), zK f g) := by
  rw [e_57, x_57_0]
  refine z_srchI (E := fun i => zz_ev 57 2 [.ref 3, .int (nI p), .int (nI i)] [] (zK f g)) (h := zK f g) (fun i => decide (0 < zdo A p i)) 13 1 (fun i _ hi => ?_) ?_ 1 (by omega) (by omega)
  · have hd := zdo_lt hw hp (n := i) (by omega)
    show zz_ev 57 2 _ _ _ = _
    rw [x_57_2]; simp (disch := first | omega | assumption) only [nI_add, pk_mul, z_in, z_ix, nI_leI, nI_ltI, nI_eq, z_eq0, z_lt0, z_0le, z_0lt, z_le0, z_n9, z_n1, z_m1lt, z_m9lt, z_m9le, z_m1le, zB_0, zB_1, zz_bi_s, zz_bv_s, zz_bl_s, if_pos, if_neg, if_true, if_false, true_and, and_true, not_true_eq_false, not_false_eq_true, ite_self, l_58 hw h, x_57_14]
    by_cases e : 0 < zdo A p i
    · rw [if_neg (by omega), if_pos (decide_eq_true e)]
    · rw [if_pos (by omega), if_neg (by simpa using e)]
  · show zz_ev 57 2 _ _ _ = _
    rw [x_57_2]; simp (disch := first | omega | assumption) only [nI_add, pk_mul, z_in, z_ix, nI_leI, nI_ltI, nI_eq, z_eq0, z_lt0, z_0le, z_0lt, z_le0, z_n9, z_n1, z_m1lt, z_m9lt, z_m9le, z_m1le, zB_0, zB_1, zz_bi_s, zz_bv_s, zz_bl_s, if_pos, if_neg, if_true, if_false, true_and, and_true, not_true_eq_false, not_false_eq_true, ite_self]
theorem l_186 {A : zA} (hw : wf A) {f : Nat → Nat → Int32} {g : Nat → Nat → Int64} (h : CM A f g) {p : Nat} (hp : p < wP (aW A)) : zz_ca 186 [.ref 112, .int (nI p)] (zK f g) = some (some (.int (dI (zdy A p))), zK f g) := by
  rw [e_186, x_186_0]
  refine z_srchI (E := fun i => zz_ev 186 2 [.ref 112, .int (nI p), .int (nI i)] [] (zK f g)) (h := zK f g) (fun i => decide (0 < zdo A p i)) 13 1 (fun i _ hi => ?_) ?_ 1 (by omega) (by omega)
  · have hd := zdo_lt hw hp (n := i) (by omega)
    show zz_ev 186 2 _ _ _ = _
    rw [x_186_2]; simp (disch := first | omega | assumption) only [nI_add, pk_mul, z_in, z_ix, nI_leI, nI_ltI, nI_eq, z_eq0, z_lt0, z_0le, z_0lt, z_le0, z_n9, z_n1, z_m1lt, z_m9lt, z_m9le, z_m1le, zB_0, zB_1, zz_bi_s, zz_bv_s, zz_bl_s, if_pos, if_neg, if_true, if_false, true_and, and_true, not_true_eq_false, not_false_eq_true, ite_self, l_187 hw h, x_186_14]
    by_cases e : 0 < zdo A p i
    · rw [if_neg (by omega), if_pos (decide_eq_true e)]
    · rw [if_pos (by omega), if_neg (by simpa using e)]
  · show zz_ev 186 2 _ _ _ = _
    rw [x_186_2]; simp (disch := first | omega | assumption) only [nI_add, pk_mul, z_in, z_ix, nI_leI, nI_ltI, nI_eq, z_eq0, z_lt0, z_0le, z_0lt, z_le0, z_n9, z_n1, z_m1lt, z_m9lt, z_m9le, z_m1le, zB_0, zB_1, zz_bi_s, zz_bv_s, zz_bl_s, if_pos, if_neg, if_true, if_false, true_and, and_true, not_true_eq_false, not_false_eq_true, ite_self]
theorem zpc_2 {s r : Nat} (hr : r < 12) : zpc 12 (s &&& (2 ^ r ||| 2 ^ ((r + 11) % 12))) = (s.testBit r).toNat + (s.testBit ((r + 11) % 12)).toNat := by
  obtain rfl | rfl | rfl | rfl | rfl | rfl | rfl | rfl | rfl | rfl | rfl | rfl : r = 0 ∨ r = 1 ∨ r = 2 ∨ r = 3 ∨ r = 4 ∨ r = 5 ∨ r = 6 ∨ r = 7 ∨ r = 8 ∨ r = 9 ∨ r = 10 ∨ r = 11 := by omega
  all_goals (simp only [zpc, Nat.testBit_and, Nat.testBit_or, z_tp]; simp <;> omega)
def zsd (A : zA) (room : Nat) : Nat := ((qS (hC (aH A))).testBit room).toNat + ((qS (hC (aH A))).testBit ((room + 11) % 12)).toNat
theorem l_60 {A : zA} (hw : wf A) {f : Nat → Nat → Int32} {g : Nat → Nat → Int64} (h : CX A f g) {room : Nat} (hr : room < 12) : zz_ca 60 [.ref 3, .int (nI room)] (zK f g) = some (some (.int (nI (zsd A room))), zK f g) := by
  have hB := wfB hw
  have h11 : (room + 11) % 12 < 12 := Nat.mod_lt _ (by decide)
  have hl := z_and_lt (b := 2 ^ room ||| 2 ^ ((room + 11) % 12)) hB
  simp (disch := first | omega | assumption) only [x_60_0, x_60_8, x_60_20, e_60, l_51, nI_add, pk_mul, z_in, z_ix, nI_leI, nI_ltI, nI_eq, z_eq0, z_lt0, z_0le, z_0lt, z_le0, z_n9, z_n1, z_m1lt, z_m9lt, z_m9le, z_m1le, zB_0, zB_1, zz_bi_s, zz_bv_s, zz_bl_s, if_pos, if_neg, if_true, if_false, true_and, and_true, not_true_eq_false, not_false_eq_true, ite_self, cxP h, cxS h, cxB h, cxH h, cxD h, cxk h, cxr h, cxp h, cxd h, cxt h, cxa h, cxb h, z_1shl, z_or, z_and, l_61 f g hl]
  rw [zpc_2 hr]; rfl
def zci (A : zA) (room : Nat) : Nat := zct (fun q => decide (qR (hC (aH A)) q = room)) (wP (aW A))
theorem l_62 {A : zA} (hw : wf A) {f : Nat → Nat → Int32} {g : Nat → Nat → Int64} (h : CX A f g) {room : Nat} (hr : room < 12) : zz_ca 62 [.ref 3, .int (nI room)] (zK f g) = some (some (.int (nI (zci A room))), zK f g) := by
  have hP6 := wfP hw
  rw [e_62, x_62_0]
  refine (z_lp (fun i => zz_ev 62 4 [.ref 3, .int (nI room), .int (nI (zct (fun q => decide (qR (hC (aH A)) q = room)) i)), .int (nI i)] [] (zK f g)) (wP (aW A)) (fun i hi => ?_) 0 (by omega)).trans ?_
  · have hri := wfr hw hi
    show zz_ev 62 4 _ _ _ = zz_ev 62 4 _ _ _
    rw [x_62_4]; simp (disch := first | omega | assumption) only [nI_add, pk_mul, z_in, z_ix, nI_leI, nI_ltI, nI_eq, z_eq0, z_lt0, z_0le, z_0lt, z_le0, z_n9, z_n1, z_m1lt, z_m9lt, z_m9le, z_m1le, zB_0, zB_1, zz_bi_s, zz_bv_s, zz_bl_s, if_pos, if_neg, if_true, if_false, true_and, and_true, not_true_eq_false, not_false_eq_true, ite_self, cxP h, cxS h, cxB h, cxH h, cxD h, cxk h, cxr h, cxp h, cxd h, cxt h, cxa h, cxb h, x_62_25]
    rw [show zct (fun q => decide (qR (hC (aH A)) q = room)) (i + 1) = zct (fun q => decide (qR (hC (aH A)) q = room)) i + (decide (qR (hC (aH A)) i = room)).toNat from rfl]
    by_cases e : qR (hC (aH A)) i = room
    · rw [if_pos e, b2n_t (decide_eq_true e)]
    · rw [if_neg e, b2n_f (by simpa using e)]; rfl
  · show zz_ev 62 4 _ _ _ = _
    rw [x_62_4]; simp (disch := first | omega | assumption) only [nI_add, pk_mul, z_in, z_ix, nI_leI, nI_ltI, nI_eq, z_eq0, z_lt0, z_0le, z_0lt, z_le0, z_n9, z_n1, z_m1lt, z_m9lt, z_m9le, z_m1le, zB_0, zB_1, zz_bi_s, zz_bv_s, zz_bl_s, if_pos, if_neg, if_true, if_false, true_and, and_true, not_true_eq_false, not_false_eq_true, ite_self, cxP h, cxS h, cxB h, cxH h, cxD h, cxk h, cxr h, cxp h, cxd h, cxt h, cxa h, cxb h]; rfl
theorem zct_rm {c : Nat → Bool} {p : Nat} : ∀ {n : Nat}, zct (fun q => decide (q ≠ p) && c q) n + (if p < n then (c p).toNat else 0) = zct c n
  | 0 => by rw [if_neg (by omega)]; rfl
  | n + 1 => by
    have ih := zct_rm (c := c) (p := p) (n := n)
    show zct _ n + (decide (n ≠ p) && c n).toNat + _ = zct c n + (c n).toNat
    by_cases e : n = p
    · subst e
      rw [if_neg (by omega)] at ih
      rw [if_pos (by omega), show (decide (n ≠ n) && c n).toNat = 0 by simp]; omega
    · rw [show (decide (n ≠ p) && c n) = c n by simp [e]]
      by_cases h : p < n
      · rw [if_pos h] at ih; rw [if_pos (by omega)]; omega
      · rw [if_neg h] at ih; rw [if_neg (by omega)]; omega
theorem l_188 {A : zA} (hw : wf A) {f : Nat → Nat → Int32} {g : Nat → Nat → Int64} (h : CM A f g) {p : Nat} (hp : p < wP (aW A)) : zz_ca 188 [.ref 112, .int (nI p)] (zK f g) = some (some (.int (nI (zci A (qR (hC (aH A)) p) - 1))), zK f g) := by
  have hP6 := wfP hw
  have hrp := wfr hw hp
  rw [e_188, x_188_0]
  refine (z_lp (fun i => zz_ev 188 4 [.ref 112, .int (nI p), .int (nI (zct (fun q => decide (q ≠ p) && decide (qR (hC (aH A)) q = qR (hC (aH A)) p)) i)), .int (nI i)] [] (zK f g)) (wP (aW A)) (fun i hi => ?_) 0 (by omega)).trans ?_
  · have hri := wfr hw hi
    show zz_ev 188 4 _ _ _ = zz_ev 188 4 _ _ _
    rw [x_188_4]; simp (disch := first | omega | assumption) only [nI_add, pk_mul, z_in, z_ix, nI_leI, nI_ltI, nI_eq, z_eq0, z_lt0, z_0le, z_0lt, z_le0, z_n9, z_n1, z_m1lt, z_m9lt, z_m9le, z_m1le, zB_0, zB_1, zz_bi_s, zz_bv_s, zz_bl_s, if_pos, if_neg, if_true, if_false, true_and, and_true, not_true_eq_false, not_false_eq_true, ite_self, cmP h, cmS h, cmB h, cmH h, cmD h, cmk h, cmr h, cmp h, cmd h, cmt h, cma h, cmb h, cm0 h, x_188_41, x_188_42]
    rw [show zct (fun q => decide (q ≠ p) && decide (qR (hC (aH A)) q = qR (hC (aH A)) p)) (i + 1) = zct (fun q => decide (q ≠ p) && decide (qR (hC (aH A)) q = qR (hC (aH A)) p)) i + (decide (i ≠ p) && decide (qR (hC (aH A)) i = qR (hC (aH A)) p)).toNat from rfl]
    by_cases e0 : i = p
    · rw [if_pos e0, b2n_f (by simp [e0])]
    · rw [if_neg e0]
      by_cases e : qR (hC (aH A)) i = qR (hC (aH A)) p
      · rw [if_pos e, b2n_t (by simp [e0, e])]
      · rw [if_neg e, b2n_f (by simp [e])]
  · show zz_ev 188 4 _ _ _ = _
    rw [x_188_4]; simp (disch := first | omega | assumption) only [nI_add, pk_mul, z_in, z_ix, nI_leI, nI_ltI, nI_eq, z_eq0, z_lt0, z_0le, z_0lt, z_le0, z_n9, z_n1, z_m1lt, z_m9lt, z_m9le, z_m1le, zB_0, zB_1, zz_bi_s, zz_bv_s, zz_bl_s, if_pos, if_neg, if_true, if_false, true_and, and_true, not_true_eq_false, not_false_eq_true, ite_self, cmP h, cmS h, cmB h, cmH h, cmD h, cmk h, cmr h, cmp h, cmd h, cmt h, cma h, cmb h, cm0 h]
    have e := zct_rm (c := fun q => decide (qR (hC (aH A)) q = qR (hC (aH A)) p)) (p := p) (n := wP (aW A))
    rw [if_pos hp] at e
    simp only [decide_true, Bool.toNat_true] at e
    unfold zci
    rw [← e, Nat.add_sub_cancel]
theorem sim_mark (A : zA) (hw : wf A) (v1 v2 : Int32) : zSim A 55 183 [.int v1, .int v2] := by
  have hP6 := wfP hw
  by_cases h1 : zz_in v1 (wP (aW A))
  · obtain ⟨p, hp, -, rfl⟩ := z_inx.mp h1
    have hk := wfk hw hp
    have hr := wfr hw hp
    have e3 : ((1 : Int64) ≤ v2.toInt64 ∧ v2.toInt64 ≤ lN 5) ↔ 1 ≤ v2.toInt ∧ v2.toInt ≤ 5 := by
      rw [Int64.le_iff_toInt_le, Int64.le_iff_toInt_le, Int32.toInt_toInt64, lN_toInt (by decide)]; rfl
    by_cases h2 : 1 ≤ v2.toInt ∧ v2.toInt ≤ 5
    · obtain ⟨k, hk6, -, rfl⟩ := z_inx.mp (show zz_in v2 6 from ⟨by omega, by omega⟩)
      have h2' := h2
      rw [nI_toInt (by omega)] at h2'
      have e4 : ∀ f g, zz_ca 150 [.long (nI k).toInt64, .long 1, .long (lN 5)] (zK f g) = some (some (.int (nI 1)), zK f g) := fun f g => by rw [l_150, zB_t (e3.mpr h2)]
      by_cases h3 : wK (aW A) p = k ∨ (k = 1 ∧ wK (aW A) p = 4) ∨ (k = 2 ∧ wK (aW A) p = 5)
      · have eX : ∀ f g, CX A f g → zz_ca 52 [.int (nI (wK (aW A) p)), .int (nI k)] (zK f g) = some (some (.int (nI 1)), zK f g) := fun f g h => by rw [l_52 _ _ (by omega) (by omega), zB_t h3]
        have eM : ∀ f g, CM A f g → zz_ca 184 [.ref 112, .int (nI p), .int (nI k)] (zK f g) = some (some (.int (nI 1)), zK f g) := fun f g h => by rw [l_184 g (by omega) (cmk h hp) hk (by omega), zB_t h3]
        obtain rfl | rfl | rfl | rfl | rfl : k = 1 ∨ k = 2 ∨ k = 3 ∨ k = 4 ∨ k = 5 := by omega
        · refine sim_0 hw (.int (nI (zsa A (qR (hC (aH A)) p)))) (fun f g h => ?_) (fun f g h => ?_)
          · simp (disch := first | omega | assumption) only [x_55_0, x_55_5, x_55_19, x_55_34, x_55_42, x_55_76, x_55_92, x_55_93, x_55_101, x_55_102, x_55_118, x_55_119, x_55_135, x_55_138, x_55_158, x_55_176, x_55_179, e_55, l_46 g _ (cxP h) hP6, nI_add, pk_mul, z_in, z_ix, nI_leI, nI_ltI, nI_eq, z_eq0, z_lt0, z_0le, z_0lt, z_le0, z_n9, z_n1, z_m1lt, z_m9lt, z_m9le, z_m1le, zB_0, zB_1, zz_bi_s, zz_bv_s, zz_bl_s, if_pos, if_neg, if_true, if_false, true_and, and_true, not_true_eq_false, not_false_eq_true, ite_self, cxP h, cxS h, cxB h, cxH h, cxD h, cxk h, cxr h, cxp h, cxd h, cxt h, cxa h, cxb h, eX f g h, l_56 hw h]
          · simp (disch := first | omega | assumption) only [x_183_0, x_183_5, x_183_17, x_183_20, x_183_28, x_183_36, x_183_76, x_183_81, x_183_82, x_183_87, x_183_88, x_183_116, x_183_121, x_183_122, x_183_132, x_183_135, e_183, l_176 g _ (cmP h) hP6, nI_add, pk_mul, z_in, z_ix, nI_leI, nI_ltI, nI_eq, z_eq0, z_lt0, z_0le, z_0lt, z_le0, z_n9, z_n1, z_m1lt, z_m9lt, z_m9le, z_m1le, zB_0, zB_1, zz_bi_s, zz_bv_s, zz_bl_s, if_pos, if_neg, if_true, if_false, true_and, and_true, not_true_eq_false, not_false_eq_true, ite_self, cmP h, cmS h, cmB h, cmH h, cmD h, cmk h, cmr h, cmp h, cmd h, cmt h, cma h, cmb h, cm0 h, e4, eM f g h, l_185 hw h]
        · refine sim_0 hw (.int (dI (zdy A p))) (fun f g h => ?_) (fun f g h => ?_)
          · simp (disch := first | omega | assumption) only [x_55_0, x_55_5, x_55_19, x_55_34, x_55_42, x_55_76, x_55_92, x_55_93, x_55_101, x_55_102, x_55_118, x_55_119, x_55_135, x_55_138, x_55_158, x_55_176, x_55_179, e_55, l_46 g _ (cxP h) hP6, nI_add, pk_mul, z_in, z_ix, nI_leI, nI_ltI, nI_eq, z_eq0, z_lt0, z_0le, z_0lt, z_le0, z_n9, z_n1, z_m1lt, z_m9lt, z_m9le, z_m1le, zB_0, zB_1, zz_bi_s, zz_bv_s, zz_bl_s, if_pos, if_neg, if_true, if_false, true_and, and_true, not_true_eq_false, not_false_eq_true, ite_self, cxP h, cxS h, cxB h, cxH h, cxD h, cxk h, cxr h, cxp h, cxd h, cxt h, cxa h, cxb h, eX f g h, l_57 hw h]
          · simp (disch := first | omega | assumption) only [x_183_0, x_183_5, x_183_17, x_183_20, x_183_28, x_183_36, x_183_76, x_183_81, x_183_82, x_183_87, x_183_88, x_183_116, x_183_121, x_183_122, x_183_132, x_183_135, e_183, l_176 g _ (cmP h) hP6, nI_add, pk_mul, z_in, z_ix, nI_leI, nI_ltI, nI_eq, z_eq0, z_lt0, z_0le, z_0lt, z_le0, z_n9, z_n1, z_m1lt, z_m9lt, z_m9le, z_m1le, zB_0, zB_1, zz_bi_s, zz_bv_s, zz_bl_s, if_pos, if_neg, if_true, if_false, true_and, and_true, not_true_eq_false, not_false_eq_true, ite_self, cmP h, cmS h, cmB h, cmH h, cmD h, cmk h, cmr h, cmp h, cmd h, cmt h, cma h, cmb h, cm0 h, e4, eM f g h, l_186 hw h]
        · refine sim_0 hw (.int (nI (zsd A (qR (hC (aH A)) p)))) (fun f g h => ?_) (fun f g h => ?_)
          · simp (disch := first | omega | assumption) only [x_55_0, x_55_5, x_55_19, x_55_34, x_55_42, x_55_76, x_55_92, x_55_93, x_55_101, x_55_102, x_55_118, x_55_119, x_55_135, x_55_138, x_55_158, x_55_176, x_55_179, e_55, l_46 g _ (cxP h) hP6, nI_add, pk_mul, z_in, z_ix, nI_leI, nI_ltI, nI_eq, z_eq0, z_lt0, z_0le, z_0lt, z_le0, z_n9, z_n1, z_m1lt, z_m9lt, z_m9le, z_m1le, zB_0, zB_1, zz_bi_s, zz_bv_s, zz_bl_s, if_pos, if_neg, if_true, if_false, true_and, and_true, not_true_eq_false, not_false_eq_true, ite_self, cxP h, cxS h, cxB h, cxH h, cxD h, cxk h, cxr h, cxp h, cxd h, cxt h, cxa h, cxb h, eX f g h, l_60 hw h]
          · have hB := wfB hw
            have h11 : (qR (hC (aH A)) p + 11) % 12 < 12 := Nat.mod_lt _ (by decide)
            simp (disch := first | omega | assumption) only [x_183_0, x_183_5, x_183_17, x_183_20, x_183_28, x_183_36, x_183_76, x_183_81, x_183_82, x_183_87, x_183_88, x_183_116, x_183_121, x_183_122, x_183_132, x_183_135, e_183, l_176 g _ (cmP h) hP6, nI_add, pk_mul, z_in, z_ix, nI_leI, nI_ltI, nI_eq, z_eq0, z_lt0, z_0le, z_0lt, z_le0, z_n9, z_n1, z_m1lt, z_m9lt, z_m9le, z_m1le, zB_0, zB_1, zz_bi_s, zz_bv_s, zz_bl_s, if_pos, if_neg, if_true, if_false, true_and, and_true, not_true_eq_false, not_false_eq_true, ite_self, cmP h, cmS h, cmB h, cmH h, cmD h, cmk h, cmr h, cmp h, cmd h, cmt h, cma h, cmb h, cm0 h, e4, eM f g h, z_rem, z_bit]; rfl
        · have h1 : 1 ≤ zci A (qR (hC (aH A)) p) := by
            have e := zct_rm (c := fun q => decide (qR (hC (aH A)) q = qR (hC (aH A)) p)) (p := p) (n := wP (aW A))
            rw [if_pos hp] at e
            simp only [decide_true, Bool.toNat_true] at e
            unfold zci; omega
          refine sim_0 hw (.int (nI (zci A (qR (hC (aH A)) p) - 1))) (fun f g h => ?_) (fun f g h => ?_)
          · simp (disch := first | omega | assumption) only [x_55_0, x_55_5, x_55_19, x_55_34, x_55_42, x_55_76, x_55_92, x_55_93, x_55_101, x_55_102, x_55_118, x_55_119, x_55_135, x_55_138, x_55_158, x_55_176, x_55_179, e_55, l_46 g _ (cxP h) hP6, nI_add, pk_mul, z_in, z_ix, nI_leI, nI_ltI, nI_eq, z_eq0, z_lt0, z_0le, z_0lt, z_le0, z_n9, z_n1, z_m1lt, z_m9lt, z_m9le, z_m1le, zB_0, zB_1, zz_bi_s, zz_bv_s, zz_bl_s, if_pos, if_neg, if_true, if_false, true_and, and_true, not_true_eq_false, not_false_eq_true, ite_self, cxP h, cxS h, cxB h, cxH h, cxD h, cxk h, cxr h, cxp h, cxd h, cxt h, cxa h, cxb h, eX f g h, l_62 hw h, pk_sub]
          · simp (disch := first | omega | assumption) only [x_183_0, x_183_5, x_183_17, x_183_20, x_183_28, x_183_36, x_183_76, x_183_81, x_183_82, x_183_87, x_183_88, x_183_116, x_183_121, x_183_122, x_183_132, x_183_135, e_183, l_176 g _ (cmP h) hP6, nI_add, pk_mul, z_in, z_ix, nI_leI, nI_ltI, nI_eq, z_eq0, z_lt0, z_0le, z_0lt, z_le0, z_n9, z_n1, z_m1lt, z_m9lt, z_m9le, z_m1le, zB_0, zB_1, zz_bi_s, zz_bv_s, zz_bl_s, if_pos, if_neg, if_true, if_false, true_and, and_true, not_true_eq_false, not_false_eq_true, ite_self, cmP h, cmS h, cmB h, cmH h, cmD h, cmk h, cmr h, cmp h, cmd h, cmt h, cma h, cmb h, cm0 h, e4, eM f g h, l_188 hw h]
        · have hN : ∀ c < 12, zgo A p c < 4096 := fun c _ => zgo_lt hw p c
          have hl := zS_lt hN hr 11
          have hc := zpc_le 12 (zS (zgo A p) (qR (hC (aH A)) p) 11)
          refine sim_s hw (.int (nI (12 - zpc 12 (zS (zgo A p) (qR (hC (aH A)) p) 11)))) (fun f g h => ⟨zbs f 31 (zgo A p) 12, g, ?_, zXs_c (by decide) (by decide) (fun x hx => zbs_c hx)⟩) (fun f g h => ⟨f, g, ?_, zMs_r⟩)
          · have m1 := l_63 hw h zs_P_30 (by decide) (by decide) hk
            have h' : CX A (zbs f 31 (zgo A p) 12) g := CX_s h (zXs_c (by decide) (by decide) (fun x hx => zbs_c hx))
            have m2 : zz_ca 65 [.ref 30, .int (nI (qR (hC (aH A)) p))] (zK (zbs f 31 (zgo A p) 12) g) = _ := l_65 hN (fun c hc => zbs_i hc) hr
            have m3 := cxr h' hp
            simp (disch := first | omega | assumption) only [x_55_0, x_55_5, x_55_19, x_55_34, x_55_42, x_55_76, x_55_92, x_55_93, x_55_101, x_55_102, x_55_118, x_55_119, x_55_135, x_55_138, x_55_158, x_55_176, x_55_179, e_55, l_46 g _ (cxP h) hP6, nI_add, pk_mul, z_in, z_ix, nI_leI, nI_ltI, nI_eq, z_eq0, z_lt0, z_0le, z_0lt, z_le0, z_n9, z_n1, z_m1lt, z_m9lt, z_m9le, z_m1le, zB_0, zB_1, zz_bi_s, zz_bv_s, zz_bl_s, if_pos, if_neg, if_true, if_false, true_and, and_true, not_true_eq_false, not_false_eq_true, ite_self, cxP h, cxS h, cxB h, cxH h, cxD h, cxk h, cxr h, cxp h, cxd h, cxt h, cxa h, cxb h, eX f g h]
            rw [m1, zz_bv_s, x_55_158]
            simp (disch := first | omega | assumption) only [nI_add, pk_mul, z_in, z_ix, nI_leI, nI_ltI, nI_eq, z_eq0, z_lt0, z_0le, z_0lt, z_le0, z_n9, z_n1, z_m1lt, z_m9lt, z_m9le, z_m1le, zB_0, zB_1, zz_bi_s, zz_bv_s, zz_bl_s, if_pos, if_neg, if_true, if_false, true_and, and_true, not_true_eq_false, not_false_eq_true, ite_self]
            rw [show zbs f (30 + 1) (znx (aW A) (wK (aW A) p) (zdr (wK (aW A) p) (qS (hC (aH A))))) 12 = zbs f 31 (zgo A p) 12 from rfl, m3, m2, zz_bi_s, x_55_176, show zcl (zgo A p) (qR (hC (aH A)) p) = zS (zgo A p) (qR (hC (aH A)) p) 11 from rfl, l_61 _ _ hl, zz_bi_s, x_55_179, pk_sub hc]
          · have m := l_189 (g := g) hw.2.2.1 (CM_V hw h) hp hr (Nat.le_refl 12)
            simp (disch := first | omega | assumption) only [x_183_0, x_183_5, x_183_17, x_183_20, x_183_28, x_183_36, x_183_76, x_183_81, x_183_82, x_183_87, x_183_88, x_183_116, x_183_121, x_183_122, x_183_132, x_183_135, e_183, l_176 g _ (cmP h) hP6, nI_add, pk_mul, z_in, z_ix, nI_leI, nI_ltI, nI_eq, z_eq0, z_lt0, z_0le, z_0lt, z_le0, z_n9, z_n1, z_m1lt, z_m9lt, z_m9le, z_m1le, zB_0, zB_1, zz_bi_s, zz_bv_s, zz_bl_s, if_pos, if_neg, if_true, if_false, true_and, and_true, not_true_eq_false, not_false_eq_true, ite_self, cmP h, cmS h, cmB h, cmH h, cmD h, cmk h, cmr h, cmp h, cmd h, cmt h, cma h, cmb h, cm0 h, e4, eM f g h]
            rw [m, zz_bi_s, x_183_132, show zS (znx (aW A) (wK (aW A) p) (zdr (wK (aW A) p) (qS (hC (aH A))))) (qR (hC (aH A)) p) 12 = zS (zgo A p) (qR (hC (aH A)) p) 11 from zS_12 hN hr, l_191 _ _ hl, zz_bi_s, x_183_135, pk_sub hc]
      · refine sim_F hw (w := 3) (by decide) (by decide) (fun f g h => ?_) (fun f g h => ?_)
        · have eX : zz_ca 52 [.int (nI (wK (aW A) p)), .int (nI k)] (zK f g) = some (some (.int (nI 0)), zK f g) := by rw [l_52 _ _ (by omega) (by omega), zB_f h3]
          simp (disch := first | omega | assumption) only [x_55_0, x_55_5, x_55_19, x_55_34, x_55_42, x_55_76, x_55_92, x_55_93, x_55_101, x_55_102, x_55_118, x_55_119, x_55_135, x_55_138, x_55_158, x_55_176, x_55_179, e_55, l_46 g _ (cxP h) hP6, nI_add, pk_mul, z_in, z_ix, nI_leI, nI_ltI, nI_eq, z_eq0, z_lt0, z_0le, z_0lt, z_le0, z_n9, z_n1, z_m1lt, z_m9lt, z_m9le, z_m1le, zB_0, zB_1, zz_bi_s, zz_bv_s, zz_bl_s, if_pos, if_neg, if_true, if_false, true_and, and_true, not_true_eq_false, not_false_eq_true, ite_self, cxP h, cxS h, cxB h, cxH h, cxD h, cxk h, cxr h, cxp h, cxd h, cxt h, cxa h, cxb h, eX, l_12]
        · have eM : zz_ca 184 [.ref 112, .int (nI p), .int (nI k)] (zK f g) = some (some (.int (nI 0)), zK f g) := by rw [l_184 g (by omega) (cmk h hp) hk (by omega), zB_f h3]
          simp (disch := first | omega | assumption) only [x_183_0, x_183_5, x_183_17, x_183_20, x_183_28, x_183_36, x_183_76, x_183_81, x_183_82, x_183_87, x_183_88, x_183_116, x_183_121, x_183_122, x_183_132, x_183_135, e_183, l_176 g _ (cmP h) hP6, nI_add, pk_mul, z_in, z_ix, nI_leI, nI_ltI, nI_eq, z_eq0, z_lt0, z_0le, z_0lt, z_le0, z_n9, z_n1, z_m1lt, z_m9lt, z_m9le, z_m1le, zB_0, zB_1, zz_bi_s, zz_bv_s, zz_bl_s, if_pos, if_neg, if_true, if_false, true_and, and_true, not_true_eq_false, not_false_eq_true, ite_self, cmP h, cmS h, cmB h, cmH h, cmD h, cmk h, cmr h, cmp h, cmd h, cmt h, cma h, cmb h, cm0 h, e4, eM, l_151]
    · have e4 : ∀ f g, zz_ca 150 [.long v2.toInt64, .long 1, .long (lN 5)] (zK f g) = some (some (.int (nI 0)), zK f g) := fun f g => by rw [l_150, zB_f (fun q => h2 (e3.mp q))]
      refine sim_0 hw (.int (-1)) (fun f g h => ?_) (fun f g h => by simp (disch := first | omega | assumption) only [x_183_0, x_183_5, x_183_17, x_183_20, x_183_28, x_183_36, x_183_76, x_183_81, x_183_82, x_183_87, x_183_88, x_183_116, x_183_121, x_183_122, x_183_132, x_183_135, e_183, l_176 g _ (cmP h) hP6, nI_add, pk_mul, z_in, z_ix, nI_leI, nI_ltI, nI_eq, z_eq0, z_lt0, z_0le, z_0lt, z_le0, z_n9, z_n1, z_m1lt, z_m9lt, z_m9le, z_m1le, zB_0, zB_1, zz_bi_s, zz_bv_s, zz_bl_s, if_pos, if_neg, if_true, if_false, true_and, and_true, not_true_eq_false, not_false_eq_true, ite_self, e4])
      have c1 : (v2 < nI 1) ↔ v2.toInt < 1 := by rw [Int32.lt_iff_toInt_lt, nI_toInt (by decide)]; rfl
      have c2 : (v2 < nI 6) ↔ v2.toInt < 6 := by rw [Int32.lt_iff_toInt_lt, nI_toInt (by decide)]; rfl
      rw [e_55, x_55_0, l_46 g _ (cxP h) hP6, zz_bi_s, x_55_5, x_55_19]
      simp (disch := first | omega | assumption) only [nI_add, pk_mul, z_in, z_ix, nI_leI, nI_ltI, nI_eq, z_eq0, z_lt0, z_0le, z_0lt, z_le0, z_n9, z_n1, z_m1lt, z_m9lt, z_m9le, z_m1le, zB_0, zB_1, zz_bi_s, zz_bv_s, zz_bl_s, if_pos, if_neg, if_true, if_false, true_and, and_true, not_true_eq_false, not_false_eq_true, ite_self]
      by_cases h3 : v2 < nI 1
      · rw [if_pos h3]
      · rw [if_neg h3, if_neg (by rw [c2]; rw [c1] at h3; omega)]
  · exact sim_0 hw (.int (-1)) (fun f g h => by simp (disch := first | omega | assumption) only [x_55_0, x_55_5, x_55_19, x_55_34, x_55_42, x_55_76, x_55_92, x_55_93, x_55_101, x_55_102, x_55_118, x_55_119, x_55_135, x_55_138, x_55_158, x_55_176, x_55_179, e_55, l_46 g _ (cxP h) hP6, nI_add, pk_mul, z_in, z_ix, nI_leI, nI_ltI, nI_eq, z_eq0, z_lt0, z_0le, z_0lt, z_le0, z_n9, z_n1, z_m1lt, z_m9lt, z_m9le, z_m1le, zB_0, zB_1, zz_bi_s, zz_bv_s, zz_bl_s, if_pos, if_neg, if_true, if_false, true_and, and_true, not_true_eq_false, not_false_eq_true, ite_self, h1]) (fun f g h => by simp (disch := first | omega | assumption) only [x_183_0, x_183_5, x_183_17, x_183_20, x_183_28, x_183_36, x_183_76, x_183_81, x_183_82, x_183_87, x_183_88, x_183_116, x_183_121, x_183_122, x_183_132, x_183_135, e_183, l_176 g _ (cmP h) hP6, nI_add, pk_mul, z_in, z_ix, nI_leI, nI_ltI, nI_eq, z_eq0, z_lt0, z_0le, z_0lt, z_le0, z_n9, z_n1, z_m1lt, z_m9lt, z_m9le, z_m1le, zB_0, zB_1, zz_bi_s, zz_bv_s, zz_bl_s, if_pos, if_neg, if_true, if_false, true_and, and_true, not_true_eq_false, not_false_eq_true, ite_self, h1])
