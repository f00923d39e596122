/-! DOORS, STEPS -/
def zdr (k s : Nat) : Nat := if k = 3 then 4095 else zdf (zdf 4095 s) (if k = 2 then 2080 else if k = 5 then 32 else 0)
theorem zdr_lt (k s : Nat) : zdr k s < 4096 := by
  unfold zdr; split
  · decide
  · exact z_df_lt (z_df_lt (by decide))
theorem zdf_0 (a : Nat) : zdf a 0 = a := by unfold zdf; rw [Nat.and_zero, Nat.xor_zero]
theorem z_4095 {d : Nat} (hd : d < 12) : (4095 : Nat).testBit d = true := by
  have : ∀ d < 12, (4095 : Nat).testBit d = true := by decide
  exact this d hd
theorem zdr_t {k s d : Nat} (hd : d < 12) : (zdr k s).testBit d = decide (k = 3 ∨ (¬ s.testBit d = true ∧ ¬ (k = 2 ∧ (d = 5 ∨ d = 11)) ∧ ¬ (k = 5 ∧ d = 5))) := by
  have h1 : ∀ d < 12, (2080 : Nat).testBit d = decide (d = 5 ∨ d = 11) := by decide
  have h2 : ∀ d < 12, (32 : Nat).testBit d = decide (d = 5) := by decide
  unfold zdr
  by_cases h3 : k = 3
  · rw [if_pos h3, z_4095 hd]; simp [h3]
  · rw [if_neg h3, zdf_t, zdf_t, z_4095 hd]
    by_cases h4 : k = 2
    · rw [if_pos h4, h1 d hd]; subst h4; cases s.testBit d <;> simp
    · rw [if_neg h4]
      by_cases h5 : k = 5
      · rw [if_pos h5, h2 d hd]; subst h5; cases s.testBit d <;> simp
      · rw [if_neg h5, Nat.zero_testBit]; cases s.testBit d <;> simp [h3, h4, h5]
theorem l_49 {A : zA} (hw : wf A) {f : Nat → Nat → Int32} {g : Nat → Nat → Int64} (h : CX A f g) {k : Nat} (hk : k < 6) : zz_ca 49 [.ref 3, .int (nI k)] (zK f g) = some (some (.int (nI (zdr k (qS (hC (aH A)))))), zK f g) := by
  have hB := wfB hw
  have c1 : ∀ a, nI a &&& (-2081) = nI (zdf a 2080) := fun a => by rw [← z_andn]; congr 1
  have c2 : ∀ a, nI a &&& (-33) = nI (zdf a 32) := fun a => by rw [← z_andn]; congr 1
  rw [e_49, x_49_0]
  simp (disch := first | omega | assumption) only [x_49_0, x_49_44, x_49_48, x_49_54, x_49_59, e_49, nI_add, pk_mul, z_in, z_ix, nI_leI, nI_ltI, nI_eq, z_eq0, z_lt0, z_0le, z_0lt, z_le0, z_n9, z_n1, z_m1lt, z_m9lt, z_m9le, z_m1le, zB_0, zB_1, zz_bi_s, zz_bv_s, zz_bl_s, if_pos, if_neg, if_true, if_false, true_and, and_true, not_true_eq_false, not_false_eq_true, ite_self, cxP h, cxS h, cxB h, cxH h, cxD h, cxk h, cxr h, cxp h, cxd h, cxt h, cxa h, cxb h, z_andn, c1, c2]
  unfold zdr
  by_cases h2 : k = 2
  · subst h2; rfl
  · by_cases h3 : k = 3
    · subst h3; rfl
    · by_cases h4 : k = 4
      · subst h4; rw [if_neg (by decide), if_neg (by decide), if_pos rfl, if_neg (by decide), if_neg (by decide), if_neg (by decide), zdf_0]
      · by_cases h5 : k = 5
        · subst h5; rfl
        · rw [if_neg h2, if_neg h3, if_neg h4, if_neg h5, if_neg h3, if_neg h2, if_neg h5, zdf_0]
/-- rooms by the first n stairs -/
def zst (W : zW) (room : Nat) : Nat → Nat
  | 0 => 0
  | n + 1 => zst W room n ||| (if wA W n = room then 2 ^ wB W n else 0) ||| (if wB W n = room then 2 ^ wA W n else 0)
theorem zst_s {W : zW} {room n : Nat} : zst W room (n + 1) = zst W room n ||| (if wA W n = room then 2 ^ wB W n else 0) ||| (if wB W n = room then 2 ^ wA W n else 0) := rfl
theorem zst_lt {W : zW} (hW : wfW W) {room : Nat} : ∀ {n : Nat}, n ≤ wS W → zst W room n < 4096
  | 0, _ => by show 0 < 4096; decide
  | n + 1, hn => by
    have h := hW.2.2.2 n (by omega)
    rw [zst_s]
    refine z_or_lt (z_or_lt (zst_lt hW (by omega)) ?_) ?_
    · split; exact z_p_lt h.2.1; decide
    · split; exact z_p_lt h.1; decide
def znb (dr room : Nat) : Nat := (if dr.testBit room = true then 2 ^ ((room + 1) % 12) else 0) ||| (if dr.testBit ((room + 11) % 12) = true then 2 ^ ((room + 11) % 12) else 0)
def znx (W : zW) (k dr room : Nat) : Nat := znb dr room ||| (if k = 1 ∨ k = 4 then zst W room (wS W) else 0)
theorem znb_lt (dr room : Nat) : znb dr room < 4096 := by
  refine z_or_lt ?_ ?_
  · split; exact z_p_lt (Nat.mod_lt _ (by decide)); decide
  · split; exact z_p_lt (Nat.mod_lt _ (by decide)); decide
theorem znx_lt {W : zW} (hW : wfW W) (k dr room : Nat) : znx W k dr room < 4096 := by
  refine z_or_lt (znb_lt _ _) ?_
  split; exact zst_lt hW (Nat.le_refl _); decide
theorem l_53 {A : zA} (hw : wf A) {f : Nat → Nat → Int32} {g : Nat → Nat → Int64} (h : CX A f g) {room : Nat} (hr : room < 12) : zz_ca 53 [.ref 3, .int (nI room)] (zK f g) = some (some (.int (nI (zst (aW A) room (wS (aW A))))), zK f g) := by
  have hS := wfS hw
  rw [e_53, x_53_0]
  refine (z_lp (fun i => zz_ev 53 4 [.ref 3, .int (nI room), .int (nI (zst (aW A) room i)), .int (nI i)] [] (zK f g)) (wS (aW A)) (fun i hi => ?_) 0 (by omega)).trans ?_
  · have hab := wfab hw hi
    show zz_ev 53 4 _ _ _ = zz_ev 53 4 _ _ _
    rw [x_53_4]; simp (disch := first | omega | assumption) only [nI_add, pk_mul, z_in, z_ix, nI_leI, nI_ltI, nI_eq, z_eq0, z_lt0, z_0le, z_0lt, z_le0, z_n9, z_n1, z_m1lt, z_m9lt, z_m9le, z_m1le, zB_0, zB_1, zz_bi_s, zz_bv_s, zz_bl_s, if_pos, if_neg, if_true, if_false, true_and, and_true, not_true_eq_false, not_false_eq_true, ite_self, cxP h, cxS h, cxB h, cxH h, cxD h, cxk h, cxr h, cxp h, cxd h, cxt h, cxa h, cxb h, x_53_33, x_53_54, z_1shl, z_or]
    rw [zst_s]
    by_cases h1 : wA (aW A) i = room
    · have h2 : ¬ wB (aW A) i = room := by omega
      rw [if_pos h1, if_pos h1, if_neg h2, Nat.or_zero]
    · rw [if_neg h1, if_neg h1, Nat.or_zero]
      by_cases h2 : wB (aW A) i = room
      · rw [if_pos h2, if_pos h2]
      · rw [if_neg h2, if_neg h2, Nat.or_zero]
  · show zz_ev 53 4 _ _ _ = _
    rw [x_53_4]; simp (disch := first | omega | assumption) only [nI_add, pk_mul, z_in, z_ix, nI_leI, nI_ltI, nI_eq, z_eq0, z_lt0, z_0le, z_0lt, z_le0, z_n9, z_n1, z_m1lt, z_m9lt, z_m9le, z_m1le, zB_0, zB_1, zz_bi_s, zz_bv_s, zz_bl_s, if_pos, if_neg, if_true, if_false, true_and, and_true, not_true_eq_false, not_false_eq_true, ite_self, cxP h, cxS h, cxB h, cxH h, cxD h, cxk h, cxr h, cxp h, cxd h, cxt h, cxa h, cxb h]
theorem l_51 (f : Nat → Nat → Int32) (g : Nat → Nat → Int64) {room : Nat} (hr : room < 12) : zz_ca 51 [.int (nI room)] (zK f g) = some (some (.int (nI ((room + 11) % 12))), zK f g) := by
  rw [e_51, x_51_0]; simp (disch := first | omega | assumption) only [nI_add, pk_mul, z_in, z_ix, nI_leI, nI_ltI, nI_eq, z_eq0, z_lt0, z_0le, z_0lt, z_le0, z_n9, z_n1, z_m1lt, z_m9lt, z_m9le, z_m1le, zB_0, zB_1, zz_bi_s, zz_bv_s, zz_bl_s, if_pos, if_neg, if_true, if_false, true_and, and_true, not_true_eq_false, not_false_eq_true, ite_self, pk_sub, z_rem]
  rw [show room + 12 - 1 = room + 11 by omega]
theorem l_50 {A : zA} (hw : wf A) {f : Nat → Nat → Int32} {g : Nat → Nat → Int64} (h : CX A f g) {dr k room : Nat} (hd : dr < 4096) (hk : k < 6) (hr : room < 12) : zz_ca 50 [.ref 3, .int (nI dr), .int (nI k), .int (nI room)] (zK f g) = some (some (.int (nI (znx (aW A) k dr room))), zK f g) := by
  have h11 : (room + 11) % 12 < 12 := Nat.mod_lt _ (by decide)
  have h1 : (room + 1) % 12 < 12 := Nat.mod_lt _ (by decide)
  rw [e_50]
  simp (disch := first | omega | assumption) only [x_50_0, x_50_8, x_50_24, x_50_28, x_50_36, x_50_48, x_50_53, x_50_63, e_50, l_38, nI_add, pk_mul, z_in, z_ix, nI_leI, nI_ltI, nI_eq, z_eq0, z_lt0, z_0le, z_0lt, z_le0, z_n9, z_n1, z_m1lt, z_m9lt, z_m9le, z_m1le, zB_0, zB_1, zz_bi_s, zz_bv_s, zz_bl_s, if_pos, if_neg, if_true, if_false, true_and, and_true, not_true_eq_false, not_false_eq_true, ite_self, l_51, l_52, l_53 hw h, z_1shl, z_rem, z_or]
  unfold znx znb
  by_cases c1 : dr.testBit room = true
  · rw [if_neg (fun q => q c1), if_pos c1]
    by_cases c2 : dr.testBit ((room + 11) % 12) = true
    · rw [if_neg (fun q => q c2), if_pos c2]
      by_cases c3 : k = 1 ∨ k = 4
      · rw [if_neg (by omega), if_pos c3, Nat.zero_or]
      · rw [if_pos (by omega), if_neg c3, Nat.zero_or, Nat.or_zero]
    · rw [if_pos c2, if_neg c2]
      by_cases c3 : k = 1 ∨ k = 4
      · rw [if_neg (by omega), if_pos c3, Nat.zero_or, Nat.or_zero]
      · rw [if_pos (by omega), if_neg c3, Nat.zero_or, Nat.or_zero, Nat.or_zero]
  · rw [if_pos c1, if_neg c1]
    by_cases c2 : dr.testBit ((room + 11) % 12) = true
    · rw [if_neg (fun q => q c2), if_pos c2]
      by_cases c3 : k = 1 ∨ k = 4
      · rw [if_neg (by omega), if_pos c3]
      · rw [if_pos (by omega), if_neg c3, Nat.or_zero]
    · rw [if_pos c2, if_neg c2]
      by_cases c3 : k = 1 ∨ k = 4
      · rw [if_neg (by omega), if_pos c3, Nat.or_zero]
      · rw [if_pos (by omega), if_neg c3, Nat.or_zero, Nat.or_zero]
/-- what one that lives there can go to from a room -/
def zgo (A : zA) (p room : Nat) : Nat := znx (aW A) (wK (aW A) p) (zdr (wK (aW A) p) (qS (hC (aH A)))) room
theorem l_48 {A : zA} (hw : wf A) {f : Nat → Nat → Int32} {g : Nat → Nat → Int64} (h : CX A f g) {p : Nat} (hp : p < wP (aW A)) : zz_ca 48 [.ref 3, .int (nI p)] (zK f g) = some (some (.int (nI (zgo A p (qR (hC (aH A)) p)))), zK f g) := by
  have hP6 := wfP hw
  have hk := wfk hw hp
  have hr := wfr hw hp
  have hd := zdr_lt (wK (aW A) p) (qS (hC (aH A)))
  simp (disch := first | omega | assumption) only [x_48_0, x_48_11, x_48_26, e_48, nI_add, pk_mul, z_in, z_ix, nI_leI, nI_ltI, nI_eq, z_eq0, z_lt0, z_0le, z_0lt, z_le0, z_n9, z_n1, z_m1lt, z_m9lt, z_m9le, z_m1le, zB_0, zB_1, zz_bi_s, zz_bv_s, zz_bl_s, if_pos, if_neg, if_true, if_false, true_and, and_true, not_true_eq_false, not_false_eq_true, ite_self, cxP h, cxS h, cxB h, cxH h, cxD h, cxk h, cxr h, cxp h, cxd h, cxt h, cxa h, cxb h, l_49 hw h, l_50 hw h]; rfl
/-! the reference, with some doors barred -/
def VM (W : zW) (s : Nat) (f : Nat → Nat → Int32) : Prop := (∃ sh br : Nat, f 113 2 = nI sh ∧ f 112 22 = nI br ∧ sh ||| br = s) ∧ s < 4096 ∧ MW W f
theorem CM_V {A : zA} (hw : wf A) {f : Nat → Nat → Int32} {g : Nat → Nat → Int64} (h : CM A f g) : VM (aW A) (qS (hC (aH A))) f := ⟨⟨_, _, cmB h, cm0 h, Nat.or_zero _⟩, wfB hw, h.2.1⟩
theorem l_179 {W : zW} (hW : wfW W) {s : Nat} {f : Nat → Nat → Int32} {g : Nat → Nat → Int64} (h : VM W s f) {p d : Nat} (hp : p < wP W) (hd : d < 12) : zz_ca 179 [.ref 112, .int (nI p), .int (nI d)] (zK f g) = some (some (.int (zB ((zdr (wK W p) s).testBit d = true))), zK f g) := by
  have hP6 := hW.1
  obtain ⟨⟨sh, br, e1, e2, e3⟩, hs, hM⟩ := h
  have ek := hM.2.2.1 p hp
  have hk := hW.2.2.1 p hp
  simp (disch := first | omega | assumption) only [x_179_0, x_179_15, x_179_28, x_179_33, x_179_59, x_179_63, x_179_64, x_179_91, x_179_95, e_179, nI_add, pk_mul, z_in, z_ix, nI_leI, nI_ltI, nI_eq, z_eq0, z_lt0, z_0le, z_0lt, z_le0, z_n9, z_n1, z_m1lt, z_m9lt, z_m9le, z_m1le, zB_0, zB_1, zz_bi_s, zz_bv_s, zz_bl_s, if_pos, if_neg, if_true, if_false, true_and, and_true, not_true_eq_false, not_false_eq_true, ite_self, e1, e2, z_or, e3, l_171, ek]
  have hz := zdr_t (k := wK W p) (s := s) hd
  by_cases c1 : s.testBit d = true
  · rw [if_neg (fun q => q c1)]
    by_cases c3 : wK W p = 3
    · rw [if_pos c3, zB_t (by rw [hz]; simp [c3])]
    · rw [if_neg c3, zB_f (by rw [hz]; simp [c1, c3])]
  · rw [if_pos c1]
    by_cases c5 : d = 5
    · rw [if_pos c5]
      by_cases k2 : wK W p = 2
      · rw [if_pos k2, zB_f (by rw [hz]; simp [k2, c5])]
      · rw [if_neg k2]
        by_cases k5 : wK W p = 5
        · rw [if_pos k5, zB_f (by rw [hz]; simp [k5, c5])]
        · rw [if_neg k5, zB_t (by rw [hz]; simp [k5, k2, c1])]
    · rw [if_neg c5]
      by_cases c11 : d = 11
      · rw [if_pos c11]
        by_cases k2 : wK W p = 2
        · rw [if_pos k2, zB_f (by rw [hz]; simp [k2, c11])]
        · rw [if_neg k2, zB_t (by rw [hz]; simp [k2, c11]; rw [c11] at c1; exact Or.inr (by simpa using c1))]
      · rw [if_neg c11, zB_t (by rw [hz]; simp [c11, c5, c1])]
theorem z_x1 {s : Nat} (hs : s < 4) : 2 * s ^^^ 1 = 2 * s + 1 ∧ (2 * s + 1) ^^^ 1 = 2 * s := by
  have : ∀ s < 4, 2 * s ^^^ 1 = 2 * s + 1 ∧ (2 * s + 1) ^^^ 1 = 2 * s := by decide
  exact this s hs
theorem l_178_56 {W : zW} (hW : wfW W) {s : Nat} {f : Nat → Nat → Int32} {g : Nat → Nat → Int64} (h : VM W s f) {p room b : Nat} (hp : p < wP W) (hr : room < 12) : zz_ev 178 56 [.ref 112, .int (nI p), .int (nI room), .int (nI b), .int (nI 0)] [] (zK f g) = some (some (.int (nI (b ||| (if wK W p = 1 ∨ wK W p = 4 then zst W room (wS W) else 0)))), zK f g) := by
  have hP6 := hW.1
  have hS4 := hW.2.1
  obtain ⟨-, -, hM⟩ := h
  have ek := hM.2.2.1 p hp
  have hk := hW.2.2.1 p hp
  have eS := hM.2.1
  by_cases c : wK W p = 1 ∨ wK W p = 4
  · rw [if_pos c]
    refine Eq.trans (show _ = zz_ev 178 56 [.ref 112, .int (nI p), .int (nI room), .int (nI (b ||| zst W room 0)), .int (nI (2 * 0))] [] (zK f g) by rw [show zst W room 0 = 0 from rfl, Nat.or_zero]) ?_
    refine (z_lp (fun i => zz_ev 178 56 [.ref 112, .int (nI p), .int (nI room), .int (nI (b ||| zst W room i)), .int (nI (2 * i))] [] (zK f g)) (wS W) (fun i hi => ?_) 0 (by omega)).trans ?_
    · have hab := hW.2.2.2 i hi
      have m1 := (hM.2.2.2 i hi).1
      have m2 := (hM.2.2.2 i hi).2
      have x1 := z_x1 (s := i) (by omega)
      have s1 : ∀ b, zz_ev 178 56 [.ref 112, .int (nI p), .int (nI room), .int (nI b), .int (nI (2 * i))] [] (zK f g) = zz_ev 178 56 [.ref 112, .int (nI p), .int (nI room), .int (nI (b ||| (if wA W i = room then 2 ^ wB W i else 0))), .int (nI (2 * i + 1))] [] (zK f g) := fun b => by
        rw [x_178_56]; simp (disch := first | omega | assumption) only [nI_add, pk_mul, z_in, z_ix, nI_leI, nI_ltI, nI_eq, z_eq0, z_lt0, z_0le, z_0lt, z_le0, z_n9, z_n1, z_m1lt, z_m9lt, z_m9le, z_m1le, zB_0, zB_1, zz_bi_s, zz_bv_s, zz_bl_s, if_pos, if_neg, if_true, if_false, true_and, and_true, not_true_eq_false, not_false_eq_true, ite_self, eS, l_180 g (p := p) (by omega) ek hk, x_178_72, c, m1, z_xor, x1.1, m2, x_178_102, z_1shl, z_or]
        by_cases e : wA W i = room
        · rw [if_pos e, if_pos e]
        · rw [if_neg e, if_neg e]
      have s2 : ∀ b, zz_ev 178 56 [.ref 112, .int (nI p), .int (nI room), .int (nI b), .int (nI (2 * i + 1))] [] (zK f g) = zz_ev 178 56 [.ref 112, .int (nI p), .int (nI room), .int (nI (b ||| (if wB W i = room then 2 ^ wA W i else 0))), .int (nI (2 * (i + 1)))] [] (zK f g) := fun b => by
        rw [x_178_56]; simp (disch := first | omega | assumption) only [nI_add, pk_mul, z_in, z_ix, nI_leI, nI_ltI, nI_eq, z_eq0, z_lt0, z_0le, z_0lt, z_le0, z_n9, z_n1, z_m1lt, z_m9lt, z_m9le, z_m1le, zB_0, zB_1, zz_bi_s, zz_bv_s, zz_bl_s, if_pos, if_neg, if_true, if_false, true_and, and_true, not_true_eq_false, not_false_eq_true, ite_self, eS, l_180 g (p := p) (by omega) ek hk, x_178_72, c, m1, z_xor, x1.2, m2, x_178_102, z_1shl, z_or]
        rw [show 2 * i + 1 + 1 = 2 * (i + 1) by omega]
        by_cases e : wB W i = room
        · rw [if_pos e, if_pos e]
        · rw [if_neg e, if_neg e]
      show zz_ev 178 56 _ _ _ = zz_ev 178 56 _ _ _
      rw [s1, s2, zst_s, Nat.or_assoc, Nat.or_assoc, Nat.or_assoc]
    · show zz_ev 178 56 _ _ _ = _
      rw [x_178_56]; simp (disch := first | omega | assumption) only [nI_add, pk_mul, z_in, z_ix, nI_leI, nI_ltI, nI_eq, z_eq0, z_lt0, z_0le, z_0lt, z_le0, z_n9, z_n1, z_m1lt, z_m9lt, z_m9le, z_m1le, zB_0, zB_1, zz_bi_s, zz_bv_s, zz_bl_s, if_pos, if_neg, if_true, if_false, true_and, and_true, not_true_eq_false, not_false_eq_true, ite_self, eS, x_178_110]
  · rw [if_neg c, Nat.or_zero, x_178_56, l_180 g (p := p) (by omega) ek hk, zz_bi_s, x_178_72, zB_f c]
    simp (disch := first | omega | assumption) only [nI_add, pk_mul, z_in, z_ix, nI_leI, nI_ltI, nI_eq, z_eq0, z_lt0, z_0le, z_0lt, z_le0, z_n9, z_n1, z_m1lt, z_m9lt, z_m9le, z_m1le, zB_0, zB_1, zz_bi_s, zz_bv_s, zz_bl_s, if_pos, if_neg, if_true, if_false, true_and, and_true, not_true_eq_false, not_false_eq_true, ite_self, eS, x_178_110]
theorem l_178 {W : zW} (hW : wfW W) {s : Nat} {f : Nat → Nat → Int32} {g : Nat → Nat → Int64} (h : VM W s f) {p room : Nat} (hp : p < wP W) (hr : room < 12) : zz_ca 178 [.ref 112, .int (nI p), .int (nI room)] (zK f g) = some (some (.int (nI (znx W (wK W p) (zdr (wK W p) s) room))), zK f g) := by
  have h11 : (room + 11) % 12 < 12 := Nat.mod_lt _ (by decide)
  have h1 : (room + 1) % 12 < 12 := Nat.mod_lt _ (by decide)
  simp (disch := first | omega | assumption) only [x_178_0, x_178_6, x_178_21, x_178_35, x_178_51, x_178_72, x_178_102, x_178_110, e_178, l_179 hW h hp, nI_add, pk_mul, z_in, z_ix, nI_leI, nI_ltI, nI_eq, z_eq0, z_lt0, z_0le, z_0lt, z_le0, z_n9, z_n1, z_m1lt, z_m9lt, z_m9le, z_m1le, zB_0, zB_1, zz_bi_s, zz_bv_s, zz_bl_s, if_pos, if_neg, if_true, if_false, true_and, and_true, not_true_eq_false, not_false_eq_true, ite_self, z_rem, z_1shl, z_or]
  unfold znx znb
  by_cases c1 : (zdr (wK W p) s).testBit room = true
  · rw [if_neg (fun q => q c1), if_pos c1]
    by_cases c2 : (zdr (wK W p) s).testBit ((room + 11) % 12) = true
    · rw [if_neg (fun q => q c2), if_pos c2, l_178_56 hW h hp hr]
    · rw [if_pos c2, if_neg c2, l_178_56 hW h hp hr]
  · rw [if_pos c1, if_neg c1]
    by_cases c2 : (zdr (wK W p) s).testBit ((room + 11) % 12) = true
    · rw [if_neg (fun q => q c2), if_pos c2, l_178_56 hW h hp hr]
    · rw [if_pos c2, if_neg c2, l_178_56 hW h hp hr]
/-! person -/
def zlk (A : zA) (p : Nat) : Nat → Int32
  | 0 => nI (wK (aW A) p)
  | 1 => nI (qR (hC (aH A)) p)
  | 2 => nI (hP (aH A) p)
  | 3 => qY (hC (aH A)) p
  | 4 => nI (zgo A p (qR (hC (aH A)) p))
  | _ => qT (hC (aH A)) p
theorem l_47 {A : zA} (hw : wf A) {f : Nat → Nat → Int32} {g : Nat → Nat → Int64} (h : CX A f g) {p w : Nat} (hp : p < wP (aW A)) (h5 : w ≤ 5) : zz_ca 47 [.ref 3, .int (nI p), .int (nI w)] (zK f g) = some (some (.int (zlk A p w)), zK f g) := by
  have hP6 := wfP hw
  obtain rfl | rfl | rfl | rfl | rfl | rfl : w = 0 ∨ w = 1 ∨ w = 2 ∨ w = 3 ∨ w = 4 ∨ w = 5 := by omega
  · simp (disch := first | omega | assumption) only [x_47_0, x_47_36, x_47_43, x_47_50, x_47_57, x_47_64, x_47_69, x_47_70, e_47, nI_add, pk_mul, z_in, z_ix, nI_leI, nI_ltI, nI_eq, z_eq0, z_lt0, z_0le, z_0lt, z_le0, z_n9, z_n1, z_m1lt, z_m9lt, z_m9le, z_m1le, zB_0, zB_1, zz_bi_s, zz_bv_s, zz_bl_s, if_pos, if_neg, if_true, if_false, true_and, and_true, not_true_eq_false, not_false_eq_true, ite_self, cxP h, cxS h, cxB h, cxH h, cxD h, cxk h, cxr h, cxp h, cxd h, cxt h, cxa h, cxb h]; rfl
  · simp (disch := first | omega | assumption) only [x_47_0, x_47_36, x_47_43, x_47_50, x_47_57, x_47_64, x_47_69, x_47_70, e_47, nI_add, pk_mul, z_in, z_ix, nI_leI, nI_ltI, nI_eq, z_eq0, z_lt0, z_0le, z_0lt, z_le0, z_n9, z_n1, z_m1lt, z_m9lt, z_m9le, z_m1le, zB_0, zB_1, zz_bi_s, zz_bv_s, zz_bl_s, if_pos, if_neg, if_true, if_false, true_and, and_true, not_true_eq_false, not_false_eq_true, ite_self, cxP h, cxS h, cxB h, cxH h, cxD h, cxk h, cxr h, cxp h, cxd h, cxt h, cxa h, cxb h]; rfl
  · simp (disch := first | omega | assumption) only [x_47_0, x_47_36, x_47_43, x_47_50, x_47_57, x_47_64, x_47_69, x_47_70, e_47, nI_add, pk_mul, z_in, z_ix, nI_leI, nI_ltI, nI_eq, z_eq0, z_lt0, z_0le, z_0lt, z_le0, z_n9, z_n1, z_m1lt, z_m9lt, z_m9le, z_m1le, zB_0, zB_1, zz_bi_s, zz_bv_s, zz_bl_s, if_pos, if_neg, if_true, if_false, true_and, and_true, not_true_eq_false, not_false_eq_true, ite_self, cxP h, cxS h, cxB h, cxH h, cxD h, cxk h, cxr h, cxp h, cxd h, cxt h, cxa h, cxb h]; rfl
  · simp (disch := first | omega | assumption) only [x_47_0, x_47_36, x_47_43, x_47_50, x_47_57, x_47_64, x_47_69, x_47_70, e_47, nI_add, pk_mul, z_in, z_ix, nI_leI, nI_ltI, nI_eq, z_eq0, z_lt0, z_0le, z_0lt, z_le0, z_n9, z_n1, z_m1lt, z_m9lt, z_m9le, z_m1le, zB_0, zB_1, zz_bi_s, zz_bv_s, zz_bl_s, if_pos, if_neg, if_true, if_false, true_and, and_true, not_true_eq_false, not_false_eq_true, ite_self, cxP h, cxS h, cxB h, cxH h, cxD h, cxk h, cxr h, cxp h, cxd h, cxt h, cxa h, cxb h]; rfl
  · simp (disch := first | omega | assumption) only [x_47_0, x_47_36, x_47_43, x_47_50, x_47_57, x_47_64, x_47_69, x_47_70, e_47, nI_add, pk_mul, z_in, z_ix, nI_leI, nI_ltI, nI_eq, z_eq0, z_lt0, z_0le, z_0lt, z_le0, z_n9, z_n1, z_m1lt, z_m9lt, z_m9le, z_m1le, zB_0, zB_1, zz_bi_s, zz_bv_s, zz_bl_s, if_pos, if_neg, if_true, if_false, true_and, and_true, not_true_eq_false, not_false_eq_true, ite_self, l_48 hw h]; rfl
  · simp (disch := first | omega | assumption) only [x_47_0, x_47_36, x_47_43, x_47_50, x_47_57, x_47_64, x_47_69, x_47_70, e_47, nI_add, pk_mul, z_in, z_ix, nI_leI, nI_ltI, nI_eq, z_eq0, z_lt0, z_0le, z_0lt, z_le0, z_n9, z_n1, z_m1lt, z_m9lt, z_m9le, z_m1le, zB_0, zB_1, zz_bi_s, zz_bv_s, zz_bl_s, if_pos, if_neg, if_true, if_false, true_and, and_true, not_true_eq_false, not_false_eq_true, ite_self, cxP h, cxS h, cxB h, cxH h, cxD h, cxk h, cxr h, cxp h, cxd h, cxt h, cxa h, cxb h]; rfl
theorem l_177 {A : zA} (hw : wf A) {f : Nat → Nat → Int32} {g : Nat → Nat → Int64} (h : CM A f g) {p w : Nat} (hp : p < wP (aW A)) (h5 : w ≤ 5) : zz_ca 177 [.ref 112, .int (nI p), .int (nI w)] (zK f g) = some (some (.int (zlk A p w)), zK f g) := by
  have hP6 := wfP hw
  have hr := wfr hw hp
  obtain rfl | rfl | rfl | rfl | rfl | rfl : w = 0 ∨ w = 1 ∨ w = 2 ∨ w = 3 ∨ w = 4 ∨ w = 5 := by omega
  · simp (disch := first | omega | assumption) only [x_177_0, x_177_36, x_177_43, x_177_52, x_177_62, x_177_72, x_177_85, x_177_86, e_177, nI_add, pk_mul, z_in, z_ix, nI_leI, nI_ltI, nI_eq, z_eq0, z_lt0, z_0le, z_0lt, z_le0, z_n9, z_n1, z_m1lt, z_m9lt, z_m9le, z_m1le, zB_0, zB_1, zz_bi_s, zz_bv_s, zz_bl_s, if_pos, if_neg, if_true, if_false, true_and, and_true, not_true_eq_false, not_false_eq_true, ite_self, cmP h, cmS h, cmB h, cmH h, cmD h, cmk h, cmr h, cmp h, cmd h, cmt h, cma h, cmb h, cm0 h]; rfl
  · simp (disch := first | omega | assumption) only [x_177_0, x_177_36, x_177_43, x_177_52, x_177_62, x_177_72, x_177_85, x_177_86, e_177, nI_add, pk_mul, z_in, z_ix, nI_leI, nI_ltI, nI_eq, z_eq0, z_lt0, z_0le, z_0lt, z_le0, z_n9, z_n1, z_m1lt, z_m9lt, z_m9le, z_m1le, zB_0, zB_1, zz_bi_s, zz_bv_s, zz_bl_s, if_pos, if_neg, if_true, if_false, true_and, and_true, not_true_eq_false, not_false_eq_true, ite_self, cmP h, cmS h, cmB h, cmH h, cmD h, cmk h, cmr h, cmp h, cmd h, cmt h, cma h, cmb h, cm0 h]; rfl
  · simp (disch := first | omega | assumption) only [x_177_0, x_177_36, x_177_43, x_177_52, x_177_62, x_177_72, x_177_85, x_177_86, e_177, nI_add, pk_mul, z_in, z_ix, nI_leI, nI_ltI, nI_eq, z_eq0, z_lt0, z_0le, z_0lt, z_le0, z_n9, z_n1, z_m1lt, z_m9lt, z_m9le, z_m1le, zB_0, zB_1, zz_bi_s, zz_bv_s, zz_bl_s, if_pos, if_neg, if_true, if_false, true_and, and_true, not_true_eq_false, not_false_eq_true, ite_self, cmP h, cmS h, cmB h, cmH h, cmD h, cmk h, cmr h, cmp h, cmd h, cmt h, cma h, cmb h, cm0 h]; rfl
  · simp (disch := first | omega | assumption) only [x_177_0, x_177_36, x_177_43, x_177_52, x_177_62, x_177_72, x_177_85, x_177_86, e_177, nI_add, pk_mul, z_in, z_ix, nI_leI, nI_ltI, nI_eq, z_eq0, z_lt0, z_0le, z_0lt, z_le0, z_n9, z_n1, z_m1lt, z_m9lt, z_m9le, z_m1le, zB_0, zB_1, zz_bi_s, zz_bv_s, zz_bl_s, if_pos, if_neg, if_true, if_false, true_and, and_true, not_true_eq_false, not_false_eq_true, ite_self, cmP h, cmS h, cmB h, cmH h, cmD h, cmk h, cmr h, cmp h, cmd h, cmt h, cma h, cmb h, cm0 h]; rfl
  · simp (disch := first | omega | assumption) only [x_177_0, x_177_36, x_177_43, x_177_52, x_177_62, x_177_72, x_177_85, x_177_86, e_177, nI_add, pk_mul, z_in, z_ix, nI_leI, nI_ltI, nI_eq, z_eq0, z_lt0, z_0le, z_0lt, z_le0, z_n9, z_n1, z_m1lt, z_m9lt, z_m9le, z_m1le, zB_0, zB_1, zz_bi_s, zz_bv_s, zz_bl_s, if_pos, if_neg, if_true, if_false, true_and, and_true, not_true_eq_false, not_false_eq_true, ite_self, cmP h, cmS h, cmB h, cmH h, cmD h, cmk h, cmr h, cmp h, cmd h, cmt h, cma h, cmb h, cm0 h, l_178 hw.2.2.1 (CM_V hw h)]; rfl
  · simp (disch := first | omega | assumption) only [x_177_0, x_177_36, x_177_43, x_177_52, x_177_62, x_177_72, x_177_85, x_177_86, e_177, nI_add, pk_mul, z_in, z_ix, nI_leI, nI_ltI, nI_eq, z_eq0, z_lt0, z_0le, z_0lt, z_le0, z_n9, z_n1, z_m1lt, z_m9lt, z_m9le, z_m1le, zB_0, zB_1, zz_bi_s, zz_bv_s, zz_bl_s, if_pos, if_neg, if_true, if_false, true_and, and_true, not_true_eq_false, not_false_eq_true, ite_self, cmP h, cmS h, cmB h, cmH h, cmD h, cmk h, cmr h, cmp h, cmd h, cmt h, cma h, cmb h, cm0 h]; rfl
theorem z_rngL5 {v : Int32} {n : Nat} (hn : n < 2 ^ 31 - 1) (h : ¬ zz_in v (n + 1)) : v < 0 ∨ (¬ v < 0 ∧ ¬ v ≤ nI n) := by
  have h0 : (0 : Int32).toInt = 0 := by decide +kernel
  rw [Int32.lt_iff_toInt_lt, Int32.le_iff_toInt_le, nI_toInt (by omega), h0]; unfold zz_in at h; omega
theorem sim_person (A : zA) (hw : wf A) (v1 v2 : Int32) : zSim A 45 175 [.int v1, .int v2] := by
  have hP6 := wfP hw
  by_cases h1 : zz_in v1 (wP (aW A))
  · obtain ⟨p, hp, -, rfl⟩ := z_inx.mp h1
    by_cases h2 : zz_in v2 6
    · obtain ⟨w, hw6, -, rfl⟩ := z_inx.mp h2
      refine sim_A hw (.int (nI 1)) (zlk A p w) (fun f g h => ⟨f, g, ?_, zXs_r⟩) (fun f g h => ⟨f, g, ?_, zMs_r⟩)
      · simp (disch := first | omega | assumption) only [x_45_0, x_45_5, x_45_17, x_45_29, x_45_32, e_45, l_46 g _ (cxP h) hP6, nI_add, pk_mul, z_in, z_ix, nI_leI, nI_ltI, nI_eq, z_eq0, z_lt0, z_0le, z_0lt, z_le0, z_n9, z_n1, z_m1lt, z_m9lt, z_m9le, z_m1le, zB_0, zB_1, zz_bi_s, zz_bv_s, zz_bl_s, if_pos, if_neg, if_true, if_false, true_and, and_true, not_true_eq_false, not_false_eq_true, ite_self, l_47 hw h, l_19]
      · simp (disch := first | omega | assumption) only [x_175_0, x_175_5, x_175_17, x_175_27, x_175_30, x_175_33, e_175, l_176 g _ (cmP h) hP6, nI_add, pk_mul, z_in, z_ix, nI_leI, nI_ltI, nI_eq, z_eq0, z_lt0, z_0le, z_0lt, z_le0, z_n9, z_n1, z_m1lt, z_m9lt, z_m9le, z_m1le, zB_0, zB_1, zz_bi_s, zz_bv_s, zz_bl_s, if_pos, if_neg, if_true, if_false, true_and, and_true, not_true_eq_false, not_false_eq_true, ite_self, l_150n, l_177 hw h, l_155]
    · refine sim_0 hw (.int (-1)) (fun f g h => ?_) (fun f g h => by simp (disch := first | omega | assumption) only [x_175_0, x_175_5, x_175_17, x_175_27, x_175_30, x_175_33, e_175, l_176 g _ (cmP h) hP6, nI_add, pk_mul, z_in, z_ix, nI_leI, nI_ltI, nI_eq, z_eq0, z_lt0, z_0le, z_0lt, z_le0, z_n9, z_n1, z_m1lt, z_m9lt, z_m9le, z_m1le, zB_0, zB_1, zz_bi_s, zz_bv_s, zz_bl_s, if_pos, if_neg, if_true, if_false, true_and, and_true, not_true_eq_false, not_false_eq_true, ite_self, l_150n, h2])
      rcases z_rngL5 (by decide) h2 with h3 | ⟨h3, h4⟩
      · simp (disch := first | omega | assumption) only [x_45_0, x_45_5, x_45_17, x_45_29, x_45_32, e_45, l_46 g _ (cxP h) hP6, nI_add, pk_mul, z_in, z_ix, nI_leI, nI_ltI, nI_eq, z_eq0, z_lt0, z_0le, z_0lt, z_le0, z_n9, z_n1, z_m1lt, z_m9lt, z_m9le, z_m1le, zB_0, zB_1, zz_bi_s, zz_bv_s, zz_bl_s, if_pos, if_neg, if_true, if_false, true_and, and_true, not_true_eq_false, not_false_eq_true, ite_self, h3]
      · simp (disch := first | omega | assumption) only [x_45_0, x_45_5, x_45_17, x_45_29, x_45_32, e_45, l_46 g _ (cxP h) hP6, nI_add, pk_mul, z_in, z_ix, nI_leI, nI_ltI, nI_eq, z_eq0, z_lt0, z_0le, z_0lt, z_le0, z_n9, z_n1, z_m1lt, z_m9lt, z_m9le, z_m1le, zB_0, zB_1, zz_bi_s, zz_bv_s, zz_bl_s, if_pos, if_neg, if_true, if_false, true_and, and_true, not_true_eq_false, not_false_eq_true, ite_self, h3, h4]
  · exact sim_0 hw (.int (-1)) (fun f g h => by simp (disch := first | omega | assumption) only [x_45_0, x_45_5, x_45_17, x_45_29, x_45_32, e_45, l_46 g _ (cxP h) hP6, nI_add, pk_mul, z_in, z_ix, nI_leI, nI_ltI, nI_eq, z_eq0, z_lt0, z_0le, z_0lt, z_le0, z_n9, z_n1, z_m1lt, z_m9lt, z_m9le, z_m1le, zB_0, zB_1, zz_bi_s, zz_bv_s, zz_bl_s, if_pos, if_neg, if_true, if_false, true_and, and_true, not_true_eq_false, not_false_eq_true, ite_self, h1]) (fun f g h => by simp (disch := first | omega | assumption) only [x_175_0, x_175_5, x_175_17, x_175_27, x_175_30, x_175_33, e_175, l_176 g _ (cmP h) hP6, nI_add, pk_mul, z_in, z_ix, nI_leI, nI_ltI, nI_eq, z_eq0, z_lt0, z_0le, z_0lt, z_le0, z_n9, z_n1, z_m1lt, z_m9lt, z_m9le, z_m1le, zB_0, zB_1, zz_bi_s, zz_bv_s, zz_bl_s, if_pos, if_neg, if_true, if_false, true_and, and_true, not_true_eq_false, not_false_eq_true, ite_self, h1])
