/-! ODDS -/
def zsm (c : Nat → Nat) : Nat → Nat
  | 0 => 0
  | n + 1 => zsm c n + c n
theorem zsm_s {c : Nat → Nat} {n : Nat} : zsm c (n + 1) = zsm c n + c n := rfl
theorem zsm_c {c d : Nat → Nat} : ∀ {n : Nat}, (∀ i < n, c i = d i) → zsm c n = zsm d n
  | 0, _ => rfl
  | n + 1, h => by rw [zsm_s, zsm_s, zsm_c (fun i hi => h i (by omega)), h n (by omega)]
theorem zsm_add {c d : Nat → Nat} : ∀ {n : Nat}, zsm (fun i => c i + d i) n = zsm c n + zsm d n
  | 0 => rfl
  | n + 1 => by rw [zsm_s, zsm_s, zsm_s, zsm_add]; omega
theorem zsm_0 : ∀ {n : Nat}, zsm (fun _ => 0) n = 0
  | 0 => rfl
  | n + 1 => by rw [zsm_s, zsm_0]
theorem zsm_mul {c : Nat → Nat} {k : Nat} : ∀ {n : Nat}, zsm (fun i => k * c i) n = k * zsm c n
  | 0 => rfl
  | n + 1 => by rw [zsm_s, zsm_s, zsm_mul, Nat.mul_add]
theorem zsm_swap {c : Nat → Nat → Nat} {m : Nat} : ∀ {n : Nat}, zsm (fun i => zsm (c i) m) n = zsm (fun j => zsm (fun i => c i j) n) m
  | 0 => by show 0 = zsm (fun _ => 0) m; rw [zsm_0]
  | n + 1 => by
    rw [zsm_s, zsm_swap, ← zsm_add]; rfl
theorem zsm_le {c : Nat → Nat} : ∀ {n i : Nat}, i < n → c i ≤ zsm c n
  | 0, i, h => by omega
  | n + 1, i, h => by
    rw [zsm_s]
    by_cases e : i = n
    · subst e; omega
    · have := zsm_le (c := c) (n := n) (i := i) (by omega); omega
theorem zsm_one {r v : Nat} : ∀ {n : Nat}, zsm (fun i => if i = r then v else 0) n = if r < n then v else 0
  | 0 => by rw [if_neg (by omega)]; rfl
  | n + 1 => by
    rw [zsm_s, zsm_one]
    by_cases e : n = r
    · subst e; rw [if_neg (by omega), if_pos rfl, if_pos (by omega)]; omega
    · rw [if_neg e]
      by_cases h : r < n
      · rw [if_pos h, if_pos (by omega)]; omega
      · rw [if_neg h, if_neg (by omega)]
theorem zpc_sm {s v : Nat} : ∀ {n : Nat}, zsm (fun i => if s.testBit i = true then v else 0) n = v * zpc n s
  | 0 => rfl
  | n + 1 => by
    rw [zsm_s, zpc_sm]
    show _ = v * (zpc n s + (s.testBit n).toNat)
    by_cases e : s.testBit n = true
    · rw [if_pos e, e, Nat.mul_add]; show _ = v * zpc n s + v * 1; omega
    · rw [if_neg e, show s.testBit n = false by simpa using e]; show v * zpc n s + 0 = v * (zpc n s + 0); rw [Nat.add_zero, Nat.add_zero]
/-- how much of a room's weight comes to another one -/
def zwc (N : Nat → Nat) (w : Nat → Nat) (r to : Nat) : Nat := if N r = 0 then (if to = r then 60 * w r else 0) else if (N r).testBit to = true then w r * (60 / zpc 12 (N r)) else 0
def zwt (N : Nat → Nat) (a : Nat) : Nat → Nat → Nat
  | 0 => fun r => if r = a then 1 else 0
  | i + 1 => fun to => zsm (fun r => zwc N (zwt N a i) r to) 12
theorem zwt_s {N : Nat → Nat} {a i to : Nat} : zwt N a (i + 1) to = zsm (fun r => zwc N (zwt N a i) r to) 12 := rfl
theorem zpc_or {s t : Nat} : ∀ n, zpc n (s ||| t) ≤ zpc n s + zpc n t
  | 0 => Nat.zero_le _
  | n + 1 => by
    have := zpc_or (s := s) (t := t) n
    show zpc n (s ||| t) + ((s ||| t).testBit n).toNat ≤ zpc n s + (s.testBit n).toNat + (zpc n t + (t.testBit n).toNat)
    rw [Nat.testBit_or]
    cases s.testBit n <;> cases t.testBit n <;> simp <;> omega
theorem zpc_00 : ∀ n, zpc n 0 = 0
  | 0 => rfl
  | n + 1 => by show zpc n 0 + (Nat.testBit 0 n).toNat = 0; rw [zpc_00 n, Nat.zero_testBit]; rfl
theorem zpc_1 {c : Prop} [Decidable c] {k : Nat} (hk : k < 12) : zpc 12 (if c then 2 ^ k else 0) ≤ 1 := by
  split
  · rw [zpc_p hk]; exact Nat.le_refl _
  · rw [zpc_00]; omega
theorem zst_pc {W : zW} (hW : wfW W) {room : Nat} : ∀ {n : Nat}, n ≤ wS W → zpc 12 (zst W room n) ≤ n
  | 0, _ => by show zpc 12 0 ≤ 0; rw [zpc_00]; exact Nat.le_refl _
  | n + 1, hn => by
    have hab := hW.2.2.2 n (by omega)
    have ih := zst_pc hW (room := room) (n := n) (by omega)
    rw [zst_s]
    by_cases e : wA W n = room
    · have e2 : ¬ wB W n = room := by omega
      rw [if_neg e2, Nat.or_zero]
      have := zpc_or (s := zst W room n) (t := if wA W n = room then 2 ^ wB W n else 0) 12
      have := zpc_1 (c := wA W n = room) hab.2.1
      omega
    · rw [if_neg e, Nat.or_zero]
      have := zpc_or (s := zst W room n) (t := if wB W n = room then 2 ^ wA W n else 0) 12
      have := zpc_1 (c := wB W n = room) hab.1
      omega
theorem znx_pc {W : zW} (hW : wfW W) (k dr room : Nat) : zpc 12 (znx W k dr room) ≤ 6 := by
  unfold znx znb
  have h1 := zpc_or (s := (if dr.testBit room = true then 2 ^ ((room + 1) % 12) else 0) ||| (if dr.testBit ((room + 11) % 12) = true then 2 ^ ((room + 11) % 12) else 0)) (t := if k = 1 ∨ k = 4 then zst W room (wS W) else 0) 12
  have h2 := zpc_or (s := if dr.testBit room = true then 2 ^ ((room + 1) % 12) else 0) (t := if dr.testBit ((room + 11) % 12) = true then 2 ^ ((room + 11) % 12) else 0) 12
  have h3 := zpc_1 (c := dr.testBit room = true) (k := (room + 1) % 12) (Nat.mod_lt _ (by decide))
  have h4 := zpc_1 (c := dr.testBit ((room + 11) % 12) = true) (k := (room + 11) % 12) (Nat.mod_lt _ (by decide))
  have h5 : zpc 12 (if k = 1 ∨ k = 4 then zst W room (wS W) else 0) ≤ 4 := by
    split
    · have := zst_pc hW (room := room) (Nat.le_refl (wS W)); have := hW.2.1; omega
    · rw [zpc_00]; omega
  omega
theorem zpc_ne {s : Nat} (hs : s < 4096) (h : s ≠ 0) : 0 < zpc 12 s := by
  have := zlow_t hs h
  have h2 := zpc_strict (s := 0) (t := s) (fun i hi => by rw [Nat.zero_testBit] at hi; cases hi) (Nat.zero_testBit _) this.2 12 this.1
  rw [zpc_00] at h2; exact h2
theorem z_60 {m : Nat} (h1 : 0 < m) (h6 : m ≤ 6) : 60 / m * m = 60 := by
  have : ∀ m < 7, 0 < m → 60 / m * m = 60 := by decide
  exact this m (by omega) h1
theorem zw_div {w m : Nat} (h1 : 0 < m) (h6 : m ≤ 6) : w * 60 / m = w * (60 / m) := by
  have h := z_60 h1 h6
  have : w * 60 = w * (60 / m) * m := by rw [Nat.mul_assoc, h]
  rw [this, Nat.mul_div_cancel _ h1]
/-- good sets of rooms beside -/
def zgd (N : Nat → Nat) : Prop := ∀ c < 12, N c < 4096 ∧ zpc 12 (N c) ≤ 6
theorem zwc_sum {N : Nat → Nat} (hN : zgd N) {w : Nat → Nat} {r : Nat} (hr : r < 12) : zsm (fun to => zwc N w r to) 12 = 60 * w r := by
  unfold zwc
  by_cases e : N r = 0
  · rw [show (fun to => if N r = 0 then (if to = r then 60 * w r else 0) else if (N r).testBit to = true then w r * (60 / zpc 12 (N r)) else 0) = fun to => if to = r then 60 * w r else 0 from funext fun to => if_pos e, zsm_one, if_pos hr]
  · rw [show (fun to => if N r = 0 then (if to = r then 60 * w r else 0) else if (N r).testBit to = true then w r * (60 / zpc 12 (N r)) else 0) = fun to => if (N r).testBit to = true then w r * (60 / zpc 12 (N r)) else 0 from funext fun to => if_neg e, zpc_sm, Nat.mul_assoc, z_60 (zpc_ne (hN r hr).1 e) (hN r hr).2, Nat.mul_comm]
theorem zwt_sum {N : Nat → Nat} (hN : zgd N) {a : Nat} (ha : a < 12) : ∀ i, zsm (zwt N a i) 12 = 60 ^ i
  | 0 => by
    show zsm (fun r => if r = a then 1 else 0) 12 = 1
    rw [zsm_one, if_pos ha]
  | i + 1 => by
    show zsm (fun to => zsm (fun r => zwc N (zwt N a i) r to) 12) 12 = 60 ^ (i + 1)
    rw [zsm_swap (c := fun to r => zwc N (zwt N a i) r to), zsm_c (d := fun r => 60 * zwt N a i r) (fun r hr => zwc_sum hN hr), zsm_mul, zwt_sum hN ha i, Nat.pow_succ, Nat.mul_comm]
theorem zwt_le {N : Nat → Nat} (hN : zgd N) {a : Nat} (ha : a < 12) {i r : Nat} (hr : r < 12) : zwt N a i r ≤ 60 ^ i := by
  rw [← zwt_sum hN ha i]; exact zsm_le hr
theorem z_60p {i : Nat} (hi : i ≤ 8) : 60 ^ i ≤ 167961600000000 := by
  have : ∀ i < 9, 60 ^ i ≤ 167961600000000 := by decide
  exact this i (by omega)
/-! the class's -/
theorem l_130 (f : Nat → Nat → Int32) (g : Nat → Nat → Int64) : ∃ g', zz_ca 130 [.ref 54, .long 0] (zK f g) = some (none, zK f g') ∧ (∀ x, x ≠ 54 → g' x = g x) ∧ ∀ i < 12, g' 54 i = lN 0 := by
  rw [e_130, x_130_0]
  refine z_loop (fun i (g' : Nat → Nat → Int64) => zz_ev 130 6 [.ref 54, .long 0, .null, .int (nI i), .int (nI 12)] [] (zK f g')) (fun i g' => (∀ x, x ≠ 54 → g' x = g x) ∧ ∀ j < i, g' 54 j = lN 0) (fun x => ∃ g', x = some (none, zK f g') ∧ (∀ x, x ≠ 54 → g' x = g x) ∧ ∀ i < 12, g' 54 i = lN 0) 12 ?_ ?_ 0 g (by omega) ⟨fun _ _ => rfl, fun j hj => by omega⟩
  · intro i g' hi ⟨h1, h2⟩
    left
    refine ⟨zz_u g' 54 i 0, ?_, fun x hx => by rw [zu_c hx]; exact h1 x hx, fun j hj => ?_⟩
    · rw [x_130_6]; simp (disch := first | omega | assumption) only [nI_add, pk_mul, z_in, z_ix, nI_leI, nI_ltI, nI_eq, z_eq0, z_lt0, z_0le, z_0lt, z_le0, z_n9, z_n1, z_m1lt, z_m9lt, z_m9le, z_m1le, zB_0, zB_1, zz_bi_s, zz_bv_s, zz_bl_s, if_pos, if_neg, if_true, if_false, true_and, and_true, not_true_eq_false, not_false_eq_true, ite_self]
    · by_cases e : j = i
      · subst e; rw [zu_s]; rfl
      · rw [zu_i e]; exact h2 j (by omega)
  · intro g' ⟨h1, h2⟩
    refine ⟨g', ?_, h1, h2⟩
    rw [x_130_6]; simp (disch := first | omega | assumption) only [nI_add, pk_mul, z_in, z_ix, nI_leI, nI_ltI, nI_eq, z_eq0, z_lt0, z_0le, z_0lt, z_le0, z_n9, z_n1, z_m1lt, z_m9lt, z_m9le, z_m1le, zB_0, zB_1, zz_bi_s, zz_bv_s, zz_bl_s, if_pos, if_neg, if_true, if_false, true_and, and_true, not_true_eq_false, not_false_eq_true, ite_self]
theorem l_131 {f : Nat → Nat → Int32} {g : Nat → Nat → Int64} {N w : Nat → Nat} (hN : zgd N) {r : Nat} (hr : r < 12) (hw : w r ≤ 167961600000000) {c : Nat → Nat} (h0 : ∀ t < 12, g 54 t = lN (c t)) : ∃ g', zz_ca 131 [.ref 52, .long (lN (w r) * lN 60), .int (nI r), .int (nI (N r))] (zK f g) = some (none, zK f g') ∧ (∀ x, x ≠ 54 → g' x = g x) ∧ ∀ t < 12, g' 54 t = lN (c t + zwc N w r t) := by
  have hNr := hN r hr
  rw [e_131, x_131_0, l_61 _ _ hNr.1, zz_bi_s, x_131_5, lN_mul]
  have hp := zpc_le 12 (N r)
  by_cases e : N r = 0
  · have e2 : zpc 12 (N r) = 0 := by rw [e, zpc_00]
    rw [e2]
    refine ⟨zz_u g 54 r (g 54 r + lN (w r * 60)), ?_, fun x hx => zu_c hx, fun t ht => ?_⟩
    · simp (disch := first | omega | assumption) only [nI_add, pk_mul, z_in, z_ix, nI_leI, nI_ltI, nI_eq, z_eq0, z_lt0, z_0le, z_0lt, z_le0, z_n9, z_n1, z_m1lt, z_m9lt, z_m9le, z_m1le, zB_0, zB_1, zz_bi_s, zz_bv_s, zz_bl_s, if_pos, if_neg, if_true, if_false, true_and, and_true, not_true_eq_false, not_false_eq_true, ite_self]
    · unfold zwc; rw [if_pos e]
      by_cases q : t = r
      · subst q; rw [zu_s, if_pos rfl, h0 t ht, lN_add, Nat.mul_comm]
      · rw [zu_i q, if_neg q, Nat.add_zero]; exact h0 t ht
  · have hm := zpc_ne hNr.1 e
    have hm6 := hNr.2
    simp (disch := first | omega | assumption) only [nI_add, pk_mul, z_in, z_ix, nI_leI, nI_ltI, nI_eq, z_eq0, z_lt0, z_0le, z_0lt, z_le0, z_n9, z_n1, z_m1lt, z_m9lt, z_m9le, z_m1le, zB_0, zB_1, zz_bi_s, zz_bv_s, zz_bl_s, if_pos, if_neg, if_true, if_false, true_and, and_true, not_true_eq_false, not_false_eq_true, ite_self]
    rw [hw_131_26]
    have key := z_loop (fun i (g' : Nat → Nat → Int64) => zz_ev 131 26 [.ref 52, .long (lN (w r * 60)), .null, .null, .int (nI (N r)), .int (nI (zpc 12 (N r))), .int (nI i)] [] (zK f g')) (fun i g' => (∀ x, x ≠ 54 → g' x = g x) ∧ ∀ t < 12, g' 54 t = if t < i then lN (c t + zwc N w r t) else lN (c t)) (fun x => ∃ g', x = some (none, zK f g') ∧ (∀ x, x ≠ 54 → g' x = g x) ∧ ∀ t < 12, g' 54 t = lN (c t + zwc N w r t)) 12 ?_ ?_ 0 g (by omega) ⟨fun _ _ => rfl, fun t ht => by rw [if_neg (by omega)]; exact h0 t ht⟩
    · exact key
    · intro i g' hi ⟨h1, h2⟩
      left
      have m0 := h2 i hi
      rw [if_neg (by omega)] at m0
      have d1 : (nI (zpc 12 (N r))).toInt64 = lN (zpc 12 (N r)) := nI_l (by omega)
      have d2 : ¬ lN (zpc 12 (N r)) = 0 := by rw [show (0 : Int64) = lN 0 from rfl, lN_eq (by omega) (by decide)]; omega
      have d3 : lN (w r * 60) / lN (zpc 12 (N r)) = lN (w r * (60 / zpc 12 (N r))) := by rw [pk_lDiv (by omega) (by omega) (by omega), zw_div hm hm6]
      by_cases q : (N r).testBit i = true
      · refine ⟨zz_u g' 54 i (lN (c i + w r * (60 / zpc 12 (N r)))), ?_, fun x hx => by rw [zu_c hx]; exact h1 x hx, fun t ht => ?_⟩
        · rw [x_131_26]; simp (disch := first | omega | assumption) only [nI_add, pk_mul, z_in, z_ix, nI_leI, nI_ltI, nI_eq, z_eq0, z_lt0, z_0le, z_0lt, z_le0, z_n9, z_n1, z_m1lt, z_m9lt, z_m9le, z_m1le, zB_0, zB_1, zz_bi_s, zz_bv_s, zz_bl_s, if_pos, if_neg, if_true, if_false, true_and, and_true, not_true_eq_false, not_false_eq_true, ite_self, l_38 _ _ (show N r < 2 ^ 31 by omega), x_131_40, q, d1, d2, d3, m0, lN_add, x_131_58]
        · by_cases e1 : t = i
          · subst e1; rw [zu_s, if_pos (by omega)]; unfold zwc; rw [if_neg e, if_pos q]
          · rw [zu_i e1, h2 t ht]
            by_cases e2 : t < i
            · rw [if_pos e2, if_pos (by omega)]
            · rw [if_neg e2, if_neg (by omega)]
      · refine ⟨g', ?_, h1, fun t ht => ?_⟩
        · rw [x_131_26]; simp (disch := first | omega | assumption) only [nI_add, pk_mul, z_in, z_ix, nI_leI, nI_ltI, nI_eq, z_eq0, z_lt0, z_0le, z_0lt, z_le0, z_n9, z_n1, z_m1lt, z_m9lt, z_m9le, z_m1le, zB_0, zB_1, zz_bi_s, zz_bv_s, zz_bl_s, if_pos, if_neg, if_true, if_false, true_and, and_true, not_true_eq_false, not_false_eq_true, ite_self, l_38 _ _ (show N r < 2 ^ 31 by omega), x_131_40, q, x_131_58, Bool.false_eq_true]
        · rw [h2 t ht]
          by_cases e1 : t = i
          · subst e1; rw [if_neg (by omega), if_pos (by omega)]; unfold zwc; rw [if_neg e, if_neg q, Nat.add_zero]
          · by_cases e2 : t < i
            · rw [if_pos e2, if_pos (by omega)]
            · rw [if_neg e2, if_neg (by omega)]
    · intro g' ⟨h1, h2⟩
      refine ⟨g', ?_, h1, fun t ht => by rw [h2 t ht, if_pos ht]⟩
      rw [x_131_26]; simp (disch := first | omega | assumption) only [nI_add, pk_mul, z_in, z_ix, nI_leI, nI_ltI, nI_eq, z_eq0, z_lt0, z_0le, z_0lt, z_le0, z_n9, z_n1, z_m1lt, z_m9lt, z_m9le, z_m1le, zB_0, zB_1, zz_bi_s, zz_bv_s, zz_bl_s, if_pos, if_neg, if_true, if_false, true_and, and_true, not_true_eq_false, not_false_eq_true, ite_self]
theorem l_129 {f : Nat → Nat → Int32} {g : Nat → Nat → Int64} {N w : Nat → Nat} (hN : zgd N) (hf : ∀ c < 12, f 31 c = nI (N c)) (hw : ∀ r < 12, g 53 r = lN (w r) ∧ w r ≤ 167961600000000) : ∃ g', zz_ca 129 [.ref 52, .ref 30] (zK f g) = some (none, zK f g') ∧ (∀ x, x ≠ 53 → x ≠ 54 → g' x = g x) ∧ ∀ t < 12, g' 53 t = lN (zsm (fun r => zwc N w r t) 12) := by
  obtain ⟨g1, e1, k1, k2⟩ := l_130 f g
  rw [e_129, x_129_0, e1, zz_bv_s, x_129_8]
  have key := z_loop (fun i (g' : Nat → Nat → Int64) => zz_ev 129 10 [.ref 52, .ref 30, .int (nI i)] [] (zK f g')) (fun i g' => (∀ x, x ≠ 54 → g' x = g x) ∧ ∀ t < 12, g' 54 t = lN (zsm (fun r => zwc N w r t) i)) (fun x => ∃ g', x = some (none, zK f g') ∧ (∀ x, x ≠ 53 → x ≠ 54 → g' x = g x) ∧ ∀ t < 12, g' 53 t = lN (zsm (fun r => zwc N w r t) 12)) 12 ?_ ?_ 0 g1 (by omega) ⟨k1, fun t ht => k2 t ht⟩
  · exact key
  · intro i g2 hi ⟨h1, h2⟩
    left
    obtain ⟨g3, e3, u1, u2⟩ := l_131 (f := f) (g := g2) hN hi (hw i hi).2 h2
    refine ⟨g3, ?_, fun x hx => by rw [u1 x hx]; exact h1 x hx, u2⟩
    have m1 : g2 53 i = lN (w i) := by rw [h1 53 (by decide)]; exact (hw i hi).1
    have m2 := hf i hi
    rw [x_129_10]; simp (disch := first | omega | assumption) only [nI_add, pk_mul, z_in, z_ix, nI_leI, nI_ltI, nI_eq, z_eq0, z_lt0, z_0le, z_0lt, z_le0, z_n9, z_n1, z_m1lt, z_m9lt, z_m9le, z_m1le, zB_0, zB_1, zz_bi_s, zz_bv_s, zz_bl_s, if_pos, if_neg, if_true, if_false, true_and, and_true, not_true_eq_false, not_false_eq_true, ite_self, m1, m2, e3, x_129_37]
  · intro g2 ⟨h1, h2⟩
    refine ⟨zz_cp g2 54 0 53 0 12, ?_, fun x q1 q2 => ?_, fun t ht => ?_⟩
    · rw [x_129_10]; simp (disch := first | omega | assumption) only [nI_add, pk_mul, z_in, z_ix, nI_leI, nI_ltI, nI_eq, z_eq0, z_lt0, z_0le, z_0lt, z_le0, z_n9, z_n1, z_m1lt, z_m9lt, z_m9le, z_m1le, zB_0, zB_1, zz_bi_s, zz_bv_s, zz_bl_s, if_pos, if_neg, if_true, if_false, true_and, and_true, not_true_eq_false, not_false_eq_true, ite_self]
      rw [if_pos (by decide +kernel)]
    · funext y; show (if _ then _ else _) = _; rw [if_neg (fun w => q1 w.1)]; rw [h1 x q2]
    · show (if _ then _ else _) = _
      rw [if_pos ⟨rfl, by omega, by omega⟩, show 0 + (t - 0) = t by omega]; exact h2 t ht
theorem l_128 {f : Nat → Nat → Int32} {g : Nat → Nat → Int64} {N : Nat → Nat} (hN : zgd N) (hf : ∀ c < 12, f 31 c = nI (N c)) {a n : Nat} (ha : a < 12) (hn : n ≤ 8) : ∃ g', zz_ca 128 [.ref 52, .ref 30, .int (nI a), .int (nI n)] (zK f g) = some (none, zK f g') ∧ (∀ x, x < 52 ∨ 54 < x → g' x = g x) ∧ (∀ t < 12, g' 53 t = lN (zwt N a n t)) ∧ g' 52 2 = lN (60 ^ n) := by
  rw [e_128, x_128_0]
  have key := z_loop (fun i (g' : Nat → Nat → Int64) => zz_ev 128 3 [.ref 52, .ref 30, .int (nI a), .int (nI n), .int (nI i)] [] (zK f g')) (fun i g' => (∀ x, x ≠ 53 → g' x = g x) ∧ ∀ t < i, g' 53 t = lN (zwt N a 0 t)) (fun x => ∃ g', x = zz_ev 128 42 [.ref 52, .ref 30, .null, .int (nI n), .int (nI 0)] [] (zK f (zz_u g' 52 2 1)) ∧ (∀ x, x ≠ 53 → g' x = g x) ∧ ∀ t < 12, g' 53 t = lN (zwt N a 0 t)) 12 ?_ ?_ 0 g (by omega) ⟨fun _ _ => rfl, fun j hj => by omega⟩
  · obtain ⟨g1, e1, k1, k2⟩ := key
    have e1 : zz_ev 128 3 [.ref 52, .ref 30, .int (nI a), .int (nI n), .int (nI 0)] [] (zK f g) = _ := e1
    rw [e1]
    have key2 := z_loop (fun i (g' : Nat → Nat → Int64) => zz_ev 128 42 [.ref 52, .ref 30, .null, .int (nI n), .int (nI i)] [] (zK f g')) (fun i g' => (∀ x, x < 52 ∨ 54 < x → g' x = g x) ∧ (∀ t < 12, g' 53 t = lN (zwt N a i t)) ∧ g' 52 2 = lN (60 ^ i)) (fun x => ∃ g', x = some (none, zK f g') ∧ (∀ x, x < 52 ∨ 54 < x → g' x = g x) ∧ (∀ t < 12, g' 53 t = lN (zwt N a n t)) ∧ g' 52 2 = lN (60 ^ n)) n ?_ ?_ 0 (zz_u g1 52 2 1) (by omega) ⟨fun x hx => by rw [zu_c (by omega)]; exact k1 x (by omega), fun t ht => by rw [zu_c (by decide)]; exact k2 t ht, zu_s⟩
    · exact key2
    · intro i g2 hi ⟨h1, h2, h3⟩
      left
      have hl : ∀ r < 12, zwt N a i r ≤ 167961600000000 := fun r hr => Nat.le_trans (zwt_le hN ha hr) (z_60p (by omega))
      obtain ⟨g3, e3, u1, u2⟩ := l_129 (f := f) (g := g2) hN hf (fun r hr => ⟨h2 r hr, hl r hr⟩)
      have m : g3 52 2 = lN (60 ^ i) := by rw [u1 52 (by decide) (by decide)]; exact h3
      refine ⟨zz_u g3 52 2 (lN (60 ^ (i + 1))), ?_, fun x hx => by rw [zu_c (by omega), u1 x (by omega) (by omega)]; exact h1 x hx, fun t ht => by rw [zu_c (by decide)]; exact u2 t ht, zu_s⟩
      rw [x_128_42]; simp (disch := first | omega | assumption) only [nI_add, pk_mul, z_in, z_ix, nI_leI, nI_ltI, nI_eq, z_eq0, z_lt0, z_0le, z_0lt, z_le0, z_n9, z_n1, z_m1lt, z_m9lt, z_m9le, z_m1le, zB_0, zB_1, zz_bi_s, zz_bv_s, zz_bl_s, if_pos, if_neg, if_true, if_false, true_and, and_true, not_true_eq_false, not_false_eq_true, ite_self, e3, x_128_53, m, lN_mul]
      rw [Nat.pow_succ]
    · intro g2 h
      refine ⟨g2, ?_, h⟩
      rw [x_128_42]; simp (disch := first | omega | assumption) only [nI_add, pk_mul, z_in, z_ix, nI_leI, nI_ltI, nI_eq, z_eq0, z_lt0, z_0le, z_0lt, z_le0, z_n9, z_n1, z_m1lt, z_m9lt, z_m9le, z_m1le, zB_0, zB_1, zz_bi_s, zz_bv_s, zz_bl_s, if_pos, if_neg, if_true, if_false, true_and, and_true, not_true_eq_false, not_false_eq_true, ite_self]
  · intro i g' hi ⟨h1, h2⟩
    left
    refine ⟨zz_u g' 53 i (lN (zwt N a 0 i)), ?_, fun x hx => by rw [zu_c hx]; exact h1 x hx, fun t ht => ?_⟩
    · rw [x_128_3]; simp (disch := first | omega | assumption) only [nI_add, pk_mul, z_in, z_ix, nI_leI, nI_ltI, nI_eq, z_eq0, z_lt0, z_0le, z_0lt, z_le0, z_n9, z_n1, z_m1lt, z_m9lt, z_m9le, z_m1le, zB_0, zB_1, zz_bi_s, zz_bv_s, zz_bl_s, if_pos, if_neg, if_true, if_false, true_and, and_true, not_true_eq_false, not_false_eq_true, ite_self, x_128_27]
      show _ = zz_ev 128 3 _ _ (zK f (zz_u g' 53 i (lN (if i = a then 1 else 0))))
      by_cases e : i = a
      · rw [if_pos e, if_pos e]; rfl
      · rw [if_neg e, if_neg e]; rfl
    · by_cases e : t = i
      · subst e; rw [zu_s]
      · rw [zu_i e]; exact h2 t (by omega)
  · intro g' h
    refine ⟨g', ?_, h⟩
    rw [x_128_3]; simp (disch := first | omega | assumption) only [nI_add, pk_mul, z_in, z_ix, nI_leI, nI_ltI, nI_eq, z_eq0, z_lt0, z_0le, z_0lt, z_le0, z_n9, z_n1, z_m1lt, z_m9lt, z_m9le, z_m1le, zB_0, zB_1, zz_bi_s, zz_bv_s, zz_bl_s, if_pos, if_neg, if_true, if_false, true_and, and_true, not_true_eq_false, not_false_eq_true, ite_self]
    rw [hw_128_42]
/-! the greatest common part -/
theorem z_lne {b : Nat} (hb : b < 2 ^ 63) (h : b ≠ 0) : ¬ lN b = 0 := by rw [show (0 : Int64) = lN 0 from rfl, pk_lEQ hb (by decide)]; exact h
theorem z_reml {a b : Nat} (ha : a < 2 ^ 63) (h0 : 0 < b) (hb : b < 2 ^ 63) : zz_reml (lN a) (lN b) = lN (a % b) := pk_lRem ha h0 hb
theorem l_132 (f : Nat → Nat → Int32) (g : Nat → Nat → Int64) : ∀ (j a b t : Nat), a < 2 ^ 63 → b < 2 ^ 63 → b < 2 ^ j → t + 2 * j + 1 ≤ 200 → (a ≠ 0 ∨ b ≠ 0) → zz_ev 132 3 [.long (lN a), .null, .long (lN b), .null, .int (nI t), .null, .null] [] (zK f g) = some (some (.long (lN (Nat.gcd a b))), zK f g)
  | 0, a, b, t, ha, hb, hj, ht, h0 => by
    have : b = 0 := by omega
    subst this
    have h1 : ¬ lN a = 0 := z_lne ha (by omega)
    rw [x_132_3]; simp (disch := first | omega | assumption) only [nI_add, pk_mul, z_in, z_ix, nI_leI, nI_ltI, nI_eq, z_eq0, z_lt0, z_0le, z_0lt, z_le0, z_n9, z_n1, z_m1lt, z_m9lt, z_m9le, z_m1le, zB_0, zB_1, zz_bi_s, zz_bv_s, zz_bl_s, if_pos, if_neg, if_true, if_false, true_and, and_true, not_true_eq_false, not_false_eq_true, ite_self, lgc_eq, show (lN 0 = 0) from rfl, x_132_33, h1]
    rw [Nat.gcd_zero_right]
  | j + 1, a, b, t, ha, hb, hj, ht, h0 => by
    by_cases e : b = 0
    · subst e
      have h1 : ¬ lN a = 0 := z_lne ha (by omega)
      rw [x_132_3]; simp (disch := first | omega | assumption) only [nI_add, pk_mul, z_in, z_ix, nI_leI, nI_ltI, nI_eq, z_eq0, z_lt0, z_0le, z_0lt, z_le0, z_n9, z_n1, z_m1lt, z_m9lt, z_m9le, z_m1le, zB_0, zB_1, zz_bi_s, zz_bv_s, zz_bl_s, if_pos, if_neg, if_true, if_false, true_and, and_true, not_true_eq_false, not_false_eq_true, ite_self, lgc_eq, show (lN 0 = 0) from rfl, x_132_33, h1]
      rw [Nat.gcd_zero_right]
    · have hb0 := z_lne hb e
      have hm := Nat.mod_lt a (Nat.pos_of_ne_zero e)
      rw [x_132_3]; simp (disch := first | omega | assumption) only [nI_add, pk_mul, z_in, z_ix, nI_leI, nI_ltI, nI_eq, z_eq0, z_lt0, z_0le, z_0lt, z_le0, z_n9, z_n1, z_m1lt, z_m9lt, z_m9le, z_m1le, zB_0, zB_1, zz_bi_s, zz_bv_s, zz_bl_s, if_pos, if_neg, if_true, if_false, true_and, and_true, not_true_eq_false, not_false_eq_true, ite_self, lgc_eq, hb0, z_reml ha (Nat.pos_of_ne_zero e) hb]
      rw [hw_132_3]
      by_cases e2 : a % b = 0
      · have h1 : ¬ lN b = 0 := hb0
        rw [e2, x_132_3]; simp (disch := first | omega | assumption) only [nI_add, pk_mul, z_in, z_ix, nI_leI, nI_ltI, nI_eq, z_eq0, z_lt0, z_0le, z_0lt, z_le0, z_n9, z_n1, z_m1lt, z_m9lt, z_m9le, z_m1le, zB_0, zB_1, zz_bi_s, zz_bv_s, zz_bl_s, if_pos, if_neg, if_true, if_false, true_and, and_true, not_true_eq_false, not_false_eq_true, ite_self, lgc_eq, show (lN 0 = 0) from rfl, x_132_33, h1]
        rw [Nat.gcd_comm, Nat.gcd_rec, e2, Nat.gcd_zero_left]
      · have hc0 := z_lne (show a % b < 2 ^ 63 by omega) e2
        have hm2 := Nat.mod_lt b (Nat.pos_of_ne_zero e2)
        rw [x_132_3]; simp (disch := first | omega | assumption) only [nI_add, pk_mul, z_in, z_ix, nI_leI, nI_ltI, nI_eq, z_eq0, z_lt0, z_0le, z_0lt, z_le0, z_n9, z_n1, z_m1lt, z_m9lt, z_m9le, z_m1le, zB_0, zB_1, zz_bi_s, zz_bv_s, zz_bl_s, if_pos, if_neg, if_true, if_false, true_and, and_true, not_true_eq_false, not_false_eq_true, ite_self, lgc_eq, hc0, z_reml hb (Nat.pos_of_ne_zero e2) (show a % b < 2 ^ 63 by omega)]
        rw [hw_132_3]
        have hlt : b % (a % b) < 2 ^ j := by
          rw [Nat.pow_succ] at hj
          by_cases q : a % b ≤ b / 2
          · omega
          · have hd : b / (a % b) = 1 := by
              rw [Nat.div_eq_iff (by omega)]; omega
            have := Nat.div_add_mod b (a % b)
            rw [hd] at this; omega
        rw [l_132 f g j (a % b) (b % (a % b)) (t + 1 + 1) (by omega) (by omega) hlt (by omega) (Or.inl e2)]
        rw [show Nat.gcd a b = Nat.gcd (a % b) (b % (a % b)) by rw [Nat.gcd_comm a b, Nat.gcd_rec b a, Nat.gcd_rec (a % b) b, Nat.gcd_comm]]
theorem l_230_265 (f : Nat → Nat → Int32) (g : Nat → Nat → Int64) {r : Nat} {all : Nat} (hr : r < 12) (hall : all < 2 ^ 63) : ∀ (x y : Nat), x < 2 ^ 63 → y < 2 ^ 63 → (x ≠ 0 ∨ y ≠ 0) → zz_ev 230 265 [.ref 112, .null, .int (nI r), .null, .long (lN all), .null, .long (lN x), .null, .long (lN y), .null, .null, .null] [] (zK f g) = some (some (.int (nI 1)), zK f (zz_u (zz_u g 112 10 (g 126 r / lN (Nat.gcd x y))) 112 11 (lN all / lN (Nat.gcd x y)))) := by
  intro x y
  induction y using Nat.strongRecOn generalizing x with
  | ind y ih =>
    intro hx hy h0
    by_cases e : y = 0
    · subst e
      have h1 : ¬ lN x = 0 := z_lne hx (by omega)
      rw [x_230_265]; simp (disch := first | omega | assumption) only [nI_add, pk_mul, z_in, z_ix, nI_leI, nI_ltI, nI_eq, z_eq0, z_lt0, z_0le, z_0lt, z_le0, z_n9, z_n1, z_m1lt, z_m9lt, z_m9le, z_m1le, zB_0, zB_1, zz_bi_s, zz_bv_s, zz_bl_s, if_pos, if_neg, if_true, if_false, true_and, and_true, not_true_eq_false, not_false_eq_true, ite_self, lgc_eq, show (lN 0 = 0) from rfl, h1]
      rw [Nat.gcd_zero_right]
    · have hb0 := z_lne hy e
      have hm := Nat.mod_lt x (Nat.pos_of_ne_zero e)
      rw [x_230_265]; simp (disch := first | omega | assumption) only [nI_add, pk_mul, z_in, z_ix, nI_leI, nI_ltI, nI_eq, z_eq0, z_lt0, z_0le, z_0lt, z_le0, z_n9, z_n1, z_m1lt, z_m9lt, z_m9le, z_m1le, zB_0, zB_1, zz_bi_s, zz_bv_s, zz_bl_s, if_pos, if_neg, if_true, if_false, true_and, and_true, not_true_eq_false, not_false_eq_true, ite_self, lgc_eq, hb0, z_reml hx (Nat.pos_of_ne_zero e) hy]
      rw [hw_230_265, ih (x % y) hm y hy (by omega) (Or.inl e)]
      rw [show Nat.gcd x y = Nat.gcd y (x % y) by rw [Nat.gcd_comm x y, Nat.gcd_rec y x, Nat.gcd_comm]]
