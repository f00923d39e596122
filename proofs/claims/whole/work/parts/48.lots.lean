/-! LOTS -/
theorem zpc_up {N a b : Nat} (h : a ≤ b) : zpc a N ≤ zpc b N := by
  induction h with
  | refl => exact Nat.le_refl _
  | step _ ih => exact Nat.le_trans ih (Nat.le_add_right _ _)
theorem zpc_nth {N j : Nat} : ∀ {n : Nat}, j < zpc n N → ∃ k, k < n ∧ N.testBit k = true ∧ zpc k N = j
  | 0, h => absurd h (Nat.not_lt_zero _)
  | n + 1, h => by
    have h : j < zpc n N + (N.testBit n).toNat := h
    by_cases q : j < zpc n N
    · obtain ⟨k, hk, r⟩ := zpc_nth q; exact ⟨k, by omega, r⟩
    · have t1 : true.toNat = 1 := rfl
      have t0 : false.toNat = 0 := rfl
      cases e : N.testBit n with
      | true => rw [e] at h; exact ⟨n, by omega, e, by omega⟩
      | false => rw [e] at h; omega
theorem zpc_0 {N : Nat} : ∀ {n : Nat}, zpc n N = 0 → ∀ i < n, N.testBit i = false
  | 0, _, i, hi => absurd hi (Nat.not_lt_zero _)
  | n + 1, h, i, hi => by
    have h : zpc n N + (N.testBit n).toNat = 0 := h
    by_cases e : i = n
    · subst e
      have t1 : true.toNat = 1 := rfl
      cases q : N.testBit i with
      | false => rfl
      | true => rw [q] at h; omega
    · exact zpc_0 (n := n) (by omega) i (by omega)
theorem zpc_pos {N : Nat} (hN : N < 4096) (h : N ≠ 0) : 0 < zpc 12 N := by
  by_cases q : zpc 12 N = 0
  · exact absurd (z_ext (n := 12) hN (by decide) (fun i hi => by rw [zpc_0 q i hi, Nat.zero_testBit])) h
  · omega
theorem zpc_s (n N : Nat) : zpc (n + 1) N = zpc n N + (N.testBit n).toNat := rfl
/-- the room with so many ahead of it -/
def zth (N j : Nat) : Nat := (zff (fun k => decide (N.testBit k = true ∧ zpc k N = j)) 12 0).getD 0
theorem zth_lt (N j : Nat) : zth N j < 12 := by
  unfold zth
  cases h : zff (fun k => decide (N.testBit k = true ∧ zpc k N = j)) 12 0 with
  | none => exact by decide
  | some k => have := zff_some h; show k < 12; omega
theorem zth_ok {N j : Nat} (h : j < zpc 12 N) : N.testBit (zth N j) = true ∧ zpc (zth N j) N = j := by
  unfold zth
  cases e : zff (fun k => decide (N.testBit k = true ∧ zpc k N = j)) 12 0 with
  | none =>
    obtain ⟨k, hk, r⟩ := zpc_nth h
    have := zff_none e k (by omega) (by omega)
    rw [decide_eq_true r] at this; cases this
  | some k => exact of_decide_eq_true (zff_some e).2.2
theorem l_135n (f : Nat → Nat → Int32) (g : Nat → Nat → Int64) {N a : Nat} (hN : N < 4096) (h : zpc 12 N = 0) : zz_ca 135 [.int (nI N), .long (lN a)] (zK f g) = some (some (.int (-9)), zK f g) := by
  rw [e_135, x_135_0, l_61 f g hN, zz_bi_s, x_135_4, h, if_pos (show nI 0 = 0 from rfl)]
theorem l_135 (f : Nat → Nat → Int32) (g : Nat → Nat → Int64) {N a k : Nat} (hN : N < 4096) (ha : a < 2 ^ 63) (hk : k < 12) (hb : N.testBit k = true) (hz : zpc k N = a % zpc 12 N) : zz_ca 135 [.int (nI N), .long (lN a)] (zK f g) = some (some (.int (nI k)), zK f g) := by
  have h12 := zpc_le 12 N
  have hm : 0 < zpc 12 N := by
    have h1 := zpc_up (N := N) (show k + 1 ≤ 12 by omega)
    rw [zpc_s, hb] at h1
    have t1 : true.toNat = 1 := rfl
    omega
  have hne : ¬ lN (zpc 12 N) = 0 := z_lne (by omega) (by omega)
  have hne2 : ¬ nI (zpc 12 N) = 0 := by rw [z_eq0 (by omega)]; omega
  have e0 : zpc k N = zpc k N - zpc 0 N := by show _ = zpc k N - 0; omega
  rw [e_135, x_135_0, l_61 f g hN, zz_bi_s, x_135_4, if_neg hne2, nI_l (by omega), if_neg hne, z_reml ha hm (by omega), ← hz, hw_135_21]
  rw [show lN (zpc k N) = lN (zpc k N - zpc 0 N) from congrArg lN e0]
  refine (z_lp (fun i => zz_ev 135 21 [.int (nI N), .null, .null, .null, .long (lN (zpc k N - zpc i N)), .null, .int (nI i)] [] (zK f g)) k (fun i hi => ?_) 0 (by omega)).trans ?_
  · show zz_ev 135 21 _ _ _ = zz_ev 135 21 _ _ _
    have mono := zpc_up (N := N) (show i + 1 ≤ k by omega)
    have hk12 := zpc_le k N
    have t1 : true.toNat = 1 := rfl
    rw [x_135_21]
    cases q : N.testBit i with
    | false =>
      simp (disch := first | omega | assumption) only [nI_add, pk_mul, z_in, z_ix, nI_leI, nI_ltI, nI_eq, z_eq0, z_lt0, z_0le, z_0lt, z_le0, z_n9, z_n1, z_m1lt, z_m9lt, z_m9le, z_m1le, zB_0, zB_1, zz_bi_s, zz_bv_s, zz_bl_s, if_pos, if_neg, if_true, if_false, true_and, and_true, not_true_eq_false, not_false_eq_true, ite_self, l_38, q, x_135_34, Bool.false_eq_true, x_135_53]
      rw [zpc_s, q]; rfl
    | true =>
      rw [zpc_s, q] at mono
      have hne' : ¬ lN (zpc k N - zpc i N) = 0 := z_lne (by omega) (by omega)
      simp (disch := first | omega | assumption) only [nI_add, pk_mul, z_in, z_ix, nI_leI, nI_ltI, nI_eq, z_eq0, z_lt0, z_0le, z_0lt, z_le0, z_n9, z_n1, z_m1lt, z_m9lt, z_m9le, z_m1le, zB_0, zB_1, zz_bi_s, zz_bv_s, zz_bl_s, if_pos, if_neg, if_true, if_false, true_and, and_true, not_true_eq_false, not_false_eq_true, ite_self, l_38, q, x_135_34, lgc_eq, hne', x_135_53]
      rw [show (1 : Int64) = lN 1 from rfl, lN_sub (by omega), zpc_s, q, show zpc k N - zpc i N - 1 = zpc k N - (zpc i N + true.toNat) by omega]
  · show zz_ev 135 21 _ _ _ = _
    rw [x_135_21, Nat.sub_self]; simp (disch := first | omega | assumption) only [nI_add, pk_mul, z_in, z_ix, nI_leI, nI_ltI, nI_eq, z_eq0, z_lt0, z_0le, z_0lt, z_le0, z_n9, z_n1, z_m1lt, z_m9lt, z_m9le, z_m1le, zB_0, zB_1, zz_bi_s, zz_bv_s, zz_bl_s, if_pos, if_neg, if_true, if_false, true_and, and_true, not_true_eq_false, not_false_eq_true, ite_self, l_38, hb, x_135_34, lgc_eq, show (lN 0 = 0) from rfl]
theorem l_232 (f : Nat → Nat → Int32) (g : Nat → Nat → Int64) {N k : Nat} (hN : N < 4096) (hk : k < 12) (hb : N.testBit k = true) : zz_ca 232 [.int (nI N), .int (nI (zpc k N))] (zK f g) = some (some (.int (nI k)), zK f g) := by
  have e0 : zpc k N = zpc k N - zpc 0 N := by show _ = zpc k N - 0; omega
  have hk12 := zpc_le k N
  rw [e_232, x_232_0, hi_232_4]
  rw [show nI (zpc k N) = nI (zpc k N - zpc 0 N) from congrArg nI e0]
  refine (z_lp (fun i => zz_ev 232 4 [.int (nI N), .null, .int (nI (zpc k N - zpc i N)), .int (nI i)] [] (zK f g)) k (fun i hi => ?_) 0 (by omega)).trans ?_
  · show zz_ev 232 4 _ _ _ = zz_ev 232 4 _ _ _
    have mono := zpc_up (N := N) (show i + 1 ≤ k by omega)
    rw [zpc_s] at mono
    have e16 : zz_ev 232 16 [.int (nI N), .null, .int (nI (zpc k N - zpc i N)), .int (nI i)] [] (zK f g) = zz_ev 232 4 [.int (nI N), .null, .int (nI (zpc k N - zpc (i + 1) N)), .int (nI (i + 1))] [] (zK f g) := by
      rw [x_232_16, z_bit (by omega) (by omega), pk_sub (by omega), nI_add, zpc_s, Nat.sub_sub]
    rw [x_232_4]
    cases q : N.testBit i with
    | false => simp (disch := first | omega | assumption) only [nI_add, pk_mul, z_in, z_ix, nI_leI, nI_ltI, nI_eq, z_eq0, z_lt0, z_0le, z_0lt, z_le0, z_n9, z_n1, z_m1lt, z_m9lt, z_m9le, z_m1le, zB_0, zB_1, zz_bi_s, zz_bv_s, zz_bl_s, if_pos, if_neg, if_true, if_false, true_and, and_true, not_true_eq_false, not_false_eq_true, ite_self, l_171, q, x_232_9, Bool.false_eq_true, e16]
    | true =>
      have t1 : true.toNat = 1 := rfl
      rw [q] at mono
      simp (disch := first | omega | assumption) only [nI_add, pk_mul, z_in, z_ix, nI_leI, nI_ltI, nI_eq, z_eq0, z_lt0, z_0le, z_0lt, z_le0, z_n9, z_n1, z_m1lt, z_m9lt, z_m9le, z_m1le, zB_0, zB_1, zz_bi_s, zz_bv_s, zz_bl_s, if_pos, if_neg, if_true, if_false, true_and, and_true, not_true_eq_false, not_false_eq_true, ite_self, l_171, q, x_232_9, e16]
  · show zz_ev 232 4 _ _ _ = _
    rw [x_232_4, Nat.sub_self]; simp (disch := first | omega | assumption) only [nI_add, pk_mul, z_in, z_ix, nI_leI, nI_ltI, nI_eq, z_eq0, z_lt0, z_0le, z_0lt, z_le0, z_n9, z_n1, z_m1lt, z_m9lt, z_m9le, z_m1le, zB_0, zB_1, zz_bi_s, zz_bv_s, zz_bl_s, if_pos, if_neg, if_true, if_false, true_and, and_true, not_true_eq_false, not_false_eq_true, ite_self, l_171, hb, x_232_9]
/-! one lot -/
def zln (l : Nat) : Nat := l * 48271 % 2147483647
def zlw (A : zA) (l : Nat) : Nat := l % wP (aW A)
def zlN (A : zA) (l : Nat) : Nat := zgo A (zlw A l) (qR (hC (aH A)) (zlw A l))
def aLot (A : zA) (l : Nat) : zA := if zlN A l = 0 then aHr A else aStp A (zlw A l) (zth (zlN A l) (l / 16 % zpc 12 (zlN A l)))
theorem aLot_wf {A : zA} (hw : wf A) {l : Nat} (hD40 : hD (aH A) < 40) : wf (aLot A l) := by
  unfold aLot; split
  · exact wf_hr hw hD40
  · exact wf_stp hw (zth_lt _ _) hD40
theorem aLot_D {A : zA} {l : Nat} : hD (aH (aLot A l)) = hD (aH A) + 1 := by
  unfold aLot; split <;> rfl
theorem aLot_W {A : zA} {l : Nat} : aW (aLot A l) = aW A := by
  unfold aLot; split <;> rfl
theorem l_134s {A : zA} (hw : wf A) {f : Nat → Nat → Int32} {g : Nat → Nat → Int64} (h : CX A f g) {n i l : Nat} (hin : i < n) (hn : n ≤ 20) (hP0 : 0 < wP (aW A)) (hD40 : hD (aH A) < 40) (hl : l < 2147483647) : ∃ f', zz_ev 134 6 [.ref 3, .int (nI n), .null, .long (lN l), .null, .int (nI i), .null, .null] [] (zK f g) = zz_ev 134 6 [.ref 3, .int (nI n), .null, .long (lN (zln l)), .null, .int (nI (i + 1)), .null, .null] [] (zK f' g) ∧ CX (aLot A (zln l)) f' g ∧ zHi f f' g g := by
  have hP6 := wfP hw
  have hq : zln l < 2147483647 := Nat.mod_lt _ (by decide)
  have hp : zlw A (zln l) < wP (aW A) := Nat.mod_lt _ hP0
  have e1 : zz_reml (lN l * lN 48271) (lN 2147483647) = lN (zln l) := by rw [lN_mul, z_reml (by omega) (by decide) (by decide)]; rfl
  have e2 : zz_reml (lN (zln l)) (lN (wP (aW A))) = lN (zlw A (zln l)) := z_reml (by omega) hP0 (by omega)
  have n1 : ¬ lN 2147483647 = 0 := z_lne (by decide) (by decide)
  have n2 : ¬ lN (wP (aW A)) = 0 := z_lne (by omega) (by omega)
  have n3 : ¬ lN 16 = 0 := z_lne (by decide) (by decide)
  have e3 : lN (zln l) / lN 16 = lN (zln l / 16) := pk_lDiv (by omega) (by decide) (by decide)
  have m0 := cxP h
  have hN : zlN A (zln l) < 4096 := zgo_lt hw _ _
  have c48 : zz_ca 48 [.ref 3, .int (nI (zlw A (zln l)))] (zK f g) = some (some (.int (nI (zlN A (zln l)))), zK f g) := l_48 hw h hp
  have hP2 : wP (aW A) < 2 ^ 31 := by omega
  have m1 : (nI (wP (aW A))).toInt64 = lN (wP (aW A)) := nI_l hP2
  by_cases q : zlN A (zln l) = 0
  · have c := l_135n f g (a := zln l / 16) hN (by rw [q]; rfl)
    obtain ⟨f', r1, r2, r3⟩ := l_72 hw h hD40
    refine ⟨f', ?_, by unfold aLot; rw [if_pos q]; exact r2, r3⟩
    rw [x_134_6, m0]; simp (disch := first | omega | assumption) only [nI_add, pk_mul, z_in, z_ix, nI_leI, nI_ltI, nI_eq, z_eq0, z_lt0, z_0le, z_0lt, z_le0, z_n9, z_n1, z_m1lt, z_m9lt, z_m9le, z_m1le, zB_0, zB_1, zz_bi_s, zz_bv_s, zz_bl_s, if_pos, if_neg, if_true, if_false, true_and, and_true, not_true_eq_false, not_false_eq_true, ite_self, m1, n1, n2, e1, e2, lN_i, c48, x_134_45, n3, e3, c, x_134_53, r1, x_134_66, x_134_78]
    rw [hw_134_6]
  · have hm := zpc_pos hN q
    have hj : zln l / 16 % zpc 12 (zlN A (zln l)) < zpc 12 (zlN A (zln l)) := Nat.mod_lt _ hm
    have hk := zth_lt (zlN A (zln l)) (zln l / 16 % zpc 12 (zlN A (zln l)))
    have ok := zth_ok hj
    have c := l_135 f g (a := zln l / 16) hN (by omega) hk ok.1 ok.2
    obtain ⟨f', r1, r2, r3⟩ := l_69 hw h hp hk hD40
    refine ⟨f', ?_, by unfold aLot; rw [if_neg q]; exact r2, r3⟩
    rw [x_134_6, m0]; simp (disch := first | omega | assumption) only [nI_add, pk_mul, z_in, z_ix, nI_leI, nI_ltI, nI_eq, z_eq0, z_lt0, z_0le, z_0lt, z_le0, z_n9, z_n1, z_m1lt, z_m9lt, z_m9le, z_m1le, zB_0, zB_1, zz_bi_s, zz_bv_s, zz_bl_s, if_pos, if_neg, if_true, if_false, true_and, and_true, not_true_eq_false, not_false_eq_true, ite_self, m1, n1, n2, e1, e2, lN_i, c48, x_134_45, n3, e3, c, x_134_53, r1, x_134_78]
    rw [hw_134_6]
theorem l_231s {A : zA} (hw : wf A) {f : Nat → Nat → Int32} {g : Nat → Nat → Int64} (h : CM A f g) {n i l : Nat} (hin : i < n) (hn : n ≤ 20) (hP0 : 0 < wP (aW A)) (hD40 : hD (aH A) < 40) (hl : l < 2147483647) : ∃ f', zz_ev 231 58 [.ref 112, .int (nI n), .null, .long (lN l), .null, .int (nI i), .null, .null] [] (zK f g) = zz_ev 231 58 [.ref 112, .int (nI n), .null, .long (lN (zln l)), .null, .int (nI (i + 1)), .null, .null] [] (zK f' g) ∧ CM (aLot A (zln l)) f' g ∧ zLo f f' g g := by
  have hP6 := wfP hw
  have hq : zln l < 2147483647 := Nat.mod_lt _ (by decide)
  have hp : zlw A (zln l) < wP (aW A) := Nat.mod_lt _ hP0
  have hrp := wfr hw hp
  have e1 : zz_reml (lN l * lN 48271) (lN 2147483647) = lN (zln l) := by rw [lN_mul, z_reml (by omega) (by decide) (by decide)]; rfl
  have e2 : zz_reml (lN (zln l)) (lN (wP (aW A))) = lN (zlw A (zln l)) := z_reml (by omega) hP0 (by omega)
  have n1 : ¬ lN 2147483647 = 0 := z_lne (by decide) (by decide)
  have n2 : ¬ lN (wP (aW A)) = 0 := z_lne (by omega) (by omega)
  have n3 : ¬ lN 16 = 0 := z_lne (by decide) (by decide)
  have e3 : lN (zln l) / lN 16 = lN (zln l / 16) := pk_lDiv (by omega) (by decide) (by decide)
  have m0 := cmP h
  have m3 := cmr h hp
  have hN : zlN A (zln l) < 4096 := zgo_lt hw _ _
  have c178 : zz_ca 178 [.ref 112, .int (nI (zlw A (zln l))), .int (nI (qR (hC (aH A)) (zlw A (zln l))))] (zK f g) = some (some (.int (nI (zlN A (zln l)))), zK f g) := l_178 hw.2.2.1 (CM_V hw h) hp hrp
  have hP2 : wP (aW A) < 2 ^ 31 := by omega
  have m1 : (nI (wP (aW A))).toInt64 = lN (wP (aW A)) := nI_l hP2
  by_cases q : zlN A (zln l) = 0
  · obtain ⟨f', r1, r2, r3⟩ := l_197 hw h hD40
    refine ⟨f', ?_, by unfold aLot; rw [if_pos q]; exact r2, r3⟩
    rw [x_231_58, m0]; simp (disch := first | omega | assumption) only [nI_add, pk_mul, z_in, z_ix, nI_leI, nI_ltI, nI_eq, z_eq0, z_lt0, z_0le, z_0lt, z_le0, z_n9, z_n1, z_m1lt, z_m9lt, z_m9le, z_m1le, zB_0, zB_1, zz_bi_s, zz_bv_s, zz_bl_s, if_pos, if_neg, if_true, if_false, true_and, and_true, not_true_eq_false, not_false_eq_true, ite_self, m1, n1, n2, e1, e2, lN_i, m3, c178, x_231_99, r1, x_231_110, x_231_138]
    rw [hw_231_58]
  · have hm := zpc_pos hN q
    have h12 := zpc_le 12 (zlN A (zln l))
    have hj : zln l / 16 % zpc 12 (zlN A (zln l)) < zpc 12 (zlN A (zln l)) := Nat.mod_lt _ hm
    have hk := zth_lt (zlN A (zln l)) (zln l / 16 % zpc 12 (zlN A (zln l)))
    have ok := zth_ok hj
    have c := l_232 f g hN hk ok.1
    rw [ok.2] at c
    have n4 : ¬ lN (zpc 12 (zlN A (zln l))) = 0 := z_lne (by omega) (by omega)
    have m4 : (nI (zpc 12 (zlN A (zln l)))).toInt64 = lN (zpc 12 (zlN A (zln l))) := nI_l (by omega)
    have e4 : zz_reml (lN (zln l / 16)) (lN (zpc 12 (zlN A (zln l)))) = lN (zln l / 16 % zpc 12 (zlN A (zln l))) := z_reml (by omega) hm (by omega)
    have c191 := l_191 f g hN
    obtain ⟨f', r1, r2, r3⟩ := l_194 hw h hp hk hD40
    refine ⟨f', ?_, by unfold aLot; rw [if_neg q]; exact r2, r3⟩
    rw [x_231_58, m0]; simp (disch := first | omega | assumption) only [nI_add, pk_mul, z_in, z_ix, nI_leI, nI_ltI, nI_eq, z_eq0, z_lt0, z_0le, z_0lt, z_le0, z_n9, z_n1, z_m1lt, z_m9lt, z_m9le, z_m1le, zB_0, zB_1, zz_bi_s, zz_bv_s, zz_bl_s, if_pos, if_neg, if_true, if_false, true_and, and_true, not_true_eq_false, not_false_eq_true, ite_self, m1, n1, n2, e1, e2, lN_i, m3, c178, x_231_99, n3, c191, e3, x_231_129, m4, n4, e4, c, x_231_135, r1, x_231_138]
    rw [hw_231_58]
/-! all of them -/
def zlA (A : zA) (l : Nat) : Nat → zA × Nat
  | 0 => (A, l)
  | n + 1 => (aLot (zlA A l n).1 (zln (zlA A l n).2), zln (zlA A l n).2)
theorem zlA_ok {A : zA} (hw : wf A) {l : Nat} (hl : l < 2147483647) : ∀ n, hD (aH A) + n ≤ 40 → wf (zlA A l n).1 ∧ hD (aH (zlA A l n).1) = hD (aH A) + n ∧ aW (zlA A l n).1 = aW A ∧ (zlA A l n).2 < 2147483647
  | 0, _ => ⟨hw, rfl, rfl, hl⟩
  | n + 1, h => by
    obtain ⟨a, b, c, d⟩ := zlA_ok hw hl n (by omega)
    refine ⟨aLot_wf a (by omega), aLot_D.trans (by omega), aLot_W.trans c, Nat.mod_lt _ (by decide)⟩
theorem l_134 {A : zA} (hw : wf A) {f : Nat → Nat → Int32} {g : Nat → Nat → Int64} (h : CX A f g) {n l : Nat} (hn : n ≤ 20) (hP0 : 0 < wP (aW A)) (hD40 : hD (aH A) + n ≤ 40) (hl : l < 2147483647) : ∃ f', zz_ca 134 [.ref 3, .int (nI n), .int (nI l)] (zK f g) = some (none, zK f' g) ∧ CX (zlA A l n).1 f' g ∧ zHi f f' g g := by
  rw [e_134, x_134_0, nI_l (by omega), hw_134_6]
  refine z_loop (fun i (f' : Nat → Nat → Int32) => zz_ev 134 6 [.ref 3, .int (nI n), .null, .long (lN (zlA A l i).2), .null, .int (nI i), .null, .null] [] (zK f' g)) (fun i f' => CX (zlA A l i).1 f' g ∧ zHi f f' g g) (fun x => ∃ f', x = some (none, zK f' g) ∧ CX (zlA A l n).1 f' g ∧ zHi f f' g g) n ?_ ?_ 0 f (by omega) ⟨h, zHi_r⟩
  · intro i f1 hi ⟨k1, k2⟩
    left
    have ok := zlA_ok hw hl i (by omega)
    obtain ⟨f2, r1, r2, r3⟩ := l_134s ok.1 k1 hi hn (by rw [ok.2.2.1]; exact hP0) (by omega) ok.2.2.2
    exact ⟨f2, r1, r2, zHi_t k2 r3⟩
  · intro f1 ⟨k1, k2⟩
    refine ⟨f1, ?_, k1, k2⟩
    rw [x_134_6]; simp (disch := first | omega | assumption) only [nI_add, pk_mul, z_in, z_ix, nI_leI, nI_ltI, nI_eq, z_eq0, z_lt0, z_0le, z_0lt, z_le0, z_n9, z_n1, z_m1lt, z_m9lt, z_m9le, z_m1le, zB_0, zB_1, zz_bi_s, zz_bv_s, zz_bl_s, if_pos, if_neg, if_true, if_false, true_and, and_true, not_true_eq_false, not_false_eq_true, ite_self]
theorem l_231 {A : zA} (hw : wf A) {f : Nat → Nat → Int32} {g : Nat → Nat → Int64} (h : CM A f g) {n l : Nat} (hn : n ≤ 20) (hP0 : 0 < wP (aW A)) (hD40 : hD (aH A) + n ≤ 40) (hl : l < 2147483647) : ∃ f', zz_ev 231 58 [.ref 112, .int (nI n), .null, .long (lN l), .null, .int (nI 0), .null, .null] [] (zK f g) = some (some (.int (nI (zci (zlA A l n).1 0))), zK f' g) ∧ CM (zlA A l n).1 f' g ∧ zLo f f' g g := by
  refine z_loop (fun i (f' : Nat → Nat → Int32) => zz_ev 231 58 [.ref 112, .int (nI n), .null, .long (lN (zlA A l i).2), .null, .int (nI i), .null, .null] [] (zK f' g)) (fun i f' => CM (zlA A l i).1 f' g ∧ zLo f f' g g) (fun x => ∃ f', x = some (some (.int (nI (zci (zlA A l n).1 0))), zK f' g) ∧ CM (zlA A l n).1 f' g ∧ zLo f f' g g) n ?_ ?_ 0 f (by omega) ⟨h, zLo_r⟩
  · intro i f1 hi ⟨k1, k2⟩
    left
    have ok := zlA_ok hw hl i (by omega)
    obtain ⟨f2, r1, r2, r3⟩ := l_231s ok.1 k1 hi hn (by rw [ok.2.2.1]; exact hP0) (by omega) ok.2.2.2
    exact ⟨f2, r1, r2, zLo_t k2 r3⟩
  · intro f1 ⟨k1, k2⟩
    refine ⟨f1, ?_, k1, k2⟩
    have ok := zlA_ok hw hl n (by omega)
    generalize (zlA A l n).1 = B at k1 ok ⊢
    have hwB := ok.1
    have hP6 := wfP hwB
    rw [x_231_58]; simp (disch := first | omega | assumption) only [nI_add, pk_mul, z_in, z_ix, nI_leI, nI_ltI, nI_eq, z_eq0, z_lt0, z_0le, z_0lt, z_le0, z_n9, z_n1, z_m1lt, z_m9lt, z_m9le, z_m1le, zB_0, zB_1, zz_bi_s, zz_bv_s, zz_bl_s, if_pos, if_neg, if_true, if_false, true_and, and_true, not_true_eq_false, not_false_eq_true, ite_self]
    rw [hw_231_150]
    refine (z_lp (fun i => zz_ev 231 150 [.ref 112, .null, .null, .null, .null, .int (nI (zct (fun q => decide (qR (hC (aH B)) q = 0)) i)), .int (nI i), .null] [] (zK f1 g)) (wP (aW B)) (fun i hi => ?_) 0 (by omega)).trans ?_
    · have hri := wfr hwB hi
      have m0 := cmP k1
      have m3 := cmr k1 hi
      show zz_ev 231 150 _ _ _ = zz_ev 231 150 _ _ _
      rw [x_231_150]; simp (disch := first | omega | assumption) only [nI_add, pk_mul, z_in, z_ix, nI_leI, nI_ltI, nI_eq, z_eq0, z_lt0, z_0le, z_0lt, z_le0, z_n9, z_n1, z_m1lt, z_m9lt, z_m9le, z_m1le, zB_0, zB_1, zz_bi_s, zz_bv_s, zz_bl_s, if_pos, if_neg, if_true, if_false, true_and, and_true, not_true_eq_false, not_false_eq_true, ite_self, m0, m3, x_231_178]
      rw [show zct (fun q => decide (qR (hC (aH B)) q = 0)) (i + 1) = zct (fun q => decide (qR (hC (aH B)) q = 0)) i + (decide (qR (hC (aH B)) i = 0)).toNat from rfl]
      by_cases e : qR (hC (aH B)) i = 0
      · rw [if_pos e, b2n_t (decide_eq_true e)]
      · rw [if_neg e, b2n_f (by simpa using e)]
    · have m0 := cmP k1
      show zz_ev 231 150 _ _ _ = _
      rw [x_231_150]; simp (disch := first | omega | assumption) only [nI_add, pk_mul, z_in, z_ix, nI_leI, nI_ltI, nI_eq, z_eq0, z_lt0, z_0le, z_0lt, z_le0, z_n9, z_n1, z_m1lt, z_m9lt, z_m9le, z_m1le, zB_0, zB_1, zz_bi_s, zz_bv_s, zz_bl_s, if_pos, if_neg, if_true, if_false, true_and, and_true, not_true_eq_false, not_false_eq_true, ite_self, m0]; rfl
theorem l_150r (f : Nat → Nat → Int32) (g : Nat → Nat → Int64) (v : Int32) {n : Nat} (hn : n < 2 ^ 31) : zz_ca 150 [.long v.toInt64, .long 1, .long (lN n)] (zK f g) = some (some (.int (zB (1 ≤ v.toInt ∧ v.toInt ≤ (n : Int)))), zK f g) := by
  rw [l_150]
  refine congrArg (fun x => some (some (Value.int x), zK f g)) (zB_c ?_)
  rw [Int64.le_iff_toInt_le, Int64.le_iff_toInt_le, Int32.toInt_toInt64, lN_toInt hn]; rfl
theorem sim_lots (A : zA) (hw : wf A) (v1 v2 : Int32) : zSim A 133 231 [.int v1, .int v2] := by
  have hP6 := wfP hw
  have hD40 := wfD hw
  have t : ∀ (v : Int32) (n : Nat), n < 2 ^ 31 → ¬ (1 ≤ v.toInt ∧ v.toInt ≤ (n : Int)) → v < nI 1 ∨ (¬ v < nI 1 ∧ nI n < v) := fun v n hn h => by
    rw [Int32.lt_iff_toInt_lt, Int32.lt_iff_toInt_lt, nI_toInt hn, nI_toInt (by decide)]; omega
  by_cases h1 : 1 ≤ v1.toInt ∧ v1.toInt ≤ ((20 : Nat) : Int)
  · obtain ⟨n, hn, -, rfl⟩ := z_inx.mp (show zz_in v1 21 from ⟨by omega, by omega⟩)
    have hn1 : 1 ≤ n := by have := h1.1; rw [nI_toInt (by omega)] at this; omega
    have c1 : ∀ f g, zz_ca 150 [.long (nI n).toInt64, .long 1, .long (lN 20)] (zK f g) = some (some (.int (nI 1)), zK f g) := fun f g => by rw [l_150r f g _ (by decide), zB_t h1]
    by_cases h2 : 1 ≤ v2.toInt ∧ v2.toInt ≤ ((2147483646 : Nat) : Int)
    · obtain ⟨l, hl, -, rfl⟩ := z_inx.mp (show zz_in v2 2147483647 from ⟨by omega, by omega⟩)
      have hl1 : 1 ≤ l := by have := h2.1; rw [nI_toInt (by omega)] at this; omega
      have c2 : ∀ f g, zz_ca 150 [.long (nI l).toInt64, .long 1, .long (lN 2147483646)] (zK f g) = some (some (.int (nI 1)), zK f g) := fun f g => by rw [l_150r f g _ (by decide), zB_t h2]
      by_cases h0 : wP (aW A) = 0
      · exact sim_0 hw (.int (-4)) (fun f g h => by simp (disch := first | omega | assumption) only [x_133_0, x_133_23, x_133_64, x_133_72, e_133, nI_add, pk_mul, z_in, z_ix, nI_leI, nI_ltI, nI_eq, z_eq0, z_lt0, z_0le, z_0lt, z_le0, z_n9, z_n1, z_m1lt, z_m9lt, z_m9le, z_m1le, zB_0, zB_1, zz_bi_s, zz_bv_s, zz_bl_s, if_pos, if_neg, if_true, if_false, true_and, and_true, not_true_eq_false, not_false_eq_true, ite_self, cxP h, cxS h, cxB h, cxH h, cxD h, cxk h, cxr h, cxp h, cxd h, cxt h, cxa h, cxb h]) (fun f g h => by simp (disch := first | omega | assumption) only [x_231_0, x_231_9, x_231_21, x_231_24, x_231_99, x_231_110, x_231_129, x_231_135, x_231_138, x_231_178, e_231, c1, c2, nI_add, pk_mul, z_in, z_ix, nI_leI, nI_ltI, nI_eq, z_eq0, z_lt0, z_0le, z_0lt, z_le0, z_n9, z_n1, z_m1lt, z_m9lt, z_m9le, z_m1le, zB_0, zB_1, zz_bi_s, zz_bv_s, zz_bl_s, if_pos, if_neg, if_true, if_false, true_and, and_true, not_true_eq_false, not_false_eq_true, ite_self, cmP h, cmS h, cmB h, cmH h, cmD h, cmk h, cmr h, cmp h, cmd h, cmt h, cma h, cmb h, cm0 h])
      · by_cases h3 : hD (aH A) + n ≤ 40
        · have ok := zlA_ok hw (l := l) hl n h3
          refine ⟨.int (nI (zci (zlA A l n).1 0)), (zlA A l n).1, ok.1, fun f g h => ?_, fun f g h => ?_⟩
          · obtain ⟨f', r1, r2, r3⟩ := l_134 hw h (n := n) (l := l) (by omega) (by omega) h3 hl
            refine ⟨f', g, ?_, r2, r3⟩
            have c := l_62 ok.1 r2 (room := 0) (by decide)
            simp (disch := first | omega | assumption) only [x_133_0, x_133_23, x_133_64, x_133_72, e_133, nI_add, pk_mul, z_in, z_ix, nI_leI, nI_ltI, nI_eq, z_eq0, z_lt0, z_0le, z_0lt, z_le0, z_n9, z_n1, z_m1lt, z_m9lt, z_m9le, z_m1le, zB_0, zB_1, zz_bi_s, zz_bv_s, zz_bl_s, if_pos, if_neg, if_true, if_false, true_and, and_true, not_true_eq_false, not_false_eq_true, ite_self, cxP h, cxS h, cxB h, cxH h, cxD h, cxk h, cxr h, cxp h, cxd h, cxt h, cxa h, cxb h, r1, c]
          · obtain ⟨f', r1, r2, r3⟩ := l_231 hw h (n := n) (l := l) (by omega) (by omega) h3 hl
            refine ⟨f', g, ?_, r2, r3⟩
            have e : (nI l).toInt64 = lN l := nI_l (by omega)
            simp (disch := first | omega | assumption) only [x_231_0, x_231_9, x_231_21, x_231_24, x_231_99, x_231_110, x_231_129, x_231_135, x_231_138, x_231_178, e_231, c1, c2, nI_add, pk_mul, z_in, z_ix, nI_leI, nI_ltI, nI_eq, z_eq0, z_lt0, z_0le, z_0lt, z_le0, z_n9, z_n1, z_m1lt, z_m9lt, z_m9le, z_m1le, zB_0, zB_1, zz_bi_s, zz_bv_s, zz_bl_s, if_pos, if_neg, if_true, if_false, true_and, and_true, not_true_eq_false, not_false_eq_true, ite_self, cmP h, cmS h, cmB h, cmH h, cmD h, cmk h, cmr h, cmp h, cmd h, cmt h, cma h, cmb h, cm0 h]
            rw [hw_231_58, e]; exact r1
        · exact sim_0 hw (.int (-2)) (fun f g h => by simp (disch := first | omega | assumption) only [x_133_0, x_133_23, x_133_64, x_133_72, e_133, nI_add, pk_mul, z_in, z_ix, nI_leI, nI_ltI, nI_eq, z_eq0, z_lt0, z_0le, z_0lt, z_le0, z_n9, z_n1, z_m1lt, z_m9lt, z_m9le, z_m1le, zB_0, zB_1, zz_bi_s, zz_bv_s, zz_bl_s, if_pos, if_neg, if_true, if_false, true_and, and_true, not_true_eq_false, not_false_eq_true, ite_self, cxP h, cxS h, cxB h, cxH h, cxD h, cxk h, cxr h, cxp h, cxd h, cxt h, cxa h, cxb h]) (fun f g h => by simp (disch := first | omega | assumption) only [x_231_0, x_231_9, x_231_21, x_231_24, x_231_99, x_231_110, x_231_129, x_231_135, x_231_138, x_231_178, e_231, c1, c2, nI_add, pk_mul, z_in, z_ix, nI_leI, nI_ltI, nI_eq, z_eq0, z_lt0, z_0le, z_0lt, z_le0, z_n9, z_n1, z_m1lt, z_m9lt, z_m9le, z_m1le, zB_0, zB_1, zz_bi_s, zz_bv_s, zz_bl_s, if_pos, if_neg, if_true, if_false, true_and, and_true, not_true_eq_false, not_false_eq_true, ite_self, cmP h, cmS h, cmB h, cmH h, cmD h, cmk h, cmr h, cmp h, cmd h, cmt h, cma h, cmb h, cm0 h])
    · refine sim_0 hw (.int (-1)) (fun f g h => ?_) (fun f g h => ?_)
      · rcases t v2 2147483646 (by decide) h2 with h3 | ⟨h3, h4⟩
        · simp (disch := first | omega | assumption) only [x_133_0, x_133_23, x_133_64, x_133_72, e_133, nI_add, pk_mul, z_in, z_ix, nI_leI, nI_ltI, nI_eq, z_eq0, z_lt0, z_0le, z_0lt, z_le0, z_n9, z_n1, z_m1lt, z_m9lt, z_m9le, z_m1le, zB_0, zB_1, zz_bi_s, zz_bv_s, zz_bl_s, if_pos, if_neg, if_true, if_false, true_and, and_true, not_true_eq_false, not_false_eq_true, ite_self, h3]
        · have h5 : ¬ v2 ≤ nI 2147483646 := by rw [Int32.lt_iff_toInt_lt] at h4; rw [Int32.le_iff_toInt_le]; omega
          simp (disch := first | omega | assumption) only [x_133_0, x_133_23, x_133_64, x_133_72, e_133, nI_add, pk_mul, z_in, z_ix, nI_leI, nI_ltI, nI_eq, z_eq0, z_lt0, z_0le, z_0lt, z_le0, z_n9, z_n1, z_m1lt, z_m9lt, z_m9le, z_m1le, zB_0, zB_1, zz_bi_s, zz_bv_s, zz_bl_s, if_pos, if_neg, if_true, if_false, true_and, and_true, not_true_eq_false, not_false_eq_true, ite_self, h3, h5]
      · have c2 : zz_ca 150 [.long v2.toInt64, .long 1, .long (lN 2147483646)] (zK f g) = some (some (.int (nI 0)), zK f g) := by rw [l_150r f g _ (by decide), zB_f h2]
        simp (disch := first | omega | assumption) only [x_231_0, x_231_9, x_231_21, x_231_24, x_231_99, x_231_110, x_231_129, x_231_135, x_231_138, x_231_178, e_231, c1, c2, nI_add, pk_mul, z_in, z_ix, nI_leI, nI_ltI, nI_eq, z_eq0, z_lt0, z_0le, z_0lt, z_le0, z_n9, z_n1, z_m1lt, z_m9lt, z_m9le, z_m1le, zB_0, zB_1, zz_bi_s, zz_bv_s, zz_bl_s, if_pos, if_neg, if_true, if_false, true_and, and_true, not_true_eq_false, not_false_eq_true, ite_self]
  · refine sim_0 hw (.int (-1)) (fun f g h => ?_) (fun f g h => ?_)
    · rcases t v1 20 (by decide) h1 with h3 | ⟨h3, h4⟩
      · simp (disch := first | omega | assumption) only [x_133_0, x_133_23, x_133_64, x_133_72, e_133, nI_add, pk_mul, z_in, z_ix, nI_leI, nI_ltI, nI_eq, z_eq0, z_lt0, z_0le, z_0lt, z_le0, z_n9, z_n1, z_m1lt, z_m9lt, z_m9le, z_m1le, zB_0, zB_1, zz_bi_s, zz_bv_s, zz_bl_s, if_pos, if_neg, if_true, if_false, true_and, and_true, not_true_eq_false, not_false_eq_true, ite_self, h3]
      · simp (disch := first | omega | assumption) only [x_133_0, x_133_23, x_133_64, x_133_72, e_133, nI_add, pk_mul, z_in, z_ix, nI_leI, nI_ltI, nI_eq, z_eq0, z_lt0, z_0le, z_0lt, z_le0, z_n9, z_n1, z_m1lt, z_m9lt, z_m9le, z_m1le, zB_0, zB_1, zz_bi_s, zz_bv_s, zz_bl_s, if_pos, if_neg, if_true, if_false, true_and, and_true, not_true_eq_false, not_false_eq_true, ite_self, h3, h4]
    · have c1 : zz_ca 150 [.long v1.toInt64, .long 1, .long (lN 20)] (zK f g) = some (some (.int (nI 0)), zK f g) := by rw [l_150r f g _ (by decide), zB_f h1]
      simp (disch := first | omega | assumption) only [x_231_0, x_231_9, x_231_21, x_231_24, x_231_99, x_231_110, x_231_129, x_231_135, x_231_138, x_231_178, e_231, c1, nI_add, pk_mul, z_in, z_ix, nI_leI, nI_ltI, nI_eq, z_eq0, z_lt0, z_0le, z_0lt, z_le0, z_n9, z_n1, z_m1lt, z_m9lt, z_m9le, z_m1le, zB_0, zB_1, zz_bi_s, zz_bv_s, zz_bl_s, if_pos, if_neg, if_true, if_false, true_and, and_true, not_true_eq_false, not_false_eq_true, ite_self]
