/-! COPY -/
theorem l_23 {f : Nat → Nat → Int32} {g : Nat → Nat → Int64} {r k m : Nat} (hr : zs_S r k) (v n : Int32) (hs : f r 1 = nI m) (hm : m ≤ 60) (hn : 0 ≤ n.toInt) : zz_ca 23 [.ref r, .int v, .int n] (zK f g) = some (some (.int (zB (0 ≤ v.toInt ∧ v.toInt + n.toInt ≤ m))), zK f g) := by
  rw [e_23, x_23_0 _ _ _ _ _ hr, x_23_22 _ _ _ _ _ hr, hs]
  have h0 : (0 : Int32).toInt = 0 := by decide +kernel
  have e1 : (v < 0) ↔ v.toInt < 0 := by rw [Int32.lt_iff_toInt_lt, h0]
  have e2 : ¬ (n < 0) := by rw [Int32.lt_iff_toInt_lt, h0]; omega
  have e3 : (nI m - n < v) ↔ (m : Int) - n.toInt < v.toInt := by
    rw [Int32.lt_iff_toInt_lt, Int32.toInt_sub, nI_toInt (by omega)]
    have := Int32.toInt_lt n
    rw [Int.bmod_eq_of_le (by omega) (by omega)]
  by_cases h1 : v < 0
  · rw [if_pos h1, zB_f (by rw [e1] at h1; omega)]
  · rw [if_neg h1, if_neg e2]
    by_cases h2 : nI m - n < v
    · rw [if_pos h2, zB_f (by rw [e3] at h2; omega)]
    · rw [if_neg h2, zB_t (by rw [e3] at h2; rw [e1] at h1; omega)]
theorem l_159 {f : Nat → Nat → Int32} {g : Nat → Nat → Int64} {r m : Nat} (hr : r < 6) (v n : Int32) (hs : f 116 r = nI m) (hm : m ≤ 60) (hn : 0 ≤ n.toInt) : zz_ca 159 [.ref 112, .int (nI r), .int v, .int n] (zK f g) = some (some (.int (zB (0 ≤ v.toInt ∧ v.toInt + n.toInt ≤ m))), zK f g) := by
  rw [e_159, x_159_0, x_159_24]
  simp (disch := omega) only [nI_add, pk_mul, z_in, z_ix, nI_leI, nI_ltI, nI_eq, z_eq0, z_lt0, z_0le, z_0lt, z_le0, z_n9, z_n1, z_m1lt, z_m9lt, z_m9le, z_m1le, zB_0, zB_1, zz_bi_s, zz_bv_s, zz_bl_s, if_pos, if_neg, if_true, if_false, true_and, and_true, not_true_eq_false, not_false_eq_true, ite_self, hs, lgc_gt]
  have h0 : (0 : Int32).toInt = 0 := by decide +kernel
  have e1 : (v < 0) ↔ v.toInt < 0 := by rw [Int32.lt_iff_toInt_lt, h0]
  have e3 : ((nI m).toInt64 < v.toInt64 + n.toInt64) ↔ (m : Int) < v.toInt + n.toInt := by
    rw [Int64.lt_iff_toInt_lt, Int64.toInt_add, Int32.toInt_toInt64, Int32.toInt_toInt64, Int32.toInt_toInt64, nI_toInt (by omega)]
    have := Int32.toInt_lt n
    have := Int32.toInt_lt v
    have := Int32.le_toInt v
    rw [Int.bmod_eq_of_le (by omega) (by omega)]
  by_cases h1 : v < 0
  · rw [if_pos h1, zB_f (by rw [e1] at h1; omega)]
  · rw [if_neg h1]
    by_cases h2 : (nI m).toInt64 < v.toInt64 + n.toInt64
    · rw [if_pos h2, zB_f (by rw [e3] at h2; omega)]
    · rw [if_neg h2, zB_t (by rw [e3] at h2; rw [e1] at h1; omega)]
/-- places S .. of cell 117 put at T .., those from number a up to b -/
def zcq (f : Nat → Nat → Int32) (S T a b : Nat) : Nat → Nat → Int32 := fun c x => if c = 117 ∧ T + a ≤ x ∧ x < T + b then f 117 (S + (x - T)) else f c x
theorem zcq_0 {f : Nat → Nat → Int32} {S T a : Nat} : zcq f S T a a = f := by
  funext c x; exact if_neg (fun q => by omega)
theorem zcq_f {f : Nat → Nat → Int32} {S T k : Nat} (h : S + k < T ∨ T ≤ S) : zz_u (zcq f S T 0 k) 117 (T + k) (zcq f S T 0 k 117 (S + k)) = zcq f S T 0 (k + 1) := by
  have e : zcq f S T 0 k 117 (S + k) = f 117 (S + k) := if_neg (fun q => by omega)
  rw [e]
  funext c x; unfold zz_u zcq
  by_cases h1 : c = 117 ∧ x = T + k
  · obtain ⟨rfl, rfl⟩ := h1
    rw [if_pos ⟨rfl, rfl⟩, if_pos (by omega), show S + (T + k - T) = S + k by omega]
  · rw [if_neg h1]
    by_cases h2 : c = 117 ∧ T + 0 ≤ x ∧ x < T + k
    · rw [if_pos h2, if_pos (by omega)]
    · rw [if_neg h2, if_neg (by omega)]
theorem zcq_b {f : Nat → Nat → Int32} {S T k n : Nat} (hk : k < n) (h : T + n ≤ S + (n - 1 - k) ∨ S ≤ T) : zz_u (zcq f S T (n - k) n) 117 (T + (n - 1 - k)) (zcq f S T (n - k) n 117 (S + (n - 1 - k))) = zcq f S T (n - (k + 1)) n := by
  have e : zcq f S T (n - k) n 117 (S + (n - 1 - k)) = f 117 (S + (n - 1 - k)) := if_neg (fun q => by omega)
  rw [e]
  funext c x; unfold zz_u zcq
  by_cases h1 : c = 117 ∧ x = T + (n - 1 - k)
  · obtain ⟨rfl, rfl⟩ := h1
    rw [if_pos ⟨rfl, rfl⟩, if_pos (by omega), show S + (T + (n - 1 - k) - T) = S + (n - 1 - k) by omega]
  · rw [if_neg h1]
    by_cases h2 : c = 117 ∧ T + (n - k) ≤ x ∧ x < T + n
    · rw [if_pos h2, if_pos (by omega)]
    · rw [if_neg h2, if_neg (by omega)]
theorem z_sub2 {n k : Nat} (h : k < n) : nI n - nI 1 - nI k = nI (n - 1 - k) := by
  rw [pk_sub (by omega), pk_sub (by omega)]
theorem l_158 (f : Nat → Nat → Int32) (g : Nat → Nat → Int64) {r i to j n : Nat} (hr : r < 6) (ht : to < 6) (hi : i + n ≤ 40) (hj : j + n ≤ 40) : zz_ev 158 96 [.ref 112, .int (nI r), .int (nI i), .int (nI to), .int (nI j), .int (nI n), .int (zB (i < j)), .int (nI 0), .null] [] (zK f g) = some (some (.int (nI 1)), zK (zcq f (40 * r + i) (40 * to + j) 0 n) g) := by
  by_cases h : i < j
  · rw [zB_t h]
    have key : ∀ k, k ≤ n → ∀ w, zz_ev 158 96 [.ref 112, .int (nI r), .int (nI i), .int (nI to), .int (nI j), .int (nI n), .int (nI 1), .int (nI (n - k)), w] [] (zK (zcq f (40 * r + i) (40 * to + j) k n) g) = some (some (.int (nI 1)), zK (zcq f (40 * r + i) (40 * to + j) 0 n) g) := by
      intro k
      induction k with
      | zero => intro _ w; rw [x_158_96]; simp (disch := omega) only [nI_add, pk_mul, z_in, z_ix, nI_leI, nI_ltI, nI_eq, z_eq0, z_lt0, z_0le, z_0lt, z_le0, z_n9, z_n1, z_m1lt, z_m9lt, z_m9le, z_m1le, zB_0, zB_1, zz_bi_s, zz_bv_s, zz_bl_s, if_pos, if_neg, if_true, if_false, true_and, and_true, not_true_eq_false, not_false_eq_true, ite_self]
      | succ k ih =>
        intro hk w
        rw [x_158_96]; simp (disch := omega) only [nI_add, pk_mul, z_in, z_ix, nI_leI, nI_ltI, nI_eq, z_eq0, z_lt0, z_0le, z_0lt, z_le0, z_n9, z_n1, z_m1lt, z_m9lt, z_m9le, z_m1le, zB_0, zB_1, zz_bi_s, zz_bv_s, zz_bl_s, if_pos, if_neg, if_true, if_false, true_and, and_true, not_true_eq_false, not_false_eq_true, ite_self, z_sub2, x_158_120]
        rw [show n - 1 - (n - (k + 1)) = k by omega, show n - (k + 1) + 1 = n - k by omega]
        have e := zcq_b (f := f) (S := 40 * r + i) (T := 40 * to + j) (k := n - (k + 1)) (n := n) (by omega) (by omega)
        rw [show n - 1 - (n - (k + 1)) = k by omega, show n - (n - (k + 1)) = k + 1 by omega, show n - (n - (k + 1) + 1) = k by omega] at e
        rw [e]
        exact ih (by omega) _
    have := key n (Nat.le_refl n) .null
    rwa [zcq_0, Nat.sub_self] at this
  · rw [zB_f h]
    have key : ∀ k, k ≤ n → ∀ w, zz_ev 158 96 [.ref 112, .int (nI r), .int (nI i), .int (nI to), .int (nI j), .int (nI n), .int (nI 0), .int (nI (n - k)), w] [] (zK (zcq f (40 * r + i) (40 * to + j) 0 (n - k)) g) = some (some (.int (nI 1)), zK (zcq f (40 * r + i) (40 * to + j) 0 n) g) := by
      intro k
      induction k with
      | zero => intro _ w; rw [x_158_96]; simp (disch := omega) only [nI_add, pk_mul, z_in, z_ix, nI_leI, nI_ltI, nI_eq, z_eq0, z_lt0, z_0le, z_0lt, z_le0, z_n9, z_n1, z_m1lt, z_m9lt, z_m9le, z_m1le, zB_0, zB_1, zz_bi_s, zz_bv_s, zz_bl_s, if_pos, if_neg, if_true, if_false, true_and, and_true, not_true_eq_false, not_false_eq_true, ite_self, Nat.sub_zero]
      | succ k ih =>
        intro hk w
        rw [x_158_96]; simp (disch := omega) only [nI_add, pk_mul, z_in, z_ix, nI_leI, nI_ltI, nI_eq, z_eq0, z_lt0, z_0le, z_0lt, z_le0, z_n9, z_n1, z_m1lt, z_m9lt, z_m9le, z_m1le, zB_0, zB_1, zz_bi_s, zz_bv_s, zz_bl_s, if_pos, if_neg, if_true, if_false, true_and, and_true, not_true_eq_false, not_false_eq_true, ite_self, z_sub2, x_158_120]
        rw [show n - (k + 1) + 1 = n - k by omega]
        have e := zcq_f (f := f) (S := 40 * r + i) (T := 40 * to + j) (k := n - (k + 1)) (by omega)
        rw [show n - (k + 1) + 1 = n - k by omega] at e
        rw [e]
        exact ih (by omega) _
    have := key n (Nat.le_refl n) .null
    rwa [Nat.sub_self, zcq_0] at this
theorem sim_copy (A : zA) (hw : wf A) (v1 v2 v3 v4 v5 : Int32) : zSim A 22 158 [.int v1, .int v2, .int v3, .int v4, .int v5] := by
  by_cases h1 : zz_in v1 6
  · obtain ⟨r, hr, -, rfl⟩ := z_inx.mp h1
    by_cases h2 : zz_in v3 6
    · obtain ⟨to, ht, -, rfl⟩ := z_inx.mp h2
      by_cases h3 : 0 ≤ v5
      · have h3' : 0 ≤ v5.toInt := by rw [Int32.le_iff_toInt_le] at h3; exact h3
        rcases hw.1 r hr with h4 | ⟨m, hm, h4⟩
        · refine sim_F hw (w := 1) (by decide) (by decide) (fun f g h => ?_) (fun f g h => ?_)
          · have e := (h.2.2.2.1 r hr).1; rw [h4] at e
            simp (disch := first | omega | assumption) only [x_22_0, x_22_4, x_22_11, x_22_14, x_22_26, x_22_36, x_22_48, x_22_51, x_22_56, x_22_69, x_22_85, x_22_88, x_22_93, e_22, l_11, nI_add, pk_mul, z_in, z_ix, nI_leI, nI_ltI, nI_eq, z_eq0, z_lt0, z_0le, z_0lt, z_le0, z_n9, z_n1, z_m1lt, z_m9lt, z_m9le, z_m1le, zB_0, zB_1, zz_bi_s, zz_bv_s, zz_bl_s, if_pos, if_neg, if_true, if_false, true_and, and_true, not_true_eq_false, not_false_eq_true, ite_self, h3, l_17r, e, l_12]
          · have e := (h.2.2.2.2.1 r hr).1; rw [h4] at e
            simp (disch := first | omega | assumption) only [x_158_0, x_158_4, x_158_11, x_158_14, x_158_26, x_158_45, x_158_50, x_158_59, x_158_71, x_158_74, x_158_79, x_158_91, x_158_120, e_158, l_149, nI_add, pk_mul, z_in, z_ix, nI_leI, nI_ltI, nI_eq, z_eq0, z_lt0, z_0le, z_0lt, z_le0, z_n9, z_n1, z_m1lt, z_m9lt, z_m9le, z_m1le, zB_0, zB_1, zz_bi_s, zz_bv_s, zz_bl_s, if_pos, if_neg, if_true, if_false, true_and, and_true, not_true_eq_false, not_false_eq_true, ite_self, h3, e, l_151]
        · rcases hw.1 to ht with h5 | ⟨m2, hm2, h5⟩
          · refine sim_F hw (w := 1) (by decide) (by decide) (fun f g h => ?_) (fun f g h => ?_)
            · have e := (h.2.2.2.1 r hr).1; rw [h4] at e
              have e2 := (h.2.2.2.1 to ht).1; rw [h5] at e2
              simp (disch := first | omega | assumption) only [x_22_0, x_22_4, x_22_11, x_22_14, x_22_26, x_22_36, x_22_48, x_22_51, x_22_56, x_22_69, x_22_85, x_22_88, x_22_93, e_22, l_11, nI_add, pk_mul, z_in, z_ix, nI_leI, nI_ltI, nI_eq, z_eq0, z_lt0, z_0le, z_0lt, z_le0, z_n9, z_n1, z_m1lt, z_m9lt, z_m9le, z_m1le, zB_0, zB_1, zz_bi_s, zz_bv_s, zz_bl_s, if_pos, if_neg, if_true, if_false, true_and, and_true, not_true_eq_false, not_false_eq_true, ite_self, h3, l_17r, e, e2, l_12]
            · have e := (h.2.2.2.2.1 r hr).1; rw [h4] at e
              have e2 := (h.2.2.2.2.1 to ht).1; rw [h5] at e2
              simp (disch := first | omega | assumption) only [x_158_0, x_158_4, x_158_11, x_158_14, x_158_26, x_158_45, x_158_50, x_158_59, x_158_71, x_158_74, x_158_79, x_158_91, x_158_120, e_158, l_149, nI_add, pk_mul, z_in, z_ix, nI_leI, nI_ltI, nI_eq, z_eq0, z_lt0, z_0le, z_0lt, z_le0, z_n9, z_n1, z_m1lt, z_m9lt, z_m9le, z_m1le, zB_0, zB_1, zz_bi_s, zz_bv_s, zz_bl_s, if_pos, if_neg, if_true, if_false, true_and, and_true, not_true_eq_false, not_false_eq_true, ite_self, h3, e, e2, l_151]
          · by_cases h6 : 0 ≤ v2.toInt ∧ v2.toInt + v5.toInt ≤ (m : Int)
            · by_cases h7 : 0 ≤ v4.toInt ∧ v4.toInt + v5.toInt ≤ (m2 : Int)
              · obtain ⟨i, -, hi, rfl⟩ := z_inx.mp (show zz_in v2 41 from ⟨h6.1, by omega⟩)
                obtain ⟨j, -, hj, rfl⟩ := z_inx.mp (show zz_in v4 41 from ⟨h7.1, by omega⟩)
                obtain ⟨n, -, hn, rfl⟩ := z_inx.mp (show zz_in v5 41 from ⟨h3', by omega⟩)
                have h6' := h6; have h7' := h7
                rw [nI_toInt hi, nI_toInt hn] at h6'
                rw [nI_toInt hj, nI_toInt hn] at h7'
                refine ⟨.int (nI 1), sR A ((aR A).1, zz_cp (aR A).2 r i to j n), hw, fun f g h => ⟨zz_cp f (56 + 2 * r + 1) i (56 + 2 * to + 1) j n, g, ?_, CX_R h (fun a ha => ?_) (fun q hq => ⟨?_, fun x hx => ?_⟩), ⟨fun a ha => ?_, fun _ _ => rfl⟩⟩, fun f g h => ⟨zcq f (40 * r + i) (40 * to + j) 0 n, g, ?_, CM_R hw h (fun a h1 h2 => ?_) (fun q hq => ⟨?_, fun x hx => ?_⟩), ⟨fun a ha => ?_, fun _ _ => rfl⟩⟩⟩
                · have e := (h.2.2.2.1 r hr).1; rw [h4] at e
                  have e2 := (h.2.2.2.1 to ht).1; rw [h5] at e2
                  simp (disch := first | omega | assumption) only [x_22_0, x_22_4, x_22_11, x_22_14, x_22_26, x_22_36, x_22_48, x_22_51, x_22_56, x_22_69, x_22_85, x_22_88, x_22_93, e_22, l_11, nI_add, pk_mul, z_in, z_ix, nI_leI, nI_ltI, nI_eq, z_eq0, z_lt0, z_0le, z_0lt, z_le0, z_n9, z_n1, z_m1lt, z_m9lt, z_m9le, z_m1le, zB_0, zB_1, zz_bi_s, zz_bv_s, zz_bl_s, if_pos, if_neg, if_true, if_false, true_and, and_true, not_true_eq_false, not_false_eq_true, ite_self, h3, l_17r, e, e2, l_23 (zs_S_row r hr) _ _ e, l_23 (zs_S_row to ht) _ _ e2]
                · funext x; exact if_neg (fun q => by omega)
                · show zz_cp _ _ _ _ _ _ _ _ = _
                  rw [← (h.2.2.2.1 q hq).1]; exact if_neg (fun q => by omega)
                · show zz_cp _ _ _ _ _ _ _ _ = zz_cp _ _ _ _ _ _ _ _
                  unfold zz_cp
                  by_cases e : q = to ∧ j ≤ x ∧ x < j + n
                  · rw [if_pos (by omega), if_pos e]; exact (h.2.2.2.1 r hr).2 _ (by omega)
                  · rw [if_neg (by omega), if_neg e]; exact (h.2.2.2.1 q hq).2 x hx
                · funext x; exact if_neg (fun q => by omega)
                · have e := (h.2.2.2.2.1 r hr).1; rw [h4] at e
                  have e2 := (h.2.2.2.2.1 to ht).1; rw [h5] at e2
                  have key := l_158 f g (i := i) (j := j) (n := n) hr ht (by omega) (by omega)
                  by_cases hij : i < j
                  · rw [zB_t hij] at key
                    simp (disch := first | omega | assumption) only [x_158_0, x_158_4, x_158_11, x_158_14, x_158_26, x_158_45, x_158_50, x_158_59, x_158_71, x_158_74, x_158_79, x_158_91, x_158_120, e_158, l_149, nI_add, pk_mul, z_in, z_ix, nI_leI, nI_ltI, nI_eq, z_eq0, z_lt0, z_0le, z_0lt, z_le0, z_n9, z_n1, z_m1lt, z_m9lt, z_m9le, z_m1le, zB_0, zB_1, zz_bi_s, zz_bv_s, zz_bl_s, if_pos, if_neg, if_true, if_false, true_and, and_true, not_true_eq_false, not_false_eq_true, ite_self, h3, e, e2, l_159, key]
                  · rw [zB_f hij] at key
                    simp (disch := first | omega | assumption) only [x_158_0, x_158_4, x_158_11, x_158_14, x_158_26, x_158_45, x_158_50, x_158_59, x_158_71, x_158_74, x_158_79, x_158_91, x_158_120, e_158, l_149, nI_add, pk_mul, z_in, z_ix, nI_leI, nI_ltI, nI_eq, z_eq0, z_lt0, z_0le, z_0lt, z_le0, z_n9, z_n1, z_m1lt, z_m9lt, z_m9le, z_m1le, zB_0, zB_1, zz_bi_s, zz_bv_s, zz_bl_s, if_pos, if_neg, if_true, if_false, true_and, and_true, not_true_eq_false, not_false_eq_true, ite_self, h3, e, e2, l_159, key]
                · funext x; exact if_neg (fun q => by omega)
                · show zcq _ _ _ _ _ _ _ = _
                  rw [← (h.2.2.2.2.1 q hq).1]; exact if_neg (fun q => by omega)
                · show zcq _ _ _ _ _ _ _ = zz_cp _ _ _ _ _ _ _ _
                  unfold zz_cp zcq
                  by_cases e : q = to ∧ j ≤ x ∧ x < j + n
                  · rw [if_pos (by omega), if_pos e, ← (h.2.2.2.2.1 r hr).2 _ (by omega)]; congr 1; omega
                  · rw [if_neg (by omega), if_neg e]; exact (h.2.2.2.2.1 q hq).2 x hx
                · funext x; exact if_neg (fun q => by omega)
              · refine sim_F hw (w := 2) (by decide) (by decide) (fun f g h => ?_) (fun f g h => ?_)
                · have e := (h.2.2.2.1 r hr).1; rw [h4] at e
                  have e2 := (h.2.2.2.1 to ht).1; rw [h5] at e2
                  simp (disch := first | omega | assumption) only [x_22_0, x_22_4, x_22_11, x_22_14, x_22_26, x_22_36, x_22_48, x_22_51, x_22_56, x_22_69, x_22_85, x_22_88, x_22_93, e_22, l_11, nI_add, pk_mul, z_in, z_ix, nI_leI, nI_ltI, nI_eq, z_eq0, z_lt0, z_0le, z_0lt, z_le0, z_n9, z_n1, z_m1lt, z_m9lt, z_m9le, z_m1le, zB_0, zB_1, zz_bi_s, zz_bv_s, zz_bl_s, if_pos, if_neg, if_true, if_false, true_and, and_true, not_true_eq_false, not_false_eq_true, ite_self, h3, l_17r, e, e2, l_23 (zs_S_row r hr) _ _ e, l_23 (zs_S_row to ht) _ _ e2, h6, h7, l_12]
                · have e := (h.2.2.2.2.1 r hr).1; rw [h4] at e
                  have e2 := (h.2.2.2.2.1 to ht).1; rw [h5] at e2
                  simp (disch := first | omega | assumption) only [x_158_0, x_158_4, x_158_11, x_158_14, x_158_26, x_158_45, x_158_50, x_158_59, x_158_71, x_158_74, x_158_79, x_158_91, x_158_120, e_158, l_149, nI_add, pk_mul, z_in, z_ix, nI_leI, nI_ltI, nI_eq, z_eq0, z_lt0, z_0le, z_0lt, z_le0, z_n9, z_n1, z_m1lt, z_m9lt, z_m9le, z_m1le, zB_0, zB_1, zz_bi_s, zz_bv_s, zz_bl_s, if_pos, if_neg, if_true, if_false, true_and, and_true, not_true_eq_false, not_false_eq_true, ite_self, h3, e, e2, l_159, h6, h7, l_151]
            · refine sim_F hw (w := 2) (by decide) (by decide) (fun f g h => ?_) (fun f g h => ?_)
              · have e := (h.2.2.2.1 r hr).1; rw [h4] at e
                have e2 := (h.2.2.2.1 to ht).1; rw [h5] at e2
                simp (disch := first | omega | assumption) only [x_22_0, x_22_4, x_22_11, x_22_14, x_22_26, x_22_36, x_22_48, x_22_51, x_22_56, x_22_69, x_22_85, x_22_88, x_22_93, e_22, l_11, nI_add, pk_mul, z_in, z_ix, nI_leI, nI_ltI, nI_eq, z_eq0, z_lt0, z_0le, z_0lt, z_le0, z_n9, z_n1, z_m1lt, z_m9lt, z_m9le, z_m1le, zB_0, zB_1, zz_bi_s, zz_bv_s, zz_bl_s, if_pos, if_neg, if_true, if_false, true_and, and_true, not_true_eq_false, not_false_eq_true, ite_self, h3, l_17r, e, e2, l_23 (zs_S_row r hr) _ _ e, h6, l_12]
              · have e := (h.2.2.2.2.1 r hr).1; rw [h4] at e
                have e2 := (h.2.2.2.2.1 to ht).1; rw [h5] at e2
                simp (disch := first | omega | assumption) only [x_158_0, x_158_4, x_158_11, x_158_14, x_158_26, x_158_45, x_158_50, x_158_59, x_158_71, x_158_74, x_158_79, x_158_91, x_158_120, e_158, l_149, nI_add, pk_mul, z_in, z_ix, nI_leI, nI_ltI, nI_eq, z_eq0, z_lt0, z_0le, z_0lt, z_le0, z_n9, z_n1, z_m1lt, z_m9lt, z_m9le, z_m1le, zB_0, zB_1, zz_bi_s, zz_bv_s, zz_bl_s, if_pos, if_neg, if_true, if_false, true_and, and_true, not_true_eq_false, not_false_eq_true, ite_self, h3, e, e2, l_159, h6, l_151]
      · refine sim_F hw (w := 5) (by decide) (by decide) (fun f g h => ?_) (fun f g h => ?_)
        · simp (disch := first | omega | assumption) only [x_22_0, x_22_4, x_22_11, x_22_14, x_22_26, x_22_36, x_22_48, x_22_51, x_22_56, x_22_69, x_22_85, x_22_88, x_22_93, e_22, l_11, nI_add, pk_mul, z_in, z_ix, nI_leI, nI_ltI, nI_eq, z_eq0, z_lt0, z_0le, z_0lt, z_le0, z_n9, z_n1, z_m1lt, z_m9lt, z_m9le, z_m1le, zB_0, zB_1, zz_bi_s, zz_bv_s, zz_bl_s, if_pos, if_neg, if_true, if_false, true_and, and_true, not_true_eq_false, not_false_eq_true, ite_self, h3, l_12]
        · simp (disch := first | omega | assumption) only [x_158_0, x_158_4, x_158_11, x_158_14, x_158_26, x_158_45, x_158_50, x_158_59, x_158_71, x_158_74, x_158_79, x_158_91, x_158_120, e_158, l_149, nI_add, pk_mul, z_in, z_ix, nI_leI, nI_ltI, nI_eq, z_eq0, z_lt0, z_0le, z_0lt, z_le0, z_n9, z_n1, z_m1lt, z_m9lt, z_m9le, z_m1le, zB_0, zB_1, zz_bi_s, zz_bv_s, zz_bl_s, if_pos, if_neg, if_true, if_false, true_and, and_true, not_true_eq_false, not_false_eq_true, ite_self, h3, l_151]
    · exact sim_0 hw (.int (-1)) (fun f g h => by simp (disch := first | omega | assumption) only [x_22_0, x_22_4, x_22_11, x_22_14, x_22_26, x_22_36, x_22_48, x_22_51, x_22_56, x_22_69, x_22_85, x_22_88, x_22_93, e_22, l_11, nI_add, pk_mul, z_in, z_ix, nI_leI, nI_ltI, nI_eq, z_eq0, z_lt0, z_0le, z_0lt, z_le0, z_n9, z_n1, z_m1lt, z_m9lt, z_m9le, z_m1le, zB_0, zB_1, zz_bi_s, zz_bv_s, zz_bl_s, if_pos, if_neg, if_true, if_false, true_and, and_true, not_true_eq_false, not_false_eq_true, ite_self, h2]) (fun f g h => by simp (disch := first | omega | assumption) only [x_158_0, x_158_4, x_158_11, x_158_14, x_158_26, x_158_45, x_158_50, x_158_59, x_158_71, x_158_74, x_158_79, x_158_91, x_158_120, e_158, l_149, nI_add, pk_mul, z_in, z_ix, nI_leI, nI_ltI, nI_eq, z_eq0, z_lt0, z_0le, z_0lt, z_le0, z_n9, z_n1, z_m1lt, z_m9lt, z_m9le, z_m1le, zB_0, zB_1, zz_bi_s, zz_bv_s, zz_bl_s, if_pos, if_neg, if_true, if_false, true_and, and_true, not_true_eq_false, not_false_eq_true, ite_self, h2])
  · exact sim_0 hw (.int (-1)) (fun f g h => by simp (disch := first | omega | assumption) only [x_22_0, x_22_4, x_22_11, x_22_14, x_22_26, x_22_36, x_22_48, x_22_51, x_22_56, x_22_69, x_22_85, x_22_88, x_22_93, e_22, l_11, nI_add, pk_mul, z_in, z_ix, nI_leI, nI_ltI, nI_eq, z_eq0, z_lt0, z_0le, z_0lt, z_le0, z_n9, z_n1, z_m1lt, z_m9lt, z_m9le, z_m1le, zB_0, zB_1, zz_bi_s, zz_bv_s, zz_bl_s, if_pos, if_neg, if_true, if_false, true_and, and_true, not_true_eq_false, not_false_eq_true, ite_self, h1]) (fun f g h => by simp (disch := first | omega | assumption) only [x_158_0, x_158_4, x_158_11, x_158_14, x_158_26, x_158_45, x_158_50, x_158_59, x_158_71, x_158_74, x_158_79, x_158_91, x_158_120, e_158, l_149, nI_add, pk_mul, z_in, z_ix, nI_leI, nI_ltI, nI_eq, z_eq0, z_lt0, z_0le, z_0lt, z_le0, z_n9, z_n1, z_m1lt, z_m9lt, z_m9le, z_m1le, zB_0, zB_1, zz_bi_s, zz_bv_s, zz_bl_s, if_pos, if_neg, if_true, if_false, true_and, and_true, not_true_eq_false, not_false_eq_true, ite_self, h1])
