/-- a finding answered by both -/
theorem sim_F {A : zA} (hw : wf A) {jx jm : Nat} {as : List Value} {w : Nat} (h1 : 1 ≤ w) (h5 : w ≤ 5)
    (hx : ∀ f g, CX A f g → zz_ca jx (.ref 0 :: as) (zK f g) = some (some (.int (-3)), zK (zz_u (zz_u f 0 12 (nI w)) 55 w (f 55 w + nI 1)) g))
    (hm : ∀ f g, CM A f g → zz_ca jm (.ref 112 :: as) (zK f g) = some (some (.int (-3)), zK (zz_u (zz_u f 112 12 (nI w)) 120 w (f 120 w + nI 1)) g)) : zSim A jx jm as :=
  ⟨.int (-3), sF A w, hw, fun f g h => ⟨_, g, hx f g h, CX_F h h1 h5, zHi_t (zHi_u (by decide)) (zHi_u (by decide))⟩, fun f g h => ⟨_, g, hm f g h, CM_F hw h h1 h5, zLo_t (zLo_u (by decide) (by decide)) (zLo_u (by decide) (by decide))⟩⟩
/-- the same answer, nothing changes -/
theorem sim_0 {A : zA} (hw : wf A) {jx jm : Nat} {as : List Value} (v : Value)
    (hx : ∀ f g, CX A f g → zz_ca jx (.ref 0 :: as) (zK f g) = some (some v, zK f g))
    (hm : ∀ f g, CM A f g → zz_ca jm (.ref 112 :: as) (zK f g) = some (some v, zK f g)) : zSim A jx jm as :=
  ⟨v, A, hw, fun f g h => ⟨f, g, hx f g h, h, zHi_r⟩, fun f g h => ⟨f, g, hm f g h, h, zLo_r⟩⟩
/-- the same answer, nothing that lasts changes -/
theorem sim_s {A : zA} (hw : wf A) {jx jm : Nat} {as : List Value} (v : Value)
    (hx : ∀ f g, CX A f g → ∃ f' g', zz_ca jx (.ref 0 :: as) (zK f g) = some (some v, zK f' g') ∧ zXs f f' g g')
    (hm : ∀ f g, CM A f g → ∃ f' g', zz_ca jm (.ref 112 :: as) (zK f g) = some (some v, zK f' g') ∧ zMs f f' g g') : zSim A jx jm as :=
  ⟨v, A, hw, fun f g h => by obtain ⟨f', g', e, s⟩ := hx f g h; exact ⟨f', g', e, CX_s h s, zXs_hi s⟩, fun f g h => by obtain ⟨f', g', e, s⟩ := hm f g h; exact ⟨f', g', e, CM_s hw h s, zMs_lo s⟩⟩
/-- nothing that lasts changes but what is asked -/
theorem sim_A {A : zA} (hw : wf A) {jx jm : Nat} {as : List Value} (v : Value) (x : Int32)
    (hx : ∀ f g, CX A f g → ∃ f' g', zz_ca jx (.ref 0 :: as) (zK f g) = some (some v, zK (zz_u f' 0 13 x) g') ∧ zXs f f' g g')
    (hm : ∀ f g, CM A f g → ∃ f' g', zz_ca jm (.ref 112 :: as) (zK f g) = some (some v, zK (zz_u f' 112 9 x) g') ∧ zMs f f' g g') : zSim A jx jm as :=
  ⟨v, sA A x, hw, fun f g h => by obtain ⟨f', g', e, s⟩ := hx f g h; exact ⟨_, g', e, CX_A (CX_s h s) x, zHi_t (zXs_hi s) (zHi_u (by decide))⟩, fun f g h => by obtain ⟨f', g', e, s⟩ := hm f g h; exact ⟨_, g', e, CM_A hw (CM_s hw h s) x, zLo_t (zMs_lo s) (zLo_u (by decide) (by decide))⟩⟩
theorem sim_at (A : zA) (hw : wf A) (v1 v2 : Int32) : zSim A 20 156 [.int v1, .int v2] := by
  by_cases h1 : zz_in v1 6
  · obtain ⟨r, hr, -, rfl⟩ := z_inx.mp h1
    rcases hw.1 r hr with h2 | ⟨n, hn, h2⟩
    · refine sim_F hw (w := 1) (by decide) (by decide) (fun f g h => ?_) (fun f g h => ?_)
      · have e := (h.2.2.2.1 r hr).1; rw [h2] at e
        simp (disch := first | omega | assumption) only [x_20_0, x_20_4, x_20_19, x_20_29, x_20_47, e_20, l_11, nI_add, pk_mul, z_in, z_ix, nI_leI, nI_ltI, nI_eq, z_eq0, z_lt0, z_0le, z_0lt, z_le0, z_n9, z_n1, z_m1lt, z_m9lt, z_m9le, z_m1le, zB_0, zB_1, zz_bi_s, zz_bv_s, zz_bl_s, if_pos, if_neg, if_true, if_false, true_and, and_true, not_true_eq_false, not_false_eq_true, ite_self, l_16n (zs_S_row r hr) _ e, l_12]
      · have e := (h.2.2.2.2.1 r hr).1; rw [h2] at e
        simp (disch := first | omega | assumption) only [x_156_0, x_156_6, x_156_30, e_156, x_154_0, x_154_4, x_154_25, x_154_43, x_154_55, e_154, l_149, nI_add, pk_mul, z_in, z_ix, nI_leI, nI_ltI, nI_eq, z_eq0, z_lt0, z_0le, z_0lt, z_le0, z_n9, z_n1, z_m1lt, z_m9lt, z_m9le, z_m1le, zB_0, zB_1, zz_bi_s, zz_bv_s, zz_bl_s, if_pos, if_neg, if_true, if_false, true_and, and_true, not_true_eq_false, not_false_eq_true, ite_self, e, l_151]; rfl
    · by_cases h3 : zz_in v2 n
      · obtain ⟨i, hi, -, rfl⟩ := z_inx.mp h3
        refine sim_A hw (.int (nI 1)) ((aR A).2 r i) (fun f g h => ⟨f, g, ?_, zXs_r⟩) (fun f g h => ⟨f, g, ?_, zMs_r⟩)
        · have e := (h.2.2.2.1 r hr).1; rw [h2] at e
          have e2 := (h.2.2.2.1 r hr).2 i (by omega)
          simp (disch := first | omega | assumption) only [x_20_0, x_20_4, x_20_19, x_20_29, x_20_47, e_20, l_11, nI_add, pk_mul, z_in, z_ix, nI_leI, nI_ltI, nI_eq, z_eq0, z_lt0, z_0le, z_0lt, z_le0, z_n9, z_n1, z_m1lt, z_m9lt, z_m9le, z_m1le, zB_0, zB_1, zz_bi_s, zz_bv_s, zz_bl_s, if_pos, if_neg, if_true, if_false, true_and, and_true, not_true_eq_false, not_false_eq_true, ite_self, l_16 (zs_S_row r hr) _ e (by omega), e2, l_19]
        · have e := (h.2.2.2.2.1 r hr).1; rw [h2] at e
          have e2 := (h.2.2.2.2.1 r hr).2 i (by omega)
          simp (disch := first | omega | assumption) only [x_156_0, x_156_6, x_156_30, e_156, x_154_0, x_154_4, x_154_25, x_154_43, x_154_55, e_154, l_149, nI_add, pk_mul, z_in, z_ix, nI_leI, nI_ltI, nI_eq, z_eq0, z_lt0, z_0le, z_0lt, z_le0, z_n9, z_n1, z_m1lt, z_m9lt, z_m9le, z_m1le, zB_0, zB_1, zz_bi_s, zz_bv_s, zz_bl_s, if_pos, if_neg, if_true, if_false, true_and, and_true, not_true_eq_false, not_false_eq_true, ite_self, e, e2, l_150p, l_155]
      · refine sim_F hw (w := 2) (by decide) (by decide) (fun f g h => ?_) (fun f g h => ?_)
        · have e := (h.2.2.2.1 r hr).1; rw [h2] at e
          simp (disch := first | omega | assumption) only [x_20_0, x_20_4, x_20_19, x_20_29, x_20_47, e_20, l_11, nI_add, pk_mul, z_in, z_ix, nI_leI, nI_ltI, nI_eq, z_eq0, z_lt0, z_0le, z_0lt, z_le0, z_n9, z_n1, z_m1lt, z_m9lt, z_m9le, z_m1le, zB_0, zB_1, zz_bi_s, zz_bv_s, zz_bl_s, if_pos, if_neg, if_true, if_false, true_and, and_true, not_true_eq_false, not_false_eq_true, ite_self, l_16 (zs_S_row r hr) _ e (by omega), h3, l_12]
        · have e := (h.2.2.2.2.1 r hr).1; rw [h2] at e
          simp (disch := first | omega | assumption) only [x_156_0, x_156_6, x_156_30, e_156, x_154_0, x_154_4, x_154_25, x_154_43, x_154_55, e_154, l_149, nI_add, pk_mul, z_in, z_ix, nI_leI, nI_ltI, nI_eq, z_eq0, z_lt0, z_0le, z_0lt, z_le0, z_n9, z_n1, z_m1lt, z_m9lt, z_m9le, z_m1le, zB_0, zB_1, zz_bi_s, zz_bv_s, zz_bl_s, if_pos, if_neg, if_true, if_false, true_and, and_true, not_true_eq_false, not_false_eq_true, ite_self, e, l_150p, h3, l_151]; rfl
  · exact sim_0 hw (.int (-1)) (fun f g h => by simp (disch := first | omega | assumption) only [x_20_0, x_20_4, x_20_19, x_20_29, x_20_47, e_20, l_11, nI_add, pk_mul, z_in, z_ix, nI_leI, nI_ltI, nI_eq, z_eq0, z_lt0, z_0le, z_0lt, z_le0, z_n9, z_n1, z_m1lt, z_m9lt, z_m9le, z_m1le, zB_0, zB_1, zz_bi_s, zz_bv_s, zz_bl_s, if_pos, if_neg, if_true, if_false, true_and, and_true, not_true_eq_false, not_false_eq_true, ite_self, h1]) (fun f g h => by simp (disch := first | omega | assumption) only [x_156_0, x_156_6, x_156_30, e_156, x_154_0, x_154_4, x_154_25, x_154_43, x_154_55, e_154, l_149, nI_add, pk_mul, z_in, z_ix, nI_leI, nI_ltI, nI_eq, z_eq0, z_lt0, z_0le, z_0lt, z_le0, z_n9, z_n1, z_m1lt, z_m9lt, z_m9le, z_m1le, zB_0, zB_1, zz_bi_s, zz_bv_s, zz_bl_s, if_pos, if_neg, if_true, if_false, true_and, and_true, not_true_eq_false, not_false_eq_true, ite_self, h1]; rfl)
/-- one place anew -/
def rUp (R : zR) (r i : Nat) (v : Int32) : zR := (R.1, zz_u R.2 r i v)
theorem XR_up {R : zR} {f : Nat → Nat → Int32} (h : XR R f) {r i : Nat} (hr : r < 6) (v : Int32) : XR (rUp R r i v) (zz_u f (56 + 2 * r + 1) i v) := by
  intro q hq
  refine ⟨by rw [zu_c (by omega)]; exact (h q hq).1, fun j hj => ?_⟩
  show _ = zz_u R.2 r i v q j
  unfold zz_u
  by_cases e : q = r ∧ j = i
  · rw [if_pos ⟨by omega, e.2⟩, if_pos e]
  · rw [if_neg (by omega), if_neg e]; exact (h q hq).2 j hj
theorem XT_up {R : zR} {f : Nat → Nat → Int32} (h : XT R f) {r i : Nat} (hr : r < 4) (v : Int32) : XT (rUp R r i v) (zz_u f (68 + 2 * r + 1) i v) := by
  intro q hq
  refine ⟨by rw [zu_c (by omega)]; exact (h q hq).1, fun j hj => ?_⟩
  show _ = zz_u R.2 r i v q j
  unfold zz_u
  by_cases e : q = r ∧ j = i
  · rw [if_pos ⟨by omega, e.2⟩, if_pos e]
  · rw [if_neg (by omega), if_neg e]; exact (h q hq).2 j hj
theorem MR_up {R : zR} {f : Nat → Nat → Int32} (h : MR R f) {r i : Nat} (hr : r < 6) (hi : i < 40) (v : Int32) : MR (rUp R r i v) (zz_u f 117 (40 * r + i) v) := by
  intro q hq
  refine ⟨by rw [zu_c (by omega)]; exact (h q hq).1, fun j hj => ?_⟩
  show _ = zz_u R.2 r i v q j
  unfold zz_u
  by_cases e : q = r ∧ j = i
  · rw [if_pos ⟨rfl, by omega⟩, if_pos e]
  · rw [if_neg (by omega), if_neg e]; exact (h q hq).2 j hj
theorem MT_up {R : zR} {f : Nat → Nat → Int32} (h : MT R f) {r i : Nat} (hr : r < 4) (hi : i < 60) (v : Int32) : MT (rUp R r i v) (zz_u f 119 (60 * r + i) v) := by
  intro q hq
  refine ⟨by rw [zu_c (by omega)]; exact (h q hq).1, fun j hj => ?_⟩
  show _ = zz_u R.2 r i v q j
  unfold zz_u
  by_cases e : q = r ∧ j = i
  · rw [if_pos ⟨rfl, by omega⟩, if_pos e]
  · rw [if_neg (by omega), if_neg e]; exact (h q hq).2 j hj
theorem sim_lay (A : zA) (hw : wf A) (v1 v2 v3 : Int32) : zSim A 15 153 [.int v1, .int v2, .int v3] := by
  by_cases h1 : zz_in v1 6
  · obtain ⟨r, hr, -, rfl⟩ := z_inx.mp h1
    rcases hw.1 r hr with h2 | ⟨n, hn, h2⟩
    · refine sim_F hw (w := 1) (by decide) (by decide) (fun f g h => ?_) (fun f g h => ?_)
      · have e := (h.2.2.2.1 r hr).1; rw [h2] at e
        simp (disch := first | omega | assumption) only [x_15_0, x_15_4, x_15_19, x_15_32, x_15_64, e_15, l_11, nI_add, pk_mul, z_in, z_ix, nI_leI, nI_ltI, nI_eq, z_eq0, z_lt0, z_0le, z_0lt, z_le0, z_n9, z_n1, z_m1lt, z_m9lt, z_m9le, z_m1le, zB_0, zB_1, zz_bi_s, zz_bv_s, zz_bl_s, if_pos, if_neg, if_true, if_false, true_and, and_true, not_true_eq_false, not_false_eq_true, ite_self, l_16n (zs_S_row r hr) _ e, l_12]
      · have e := (h.2.2.2.2.1 r hr).1; rw [h2] at e
        simp (disch := first | omega | assumption) only [x_153_0, x_153_6, x_153_47, e_153, x_154_0, x_154_4, x_154_25, x_154_43, x_154_55, e_154, l_149, nI_add, pk_mul, z_in, z_ix, nI_leI, nI_ltI, nI_eq, z_eq0, z_lt0, z_0le, z_0lt, z_le0, z_n9, z_n1, z_m1lt, z_m9lt, z_m9le, z_m1le, zB_0, zB_1, zz_bi_s, zz_bv_s, zz_bl_s, if_pos, if_neg, if_true, if_false, true_and, and_true, not_true_eq_false, not_false_eq_true, ite_self, e, l_151]; rfl
    · by_cases h3 : zz_in v2 n
      · obtain ⟨i, hi, -, rfl⟩ := z_inx.mp h3
        refine ⟨.int (nI 1), sA (sR A (rUp (aR A) r i v3)) ((aR A).2 r i), hw, fun f g h => ⟨zz_u (zz_u f (56 + 2 * r + 1) i v3) 0 13 ((aR A).2 r i), g, ?_, CX_A (CX_R h (fun a ha => zu_c (by omega)) (XR_up h.2.2.2.1 hr _)) _, zHi_t (zHi_u (by omega)) (zHi_u (by omega))⟩, fun f g h => ⟨zz_u (zz_u f 117 (40 * r + i) v3) 112 9 ((aR A).2 r i), g, ?_, CM_A (A := sR A (rUp (aR A) r i v3)) (wf_R hw hw.1) (CM_R (R := rUp (aR A) r i v3) hw h (fun a h1 h2 => zu_c h2) (MR_up h.2.2.2.2.1 hr (by omega) _)) _, zLo_t (zLo_u (by omega) (by omega)) (zLo_u (by omega) (by omega))⟩⟩
        · have e := (h.2.2.2.1 r hr).1; rw [h2] at e
          have e2 := (h.2.2.2.1 r hr).2 i (by omega)
          simp (disch := first | omega | assumption) only [x_15_0, x_15_4, x_15_19, x_15_32, x_15_64, e_15, l_11, nI_add, pk_mul, z_in, z_ix, nI_leI, nI_ltI, nI_eq, z_eq0, z_lt0, z_0le, z_0lt, z_le0, z_n9, z_n1, z_m1lt, z_m9lt, z_m9le, z_m1le, zB_0, zB_1, zz_bi_s, zz_bv_s, zz_bl_s, if_pos, if_neg, if_true, if_false, true_and, and_true, not_true_eq_false, not_false_eq_true, ite_self, l_16 (zs_S_row r hr) _ e (by omega), e2, l_19]
        · have e := (h.2.2.2.2.1 r hr).1; rw [h2] at e
          have e2 := (h.2.2.2.2.1 r hr).2 i (by omega)
          simp (disch := first | omega | assumption) only [x_153_0, x_153_6, x_153_47, e_153, x_154_0, x_154_4, x_154_25, x_154_43, x_154_55, e_154, l_149, nI_add, pk_mul, z_in, z_ix, nI_leI, nI_ltI, nI_eq, z_eq0, z_lt0, z_0le, z_0lt, z_le0, z_n9, z_n1, z_m1lt, z_m9lt, z_m9le, z_m1le, zB_0, zB_1, zz_bi_s, zz_bv_s, zz_bl_s, if_pos, if_neg, if_true, if_false, true_and, and_true, not_true_eq_false, not_false_eq_true, ite_self, e, e2, l_150p, l_155]
      · refine sim_F hw (w := 2) (by decide) (by decide) (fun f g h => ?_) (fun f g h => ?_)
        · have e := (h.2.2.2.1 r hr).1; rw [h2] at e
          simp (disch := first | omega | assumption) only [x_15_0, x_15_4, x_15_19, x_15_32, x_15_64, e_15, l_11, nI_add, pk_mul, z_in, z_ix, nI_leI, nI_ltI, nI_eq, z_eq0, z_lt0, z_0le, z_0lt, z_le0, z_n9, z_n1, z_m1lt, z_m9lt, z_m9le, z_m1le, zB_0, zB_1, zz_bi_s, zz_bv_s, zz_bl_s, if_pos, if_neg, if_true, if_false, true_and, and_true, not_true_eq_false, not_false_eq_true, ite_self, l_16 (zs_S_row r hr) _ e (by omega), h3, l_12]
        · have e := (h.2.2.2.2.1 r hr).1; rw [h2] at e
          simp (disch := first | omega | assumption) only [x_153_0, x_153_6, x_153_47, e_153, x_154_0, x_154_4, x_154_25, x_154_43, x_154_55, e_154, l_149, nI_add, pk_mul, z_in, z_ix, nI_leI, nI_ltI, nI_eq, z_eq0, z_lt0, z_0le, z_0lt, z_le0, z_n9, z_n1, z_m1lt, z_m9lt, z_m9le, z_m1le, zB_0, zB_1, zz_bi_s, zz_bv_s, zz_bl_s, if_pos, if_neg, if_true, if_false, true_and, and_true, not_true_eq_false, not_false_eq_true, ite_self, e, l_150p, h3, l_151]; rfl
  · exact sim_0 hw (.int (-1)) (fun f g h => by simp (disch := first | omega | assumption) only [x_15_0, x_15_4, x_15_19, x_15_32, x_15_64, e_15, l_11, nI_add, pk_mul, z_in, z_ix, nI_leI, nI_ltI, nI_eq, z_eq0, z_lt0, z_0le, z_0lt, z_le0, z_n9, z_n1, z_m1lt, z_m9lt, z_m9le, z_m1le, zB_0, zB_1, zz_bi_s, zz_bv_s, zz_bl_s, if_pos, if_neg, if_true, if_false, true_and, and_true, not_true_eq_false, not_false_eq_true, ite_self, h1]) (fun f g h => by simp (disch := first | omega | assumption) only [x_153_0, x_153_6, x_153_47, e_153, x_154_0, x_154_4, x_154_25, x_154_43, x_154_55, e_154, l_149, nI_add, pk_mul, z_in, z_ix, nI_leI, nI_ltI, nI_eq, z_eq0, z_lt0, z_0le, z_0lt, z_le0, z_n9, z_n1, z_m1lt, z_m9lt, z_m9le, z_m1le, zB_0, zB_1, zz_bi_s, zz_bv_s, zz_bl_s, if_pos, if_neg, if_true, if_false, true_and, and_true, not_true_eq_false, not_false_eq_true, ite_self, h1]; rfl)
theorem sim_tear (A : zA) (hw : wf A) (v1 : Int32) : zSim A 21 157 [.int v1] := by
  by_cases h1 : zz_in v1 6
  · obtain ⟨r, hr, -, rfl⟩ := z_inx.mp h1
    rcases hw.1 r hr with h2 | ⟨n, hn, h2⟩
    · refine sim_F hw (w := 1) (by decide) (by decide) (fun f g h => ?_) (fun f g h => ?_)
      · have e := (h.2.2.2.1 r hr).1; rw [h2] at e
        simp (disch := first | omega | assumption) only [x_21_0, x_21_4, x_21_18, x_21_26, e_21, l_11, nI_add, pk_mul, z_in, z_ix, nI_leI, nI_ltI, nI_eq, z_eq0, z_lt0, z_0le, z_0lt, z_le0, z_n9, z_n1, z_m1lt, z_m9lt, z_m9le, z_m1le, zB_0, zB_1, zz_bi_s, zz_bv_s, zz_bl_s, if_pos, if_neg, if_true, if_false, true_and, and_true, not_true_eq_false, not_false_eq_true, ite_self, l_17r, e, l_12]
      · have e := (h.2.2.2.2.1 r hr).1; rw [h2] at e
        simp (disch := first | omega | assumption) only [x_157_0, x_157_4, x_157_23, e_157, l_149, nI_add, pk_mul, z_in, z_ix, nI_leI, nI_ltI, nI_eq, z_eq0, z_lt0, z_0le, z_0lt, z_le0, z_n9, z_n1, z_m1lt, z_m9lt, z_m9le, z_m1le, zB_0, zB_1, zz_bi_s, zz_bv_s, zz_bl_s, if_pos, if_neg, if_true, if_false, true_and, and_true, not_true_eq_false, not_false_eq_true, ite_self, e, l_151]
    · refine ⟨.int (nI 1), sR A (zup (aR A).1 r (-1), (aR A).2), wf_R hw (fun q hq => ?_), fun f g h => ⟨zz_u f (56 + 2 * r) 1 (-1), g, ?_, CX_R h (fun a ha => zu_c (by omega)) (fun q hq => ⟨?_, fun i hi => ?_⟩), zHi_u (by omega)⟩, fun f g h => ⟨zz_u f 116 r (-1), g, ?_, CM_R hw h (fun a h1 h2 => zu_c h1) (fun q hq => ⟨?_, fun i hi => ?_⟩), zLo_u (by omega) (by omega)⟩⟩
      · show zsz (zup _ _ _ q) 40
        unfold zup; split
        · exact Or.inl rfl
        · exact hw.1 q hq
      · have e := (h.2.2.2.1 r hr).1; rw [h2] at e
        simp (disch := first | omega | assumption) only [x_21_0, x_21_4, x_21_18, x_21_26, e_21, l_11, nI_add, pk_mul, z_in, z_ix, nI_leI, nI_ltI, nI_eq, z_eq0, z_lt0, z_0le, z_0lt, z_le0, z_n9, z_n1, z_m1lt, z_m9lt, z_m9le, z_m1le, zB_0, zB_1, zz_bi_s, zz_bv_s, zz_bl_s, if_pos, if_neg, if_true, if_false, true_and, and_true, not_true_eq_false, not_false_eq_true, ite_self, l_17r, e]
      · show _ = zup _ _ _ q
        unfold zup zz_u; split
        · rw [if_pos (by omega)]
        · rw [if_neg (by omega)]; exact (h.2.2.2.1 q hq).1
      · rw [zu_c (by omega)]; exact (h.2.2.2.1 q hq).2 i hi
      · have e := (h.2.2.2.2.1 r hr).1; rw [h2] at e
        simp (disch := first | omega | assumption) only [x_157_0, x_157_4, x_157_23, e_157, l_149, nI_add, pk_mul, z_in, z_ix, nI_leI, nI_ltI, nI_eq, z_eq0, z_lt0, z_0le, z_0lt, z_le0, z_n9, z_n1, z_m1lt, z_m9lt, z_m9le, z_m1le, zB_0, zB_1, zz_bi_s, zz_bv_s, zz_bl_s, if_pos, if_neg, if_true, if_false, true_and, and_true, not_true_eq_false, not_false_eq_true, ite_self, e]
      · show _ = zup _ _ _ q
        unfold zup zz_u; split
        · rw [if_pos (by omega)]
        · rw [if_neg (by omega)]; exact (h.2.2.2.2.1 q hq).1
      · rw [zu_c (by omega)]; exact (h.2.2.2.2.1 q hq).2 i hi
  · exact sim_0 hw (.int (-1)) (fun f g h => by simp (disch := first | omega | assumption) only [x_21_0, x_21_4, x_21_18, x_21_26, e_21, l_11, nI_add, pk_mul, z_in, z_ix, nI_leI, nI_ltI, nI_eq, z_eq0, z_lt0, z_0le, z_0lt, z_le0, z_n9, z_n1, z_m1lt, z_m9lt, z_m9le, z_m1le, zB_0, zB_1, zz_bi_s, zz_bv_s, zz_bl_s, if_pos, if_neg, if_true, if_false, true_and, and_true, not_true_eq_false, not_false_eq_true, ite_self, h1]) (fun f g h => by simp (disch := first | omega | assumption) only [x_157_0, x_157_4, x_157_23, e_157, l_149, nI_add, pk_mul, z_in, z_ix, nI_leI, nI_ltI, nI_eq, z_eq0, z_lt0, z_0le, z_0lt, z_le0, z_n9, z_n1, z_m1lt, z_m9lt, z_m9le, z_m1le, zB_0, zB_1, zz_bi_s, zz_bv_s, zz_bl_s, if_pos, if_neg, if_true, if_false, true_and, and_true, not_true_eq_false, not_false_eq_true, ite_self, h1])
/-! mean -/
def zsum (c : Nat → Int32) : Nat → Int64
  | 0 => 0
  | n + 1 => zsum c n + (c n).toInt64
theorem zsum_c {c d : Nat → Int32} : ∀ {n : Nat}, (∀ i < n, c i = d i) → zsum c n = zsum d n
  | 0, _ => rfl
  | n + 1, h => by unfold zsum; rw [zsum_c (fun i hi => h i (by omega)), h n (by omega)]
theorem l_25 {f : Nat → Nat → Int32} {g : Nat → Nat → Int64} {r n m : Nat} (hr : zs_S r n) (hs : f r 1 = nI m) (hm : m ≤ n) (hn : n < 2 ^ 31) : zz_ca 25 [.ref r] (zK f g) = some (some (.long (zsum (f (r + 1)) m)), zK f g) := by
  rw [e_25, x_25_0 _ _ _ hr]
  refine (z_lp (fun i => zz_ev 25 4 [.ref r, .long (zsum (f (r + 1)) i), .null, .int (nI i)] [] (zK f g)) m (fun i hi => ?_) 0 (by omega)).trans ?_
  · show zz_ev 25 4 _ _ _ = zz_ev 25 4 _ _ _
    rw [x_25_4 _ _ _ _ _ hr, hs]
    simp (disch := omega) only [nI_add, pk_mul, z_in, z_ix, nI_leI, nI_ltI, nI_eq, z_eq0, z_lt0, z_0le, z_0lt, z_le0, z_n9, z_n1, z_m1lt, z_m9lt, z_m9le, z_m1le, zB_0, zB_1, zz_bi_s, zz_bv_s, zz_bl_s, if_pos, if_neg, if_true, if_false, true_and, and_true, not_true_eq_false, not_false_eq_true, ite_self]; rfl
  · show zz_ev 25 4 _ _ _ = _
    rw [x_25_4 _ _ _ _ _ hr, hs]; simp (disch := omega) only [nI_add, pk_mul, z_in, z_ix, nI_leI, nI_ltI, nI_eq, z_eq0, z_lt0, z_0le, z_0lt, z_le0, z_n9, z_n1, z_m1lt, z_m9lt, z_m9le, z_m1le, zB_0, zB_1, zz_bi_s, zz_bv_s, zz_bl_s, if_pos, if_neg, if_true, if_false, true_and, and_true, not_true_eq_false, not_false_eq_true, ite_self]
theorem l_160_44 {f : Nat → Nat → Int32} {g : Nat → Nat → Int64} {r m : Nat} (hr : r < 6) (hs : f 116 r = nI m) (hm : m ≤ 40) (hm0 : 0 < m) : zz_ev 160 44 [.ref 112, .int (nI r), .long 0, .null, .int (nI 0)] [] (zK f g) = some (some (.int (nI 1)), zK (zz_u f 112 9 ((zsum (fun i => f 117 (40 * r + i)) m) / (nI m).toInt64).toInt32) g) := by
  refine (z_lp (fun i => zz_ev 160 44 [.ref 112, .int (nI r), .long (zsum (fun i => f 117 (40 * r + i)) i), .null, .int (nI i)] [] (zK f g)) m (fun i hi => ?_) 0 (by omega)).trans ?_
  · show zz_ev 160 44 _ _ _ = zz_ev 160 44 _ _ _
    rw [x_160_44]
    simp (disch := omega) only [nI_add, pk_mul, z_in, z_ix, nI_leI, nI_ltI, nI_eq, z_eq0, z_lt0, z_0le, z_0lt, z_le0, z_n9, z_n1, z_m1lt, z_m9lt, z_m9le, z_m1le, zB_0, zB_1, zz_bi_s, zz_bv_s, zz_bl_s, if_pos, if_neg, if_true, if_false, true_and, and_true, not_true_eq_false, not_false_eq_true, ite_self, hs]; rfl
  · show zz_ev 160 44 _ _ _ = _
    have h0 : ¬ (nI m).toInt64 = 0 := by
      rw [nI_l (by omega), show (0 : Int64) = lN 0 from rfl, lN_eq (by omega) (by decide)]; omega
    rw [x_160_44]; simp (disch := first | omega | assumption) only [nI_add, pk_mul, z_in, z_ix, nI_leI, nI_ltI, nI_eq, z_eq0, z_lt0, z_0le, z_0lt, z_le0, z_n9, z_n1, z_m1lt, z_m9lt, z_m9le, z_m1le, zB_0, zB_1, zz_bi_s, zz_bv_s, zz_bl_s, if_pos, if_neg, if_true, if_false, true_and, and_true, not_true_eq_false, not_false_eq_true, ite_self, hs, l_155, h0, x_160_91]
theorem sim_mean (A : zA) (hw : wf A) (v1 : Int32) : zSim A 24 160 [.int v1] := by
  by_cases h1 : zz_in v1 6
  · obtain ⟨r, hr, -, rfl⟩ := z_inx.mp h1
    rcases hw.1 r hr with h2 | ⟨n, hn, h2⟩
    · refine sim_F hw (w := 1) (by decide) (by decide) (fun f g h => ?_) (fun f g h => ?_)
      · have e := (h.2.2.2.1 r hr).1; rw [h2] at e
        simp (disch := first | omega | assumption) only [e_24, x_24_0, x_24_4, x_24_20 _ _ _ _ _ (zs_S_row r hr), x_24_28 _ _ _ _ _ (zs_S_row r hr), l_11, nI_add, pk_mul, z_in, z_ix, nI_leI, nI_ltI, nI_eq, z_eq0, z_lt0, z_0le, z_0lt, z_le0, z_n9, z_n1, z_m1lt, z_m9lt, z_m9le, z_m1le, zB_0, zB_1, zz_bi_s, zz_bv_s, zz_bl_s, if_pos, if_neg, if_true, if_false, true_and, and_true, not_true_eq_false, not_false_eq_true, ite_self, l_17r, e, l_12]
      · have e := (h.2.2.2.2.1 r hr).1; rw [h2] at e
        simp (disch := first | omega | assumption) only [x_160_0, x_160_4, x_160_23, x_160_38, x_160_91, e_160, l_149, nI_add, pk_mul, z_in, z_ix, nI_leI, nI_ltI, nI_eq, z_eq0, z_lt0, z_0le, z_0lt, z_le0, z_n9, z_n1, z_m1lt, z_m9lt, z_m9le, z_m1le, zB_0, zB_1, zz_bi_s, zz_bv_s, zz_bl_s, if_pos, if_neg, if_true, if_false, true_and, and_true, not_true_eq_false, not_false_eq_true, ite_self, e, l_151]
    · by_cases h0 : n = 0
      · refine sim_F hw (w := 4) (by decide) (by decide) (fun f g h => ?_) (fun f g h => ?_)
        · have e := (h.2.2.2.1 r hr).1; rw [h2] at e
          simp (disch := first | omega | assumption) only [e_24, x_24_0, x_24_4, x_24_20 _ _ _ _ _ (zs_S_row r hr), x_24_41 _ _ _ _ _ (zs_S_row r hr), l_11, nI_add, pk_mul, z_in, z_ix, nI_leI, nI_ltI, nI_eq, z_eq0, z_lt0, z_0le, z_0lt, z_le0, z_n9, z_n1, z_m1lt, z_m9lt, z_m9le, z_m1le, zB_0, zB_1, zz_bi_s, zz_bv_s, zz_bl_s, if_pos, if_neg, if_true, if_false, true_and, and_true, not_true_eq_false, not_false_eq_true, ite_self, l_17r, e, l_12]
        · have e := (h.2.2.2.2.1 r hr).1; rw [h2] at e
          simp (disch := first | omega | assumption) only [x_160_0, x_160_4, x_160_23, x_160_38, x_160_91, e_160, l_149, nI_add, pk_mul, z_in, z_ix, nI_leI, nI_ltI, nI_eq, z_eq0, z_lt0, z_0le, z_0lt, z_le0, z_n9, z_n1, z_m1lt, z_m9lt, z_m9le, z_m1le, zB_0, zB_1, zz_bi_s, zz_bv_s, zz_bl_s, if_pos, if_neg, if_true, if_false, true_and, and_true, not_true_eq_false, not_false_eq_true, ite_self, e, l_151]
      · have h0' : ¬ (nI n).toInt64 = 0 := by
          rw [nI_l (by omega), show (0 : Int64) = lN 0 from rfl, lN_eq (by omega) (by decide)]; omega
        refine sim_A hw (.int (nI 1)) ((zsum ((aR A).2 r) n) / (nI n).toInt64).toInt32 (fun f g h => ⟨f, g, ?_, zXs_r⟩) (fun f g h => ⟨f, g, ?_, zMs_r⟩)
        · have e := (h.2.2.2.1 r hr).1; rw [h2] at e
          have e2 := zsum_c (n := n) (c := f (56 + 2 * r + 1)) (d := (aR A).2 r) (fun i hi => (h.2.2.2.1 r hr).2 i (by omega))
          simp (disch := first | omega | assumption) only [e_24, x_24_0, x_24_4, x_24_20 _ _ _ _ _ (zs_S_row r hr), x_24_47 _ _ _ _ _ (zs_S_row r hr), x_24_57 _ _ _ _ _ (zs_S_row r hr), l_11, nI_add, pk_mul, z_in, z_ix, nI_leI, nI_ltI, nI_eq, z_eq0, z_lt0, z_0le, z_0lt, z_le0, z_n9, z_n1, z_m1lt, z_m9lt, z_m9le, z_m1le, zB_0, zB_1, zz_bi_s, zz_bv_s, zz_bl_s, if_pos, if_neg, if_true, if_false, true_and, and_true, not_true_eq_false, not_false_eq_true, ite_self, l_17r, e, l_25 (zs_S_row r hr) e hn, l_19, e2, h0']
        · have e := (h.2.2.2.2.1 r hr).1; rw [h2] at e
          have e2 := zsum_c (n := n) (c := fun i => f 117 (40 * r + i)) (d := (aR A).2 r) (fun i hi => (h.2.2.2.2.1 r hr).2 i (by omega))
          simp (disch := first | omega | assumption) only [x_160_0, x_160_4, x_160_23, x_160_38, x_160_91, e_160, l_149, nI_add, pk_mul, z_in, z_ix, nI_leI, nI_ltI, nI_eq, z_eq0, z_lt0, z_0le, z_0lt, z_le0, z_n9, z_n1, z_m1lt, z_m9lt, z_m9le, z_m1le, zB_0, zB_1, zz_bi_s, zz_bv_s, zz_bl_s, if_pos, if_neg, if_true, if_false, true_and, and_true, not_true_eq_false, not_false_eq_true, ite_self, e, l_160_44 hr e hn, e2]
  · exact sim_0 hw (.int (-1)) (fun f g h => by simp (disch := first | omega | assumption) only [x_24_0, x_24_4, x_24_20, x_24_28, x_24_41, x_24_47, x_24_57, e_24, l_11, nI_add, pk_mul, z_in, z_ix, nI_leI, nI_ltI, nI_eq, z_eq0, z_lt0, z_0le, z_0lt, z_le0, z_n9, z_n1, z_m1lt, z_m9lt, z_m9le, z_m1le, zB_0, zB_1, zz_bi_s, zz_bv_s, zz_bl_s, if_pos, if_neg, if_true, if_false, true_and, and_true, not_true_eq_false, not_false_eq_true, ite_self, h1]) (fun f g h => by simp (disch := first | omega | assumption) only [x_160_0, x_160_4, x_160_23, x_160_38, x_160_91, e_160, l_149, nI_add, pk_mul, z_in, z_ix, nI_leI, nI_ltI, nI_eq, z_eq0, z_lt0, z_0le, z_0lt, z_le0, z_n9, z_n1, z_m1lt, z_m9lt, z_m9le, z_m1le, zB_0, zB_1, zz_bi_s, zz_bv_s, zz_bl_s, if_pos, if_neg, if_true, if_false, true_and, and_true, not_true_eq_false, not_false_eq_true, ite_self, h1])
/-! text, put -/
theorem MT_mk {R : zR} {f : Nat → Nat → Int32} (h : MT R f) {r n : Nat} (hr : r < 4) : MT (rMk R r n (nI 32)) (zfs (zz_u f 118 r (nI n)) 119 (60 * r) 60 (nI 32)) := by
  intro q hq
  rw [zfs_c (by omega), zu_if]
  by_cases e : q = r
  · subst e
    refine ⟨by rw [if_pos rfl]; exact zup_s.symm, fun i hi => ?_⟩
    rw [zfs_i (by omega) (by omega)]; show _ = zup R.2 q _ q i; rw [zup_s]
  · refine ⟨?_, fun i hi => ?_⟩
    · rw [if_neg e]; show _ = zup R.1 r _ q; rw [zup_n e]; exact (h q hq).1
    · rw [zfs_o (by omega), zu_c (by omega)]; show _ = zup R.2 r _ q i; rw [zup_n e]; exact (h q hq).2 i hi
theorem wfT_mk {R : zR} (h : wfT R) {r n : Nat} (hn : n ≤ 60) : wfT (rMk R r n (nI 32)) := by
  intro q hq
  show zsz (zup R.1 r (nI n) q) 60 ∧ ∀ i < 60, zby (zup R.2 r (fun _ => nI 32) q i)
  unfold zup; split
  · exact ⟨Or.inr ⟨n, hn, rfl⟩, fun i hi => by show zby (nI 32); unfold zby; decide +kernel⟩
  · refine ⟨(h q hq).1, fun i hi => ?_⟩
    exact (h q hq).2 i hi
theorem l_161_34 (f : Nat → Nat → Int32) (g : Nat → Nat → Int64) {r n : Nat} (hr : r < 4) : zz_ev 161 34 [.ref 112, .int (nI r), .int (nI n), .int (nI 0)] [] (zK f g) = some (some (.int (nI n)), zK (zfs f 119 (60 * r) 60 (nI 32)) g) := by
  have h := z_lp (fun i => zz_ev 161 34 [.ref 112, .int (nI r), .int (nI n), .int (nI i)] [] (zK (zfs f 119 (60 * r) i (nI 32)) g)) 60 (fun i hi => by
    show zz_ev 161 34 _ _ _ = zz_ev 161 34 _ _ _
    rw [x_161_34]
    simp (disch := omega) only [nI_add, pk_mul, z_in, z_ix, nI_leI, nI_ltI, nI_eq, z_eq0, z_lt0, z_0le, z_0lt, z_le0, z_n9, z_n1, z_m1lt, z_m9lt, z_m9le, z_m1le, zB_0, zB_1, zz_bi_s, zz_bv_s, zz_bl_s, if_pos, if_neg, if_true, if_false, true_and, and_true, not_true_eq_false, not_false_eq_true, ite_self, zfs_u]) 0 (by omega)
  rw [zfs_0] at h
  refine h.trans ?_
  rw [x_161_34]; simp (disch := omega) only [nI_add, pk_mul, z_in, z_ix, nI_leI, nI_ltI, nI_eq, z_eq0, z_lt0, z_0le, z_0lt, z_le0, z_n9, z_n1, z_m1lt, z_m9lt, z_m9le, z_m1le, zB_0, zB_1, zz_bi_s, zz_bv_s, zz_bl_s, if_pos, if_neg, if_true, if_false, true_and, and_true, not_true_eq_false, not_false_eq_true, ite_self]
theorem sim_text (A : zA) (hw : wf A) (v1 v2 : Int32) : zSim A 26 161 [.int v1, .int v2] := by
  by_cases h1 : zz_in v1 4
  · obtain ⟨r, hr, -, rfl⟩ := z_inx.mp h1
    by_cases h2 : v2 ≤ nI 60
    · by_cases h3 : 0 ≤ v2
      · obtain ⟨n, hn, rfl⟩ := z_le (by decide) h3 h2
        refine ⟨.int (nI n), sT A (rMk (aT A) r n (nI 32)), wf_T hw (wfT_mk hw.2.1 hn), fun f g h => ⟨zz_u (zfl f (68 + 2 * r + 1) 60 (nI 32)) (68 + 2 * r) 1 (nI n), g, ?_, ?_, ?_⟩, fun f g h => ⟨zfs (zz_u f 118 r (nI n)) 119 (60 * r) 60 (nI 32), g, ?_, ?_, ?_⟩⟩
        · simp (disch := first | omega | assumption) only [x_26_0, x_26_4, x_26_13, x_26_24, x_26_37, e_26, l_27, nI_add, pk_mul, z_in, z_ix, nI_leI, nI_ltI, nI_eq, z_eq0, z_lt0, z_0le, z_0lt, z_le0, z_n9, z_n1, z_m1lt, z_m9lt, z_m9le, z_m1le, zB_0, zB_1, zz_bi_s, zz_bv_s, zz_bl_s, if_pos, if_neg, if_true, if_false, true_and, and_true, not_true_eq_false, not_false_eq_true, ite_self, l_13 _ _ (zs_S_text r hr) (by decide)]
        · exact CX_T h (fun a ha => by rw [zu_c (by omega), zfl_c (by omega)]) (XT_mk h.2.2.2.2 hr _)
        · exact ⟨fun a ha => by rw [zu_c (by omega), zfl_c (by omega)], fun _ _ => rfl⟩
        · simp (disch := first | omega | assumption) only [x_161_0, x_161_4, x_161_13, x_161_24, e_161, l_162, nI_add, pk_mul, z_in, z_ix, nI_leI, nI_ltI, nI_eq, z_eq0, z_lt0, z_0le, z_0lt, z_le0, z_n9, z_n1, z_m1lt, z_m9lt, z_m9le, z_m1le, zB_0, zB_1, zz_bi_s, zz_bv_s, zz_bl_s, if_pos, if_neg, if_true, if_false, true_and, and_true, not_true_eq_false, not_false_eq_true, ite_self, l_161_34]
        · exact CM_T hw h (fun a h1 h2 => by rw [zfs_c h2, zu_c h1]) (MT_mk h.2.2.2.2.2 hr)
        · exact ⟨fun a ha => by rw [zfs_c (by omega), zu_c (by omega)], fun _ _ => rfl⟩
      · refine sim_F hw (w := 5) (by decide) (by decide) (fun f g h => ?_) (fun f g h => ?_)
        · simp (disch := first | omega | assumption) only [x_26_0, x_26_4, x_26_13, x_26_24, x_26_37, e_26, l_27, nI_add, pk_mul, z_in, z_ix, nI_leI, nI_ltI, nI_eq, z_eq0, z_lt0, z_0le, z_0lt, z_le0, z_n9, z_n1, z_m1lt, z_m9lt, z_m9le, z_m1le, zB_0, zB_1, zz_bi_s, zz_bv_s, zz_bl_s, if_pos, if_neg, if_true, if_false, true_and, and_true, not_true_eq_false, not_false_eq_true, ite_self, h2, h3, l_12]
        · simp (disch := first | omega | assumption) only [x_161_0, x_161_4, x_161_13, x_161_24, e_161, l_162, nI_add, pk_mul, z_in, z_ix, nI_leI, nI_ltI, nI_eq, z_eq0, z_lt0, z_0le, z_0lt, z_le0, z_n9, z_n1, z_m1lt, z_m9lt, z_m9le, z_m1le, zB_0, zB_1, zz_bi_s, zz_bv_s, zz_bl_s, if_pos, if_neg, if_true, if_false, true_and, and_true, not_true_eq_false, not_false_eq_true, ite_self, h2, h3, l_151]
    · exact sim_0 hw (.int (-1)) (fun f g h => by simp (disch := first | omega | assumption) only [x_26_0, x_26_4, x_26_13, x_26_24, x_26_37, e_26, l_27, nI_add, pk_mul, z_in, z_ix, nI_leI, nI_ltI, nI_eq, z_eq0, z_lt0, z_0le, z_0lt, z_le0, z_n9, z_n1, z_m1lt, z_m9lt, z_m9le, z_m1le, zB_0, zB_1, zz_bi_s, zz_bv_s, zz_bl_s, if_pos, if_neg, if_true, if_false, true_and, and_true, not_true_eq_false, not_false_eq_true, ite_self, h2]) (fun f g h => by simp (disch := first | omega | assumption) only [x_161_0, x_161_4, x_161_13, x_161_24, e_161, l_162, nI_add, pk_mul, z_in, z_ix, nI_leI, nI_ltI, nI_eq, z_eq0, z_lt0, z_0le, z_0lt, z_le0, z_n9, z_n1, z_m1lt, z_m9lt, z_m9le, z_m1le, zB_0, zB_1, zz_bi_s, zz_bv_s, zz_bl_s, if_pos, if_neg, if_true, if_false, true_and, and_true, not_true_eq_false, not_false_eq_true, ite_self, h2])
  · exact sim_0 hw (.int (-1)) (fun f g h => by simp (disch := first | omega | assumption) only [x_26_0, x_26_4, x_26_13, x_26_24, x_26_37, e_26, l_27, nI_add, pk_mul, z_in, z_ix, nI_leI, nI_ltI, nI_eq, z_eq0, z_lt0, z_0le, z_0lt, z_le0, z_n9, z_n1, z_m1lt, z_m9lt, z_m9le, z_m1le, zB_0, zB_1, zz_bi_s, zz_bv_s, zz_bl_s, if_pos, if_neg, if_true, if_false, true_and, and_true, not_true_eq_false, not_false_eq_true, ite_self, h1]) (fun f g h => by simp (disch := first | omega | assumption) only [x_161_0, x_161_4, x_161_13, x_161_24, e_161, l_162, nI_add, pk_mul, z_in, z_ix, nI_leI, nI_ltI, nI_eq, z_eq0, z_lt0, z_0le, z_0lt, z_le0, z_n9, z_n1, z_m1lt, z_m9lt, z_m9le, z_m1le, zB_0, zB_1, zz_bi_s, zz_bv_s, zz_bl_s, if_pos, if_neg, if_true, if_false, true_and, and_true, not_true_eq_false, not_false_eq_true, ite_self, h1])
theorem sim_put (A : zA) (hw : wf A) (v1 v2 v3 : Int32) : zSim A 28 163 [.int v1, .int v2, .int v3] := by
  by_cases h1 : zz_in v1 4
  · obtain ⟨r, hr, -, rfl⟩ := z_inx.mp h1
    rcases (hw.2.1 r hr).1 with h2 | ⟨n, hn, h2⟩
    · refine sim_F hw (w := 1) (by decide) (by decide) (fun f g h => ?_) (fun f g h => ?_)
      · have e := (h.2.2.2.2 r hr).1; rw [h2] at e
        simp (disch := first | omega | assumption) only [x_28_0, x_28_4, x_28_19, x_28_32, e_28, l_27, nI_add, pk_mul, z_in, z_ix, nI_leI, nI_ltI, nI_eq, z_eq0, z_lt0, z_0le, z_0lt, z_le0, z_n9, z_n1, z_m1lt, z_m9lt, z_m9le, z_m1le, zB_0, zB_1, zz_bi_s, zz_bv_s, zz_bl_s, if_pos, if_neg, if_true, if_false, true_and, and_true, not_true_eq_false, not_false_eq_true, ite_self, l_16n (zs_S_text r hr) _ e, l_12]
      · have e := (h.2.2.2.2.2 r hr).1; rw [h2] at e
        simp (disch := first | omega | assumption) only [x_163_0, x_163_4, x_163_23, x_163_39, x_163_47, e_163, l_162, nI_add, pk_mul, z_in, z_ix, nI_leI, nI_ltI, nI_eq, z_eq0, z_lt0, z_0le, z_0lt, z_le0, z_n9, z_n1, z_m1lt, z_m9lt, z_m9le, z_m1le, zB_0, zB_1, zz_bi_s, zz_bv_s, zz_bl_s, if_pos, if_neg, if_true, if_false, true_and, and_true, not_true_eq_false, not_false_eq_true, ite_self, e, l_151]
    · by_cases h3 : zz_in v2 n
      · obtain ⟨i, hi, -, rfl⟩ := z_inx.mp h3
        refine ⟨.int ((aT A).2 r i + nI 1000), sT A (rUp (aT A) r i v3.toInt8.toInt32), wf_T hw (fun q hq => ⟨(hw.2.1 q hq).1, fun j hj => ?_⟩), fun f g h => ⟨zz_u f (68 + 2 * r + 1) i v3.toInt8.toInt32, g, ?_, CX_T h (fun a ha => zu_c (by omega)) (XT_up h.2.2.2.2 hr _), zHi_u (by omega)⟩, fun f g h => ⟨zz_u f 119 (60 * r + i) v3.toInt8.toInt32, g, ?_, CM_T hw h (fun a h1 h2 => zu_c h2) (MT_up h.2.2.2.2.2 hr (by omega) _), zLo_u (by omega) (by omega)⟩⟩
        · show zby (zz_u (aT A).2 r i _ q j)
          unfold zz_u; split
          · unfold zby; have := lg_i2b_range v3; omega
          · exact (hw.2.1 q hq).2 j hj
        · have e := (h.2.2.2.2 r hr).1; rw [h2] at e
          have e2 := (h.2.2.2.2 r hr).2 i (by omega)
          simp (disch := first | omega | assumption) only [x_28_0, x_28_4, x_28_19, x_28_32, e_28, l_27, nI_add, pk_mul, z_in, z_ix, nI_leI, nI_ltI, nI_eq, z_eq0, z_lt0, z_0le, z_0lt, z_le0, z_n9, z_n1, z_m1lt, z_m9lt, z_m9le, z_m1le, zB_0, zB_1, zz_bi_s, zz_bv_s, zz_bl_s, if_pos, if_neg, if_true, if_false, true_and, and_true, not_true_eq_false, not_false_eq_true, ite_self, l_16 (zs_S_text r hr) _ e (by omega), e2]
        · have e := (h.2.2.2.2.2 r hr).1; rw [h2] at e
          have e2 := (h.2.2.2.2.2 r hr).2 i (by omega)
          simp (disch := first | omega | assumption) only [x_163_0, x_163_4, x_163_23, x_163_39, x_163_47, e_163, l_162, nI_add, pk_mul, z_in, z_ix, nI_leI, nI_ltI, nI_eq, z_eq0, z_lt0, z_0le, z_0lt, z_le0, z_n9, z_n1, z_m1lt, z_m9lt, z_m9le, z_m1le, zB_0, zB_1, zz_bi_s, zz_bv_s, zz_bl_s, if_pos, if_neg, if_true, if_false, true_and, and_true, not_true_eq_false, not_false_eq_true, ite_self, e, e2, l_150p]
      · refine sim_F hw (w := 2) (by decide) (by decide) (fun f g h => ?_) (fun f g h => ?_)
        · have e := (h.2.2.2.2 r hr).1; rw [h2] at e
          simp (disch := first | omega | assumption) only [x_28_0, x_28_4, x_28_19, x_28_32, e_28, l_27, nI_add, pk_mul, z_in, z_ix, nI_leI, nI_ltI, nI_eq, z_eq0, z_lt0, z_0le, z_0lt, z_le0, z_n9, z_n1, z_m1lt, z_m9lt, z_m9le, z_m1le, zB_0, zB_1, zz_bi_s, zz_bv_s, zz_bl_s, if_pos, if_neg, if_true, if_false, true_and, and_true, not_true_eq_false, not_false_eq_true, ite_self, l_16 (zs_S_text r hr) _ e (by omega), h3, l_12]
        · have e := (h.2.2.2.2.2 r hr).1; rw [h2] at e
          simp (disch := first | omega | assumption) only [x_163_0, x_163_4, x_163_23, x_163_39, x_163_47, e_163, l_162, nI_add, pk_mul, z_in, z_ix, nI_leI, nI_ltI, nI_eq, z_eq0, z_lt0, z_0le, z_0lt, z_le0, z_n9, z_n1, z_m1lt, z_m9lt, z_m9le, z_m1le, zB_0, zB_1, zz_bi_s, zz_bv_s, zz_bl_s, if_pos, if_neg, if_true, if_false, true_and, and_true, not_true_eq_false, not_false_eq_true, ite_self, e, l_150p, h3, l_151]
  · exact sim_0 hw (.int (-1)) (fun f g h => by simp (disch := first | omega | assumption) only [x_28_0, x_28_4, x_28_19, x_28_32, e_28, l_27, nI_add, pk_mul, z_in, z_ix, nI_leI, nI_ltI, nI_eq, z_eq0, z_lt0, z_0le, z_0lt, z_le0, z_n9, z_n1, z_m1lt, z_m9lt, z_m9le, z_m1le, zB_0, zB_1, zz_bi_s, zz_bv_s, zz_bl_s, if_pos, if_neg, if_true, if_false, true_and, and_true, not_true_eq_false, not_false_eq_true, ite_self, h1]) (fun f g h => by simp (disch := first | omega | assumption) only [x_163_0, x_163_4, x_163_23, x_163_39, x_163_47, e_163, l_162, nI_add, pk_mul, z_in, z_ix, nI_leI, nI_ltI, nI_eq, z_eq0, z_lt0, z_0le, z_0lt, z_le0, z_n9, z_n1, z_m1lt, z_m9lt, z_m9le, z_m1le, zB_0, zB_1, zz_bi_s, zz_bv_s, zz_bl_s, if_pos, if_neg, if_true, if_false, true_and, and_true, not_true_eq_false, not_false_eq_true, ite_self, h1])
