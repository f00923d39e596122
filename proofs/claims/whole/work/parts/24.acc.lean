/-! WHAT STANDS WHERE -/
theorem cxP {A : zA} {f : Nat → Nat → Int32} {g : Nat → Nat → Int64} (h : CX A f g) : f 3 0 = nI (wP (aW A)) := h.2.1.1
theorem cxS {A : zA} {f : Nat → Nat → Int32} {g : Nat → Nat → Int64} (h : CX A f g) : f 3 1 = nI (wS (aW A)) := h.2.1.2.1
theorem cxB {A : zA} {f : Nat → Nat → Int32} {g : Nat → Nat → Int64} (h : CX A f g) : f 3 2 = nI (qS (hC (aH A))) := h.2.1.2.2.1
theorem cxH {A : zA} {f : Nat → Nat → Int32} {g : Nat → Nat → Int64} (h : CX A f g) : f 3 3 = qH (hC (aH A)) := h.2.1.2.2.2.1
theorem cxD {A : zA} {f : Nat → Nat → Int32} {g : Nat → Nat → Int64} (h : CX A f g) : f 3 4 = nI (hD (aH A)) := h.2.1.2.2.2.2.1
theorem cxk {A : zA} {f : Nat → Nat → Int32} {g : Nat → Nat → Int64} (h : CX A f g) {p : Nat} (hp : p < wP (aW A)) : f 4 p = nI (wK (aW A) p) := (h.2.1.2.2.2.2.2.1 p hp).1
theorem cxr {A : zA} {f : Nat → Nat → Int32} {g : Nat → Nat → Int64} (h : CX A f g) {p : Nat} (hp : p < wP (aW A)) : f 5 p = nI (qR (hC (aH A)) p) := (h.2.1.2.2.2.2.2.1 p hp).2.1
theorem cxp {A : zA} {f : Nat → Nat → Int32} {g : Nat → Nat → Int64} (h : CX A f g) {p : Nat} (hp : p < wP (aW A)) : f 6 p = nI (hP (aH A) p) := (h.2.1.2.2.2.2.2.1 p hp).2.2.1
theorem cxd {A : zA} {f : Nat → Nat → Int32} {g : Nat → Nat → Int64} (h : CX A f g) {p : Nat} (hp : p < wP (aW A)) : f 7 p = qY (hC (aH A)) p := (h.2.1.2.2.2.2.2.1 p hp).2.2.2.1
theorem cxt {A : zA} {f : Nat → Nat → Int32} {g : Nat → Nat → Int64} (h : CX A f g) {p : Nat} (hp : p < wP (aW A)) : f 8 p = qT (hC (aH A)) p := (h.2.1.2.2.2.2.2.1 p hp).2.2.2.2
theorem cxa {A : zA} {f : Nat → Nat → Int32} {g : Nat → Nat → Int64} (h : CX A f g) {s : Nat} (hs : s < wS (aW A)) : f 9 s = nI (wA (aW A) s) := (h.2.1.2.2.2.2.2.2.1 s hs).1
theorem cxb {A : zA} {f : Nat → Nat → Int32} {g : Nat → Nat → Int64} (h : CX A f g) {s : Nat} (hs : s < wS (aW A)) : f 10 s = nI (wB (aW A) s) := (h.2.1.2.2.2.2.2.2.1 s hs).2
theorem cm0 {A : zA} {f : Nat → Nat → Int32} {g : Nat → Nat → Int64} (h : CM A f g) : f 112 22 = nI 0 := h.1.2.2.1
theorem cmP {A : zA} {f : Nat → Nat → Int32} {g : Nat → Nat → Int64} (h : CM A f g) : f 112 1 = nI (wP (aW A)) := h.2.1.1
theorem cmS {A : zA} {f : Nat → Nat → Int32} {g : Nat → Nat → Int64} (h : CM A f g) : f 112 3 = nI (wS (aW A)) := h.2.1.2.1
theorem cmk {A : zA} {f : Nat → Nat → Int32} {g : Nat → Nat → Int64} (h : CM A f g) {p : Nat} (hp : p < wP (aW A)) : f 114 p = nI (wK (aW A) p) := h.2.1.2.2.1 p hp
theorem cma {A : zA} {f : Nat → Nat → Int32} {g : Nat → Nat → Int64} (h : CM A f g) {s : Nat} (hs : s < wS (aW A)) : f 115 (2 * s) = nI (wA (aW A) s) := (h.2.1.2.2.2 s hs).1
theorem cmb {A : zA} {f : Nat → Nat → Int32} {g : Nat → Nat → Int64} (h : CM A f g) {s : Nat} (hs : s < wS (aW A)) : f 115 (2 * s + 1) = nI (wB (aW A) s) := (h.2.1.2.2.2 s hs).2
theorem cmD {A : zA} {f : Nat → Nat → Int32} {g : Nat → Nat → Int64} (h : CM A f g) : f 113 0 = nI (hD (aH A)) := h.2.2.1.1
theorem cmH {A : zA} {f : Nat → Nat → Int32} {g : Nat → Nat → Int64} (h : CM A f g) : f 113 1 = qH (hC (aH A)) := h.2.2.1.2.1.1
theorem cmB {A : zA} {f : Nat → Nat → Int32} {g : Nat → Nat → Int64} (h : CM A f g) : f 113 2 = nI (qS (hC (aH A))) := h.2.2.1.2.1.2.1
theorem cmr {A : zA} {f : Nat → Nat → Int32} {g : Nat → Nat → Int64} (h : CM A f g) {p : Nat} (hp : p < wP (aW A)) : f 113 (3 + p) = nI (qR (hC (aH A)) p) := (h.2.2.1.2.1.2.2 p hp).1
theorem cmd {A : zA} {f : Nat → Nat → Int32} {g : Nat → Nat → Int64} (h : CM A f g) {p : Nat} (hp : p < wP (aW A)) : f 113 (9 + p) = qY (hC (aH A)) p := (h.2.2.1.2.1.2.2 p hp).2.1
theorem cmt {A : zA} {f : Nat → Nat → Int32} {g : Nat → Nat → Int64} (h : CM A f g) {p : Nat} (hp : p < wP (aW A)) : f 113 (15 + p) = qT (hC (aH A)) p := (h.2.2.1.2.1.2.2 p hp).2.2
theorem cmp {A : zA} {f : Nat → Nat → Int32} {g : Nat → Nat → Int64} (h : CM A f g) {p : Nat} (hp : p < wP (aW A)) : f 113 (21 + p) = nI (hP (aH A) p) := by
  have := h.2.2.1.2.2.1 p hp; rwa [Nat.zero_add] at this
theorem wfP {A : zA} (hw : wf A) : wP (aW A) ≤ 6 := hw.2.2.1.1
theorem wfS {A : zA} (hw : wf A) : wS (aW A) ≤ 4 := hw.2.2.1.2.1
theorem wfk {A : zA} (hw : wf A) {p : Nat} (hp : p < wP (aW A)) : wK (aW A) p < 6 := hw.2.2.1.2.2.1 p hp
theorem wfab {A : zA} (hw : wf A) {s : Nat} (hs : s < wS (aW A)) : wA (aW A) s < 12 ∧ wB (aW A) s < 12 ∧ wA (aW A) s ≠ wB (aW A) s := hw.2.2.1.2.2.2 s hs
theorem wfp {A : zA} (hw : wf A) {p : Nat} (hp : p < wP (aW A)) : hP (aH A) p < 10 := hw.2.2.2.1.1 p hp
theorem wfD {A : zA} (hw : wf A) : hD (aH A) ≤ 40 := hw.2.2.2.1.2.1
theorem wfB {A : zA} (hw : wf A) : qS (hC (aH A)) < 4096 := (hw.2.2.2.1.2.2 _ (Nat.le_refl _)).1
theorem wfr {A : zA} (hw : wf A) {p : Nat} (hp : p < wP (aW A)) : qR (hC (aH A)) p < 12 := (hw.2.2.2.1.2.2 _ (Nat.le_refl _)).2 p hp
theorem CX_H {A : zA} {f f' : Nat → Nat → Int32} {g : Nat → Nat → Int64} {H : zHo} (h : CX A f g) (e : ∀ a, a < 3 ∨ 14 < a → f' a = f a) (hH : XH f' 3 (aW A) H) : CX (sH A H) f' g :=
  ⟨XN_fr h.1 (e _ (by omega)) (e _ (by omega)) rfl, hH, XK_fr h.2.2.1 (e _ (by omega)) (fun a h1 h2 => e a (by omega)), XR_fr h.2.2.2.1 (fun a h1 h2 => e a (by omega)), XT_fr h.2.2.2.2 (fun a h1 h2 => e a (by omega))⟩
theorem CM_H {A : zA} (hw : wf A) {f f' : Nat → Nat → Int32} {g : Nat → Nat → Int64} {H : zHo} (h : CM A f g) (e : ∀ a, a ≠ 113 → f' a = f a) (e1 : ∀ j, 827 ≤ j → f' 113 j = f 113 j) (hH : MH f' 0 (wP (aW A)) H) : CM (sH A H) f' g := by
  have e2 : ∀ j, f' 112 j = f 112 j := fun j => by rw [e 112 (by omega)]
  exact ⟨MN_fr h.1 (e2 _) (e2 _) (e2 _) (e _ (by omega)) rfl, MW_fr h.2.1 (e2 _) (e2 _) (e _ (by omega)) (e _ (by omega)), hH, MK_fr h.2.2.2.1 hw.2.2.1.1 hw.2.2.2.2 (fun j h1 _ => e1 j h1), MR_fr h.2.2.2.2.1 (e _ (by omega)) (e _ (by omega)), MT_fr h.2.2.2.2.2 (e _ (by omega)) (e _ (by omega))⟩
theorem wf_H {A : zA} (h : wf A) {H : zHo} (hH : wfH (wP (aW A)) H) : wf (sH A H) := ⟨h.1, h.2.1, h.2.2.1, hH, h.2.2.2.2⟩
/-! asked, upper, lower, finding, findings, door -/
theorem sim_asked (A : zA) (hw : wf A) : zSim A 136 233 [] := sim_0 hw (.int (nA (aN A))) (fun f g h => by rw [e_136, x_136_0, h.1.2.1]) (fun f g h => by rw [e_233, x_233_0, h.1.2.1])
theorem sim_upper (A : zA) (hw : wf A) : zSim A 137 234 [] := sim_0 hw (.long (nU (aN A))) (fun f g h => by rw [e_137, x_137_0, h.1.2.2.1]) (fun f g h => by rw [e_234, x_234_0, h.1.2.2.2.1])
theorem sim_lower (A : zA) (hw : wf A) : zSim A 138 235 [] := sim_0 hw (.long (nL (aN A))) (fun f g h => by rw [e_138, x_138_0, h.1.2.2.2.1]) (fun f g h => by rw [e_235, x_235_0, h.1.2.2.2.2.1])
theorem sim_finding (A : zA) (hw : wf A) : zSim A 143 240 [] := sim_0 hw (.int (nF (aN A))) (fun f g h => by rw [e_143, x_143_0, h.1.1]) (fun f g h => by rw [e_240, x_240_0, h.1.1])
theorem sim_findings (A : zA) (hw : wf A) (v : Int32) : zSim A 144 241 [.int v] := by
  have e1 : (v < nI 1) ↔ v.toInt < 1 := by rw [Int32.lt_iff_toInt_lt, nI_toInt (by decide)]; rfl
  have e2 : (v ≤ nI 5) ↔ v.toInt ≤ 5 := by rw [Int32.le_iff_toInt_le, nI_toInt (by decide)]; rfl
  have e3 : ((1 : Int64) ≤ v.toInt64 ∧ v.toInt64 ≤ lN 5) ↔ 1 ≤ v.toInt ∧ v.toInt ≤ 5 := by
    rw [Int64.le_iff_toInt_le, Int64.le_iff_toInt_le, Int32.toInt_toInt64, lN_toInt (by decide)]; rfl
  by_cases h1 : 1 ≤ v.toInt ∧ v.toInt ≤ 5
  · obtain ⟨i, hi, -, rfl⟩ := z_inx.mp (show zz_in v 6 from ⟨by omega, by omega⟩)
    rw [nI_toInt (by omega)] at h1
    refine sim_0 hw (.int (nC (aN A) i)) (fun f g h => ?_) (fun f g h => ?_)
    · have e := h.1.2.2.2.2 i hi
      simp (disch := first | omega | assumption) only [x_144_0, x_144_10, e_144, nI_add, pk_mul, z_in, z_ix, nI_leI, nI_ltI, nI_eq, z_eq0, z_lt0, z_0le, z_0lt, z_le0, z_n9, z_n1, z_m1lt, z_m9lt, z_m9le, z_m1le, zB_0, zB_1, zz_bi_s, zz_bv_s, zz_bl_s, if_pos, if_neg, if_true, if_false, true_and, and_true, not_true_eq_false, not_false_eq_true, ite_self, e]
    · have e := h.1.2.2.2.2.2 i hi
      rw [e_241, x_241_0, l_150, zB_c e3, nI_toInt (by omega)]
      simp (disch := first | omega | assumption) only [x_241_0, x_241_9, e_241, nI_add, pk_mul, z_in, z_ix, nI_leI, nI_ltI, nI_eq, z_eq0, z_lt0, z_0le, z_0lt, z_le0, z_n9, z_n1, z_m1lt, z_m9lt, z_m9le, z_m1le, zB_0, zB_1, zz_bi_s, zz_bv_s, zz_bl_s, if_pos, if_neg, if_true, if_false, true_and, and_true, not_true_eq_false, not_false_eq_true, ite_self, e, h1]
  · refine sim_0 hw (.int (-1)) (fun f g h => ?_) (fun f g h => ?_)
    · rw [e_144, x_144_0]
      by_cases h2 : v < nI 1
      · rw [if_pos h2, x_144_10]
      · rw [if_neg h2, if_neg (by rw [e2]; rw [e1] at h2; omega), x_144_10]
    · rw [e_241, x_241_0, l_150, zB_c e3]
      simp (disch := first | omega | assumption) only [x_241_0, x_241_9, e_241, nI_add, pk_mul, z_in, z_ix, nI_leI, nI_ltI, nI_eq, z_eq0, z_lt0, z_0le, z_0lt, z_le0, z_n9, z_n1, z_m1lt, z_m9lt, z_m9le, z_m1le, zB_0, zB_1, zz_bi_s, zz_bv_s, zz_bl_s, if_pos, if_neg, if_true, if_false, true_and, and_true, not_true_eq_false, not_false_eq_true, ite_self, h1]
theorem sim_door (A : zA) (hw : wf A) (v : Int32) : zSim A 54 181 [.int v] := by
  have hB := wfB hw
  by_cases h1 : zz_in v 12
  · obtain ⟨i, hi, -, rfl⟩ := z_inx.mp h1
    refine sim_0 hw (.int (nI ((qS (hC (aH A))).testBit i).toNat)) (fun f g h => ?_) (fun f g h => ?_)
    · simp (disch := first | omega | assumption) only [x_54_0, x_54_4, x_54_20, e_54, l_35, nI_add, pk_mul, z_in, z_ix, nI_leI, nI_ltI, nI_eq, z_eq0, z_lt0, z_0le, z_0lt, z_le0, z_n9, z_n1, z_m1lt, z_m9lt, z_m9le, z_m1le, zB_0, zB_1, zz_bi_s, zz_bv_s, zz_bl_s, if_pos, if_neg, if_true, if_false, true_and, and_true, not_true_eq_false, not_false_eq_true, ite_self, cxP h, cxS h, cxB h, cxH h, cxD h, cxk h, cxr h, cxp h, cxd h, cxt h, cxa h, cxb h, l_38]
      cases (qS (hC (aH A))).testBit i <;> rfl
    · simp (disch := first | omega | assumption) only [x_181_0, x_181_4, e_181, l_182, nI_add, pk_mul, z_in, z_ix, nI_leI, nI_ltI, nI_eq, z_eq0, z_lt0, z_0le, z_0lt, z_le0, z_n9, z_n1, z_m1lt, z_m9lt, z_m9le, z_m1le, zB_0, zB_1, zz_bi_s, zz_bv_s, zz_bl_s, if_pos, if_neg, if_true, if_false, true_and, and_true, not_true_eq_false, not_false_eq_true, ite_self, cmP h, cmS h, cmB h, cmH h, cmD h, cmk h, cmr h, cmp h, cmd h, cmt h, cma h, cmb h, cm0 h, z_bit]
  · exact sim_0 hw (.int (-1)) (fun f g h => by simp (disch := first | omega | assumption) only [x_54_0, x_54_4, x_54_20, e_54, l_35, nI_add, pk_mul, z_in, z_ix, nI_leI, nI_ltI, nI_eq, z_eq0, z_lt0, z_0le, z_0lt, z_le0, z_n9, z_n1, z_m1lt, z_m9lt, z_m9le, z_m1le, zB_0, zB_1, zz_bi_s, zz_bv_s, zz_bl_s, if_pos, if_neg, if_true, if_false, true_and, and_true, not_true_eq_false, not_false_eq_true, ite_self, h1]) (fun f g h => by simp (disch := first | omega | assumption) only [x_181_0, x_181_4, e_181, l_182, nI_add, pk_mul, z_in, z_ix, nI_leI, nI_ltI, nI_eq, z_eq0, z_lt0, z_0le, z_0lt, z_le0, z_n9, z_n1, z_m1lt, z_m9lt, z_m9le, z_m1le, zB_0, zB_1, zz_bi_s, zz_bv_s, zz_bl_s, if_pos, if_neg, if_true, if_false, true_and, and_true, not_true_eq_false, not_false_eq_true, ite_self, h1])
/-! pace -/
def hPc (H : zHo) (p v : Nat) : zHo := (zup (hP H) p v, hD H, hQ H)
theorem sim_pace (A : zA) (hw : wf A) (v1 v2 : Int32) : zSim A 67 192 [.int v1, .int v2] := by
  have hP6 := wfP hw
  have hD40 := wfD hw
  by_cases h1 : zz_in v1 (wP (aW A))
  · obtain ⟨p, hp, -, rfl⟩ := z_inx.mp h1
    by_cases h2 : zz_in v2 10
    · obtain ⟨v, hv, -, rfl⟩ := z_inx.mp h2
      by_cases h3 : hD (aH A) = 0
      · refine ⟨.int (nI (hP (aH A) p)), sH A (hPc (aH A) p v), wf_H hw ⟨fun q hq => ?_, hw.2.2.2.1.2⟩, fun f g h => ⟨zz_u f 6 p (nI v), g, ?_, CX_H h (fun a ha => zu_c (by omega)) ?_, zHi_u (by omega)⟩, fun f g h => ⟨zz_u f 113 (21 + p) (nI v), g, ?_, CM_H hw h (fun a ha => zu_c (by omega)) (fun j hj => zu_i (by omega)) ?_, zLo_u (by omega) (by omega)⟩⟩
        · show zup _ _ _ q < 10
          unfold zup; split
          · exact hv
          · exact wfp hw hq
        · simp (disch := first | omega | assumption) only [x_67_0, x_67_5, x_67_18, e_67, l_46 g _ (cxP h) hP6, nI_add, pk_mul, z_in, z_ix, nI_leI, nI_ltI, nI_eq, z_eq0, z_lt0, z_0le, z_0lt, z_le0, z_n9, z_n1, z_m1lt, z_m9lt, z_m9le, z_m1le, zB_0, zB_1, zz_bi_s, zz_bv_s, zz_bl_s, if_pos, if_neg, if_true, if_false, true_and, and_true, not_true_eq_false, not_false_eq_true, ite_self, cxP h, cxS h, cxB h, cxH h, cxD h, cxk h, cxr h, cxp h, cxd h, cxt h, cxa h, cxb h]
        · obtain ⟨x1, x2, x3, x4, x5, x6, x7, x8⟩ := h.2.1
          refine ⟨by rw [zu_c (by omega)]; exact x1, by rw [zu_c (by omega)]; exact x2, by rw [zu_c (by omega)]; exact x3, by rw [zu_c (by omega)]; exact x4, by rw [zu_c (by omega)]; exact x5, fun q hq => ?_, fun s hs => ?_, fun d hd => ?_⟩
          · refine ⟨by rw [zu_c (by omega)]; exact (x6 q hq).1, by rw [zu_c (by omega)]; exact (x6 q hq).2.1, ?_, by rw [zu_c (by omega)]; exact (x6 q hq).2.2.2.1, by rw [zu_c (by omega)]; exact (x6 q hq).2.2.2.2⟩
            rw [zu_if]; show _ = nI (zup _ _ _ q)
            unfold zup; split
            · rfl
            · exact (x6 q hq).2.2.1
          · rw [zu_c (by omega), zu_c (by omega)]; exact x7 s hs
          · exact absurd hd (by show ¬ d < hD (aH A); omega)
        · simp (disch := first | omega | assumption) only [x_192_0, x_192_5, x_192_17, x_192_20, e_192, l_176 g _ (cmP h) hP6, nI_add, pk_mul, z_in, z_ix, nI_leI, nI_ltI, nI_eq, z_eq0, z_lt0, z_0le, z_0lt, z_le0, z_n9, z_n1, z_m1lt, z_m9lt, z_m9le, z_m1le, zB_0, zB_1, zz_bi_s, zz_bv_s, zz_bl_s, if_pos, if_neg, if_true, if_false, true_and, and_true, not_true_eq_false, not_false_eq_true, ite_self, cmP h, cmS h, cmB h, cmH h, cmD h, cmk h, cmr h, cmp h, cmd h, cmt h, cma h, cmb h, cm0 h, l_150n]
        · obtain ⟨x1, x2, x3, x4⟩ := h.2.2.1
          refine ⟨by rw [zu_i (by omega)]; exact x1, YQ_fr x2 hP6 (fun j h1 h2 => zu_i (by omega)), fun q hq => ?_, fun d hd => ?_⟩
          · rw [zu_if]; show _ = nI (zup _ _ _ q)
            unfold zup; split
            · rw [if_pos (by omega)]
            · rw [if_neg (by omega)]; exact x3 q hq
          · exact absurd hd (by show ¬ d < hD (aH A); omega)
      · exact sim_0 hw (.int (-4)) (fun f g h => by simp (disch := first | omega | assumption) only [x_67_0, x_67_5, x_67_18, e_67, l_46 g _ (cxP h) hP6, nI_add, pk_mul, z_in, z_ix, nI_leI, nI_ltI, nI_eq, z_eq0, z_lt0, z_0le, z_0lt, z_le0, z_n9, z_n1, z_m1lt, z_m9lt, z_m9le, z_m1le, zB_0, zB_1, zz_bi_s, zz_bv_s, zz_bl_s, if_pos, if_neg, if_true, if_false, true_and, and_true, not_true_eq_false, not_false_eq_true, ite_self, cxP h, cxS h, cxB h, cxH h, cxD h, cxk h, cxr h, cxp h, cxd h, cxt h, cxa h, cxb h]) (fun f g h => by simp (disch := first | omega | assumption) only [x_192_0, x_192_5, x_192_17, x_192_20, e_192, l_176 g _ (cmP h) hP6, nI_add, pk_mul, z_in, z_ix, nI_leI, nI_ltI, nI_eq, z_eq0, z_lt0, z_0le, z_0lt, z_le0, z_n9, z_n1, z_m1lt, z_m9lt, z_m9le, z_m1le, zB_0, zB_1, zz_bi_s, zz_bv_s, zz_bl_s, if_pos, if_neg, if_true, if_false, true_and, and_true, not_true_eq_false, not_false_eq_true, ite_self, cmP h, cmS h, cmB h, cmH h, cmD h, cmk h, cmr h, cmp h, cmd h, cmt h, cma h, cmb h, cm0 h, l_150n])
    · refine sim_0 hw (.int (-1)) (fun f g h => ?_) (fun f g h => by simp (disch := first | omega | assumption) only [x_192_0, x_192_5, x_192_17, x_192_20, e_192, l_176 g _ (cmP h) hP6, nI_add, pk_mul, z_in, z_ix, nI_leI, nI_ltI, nI_eq, z_eq0, z_lt0, z_0le, z_0lt, z_le0, z_n9, z_n1, z_m1lt, z_m9lt, z_m9le, z_m1le, zB_0, zB_1, zz_bi_s, zz_bv_s, zz_bl_s, if_pos, if_neg, if_true, if_false, true_and, and_true, not_true_eq_false, not_false_eq_true, ite_self, cmP h, cmS h, cmB h, cmH h, cmD h, cmk h, cmr h, cmp h, cmd h, cmt h, cma h, cmb h, cm0 h, l_150n, h2])
      have h3 := (z_rng (by decide)).mpr h2
      rw [e_67, x_67_0, l_46 g _ (cxP h) hP6, zz_bi_s, x_67_5, x_67_18]
      simp (disch := first | omega | assumption) only [nI_add, pk_mul, z_in, z_ix, nI_leI, nI_ltI, nI_eq, z_eq0, z_lt0, z_0le, z_0lt, z_le0, z_n9, z_n1, z_m1lt, z_m9lt, z_m9le, z_m1le, zB_0, zB_1, zz_bi_s, zz_bv_s, zz_bl_s, if_pos, if_neg, if_true, if_false, true_and, and_true, not_true_eq_false, not_false_eq_true, ite_self]
      by_cases h4 : v2 < 0
      · rw [if_pos h4]
      · rw [if_neg h4, if_neg]
        rcases h3 with h3 | h3
        · exact absurd h3 h4
        · intro h5; rw [Int32.lt_iff_toInt_lt] at h5; rw [Int32.le_iff_toInt_le] at h3; omega
  · exact sim_0 hw (.int (-1)) (fun f g h => by simp (disch := first | omega | assumption) only [x_67_0, x_67_5, x_67_18, e_67, l_46 g _ (cxP h) hP6, nI_add, pk_mul, z_in, z_ix, nI_leI, nI_ltI, nI_eq, z_eq0, z_lt0, z_0le, z_0lt, z_le0, z_n9, z_n1, z_m1lt, z_m9lt, z_m9le, z_m1le, zB_0, zB_1, zz_bi_s, zz_bv_s, zz_bl_s, if_pos, if_neg, if_true, if_false, true_and, and_true, not_true_eq_false, not_false_eq_true, ite_self, h1]) (fun f g h => by simp (disch := first | omega | assumption) only [x_192_0, x_192_5, x_192_17, x_192_20, e_192, l_176 g _ (cmP h) hP6, nI_add, pk_mul, z_in, z_ix, nI_leI, nI_ltI, nI_eq, z_eq0, z_lt0, z_0le, z_0lt, z_le0, z_n9, z_n1, z_m1lt, z_m9lt, z_m9le, z_m1le, zB_0, zB_1, zz_bi_s, zz_bv_s, zz_bl_s, if_pos, if_neg, if_true, if_false, true_and, and_true, not_true_eq_false, not_false_eq_true, ite_self, h1])
