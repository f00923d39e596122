/-! FAULT -/
theorem zrd_60e {c : Nat → Int32} {s : Nat} {D : zD} (h : s ≤ dP D) : zrd c s 60 D = .inr D := by
  show zrd c s (59 + 1) D = _
  rw [zrd_s, if_pos h]
theorem zrd_60b {c : Nat → Int32} {s : Nat} {D : zD} (hs : s ≤ 60) (hw : wfZ s D) (ha : dP D < s) (h : c (dP D) = nI 32) : zrd c s 60 D = zrd c s 60 (dNext D) := by
  show zrd c s (59 + 1) D = _
  rw [zrd_s, if_neg (by omega), if_pos h]
  exact zrd_f 59 60 _ (wfZ_next hw ha) (by show s - (dP D + 1) ≤ 59; omega) (by show s - (dP D + 1) ≤ 60; omega)
theorem zrd_60l {c : Nat → Int32} {s q : Nat} {D : zD} (ha : dP D < s) (h : c (dP D) ≠ nI 32) (z : zit c s D = .inl q) : zrd c s 60 D = .inl q := by
  show zrd c s (59 + 1) D = _
  rw [zrd_s, if_neg (by omega), if_neg h]; simp only [z]
theorem zrd_60i {c : Nat → Int32} {s : Nat} {D E : zD} (hs : s ≤ 60) (hw : wfZ s D) (ha : dP D < s) (h : c (dP D) ≠ nI 32) (z : zit c s D = .inr E) : zrd c s 60 D = zrd c s 60 E := by
  have r := zit_r hw z
  show zrd c s (59 + 1) D = _
  rw [zrd_s, if_neg (by omega), if_neg h]; simp only [z]
  exact zrd_f 59 60 E r.1 (by omega) (by omega)
theorem MD_next {D : zD} {f : Nat → Nat → Int32} (h : MD D f) : MD (dNext D) (zz_u f 112 15 (nI (dP D + 1))) := by
  obtain ⟨h1, h2, h3, h4, h5, h6⟩ := h
  exact ⟨zu_s, by rw [zu_i (by decide)]; exact h2, by rw [zu_i (by decide)]; exact h3, by rw [zu_i (by decide)]; exact h4, fun p hp => by rw [zu_c (by decide)]; exact h5 p hp, fun j hj => by rw [zu_c (by decide)]; exact h6 j hj⟩
theorem l_166 {t s : Nat} {c : Nat → Int32} {g : Nat → Nat → Int64} : ∀ (n : Nat) (D : zD) (f : Nat → Nat → Int32), s - dP D ≤ n → MC t s c f → wfZ s D → MD D f → ∃ (f' : Nat → Nat → Int32) (E : zD), zz_ca 166 [.ref 112] (zK f g) = some (none, zK f' g) ∧ zRd f f' ∧ wfZ s E ∧ MD E f' ∧ (s ≤ dP E ∨ c (dP E) ≠ nI 32) ∧ zrd c s 60 D = zrd c s 60 E ∧ dP D ≤ dP E := by
  intro n
  induction n with
  | zero =>
    intro D f hn hC hw hD
    have p15 := hD.1
    have p16 := hC.2.2.2.2.1
    have hs60 := hC.2.1
    have hp := hw.1
    refine ⟨f, D, ?_, zRd_r, hw, hD, Or.inl (by omega), rfl, Nat.le_refl _⟩
    rw [e_166, x_166_0]; simp (disch := first | omega | assumption) only [nI_add, pk_mul, z_in, z_ix, nI_leI, nI_ltI, nI_eq, z_eq0, z_lt0, z_0le, z_0lt, z_le0, z_n9, z_n1, z_m1lt, z_m9lt, z_m9le, z_m1le, zB_0, zB_1, zz_bi_s, zz_bv_s, zz_bl_s, if_pos, if_neg, if_true, if_false, true_and, and_true, not_true_eq_false, not_false_eq_true, ite_self, p15, p16]
  | succ n ih =>
    intro D f hn hC hw hD
    have p15 := hD.1
    have p16 := hC.2.2.2.2.1
    have hs60 := hC.2.1
    have hp := hw.1
    by_cases q : s ≤ dP D
    · refine ⟨f, D, ?_, zRd_r, hw, hD, Or.inl q, rfl, Nat.le_refl _⟩
      rw [e_166, x_166_0]; simp (disch := first | omega | assumption) only [nI_add, pk_mul, z_in, z_ix, nI_leI, nI_ltI, nI_eq, z_eq0, z_lt0, z_0le, z_0lt, z_le0, z_n9, z_n1, z_m1lt, z_m9lt, z_m9le, z_m1le, zB_0, zB_1, zz_bi_s, zz_bv_s, zz_bl_s, if_pos, if_neg, if_true, if_false, true_and, and_true, not_true_eq_false, not_false_eq_true, ite_self, p15, p16]
    · have e167 := l_167 (g := g) hC p15 (by omega)
      by_cases q2 : c (dP D) = nI 32
      · have e : dP (dNext D) = dP D + 1 := rfl
        obtain ⟨f', E, r1, r2, r3, r4, r5, r6, r7⟩ := ih (dNext D) (zz_u f 112 15 (nI (dP D + 1))) (by omega) (MC_fr hC (zRd_p (by omega))) (wfZ_next hw (by omega)) (MD_next hD)
        refine ⟨f', E, ?_, zRd_t (zRd_p (by omega)) r2, r3, r4, r5, (zrd_60b hs60 hw (by omega) q2).trans r6, by omega⟩
        rw [e_166] at r1 ⊢
        rw [x_166_0]; simp (disch := first | omega | assumption) only [nI_add, pk_mul, z_in, z_ix, nI_leI, nI_ltI, nI_eq, z_eq0, z_lt0, z_0le, z_0lt, z_le0, z_n9, z_n1, z_m1lt, z_m9lt, z_m9le, z_m1le, zB_0, zB_1, zz_bi_s, zz_bv_s, zz_bl_s, if_pos, if_neg, if_true, if_false, true_and, and_true, not_true_eq_false, not_false_eq_true, ite_self, p15, p16, e167, q2, x_166_15]
        exact r1
      · refine ⟨f, D, ?_, zRd_r, hw, hD, Or.inr q2, rfl, Nat.le_refl _⟩
        rw [e_166, x_166_0]; simp (disch := first | omega | assumption) only [nI_add, pk_mul, z_in, z_ix, nI_leI, nI_ltI, nI_eq, z_eq0, z_lt0, z_0le, z_0lt, z_le0, z_n9, z_n1, z_m1lt, z_m9lt, z_m9le, z_m1le, zB_0, zB_1, zz_bi_s, zz_bv_s, zz_bl_s, if_pos, if_neg, if_true, if_false, true_and, and_true, not_true_eq_false, not_false_eq_true, ite_self, p15, p16, e167, x_166_15, q2]
theorem l_165_44 {t s : Nat} {c : Nat → Int32} {g : Nat → Nat → Int64} : ∀ (n : Nat) (D : zD) (f : Nat → Nat → Int32), s - dP D ≤ n → MC t s c f → wfZ s D → MD D f → (s ≤ dP D ∨ c (dP D) ≠ nI 32) → ∃ f' : Nat → Nat → Int32, zz_ev 165 44 [.ref 112, .null, .int (nI 1)] [] (zK f g) = some (some (.int (zrz s (zrd c s 60 D))), zK f' g) ∧ zRd f f' ∧ ∀ E, zrd c s 60 D = .inr E → wfZ s E ∧ MD E f' := by
  intro n
  induction n with
  | zero =>
    intro D f hn hC hw hD _
    have p15 := hD.1
    have p18 := hD.2.1
    have p16 := hC.2.2.2.2.1
    have hs60 := hC.2.1
    have hp := hw.1
    have hP6 := hw.2.1.1
    have e : dP D = s := by omega
    rw [zrd_60e (by omega)]
    refine ⟨f, ?_, zRd_r, fun E q => by cases q; exact ⟨hw, hD⟩⟩
    show _ = some (some (Value.int (if wP (dW D) = 0 then nI s else -9)), zK f g)
    rw [x_165_44]; simp (disch := first | omega | assumption) only [nI_add, pk_mul, z_in, z_ix, nI_leI, nI_ltI, nI_eq, z_eq0, z_lt0, z_0le, z_0lt, z_le0, z_n9, z_n1, z_m1lt, z_m9lt, z_m9le, z_m1le, zB_0, zB_1, zz_bi_s, zz_bv_s, zz_bl_s, if_pos, if_neg, if_true, if_false, true_and, and_true, not_true_eq_false, not_false_eq_true, ite_self, p15, p16, x_165_107, p18, x_165_123]
    rw [e]; split <;> rfl
  | succ n ih =>
    intro D f hn hC hw hD hb
    have p15 := hD.1
    have p18 := hD.2.1
    have p16 := hC.2.2.2.2.1
    have hs60 := hC.2.1
    have hp := hw.1
    have hP6 := hw.2.1.1
    by_cases q : s ≤ dP D
    · have e : dP D = s := by omega
      rw [zrd_60e (by omega)]
      refine ⟨f, ?_, zRd_r, fun E q => by cases q; exact ⟨hw, hD⟩⟩
      show _ = some (some (Value.int (if wP (dW D) = 0 then nI s else -9)), zK f g)
      rw [x_165_44]; simp (disch := first | omega | assumption) only [nI_add, pk_mul, z_in, z_ix, nI_leI, nI_ltI, nI_eq, z_eq0, z_lt0, z_0le, z_0lt, z_le0, z_n9, z_n1, z_m1lt, z_m9lt, z_m9le, z_m1le, zB_0, zB_1, zz_bi_s, zz_bv_s, zz_bl_s, if_pos, if_neg, if_true, if_false, true_and, and_true, not_true_eq_false, not_false_eq_true, ite_self, p15, p16, x_165_107, p18, x_165_123]
      rw [e]; split <;> rfl
    · have ha : dP D < s := by omega
      have h32 : c (dP D) ≠ nI 32 := by rcases hb with w | w; exact absurd w q; exact w
      have e167 := l_167 (g := g) hC p15 ha
      obtain ⟨f1, b, ci, k1, k2⟩ := l_item (g := g) hC hw hD ha
      rcases k2 with ⟨rfl, y, z, k3⟩ | ⟨rfl, E, z, k3⟩
      · rw [zrd_60l ha h32 z]
        refine ⟨f1, ?_, k1, fun E w => by cases w⟩
        show _ = some (some (Value.int (nI y)), zK f1 g)
        rw [x_165_44]; simp (disch := first | omega | assumption) only [nI_add, pk_mul, z_in, z_ix, nI_leI, nI_ltI, nI_eq, z_eq0, z_lt0, z_0le, z_0lt, z_le0, z_n9, z_n1, z_m1lt, z_m9lt, z_m9le, z_m1le, zB_0, zB_1, zz_bi_s, zz_bv_s, zz_bl_s, if_pos, if_neg, if_true, if_false, true_and, and_true, not_true_eq_false, not_false_eq_true, ite_self, p15, p16, e167, ci, x_165_95]
        rw [x_165_44]; simp (disch := first | omega | assumption) only [nI_add, pk_mul, z_in, z_ix, nI_leI, nI_ltI, nI_eq, z_eq0, z_lt0, z_0le, z_0lt, z_le0, z_n9, z_n1, z_m1lt, z_m9lt, z_m9le, z_m1le, zB_0, zB_1, zz_bi_s, zz_bv_s, zz_bl_s, if_pos, if_neg, if_true, if_false, true_and, and_true, not_true_eq_false, not_false_eq_true, ite_self, x_165_107, x_165_123, k3]
      · have r := zit_r hw z
        obtain ⟨f2, E2, s1, s2, s3, s4, s5, s6, s7⟩ := l_166 (g := g) s E f1 (by omega) (MC_fr hC k1) r.1 k3
        obtain ⟨f3, t1, t2, t3⟩ := ih E2 f2 (by omega) (MC_fr (MC_fr hC k1) s2) s3 s4 s5
        rw [(zrd_60i hs60 hw ha h32 z).trans s6]
        refine ⟨f3, ?_, zRd_t (zRd_t k1 s2) t2, t3⟩
        rw [← t1, x_165_44]; simp (disch := first | omega | assumption) only [nI_add, pk_mul, z_in, z_ix, nI_leI, nI_ltI, nI_eq, z_eq0, z_lt0, z_0le, z_0lt, z_le0, z_n9, z_n1, z_m1lt, z_m9lt, z_m9le, z_m1le, zB_0, zB_1, zz_bi_s, zz_bv_s, zz_bl_s, if_pos, if_neg, if_true, if_false, true_and, and_true, not_true_eq_false, not_false_eq_true, ite_self, p15, p16, e167, ci, x_165_95, s1, x_165_104]
theorem l_165 {f : Nat → Nat → Int32} {g : Nat → Nat → Int64} {t s : Nat} {c : Nat → Int32} (ht : t < 4) (hs : s ≤ 60) (hb : ∀ i < 60, zby (c i)) (h1 : f 118 t = nI s) (h2 : ∀ i < 60, f 119 (60 * t + i) = c i) : ∃ f', zz_ca 165 [.ref 112, .int (nI t)] (zK f g) = some (some (.int (zrz s (zrd c s 60 d0))), zK f' g) ∧ zMs f f' g g ∧ ∀ E, zrd c s 60 d0 = .inr E → wfZ s E ∧ MD E f' := by
  have k1 : ∀ x, x ≠ 112 → zz_u (zz_u (zz_u (zz_u (zz_u (zz_u f 112 14 (nI (60 * t))) 112 15 (nI 0)) 112 16 (nI s)) 112 18 (nI 0)) 112 20 (nI 0)) 112 21 (nI 0) x = f x := fun x hx => by rw [zu_c hx, zu_c hx, zu_c hx, zu_c hx, zu_c hx, zu_c hx]
  have k2 : ∀ j, j < 14 ∨ j = 22 → zz_u (zz_u (zz_u (zz_u (zz_u (zz_u f 112 14 (nI (60 * t))) 112 15 (nI 0)) 112 16 (nI s)) 112 18 (nI 0)) 112 20 (nI 0)) 112 21 (nI 0) 112 j = f 112 j := fun j hj => by rw [zu_i (by omega), zu_i (by omega), zu_i (by omega), zu_i (by omega), zu_i (by omega), zu_i (by omega)]
  have hC : MC t s c (zz_u (zz_u (zz_u (zz_u (zz_u (zz_u f 112 14 (nI (60 * t))) 112 15 (nI 0)) 112 16 (nI s)) 112 18 (nI 0)) 112 20 (nI 0)) 112 21 (nI 0)) := ⟨ht, hs, hb, by simp (disch := omega) only [zu_i, zu_s], by simp (disch := omega) only [zu_i, zu_s], fun i hi => by rw [k1 119 (by decide)]; exact h2 i hi⟩
  have hD : MD d0 (zz_u (zz_u (zz_u (zz_u (zz_u (zz_u f 112 14 (nI (60 * t))) 112 15 (nI 0)) 112 16 (nI s)) 112 18 (nI 0)) 112 20 (nI 0)) 112 21 (nI 0)) := ⟨by simp (disch := omega) only [zu_i, zu_s]; rfl, by simp (disch := omega) only [zu_i, zu_s]; rfl, by simp (disch := omega) only [zu_i, zu_s]; rfl, by simp (disch := omega) only [zu_i, zu_s]; rfl, fun p hp => absurd hp (Nat.not_lt_zero _), fun p hp => absurd hp (Nat.not_lt_zero _)⟩
  obtain ⟨f1, E, s1, s2, s3, s4, s5, s6, s7⟩ := l_166 (g := g) s d0 _ (Nat.sub_le _ _) hC (wfZ_0 s) hD
  obtain ⟨f2, t1, t2, t3⟩ := l_165_44 (g := g) s E f1 (Nat.sub_le _ _) (MC_fr hC s2) s3 s4 s5
  have fr := zRd_t s2 t2
  refine ⟨f2, ?_, ⟨fun a q1 q2 => by rw [fr.1 a q1 (by omega) (by omega), k1 a q1], fun _ _ => rfl, fun j hj => by rw [fr.2 j (by omega), k2 j hj]⟩, by rw [s6]; exact t3⟩
  rw [s6, ← t1, e_165, x_165_0]; simp (disch := first | omega | assumption) only [nI_add, pk_mul, z_in, z_ix, nI_leI, nI_ltI, nI_eq, z_eq0, z_lt0, z_0le, z_0lt, z_le0, z_n9, z_n1, z_m1lt, z_m9lt, z_m9le, z_m1le, zB_0, zB_1, zz_bi_s, zz_bv_s, zz_bl_s, if_pos, if_neg, if_true, if_false, true_and, and_true, not_true_eq_false, not_false_eq_true, ite_self, zu_c, h1, s1, x_165_42]
  rw [hi_165_44]
/-- a text, as the two hold it -/
theorem tX {A : zA} (hw : wf A) {f : Nat → Nat → Int32} {g : Nat → Nat → Int64} (h : CX A f g) {t s : Nat} (ht : t < 4) (hs : s ≤ 60) (e : (aT A).1 t = nI s) : XC (68 + 2 * t) s ((aT A).2 t) f :=
  ⟨zs_S_text t ht, by omega, hs, (hw.2.1 t ht).2, by rw [← e]; exact (h.2.2.2.2 t ht).1, (h.2.2.2.2 t ht).2⟩
theorem sim_fault (A : zA) (hw : wf A) (v1 : Int32) : zSim A 29 164 [.int v1] := by
  by_cases h1 : zz_in v1 4
  · obtain ⟨t, ht, -, rfl⟩ := z_inx.mp h1
    rcases (hw.2.1 t ht).1 with h2 | ⟨s, hs, h2⟩
    · refine sim_F hw (w := 1) (by decide) (by decide) (fun f g h => ?_) (fun f g h => ?_)
      · have e := (h.2.2.2.2 t ht).1; rw [h2] at e
        simp (disch := first | omega | assumption) only [x_29_0, x_29_4, x_29_18, x_29_26, x_29_40, e_29, l_27, nI_add, pk_mul, z_in, z_ix, nI_leI, nI_ltI, nI_eq, z_eq0, z_lt0, z_0le, z_0lt, z_le0, z_n9, z_n1, z_m1lt, z_m9lt, z_m9le, z_m1le, zB_0, zB_1, zz_bi_s, zz_bv_s, zz_bl_s, if_pos, if_neg, if_true, if_false, true_and, and_true, not_true_eq_false, not_false_eq_true, ite_self, l_17t, e, l_12]
      · have e := (h.2.2.2.2.2 t ht).1; rw [h2] at e
        simp (disch := first | omega | assumption) only [x_164_0, x_164_4, x_164_23, x_164_31, e_164, l_162, nI_add, pk_mul, z_in, z_ix, nI_leI, nI_ltI, nI_eq, z_eq0, z_lt0, z_0le, z_0lt, z_le0, z_n9, z_n1, z_m1lt, z_m9lt, z_m9le, z_m1le, zB_0, zB_1, zz_bi_s, zz_bv_s, zz_bl_s, if_pos, if_neg, if_true, if_false, true_and, and_true, not_true_eq_false, not_false_eq_true, ite_self, e, l_151]
    · refine sim_s hw (.int (zrz s (zrd ((aT A).2 t) s 60 d0))) (fun f g h => ?_) (fun f g h => ?_)
      · have e := (h.2.2.2.2 t ht).1; rw [h2] at e
        obtain ⟨f', e1, e2, -⟩ := l_30 (g := g) (tX hw h ht hs h2)
        refine ⟨f', g, ?_, ⟨fun a ha => e2 a (by omega), fun _ _ => rfl⟩⟩
        simp (disch := first | omega | assumption) only [x_29_0, x_29_4, x_29_18, x_29_26, x_29_40, e_29, l_27, nI_add, pk_mul, z_in, z_ix, nI_leI, nI_ltI, nI_eq, z_eq0, z_lt0, z_0le, z_0lt, z_le0, z_n9, z_n1, z_m1lt, z_m9lt, z_m9le, z_m1le, zB_0, zB_1, zz_bi_s, zz_bv_s, zz_bl_s, if_pos, if_neg, if_true, if_false, true_and, and_true, not_true_eq_false, not_false_eq_true, ite_self, l_17t, e, e1]
      · have e := (h.2.2.2.2.2 t ht).1; rw [h2] at e
        obtain ⟨f', e1, e2, -⟩ := l_165 (g := g) ht hs (hw.2.1 t ht).2 e (h.2.2.2.2.2 t ht).2
        refine ⟨f', g, ?_, e2⟩
        simp (disch := first | omega | assumption) only [x_164_0, x_164_4, x_164_23, x_164_31, e_164, l_162, nI_add, pk_mul, z_in, z_ix, nI_leI, nI_ltI, nI_eq, z_eq0, z_lt0, z_0le, z_0lt, z_le0, z_n9, z_n1, z_m1lt, z_m9lt, z_m9le, z_m1le, zB_0, zB_1, zz_bi_s, zz_bv_s, zz_bl_s, if_pos, if_neg, if_true, if_false, true_and, and_true, not_true_eq_false, not_false_eq_true, ite_self, e, e1]
  · exact sim_0 hw (.int (-1)) (fun f g h => by simp (disch := first | omega | assumption) only [x_29_0, x_29_4, x_29_18, x_29_26, x_29_40, e_29, l_27, nI_add, pk_mul, z_in, z_ix, nI_leI, nI_ltI, nI_eq, z_eq0, z_lt0, z_0le, z_0lt, z_le0, z_n9, z_n1, z_m1lt, z_m9lt, z_m9le, z_m1le, zB_0, zB_1, zz_bi_s, zz_bv_s, zz_bl_s, if_pos, if_neg, if_true, if_false, true_and, and_true, not_true_eq_false, not_false_eq_true, ite_self, h1]) (fun f g h => by simp (disch := first | omega | assumption) only [x_164_0, x_164_4, x_164_23, x_164_31, e_164, l_162, nI_add, pk_mul, z_in, z_ix, nI_leI, nI_ltI, nI_eq, z_eq0, z_lt0, z_0le, z_0lt, z_le0, z_n9, z_n1, z_m1lt, z_m9lt, z_m9le, z_m1le, zB_0, zB_1, zz_bi_s, zz_bv_s, zz_bl_s, if_pos, if_neg, if_true, if_false, true_and, and_true, not_true_eq_false, not_false_eq_true, ite_self, h1])
