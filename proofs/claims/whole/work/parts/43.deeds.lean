/-! DEEDS -/
def hPush (H : zHo) (q : zQ) : zHo := (hP H, hD H + 1, fun d => if d = hD H + 1 then q else hQ H d)
theorem hPush_P {H : zHo} {q : zQ} : hP (hPush H q) = hP H := rfl
theorem hPush_D {H : zHo} {q : zQ} : hD (hPush H q) = hD H + 1 := rfl
theorem hPush_C {H : zHo} {q : zQ} : hC (hPush H q) = q := if_pos rfl
theorem hPush_Q {H : zHo} {q : zQ} {d : Nat} (h : d ≤ hD H) : hQ (hPush H q) d = hQ H d := if_neg (by show ¬ d = hD H + 1; omega)
theorem hPush_Q1 {H : zHo} {q : zQ} : hQ (hPush H q) (hD H + 1) = q := if_pos rfl
theorem wfH_push {P : Nat} {H : zHo} (h : wfH P H) {q : zQ} (hq : wfQ P q) (hD40 : hD H < 40) : wfH P (hPush H q) := by
  refine ⟨h.1, ?_, fun d hd => ?_⟩
  · show hD H + 1 ≤ 40; omega
  · by_cases e : d = hD H + 1
    · subst e; rw [hPush_Q1]; exact hq
    · have hd : d ≤ hD H + 1 := hd
      rw [hPush_Q (by omega)]; exact h.2.2 d (by omega)
/-- a deed noted -/
def znt (f : Nat → Nat → Int32) (D : Nat) (a b c d : Int32) : Nat → Nat → Int32 := zz_u (zz_u (zz_u (zz_u (zz_u f 11 D a) 12 D b) 13 D c) 14 D d) 3 4 (nI (D + 1))
theorem l_70 {f : Nat → Nat → Int32} {g : Nat → Nat → Int64} {D : Nat} (hD40 : D < 40) (h : f 3 4 = nI D) (a b c d : Int32) : zz_ca 70 [.ref 3, .int a, .int b, .int c, .int d] (zK f g) = some (none, zK (znt f D a b c d) g) := by
  rw [e_70, x_70_0]
  simp (disch := first | omega | assumption) only [nI_add, pk_mul, z_in, z_ix, nI_leI, nI_ltI, nI_eq, z_eq0, z_lt0, z_0le, z_0lt, z_le0, z_n9, z_n1, z_m1lt, z_m9lt, z_m9le, z_m1le, zB_0, zB_1, zz_bi_s, zz_bv_s, zz_bl_s, if_pos, if_neg, if_true, if_false, true_and, and_true, not_true_eq_false, not_false_eq_true, ite_self, h, zu_c]
  rfl
theorem znt_c {f : Nat → Nat → Int32} {D x : Nat} {a b c d : Int32} (h : x ≠ 3) (h2 : x < 11 ∨ 14 < x) : znt f D a b c d x = f x := by
  unfold znt; rw [zu_c h, zu_c (by omega), zu_c (by omega), zu_c (by omega), zu_c (by omega)]
theorem znt_3 {f : Nat → Nat → Int32} {D j : Nat} {a b c d : Int32} (h : j ≠ 4) : znt f D a b c d 3 j = f 3 j := by
  unfold znt; rw [zu_i h, zu_c (by decide), zu_c (by decide), zu_c (by decide), zu_c (by decide)]
theorem znt_34 {f : Nat → Nat → Int32} {D : Nat} {a b c d : Int32} : znt f D a b c d 3 4 = nI (D + 1) := zu_s
theorem znt_o {f : Nat → Nat → Int32} {D x j : Nat} {a b c d : Int32} (h : x ≠ 3) (h2 : j ≠ D) : znt f D a b c d x j = f x j := by
  unfold znt; rw [zu_c h, zu_n (Or.inr h2), zu_n (Or.inr h2), zu_n (Or.inr h2), zu_n (Or.inr h2)]
theorem znt_11 {f : Nat → Nat → Int32} {D : Nat} {a b c d : Int32} : znt f D a b c d 11 D = a ∧ znt f D a b c d 12 D = b ∧ znt f D a b c d 13 D = c ∧ znt f D a b c d 14 D = d := by
  unfold znt
  refine ⟨?_, ?_, ?_, ?_⟩
  · rw [zu_c (by decide), zu_c (by decide), zu_c (by decide), zu_c (by decide), zu_s]
  · rw [zu_c (by decide), zu_c (by decide), zu_c (by decide), zu_s]
  · rw [zu_c (by decide), zu_c (by decide), zu_s]
  · rw [zu_c (by decide), zu_s]
theorem XH_push {f f1 : Nat → Nat → Int32} {W : zW} {H : zHo} {q : zQ} (h : XH f 3 W H) {a b c d : Int32} (e : ∀ x, x ≠ 3 → x ≠ 5 → x ≠ 7 → x ≠ 8 → f1 x = f x) (e0 : f1 3 0 = f 3 0) (e1 : f1 3 1 = f 3 1) (e2 : f1 3 2 = nI (qS q)) (e3 : f1 3 3 = qH q) (e5 : ∀ p < wP W, f1 5 p = nI (qR q p) ∧ f1 7 p = qY q p ∧ f1 8 p = qT q p) (hl : zlog (wP W) (hP H) a b c d (hC H) q) : XH (znt f1 (hD H) a b c d) 3 W (hPush H q) := by
  obtain ⟨x0, x1, x2, x3, x4, x5, x6, x7⟩ := h
  refine ⟨by rw [znt_3 (by decide), e0]; exact x0, by rw [znt_3 (by decide), e1]; exact x1, by rw [znt_3 (by decide), hPush_C]; exact e2, by rw [znt_3 (by decide), hPush_C]; exact e3, znt_34, fun p hp => ?_, fun s hs => ?_, fun dd hd => ?_⟩
  · rw [hPush_C, hPush_P]
    have y := e5 p hp
    have z := x5 p hp
    refine ⟨by rw [znt_c (by decide) (by decide), e _ (by decide) (by decide) (by decide) (by decide)]; exact z.1, by rw [znt_c (by decide) (by decide)]; exact y.1, by rw [znt_c (by decide) (by decide), e _ (by decide) (by decide) (by decide) (by decide)]; exact z.2.2.1, by rw [znt_c (by decide) (by decide)]; exact y.2.1, by rw [znt_c (by decide) (by decide)]; exact y.2.2⟩
  · rw [znt_c (by decide) (by decide), znt_c (by decide) (by decide), e _ (by decide) (by decide) (by decide) (by decide), e _ (by decide) (by decide) (by decide) (by decide)]; exact x6 s hs
  · rw [hPush_P]
    by_cases q2 : dd = hD H
    · subst q2
      rw [hPush_Q (Nat.le_refl _), hPush_Q1]
      have y := znt_11 (f := f1) (D := hD H) (a := a) (b := b) (c := c) (d := d)
      show zlog _ _ (znt f1 (hD H) a b c d 11 (hD H)) (znt f1 (hD H) a b c d 12 (hD H)) (znt f1 (hD H) a b c d 13 (hD H)) (znt f1 (hD H) a b c d 14 (hD H)) _ _
      rw [y.1, y.2.1, y.2.2.1, y.2.2.2]; exact hl
    · have hd : dd < hD H + 1 := hd
      rw [hPush_Q (by omega), hPush_Q (by omega), znt_o (by decide) q2, znt_o (by decide) q2, znt_o (by decide) q2, znt_o (by decide) q2, e _ (by decide) (by decide) (by decide) (by decide), e _ (by decide) (by decide) (by decide) (by decide), e _ (by decide) (by decide) (by decide) (by decide), e _ (by decide) (by decide) (by decide) (by decide)]
      exact x7 dd (by omega)
/-- the reference keeps how it was -/
def zkp (f : Nat → Nat → Int32) (D : Nat) : Nat → Nat → Int32 := fun x i => if x = 113 ∧ i = 0 then nI (D + 1) else if x = 113 ∧ 27 + 20 * D ≤ i ∧ i < 47 + 20 * D then f 113 (1 + (i - (27 + 20 * D))) else f x i
theorem zkp_c {f : Nat → Nat → Int32} {D x : Nat} (h : x ≠ 113) : zkp f D x = f x := by
  funext i; unfold zkp; rw [if_neg (fun q => h q.1), if_neg (fun q => h q.1)]
theorem zkp_i {f : Nat → Nat → Int32} {D i : Nat} (h0 : i ≠ 0) (h : i < 27 + 20 * D ∨ 47 + 20 * D ≤ i) : zkp f D 113 i = f 113 i := by
  unfold zkp; rw [if_neg (fun q => h0 q.2), if_neg (fun q => by omega)]
theorem l_195 {f : Nat → Nat → Int32} {g : Nat → Nat → Int64} {D : Nat} (hD40 : D < 40) (h : f 113 0 = nI D) : zz_ca 195 [.ref 112] (zK f g) = some (none, zK (zkp f D) g) := by
  rw [e_195, x_195_0]
  have key := z_lp (fun k => zz_ev 195 2 [.ref 112, .int (nI k)] [] (zK (fun x i => if x = 113 ∧ 27 + 20 * D ≤ i ∧ i < 27 + 20 * D + k then f 113 (1 + (i - (27 + 20 * D))) else f x i) g)) 20 (fun k hk => ?_) 0 (by omega)
  · refine Eq.trans ?_ (key.trans ?_)
    · congr 2; funext x i; exact (if_neg (fun q => by omega)).symm
    · rw [x_195_2]; simp (disch := first | omega | assumption) only [nI_add, pk_mul, z_in, z_ix, nI_leI, nI_ltI, nI_eq, z_eq0, z_lt0, z_0le, z_0lt, z_le0, z_n9, z_n1, z_m1lt, z_m9lt, z_m9le, z_m1le, zB_0, zB_1, zz_bi_s, zz_bv_s, zz_bl_s, if_pos, if_neg, if_true, if_false, true_and, and_true, not_true_eq_false, not_false_eq_true, ite_self, h]
      congr 3
      funext x i
      unfold zz_u zkp
      by_cases q : x = 113 ∧ i = 0
      · rw [if_pos q, if_pos q]
      · rw [if_neg q, if_neg q]
        dsimp only
        by_cases q2 : x = 113 ∧ 27 + 20 * D ≤ i ∧ i < 47 + 20 * D
        · rw [if_pos q2, if_pos (by omega)]
        · rw [if_neg q2, if_neg (by omega)]
  · show zz_ev 195 2 _ _ _ = zz_ev 195 2 _ _ _
    rw [x_195_2]; simp (disch := first | omega | assumption) only [nI_add, pk_mul, z_in, z_ix, nI_leI, nI_ltI, nI_eq, z_eq0, z_lt0, z_0le, z_0lt, z_le0, z_n9, z_n1, z_m1lt, z_m9lt, z_m9le, z_m1le, zB_0, zB_1, zz_bi_s, zz_bv_s, zz_bl_s, if_pos, if_neg, if_true, if_false, true_and, and_true, not_true_eq_false, not_false_eq_true, ite_self, h]
    congr 2
    funext x i
    unfold zz_u
    by_cases q : x = 113 ∧ i = 27 + 20 * D + k
    · rw [if_pos q, if_pos (by omega), show i - (27 + 20 * D) = k by omega]
    · rw [if_neg q]; dsimp only
      by_cases q2 : x = 113 ∧ 27 + 20 * D ≤ i ∧ i < 27 + 20 * D + k
      · rw [if_pos q2, if_pos (by omega)]
      · rw [if_neg q2, if_neg (by omega)]
theorem MH_push {f f2 : Nat → Nat → Int32} {P : Nat} {H : zHo} {q : zQ} (hP6 : P ≤ 6) (h : MH f 0 P H) (e0 : f2 113 0 = nI (hD H + 1)) (e1 : YQ f2 1 P q) (e2 : ∀ i, 21 ≤ i → f2 113 i = zkp f (hD H) 113 i) : MH f2 0 P (hPush H q) := by
  obtain ⟨x0, x1, x2, x3⟩ := h
  refine ⟨e0, by rw [hPush_C]; exact e1, fun p hp => ?_, fun d hd => ?_⟩
  · rw [e2 _ (by omega), zkp_i (by omega) (by omega), hPush_P]; exact x2 p hp
  · have hd : d < hD H + 1 := hd
    rw [hPush_Q (by omega)]
    by_cases q2 : d = hD H
    · subst q2
      unfold YQ at x1 ⊢
      have m : ∀ k, k < 20 → f2 113 (0 + 27 + 20 * hD H + k) = f 113 (0 + 1 + k) := fun k hk => by
        rw [e2 _ (by omega)]; unfold zkp; rw [if_neg (fun q => by omega), if_pos (by omega)]; congr 1; omega
      refine ⟨by have := m 0 (by omega); rw [Nat.add_zero, Nat.add_zero] at this; rw [this]; exact x1.1, by rw [m 1 (by omega)]; exact x1.2.1, fun p hp => ?_⟩
      rw [Nat.add_assoc _ 2 p, m _ (by omega), Nat.add_assoc _ 8 p, m _ (by omega), Nat.add_assoc _ 14 p, m _ (by omega), ← Nat.add_assoc, ← Nat.add_assoc, ← Nat.add_assoc]
      exact x1.2.2 p hp
    · exact YQ_fr (x3 d (by omega)) hP6 (fun j h1 h2 => by rw [e2 _ (by omega), zkp_i (by omega) (by omega)])
/-! a step -/
def zol (A : zA) (p room : Nat) : Int32 := if (zdr (wK (aW A) p) (qS (hC (aH A)))).testBit 11 = true then (if qR (hC (aH A)) p = 11 ∧ room = 0 then nI 1 else if qR (hC (aH A)) p = 0 ∧ room = 11 then -1 else nI 0) else nI 0
theorem zol_c (A : zA) (p room : Nat) : (¬ (zdr (wK (aW A) p) (qS (hC (aH A)))).testBit 11 = true ∧ zol A p room = nI 0) ∨ ((zdr (wK (aW A) p) (qS (hC (aH A)))).testBit 11 = true ∧ qR (hC (aH A)) p = 11 ∧ room = 0 ∧ zol A p room = nI 1) ∨ ((zdr (wK (aW A) p) (qS (hC (aH A)))).testBit 11 = true ∧ qR (hC (aH A)) p = 0 ∧ room = 11 ∧ zol A p room = -1) ∨ ((zdr (wK (aW A) p) (qS (hC (aH A)))).testBit 11 = true ∧ ¬ (qR (hC (aH A)) p = 11 ∧ room = 0) ∧ ¬ (qR (hC (aH A)) p = 0 ∧ room = 11) ∧ zol A p room = nI 0) := by
  unfold zol
  by_cases q : (zdr (wK (aW A) p) (qS (hC (aH A)))).testBit 11 = true
  · rw [if_pos q]
    by_cases q1 : qR (hC (aH A)) p = 11 ∧ room = 0
    · rw [if_pos q1]; exact Or.inr (Or.inl ⟨q, q1.1, q1.2, rfl⟩)
    · rw [if_neg q1]
      by_cases q2 : qR (hC (aH A)) p = 0 ∧ room = 11
      · rw [if_pos q2]; exact Or.inr (Or.inr (Or.inl ⟨q, q2.1, q2.2, rfl⟩))
      · rw [if_neg q2]; exact Or.inr (Or.inr (Or.inr ⟨q, q1, q2, rfl⟩))
  · rw [if_neg q]; exact Or.inl ⟨q, rfl⟩
def qStp (q : zQ) (p room : Nat) (o : Int32) : zQ := (qS q, qH q, zup (qR q) p room, zup (qY q) p (qY q p + o), zup (qT q) p (qT q p + nI 1))
def aStp (A : zA) (p room : Nat) : zA := sH A (hPush (aH A) (qStp (hC (aH A)) p room (zol A p room)))
theorem wf_stp {A : zA} (hw : wf A) {p room : Nat} (hr : room < 12) (hD40 : hD (aH A) < 40) : wf (aStp A p room) := wf_H hw (wfH_push hw.2.2.2.1 ⟨wfB hw, fun x hx => by
  show zup _ _ _ x < 12
  unfold zup; split
  · exact hr
  · exact wfr hw hx⟩ hD40)
theorem l_69 {A : zA} (hw : wf A) {f : Nat → Nat → Int32} {g : Nat → Nat → Int64} (h : CX A f g) {p room : Nat} (hp : p < wP (aW A)) (hr : room < 12) (hD40 : hD (aH A) < 40) : ∃ f', zz_ca 69 [.ref 3, .int (nI p), .int (nI room)] (zK f g) = some (none, zK f' g) ∧ CX (aStp A p room) f' g ∧ zHi f f' g g := by
  have hP6 := wfP hw
  have hk := wfk hw hp
  have hrp := wfr hw hp
  have hd := zdr_lt (wK (aW A) p) (qS (hC (aH A)))
  have e5 : ∀ v, zz_ev 69 59 [.ref 3, .int (nI p), .int (nI room), .int (nI (qR (hC (aH A)) p)), .int v] [] (zK f g) = some (none, zK (znt (zz_u (zz_u (zz_u f 5 p (nI room)) 7 p (f 7 p + v)) 8 p (f 8 p + nI 1)) (hD (aH A)) (nI 0) (nI p) (nI (qR (hC (aH A)) p)) v) g) := fun v => by
    have m : zz_u (zz_u (zz_u f 5 p (nI room)) 7 p (f 7 p + v)) 8 p (f 8 p + nI 1) 3 4 = nI (hD (aH A)) := by rw [zu_c (by decide), zu_c (by decide), zu_c (by decide)]; exact cxD h
    rw [x_69_59]; simp (disch := first | omega | assumption) only [nI_add, pk_mul, z_in, z_ix, nI_leI, nI_ltI, nI_eq, z_eq0, z_lt0, z_0le, z_0lt, z_le0, z_n9, z_n1, z_m1lt, z_m9lt, z_m9le, z_m1le, zB_0, zB_1, zz_bi_s, zz_bv_s, zz_bl_s, if_pos, if_neg, if_true, if_false, true_and, and_true, not_true_eq_false, not_false_eq_true, ite_self, zu_c, l_70 hD40 m, x_69_96]
  refine ⟨znt (zz_u (zz_u (zz_u f 5 p (nI room)) 7 p (f 7 p + zol A p room)) 8 p (f 8 p + nI 1)) (hD (aH A)) (nI 0) (nI p) (nI (qR (hC (aH A)) p)) (zol A p room), ?_, CX_H h (fun a ha => by rw [znt_c (by omega) (by omega), zu_c (by omega), zu_c (by omega), zu_c (by omega)]) (XH_push h.2.1 (fun x h1 h2 h3 h4 => by rw [zu_c h4, zu_c h3, zu_c h2]) (by rw [zu_c (by decide), zu_c (by decide), zu_c (by decide)]) (by rw [zu_c (by decide), zu_c (by decide), zu_c (by decide)]) (by rw [zu_c (by decide), zu_c (by decide), zu_c (by decide)]; exact cxB h) (by rw [zu_c (by decide), zu_c (by decide), zu_c (by decide)]; exact cxH h) (fun x hx => ?_) (Or.inl ⟨rfl, p, hp, rfl, rfl, rfl, rfl, zup_s, zup_s, fun x hx hn => ⟨zup_n hn, zup_n hn, zup_n hn⟩⟩)), ⟨fun a ha => by rw [znt_c (by omega) (by omega), zu_c (by omega), zu_c (by omega), zu_c (by omega)], fun _ _ => rfl⟩⟩
  · rcases zol_c A p room with ⟨q, ho⟩ | ⟨q, q1, q2, ho⟩ | ⟨q, q1, q2, ho⟩ | ⟨q, q1, q2, ho⟩ <;> rw [ho] <;> simp (disch := first | omega | assumption) only [e_69, x_69_0, nI_add, pk_mul, z_in, z_ix, nI_leI, nI_ltI, nI_eq, z_eq0, z_lt0, z_0le, z_0lt, z_le0, z_n9, z_n1, z_m1lt, z_m9lt, z_m9le, z_m1le, zB_0, zB_1, zz_bi_s, zz_bv_s, zz_bl_s, if_pos, if_neg, if_true, if_false, true_and, and_true, not_true_eq_false, not_false_eq_true, ite_self, cxP h, cxS h, cxB h, cxH h, cxD h, cxk h, cxr h, cxp h, cxd h, cxt h, cxa h, cxb h, l_49 hw h, x_69_20, l_38, x_69_25, q, Bool.false_eq_true, x_69_42, x_69_56, x_69_57, e5]
  · rw [zu_c (by decide), zu_c (by decide), zu_if, zu_c (by decide), zu_if, zu_c (by decide), zu_if, zu_c (by decide), zu_c (by decide), cxd h hp, cxt h hp]
    show _ = nI (zup _ _ _ x) ∧ _ = zup _ _ _ x ∧ _ = zup _ _ _ x
    unfold zup
    by_cases e : x = p
    · rw [if_pos e, if_pos e, if_pos e, if_pos e, if_pos e, if_pos e]; exact ⟨rfl, rfl, rfl⟩
    · rw [if_neg e, if_neg e, if_neg e, if_neg e, if_neg e, if_neg e]; exact ⟨cxr h hx, cxd h hx, cxt h hx⟩
theorem YQ_1 {f : Nat → Nat → Int32} {P : Nat} {q : zQ} (h1 : f 113 1 = qH q) (h2 : f 113 2 = nI (qS q)) (h3 : ∀ p < P, f 113 (3 + p) = nI (qR q p) ∧ f 113 (9 + p) = qY q p ∧ f 113 (15 + p) = qT q p) : YQ f 1 P q := ⟨h1, h2, h3⟩
theorem l_194 {A : zA} (hw : wf A) {f : Nat → Nat → Int32} {g : Nat → Nat → Int64} (h : CM A f g) {p room : Nat} (hp : p < wP (aW A)) (hr : room < 12) (hD40 : hD (aH A) < 40) : ∃ f', zz_ca 194 [.ref 112, .int (nI p), .int (nI room)] (zK f g) = some (none, zK f' g) ∧ CM (aStp A p room) f' g ∧ zLo f f' g g := by
  have hP6 := wfP hw
  have hk := wfk hw hp
  have hrp := wfr hw hp
  have hV : VM (aW A) (qS (hC (aH A))) (zkp f (hD (aH A))) := by
    have q := CM_V hw h
    obtain ⟨⟨sh, br, q1, q2, q3⟩, q4, q5⟩ := q
    exact ⟨⟨sh, br, by rw [zkp_i (by decide) (by omega)]; exact q1, by rw [zkp_c (by decide)]; exact q2, q3⟩, q4, MW_fr q5 (by rw [zkp_c (by decide)]) (by rw [zkp_c (by decide)]) (zkp_c (by decide)) (zkp_c (by decide))⟩
  have m9 : ∀ j, j < 20 → zkp f (hD (aH A)) 113 (1 + j) = f 113 (1 + j) := fun j hj => zkp_i (by omega) (by omega)
  have k3 : zkp f (hD (aH A)) 113 (3 + p) = nI (qR (hC (aH A)) p) := by rw [zkp_i (by omega) (by omega)]; exact cmr h hp
  have k9 : zkp f (hD (aH A)) 113 (9 + p) = qY (hC (aH A)) p := by rw [zkp_i (by omega) (by omega)]; exact cmd h hp
  have k15 : zkp f (hD (aH A)) 113 (15 + p) = qT (hC (aH A)) p := by rw [zkp_i (by omega) (by omega)]; exact cmt h hp
  have e7 : ∀ v4 v, zz_ev 194 71 [.ref 112, .int (nI p), .int (nI room), .int (nI (qR (hC (aH A)) p)), .int v4] [.int v, .int (qY (hC (aH A)) p), .int (nI (9 + p)), .ref 113] (zK (zkp f (hD (aH A))) g) = some (none, zK (zz_u (zz_u (zz_u (zkp f (hD (aH A))) 113 (9 + p) (qY (hC (aH A)) p + v)) 113 (3 + p) (nI room)) 113 (15 + p) (qT (hC (aH A)) p + nI 1)) g) := fun v4 v => by
    rw [x_194_71]; simp (disch := first | omega | assumption) only [nI_add, pk_mul, z_in, z_ix, nI_leI, nI_ltI, nI_eq, z_eq0, z_lt0, z_0le, z_0lt, z_le0, z_n9, z_n1, z_m1lt, z_m9lt, z_m9le, z_m1le, zB_0, zB_1, zz_bi_s, zz_bv_s, zz_bl_s, if_pos, if_neg, if_true, if_false, true_and, and_true, not_true_eq_false, not_false_eq_true, ite_self]
    rw [zu_i (by omega), zu_i (by omega), k15]
  have s1 := l_179 (g := g) hw.2.2.1 hV hp (d := 11) (by decide)
  have hf : ∀ i, 21 ≤ i → zz_u (zz_u (zz_u (zkp f (hD (aH A))) 113 (9 + p) (qY (hC (aH A)) p + zol A p room)) 113 (3 + p) (nI room)) 113 (15 + p) (qT (hC (aH A)) p + nI 1) 113 i = zkp f (hD (aH A)) 113 i := fun i hi => by rw [zu_i (by omega), zu_i (by omega), zu_i (by omega)]
  refine ⟨zz_u (zz_u (zz_u (zkp f (hD (aH A))) 113 (9 + p) (qY (hC (aH A)) p + zol A p room)) 113 (3 + p) (nI room)) 113 (15 + p) (qT (hC (aH A)) p + nI 1), ?_, CM_H hw h (fun a ha => by rw [zu_c ha, zu_c ha, zu_c ha, zkp_c ha]) (fun j hj => by rw [hf j (by omega)]; have := wfD hw; exact zkp_i (by omega) (by omega)) (MH_push hP6 h.2.2.1 ?_ (YQ_1 ?_ ?_ (fun x hx => ⟨?_, ?_, ?_⟩)) hf), ⟨fun a ha => by rw [zu_c (by omega), zu_c (by omega), zu_c (by omega), zkp_c (by omega)], fun _ _ => rfl⟩⟩
  · rcases zol_c A p room with ⟨q, ho⟩ | ⟨q, q1, q2, ho⟩ | ⟨q, q1, q2, ho⟩ | ⟨q, q1, q2, ho⟩ <;> rw [ho] <;> simp (disch := first | omega | assumption) only [e_194, x_194_0, l_195 hD40 (cmD h), nI_add, pk_mul, z_in, z_ix, nI_leI, nI_ltI, nI_eq, z_eq0, z_lt0, z_0le, z_0lt, z_le0, z_n9, z_n1, z_m1lt, z_m9lt, z_m9le, z_m1le, zB_0, zB_1, zz_bi_s, zz_bv_s, zz_bl_s, if_pos, if_neg, if_true, if_false, true_and, and_true, not_true_eq_false, not_false_eq_true, ite_self, x_194_4, k3, s1, q, Bool.false_eq_true, x_194_20, k9, x_194_51, x_194_70, e7]
  · rw [zu_i (by omega), zu_i (by omega), zu_i (by omega)]; unfold zkp; rw [if_pos ⟨rfl, rfl⟩]
  · rw [zu_i (by omega), zu_i (by omega), zu_i (by omega), zkp_i (by decide) (by omega)]; exact cmH h
  · rw [zu_i (by omega), zu_i (by omega), zu_i (by omega), zkp_i (by decide) (by omega)]; exact cmB h
  · show _ = nI (zup _ _ _ x)
    unfold zup
    rw [zu_i (by omega)]
    by_cases e : x = p
    · subst e; rw [if_pos rfl, zu_s]
    · rw [if_neg e, zu_i (by omega), zu_i (by omega), zkp_i (by omega) (by omega)]; exact cmr h hx
  · show _ = zup _ _ _ x
    unfold zup
    rw [zu_i (by omega), zu_i (by omega)]
    by_cases e : x = p
    · subst e; rw [if_pos rfl, zu_s]
    · rw [if_neg e, zu_i (by omega), zkp_i (by omega) (by omega)]; exact cmd h hx
  · show _ = zup _ _ _ x
    unfold zup
    by_cases e : x = p
    · subst e; rw [if_pos rfl, zu_s]
    · rw [if_neg e, zu_i (by omega), zu_i (by omega), zu_i (by omega), zkp_i (by omega) (by omega)]; exact cmt h hx
theorem sim_step (A : zA) (hw : wf A) (v1 v2 : Int32) : zSim A 68 193 [.int v1, .int v2] := by
  have hP6 := wfP hw
  have hD40 := wfD hw
  by_cases h1 : zz_in v1 (wP (aW A))
  · obtain ⟨p, hp, -, rfl⟩ := z_inx.mp h1
    have hrp := wfr hw hp
    by_cases h2 : zz_in v2 12
    · obtain ⟨room, hr, -, rfl⟩ := z_inx.mp h2
      have hl := zgo_lt hw p (qR (hC (aH A)) p)
      by_cases h3 : (zgo A p (qR (hC (aH A)) p)).testBit room = true
      · by_cases h4 : hD (aH A) < 40
        · refine ⟨.int (qY (hC (aH A)) p + zol A p room + nI 1000), aStp A p room, wf_stp hw hr h4, fun f g h => ?_, fun f g h => ?_⟩
          · obtain ⟨f', e1, e2, e3⟩ := l_69 hw h hp hr h4
            refine ⟨f', g, ?_, e2, e3⟩
            have m := cxd (A := aStp A p room) e2 hp
            rw [show qY (hC (aH (aStp A p room))) p = qY (hC (aH A)) p + zol A p room from by show qY (hC (hPush (aH A) _)) p = _; rw [hPush_C]; exact zup_s] at m
            simp (disch := first | omega | assumption) only [x_68_0, x_68_5, x_68_12, x_68_15, x_68_25, x_68_29, x_68_59, e_68, l_46 g _ (cxP h) hP6, l_35, nI_add, pk_mul, z_in, z_ix, nI_leI, nI_ltI, nI_eq, z_eq0, z_lt0, z_0le, z_0lt, z_le0, z_n9, z_n1, z_m1lt, z_m9lt, z_m9le, z_m1le, zB_0, zB_1, zz_bi_s, zz_bv_s, zz_bl_s, if_pos, if_neg, if_true, if_false, true_and, and_true, not_true_eq_false, not_false_eq_true, ite_self, l_48 hw h, l_38, h3, cxP h, cxS h, cxB h, cxH h, cxD h, cxk h, cxr h, cxp h, cxd h, cxt h, cxa h, cxb h, e1, m]
          · obtain ⟨f', e1, e2, e3⟩ := l_194 hw h hp hr h4
            refine ⟨f', g, ?_, e2, e3⟩
            have m := cmd (A := aStp A p room) e2 hp
            rw [show qY (hC (aH (aStp A p room))) p = qY (hC (aH A)) p + zol A p room from by show qY (hC (hPush (aH A) _)) p = _; rw [hPush_C]; exact zup_s] at m
            have m2 : zz_ca 178 [.ref 112, .int (nI p), .int (nI (qR (hC (aH A)) p))] (zK f g) = some (some (.int (nI (zgo A p (qR (hC (aH A)) p)))), zK f g) := l_178 hw.2.2.1 (CM_V hw h) hp hrp
            simp (disch := first | omega | assumption) only [x_193_0, x_193_5, x_193_12, x_193_15, x_193_30, x_193_34, x_193_60, e_193, l_176 g _ (cmP h) hP6, l_182, nI_add, pk_mul, z_in, z_ix, nI_leI, nI_ltI, nI_eq, z_eq0, z_lt0, z_0le, z_0lt, z_le0, z_n9, z_n1, z_m1lt, z_m9lt, z_m9le, z_m1le, zB_0, zB_1, zz_bi_s, zz_bv_s, zz_bl_s, if_pos, if_neg, if_true, if_false, true_and, and_true, not_true_eq_false, not_false_eq_true, ite_self, cmP h, cmS h, cmB h, cmH h, cmD h, cmk h, cmr h, cmp h, cmd h, cmt h, cma h, cmb h, cm0 h, m2, l_171, h3, e1, m]
            rw [Int32.add_comm (nI 1000)]
        · refine sim_0 hw (.int (-2)) (fun f g h => ?_) (fun f g h => ?_)
          · simp (disch := first | omega | assumption) only [x_68_0, x_68_5, x_68_12, x_68_15, x_68_25, x_68_29, x_68_59, e_68, l_46 g _ (cxP h) hP6, l_35, nI_add, pk_mul, z_in, z_ix, nI_leI, nI_ltI, nI_eq, z_eq0, z_lt0, z_0le, z_0lt, z_le0, z_n9, z_n1, z_m1lt, z_m9lt, z_m9le, z_m1le, zB_0, zB_1, zz_bi_s, zz_bv_s, zz_bl_s, if_pos, if_neg, if_true, if_false, true_and, and_true, not_true_eq_false, not_false_eq_true, ite_self, l_48 hw h, l_38, h3, cxP h, cxS h, cxB h, cxH h, cxD h, cxk h, cxr h, cxp h, cxd h, cxt h, cxa h, cxb h]
          · have m2 : zz_ca 178 [.ref 112, .int (nI p), .int (nI (qR (hC (aH A)) p))] (zK f g) = some (some (.int (nI (zgo A p (qR (hC (aH A)) p)))), zK f g) := l_178 hw.2.2.1 (CM_V hw h) hp hrp
            simp (disch := first | omega | assumption) only [x_193_0, x_193_5, x_193_12, x_193_15, x_193_30, x_193_34, x_193_60, e_193, l_176 g _ (cmP h) hP6, l_182, nI_add, pk_mul, z_in, z_ix, nI_leI, nI_ltI, nI_eq, z_eq0, z_lt0, z_0le, z_0lt, z_le0, z_n9, z_n1, z_m1lt, z_m9lt, z_m9le, z_m1le, zB_0, zB_1, zz_bi_s, zz_bv_s, zz_bl_s, if_pos, if_neg, if_true, if_false, true_and, and_true, not_true_eq_false, not_false_eq_true, ite_self, cmP h, cmS h, cmB h, cmH h, cmD h, cmk h, cmr h, cmp h, cmd h, cmt h, cma h, cmb h, cm0 h, m2, l_171, h3]
      · refine sim_0 hw (.int (-4)) (fun f g h => ?_) (fun f g h => ?_)
        · simp (disch := first | omega | assumption) only [x_68_0, x_68_5, x_68_12, x_68_15, x_68_25, x_68_29, x_68_59, e_68, l_46 g _ (cxP h) hP6, l_35, nI_add, pk_mul, z_in, z_ix, nI_leI, nI_ltI, nI_eq, z_eq0, z_lt0, z_0le, z_0lt, z_le0, z_n9, z_n1, z_m1lt, z_m9lt, z_m9le, z_m1le, zB_0, zB_1, zz_bi_s, zz_bv_s, zz_bl_s, if_pos, if_neg, if_true, if_false, true_and, and_true, not_true_eq_false, not_false_eq_true, ite_self, l_48 hw h, l_38, h3, Bool.false_eq_true]
        · have m2 : zz_ca 178 [.ref 112, .int (nI p), .int (nI (qR (hC (aH A)) p))] (zK f g) = some (some (.int (nI (zgo A p (qR (hC (aH A)) p)))), zK f g) := l_178 hw.2.2.1 (CM_V hw h) hp hrp
          simp (disch := first | omega | assumption) only [x_193_0, x_193_5, x_193_12, x_193_15, x_193_30, x_193_34, x_193_60, e_193, l_176 g _ (cmP h) hP6, l_182, nI_add, pk_mul, z_in, z_ix, nI_leI, nI_ltI, nI_eq, z_eq0, z_lt0, z_0le, z_0lt, z_le0, z_n9, z_n1, z_m1lt, z_m9lt, z_m9le, z_m1le, zB_0, zB_1, zz_bi_s, zz_bv_s, zz_bl_s, if_pos, if_neg, if_true, if_false, true_and, and_true, not_true_eq_false, not_false_eq_true, ite_self, cmP h, cmS h, cmB h, cmH h, cmD h, cmk h, cmr h, cmp h, cmd h, cmt h, cma h, cmb h, cm0 h, m2, l_171, h3, Bool.false_eq_true]
    · exact sim_0 hw (.int (-1)) (fun f g h => by simp (disch := first | omega | assumption) only [x_68_0, x_68_5, x_68_12, x_68_15, x_68_25, x_68_29, x_68_59, e_68, l_46 g _ (cxP h) hP6, l_35, nI_add, pk_mul, z_in, z_ix, nI_leI, nI_ltI, nI_eq, z_eq0, z_lt0, z_0le, z_0lt, z_le0, z_n9, z_n1, z_m1lt, z_m9lt, z_m9le, z_m1le, zB_0, zB_1, zz_bi_s, zz_bv_s, zz_bl_s, if_pos, if_neg, if_true, if_false, true_and, and_true, not_true_eq_false, not_false_eq_true, ite_self, h2]) (fun f g h => by simp (disch := first | omega | assumption) only [x_193_0, x_193_5, x_193_12, x_193_15, x_193_30, x_193_34, x_193_60, e_193, l_176 g _ (cmP h) hP6, l_182, nI_add, pk_mul, z_in, z_ix, nI_leI, nI_ltI, nI_eq, z_eq0, z_lt0, z_0le, z_0lt, z_le0, z_n9, z_n1, z_m1lt, z_m9lt, z_m9le, z_m1le, zB_0, zB_1, zz_bi_s, zz_bv_s, zz_bl_s, if_pos, if_neg, if_true, if_false, true_and, and_true, not_true_eq_false, not_false_eq_true, ite_self, h2])
  · exact sim_0 hw (.int (-1)) (fun f g h => by simp (disch := first | omega | assumption) only [x_68_0, x_68_5, x_68_12, x_68_15, x_68_25, x_68_29, x_68_59, e_68, l_46 g _ (cxP h) hP6, nI_add, pk_mul, z_in, z_ix, nI_leI, nI_ltI, nI_eq, z_eq0, z_lt0, z_0le, z_0lt, z_le0, z_n9, z_n1, z_m1lt, z_m9lt, z_m9le, z_m1le, zB_0, zB_1, zz_bi_s, zz_bv_s, zz_bl_s, if_pos, if_neg, if_true, if_false, true_and, and_true, not_true_eq_false, not_false_eq_true, ite_self, h1]) (fun f g h => by simp (disch := first | omega | assumption) only [x_193_0, x_193_5, x_193_12, x_193_15, x_193_30, x_193_34, x_193_60, e_193, l_176 g _ (cmP h) hP6, nI_add, pk_mul, z_in, z_ix, nI_leI, nI_ltI, nI_eq, z_eq0, z_lt0, z_0le, z_0lt, z_le0, z_n9, z_n1, z_m1lt, z_m9lt, z_m9le, z_m1le, zB_0, zB_1, zz_bi_s, zz_bv_s, zz_bl_s, if_pos, if_neg, if_true, if_false, true_and, and_true, not_true_eq_false, not_false_eq_true, ite_self, h1])
