/-! THE STATE that class and reference share, and how each of the two holds it -/
/-- rows (texts): sizes, places -/
abbrev zR : Type := (Nat → Int32) × (Nat → Nat → Int32)
/-- who lives in the house: persons, kinds, stairs, their two rooms -/
abbrev zW : Type := Nat × (Nat → Nat) × Nat × (Nat → Nat) × (Nat → Nat)
/-- shut doors, the hour, rooms, days, steps -/
abbrev zQ : Type := Nat × Int32 × (Nat → Nat) × (Nat → Int32) × (Nat → Int32)
/-- paces, deeds, how it was ahead of each deed (and is now) -/
abbrev zHo : Type := (Nat → Nat) × Nat × (Nat → zQ)
abbrev zKp : Type := (Nat → Bool) × (Nat → zHo)
/-- asked, finding, findings, upper, lower -/
abbrev zN : Type := Int32 × Int32 × (Nat → Int32) × Int64 × Int64
abbrev zA : Type := zR × zR × zW × zHo × zKp × zN
def wP (W : zW) : Nat := W.1
def wK (W : zW) : Nat → Nat := W.2.1
def wS (W : zW) : Nat := W.2.2.1
def wA (W : zW) : Nat → Nat := W.2.2.2.1
def wB (W : zW) : Nat → Nat := W.2.2.2.2
def qS (q : zQ) : Nat := q.1
def qH (q : zQ) : Int32 := q.2.1
def qR (q : zQ) : Nat → Nat := q.2.2.1
def qY (q : zQ) : Nat → Int32 := q.2.2.2.1
def qT (q : zQ) : Nat → Int32 := q.2.2.2.2
def hP (H : zHo) : Nat → Nat := H.1
def hD (H : zHo) : Nat := H.2.1
def hQ (H : zHo) : Nat → zQ := H.2.2
def hC (H : zHo) : zQ := hQ H (hD H)
def nA (N : zN) : Int32 := N.1
def nF (N : zN) : Int32 := N.2.1
def nC (N : zN) : Nat → Int32 := N.2.2.1
def nU (N : zN) : Int64 := N.2.2.2.1
def nL (N : zN) : Int64 := N.2.2.2.2
def aR (A : zA) : zR := A.1
def aT (A : zA) : zR := A.2.1
def aW (A : zA) : zW := A.2.2.1
def aH (A : zA) : zHo := A.2.2.2.1
def aK (A : zA) : zKp := A.2.2.2.2.1
def aN (A : zA) : zN := A.2.2.2.2.2
def sR (A : zA) (R : zR) : zA := (R, aT A, aW A, aH A, aK A, aN A)
def sT (A : zA) (R : zR) : zA := (aR A, R, aW A, aH A, aK A, aN A)
def sH (A : zA) (H : zHo) : zA := (aR A, aT A, aW A, H, aK A, aN A)
def sK (A : zA) (K : zKp) : zA := (aR A, aT A, aW A, aH A, K, aN A)
def sN (A : zA) (N : zN) : zA := (aR A, aT A, aW A, aH A, aK A, N)
def sA (A : zA) (v : Int32) : zA := sN A (v, nF (aN A), nC (aN A), nU (aN A), nL (aN A))
def sU (A : zA) (u l : Int64) : zA := sN A (nA (aN A), nF (aN A), nC (aN A), u, l)
/-- one place of a function anew -/
def zup {α : Type} (h : Nat → α) (a : Nat) (v : α) : Nat → α := fun b => if b = a then v else h b
theorem zup_s {α : Type} {h : Nat → α} {a : Nat} {v : α} : zup h a v a = v := if_pos rfl
theorem zup_n {α : Type} {h : Nat → α} {a b : Nat} {v : α} (hb : b ≠ a) : zup h a v b = h b := if_neg hb
def sF (A : zA) (w : Nat) : zA := sN A (nA (aN A), nI w, zup (nC (aN A)) w (nC (aN A) w + nI 1), nU (aN A), nL (aN A))
/-! what holds of it alone -/
def zsz (s : Int32) (n : Nat) : Prop := s = -1 ∨ ∃ m : Nat, m ≤ n ∧ s = nI m
def zby (x : Int32) : Prop := -128 ≤ x.toInt ∧ x.toInt ≤ 127
def wfR (R : zR) : Prop := ∀ r < 6, zsz (R.1 r) 40
def wfT (R : zR) : Prop := ∀ r < 4, zsz (R.1 r) 60 ∧ ∀ i < 60, zby (R.2 r i)
def wfW (W : zW) : Prop := wP W ≤ 6 ∧ wS W ≤ 4 ∧ (∀ p < wP W, wK W p < 6) ∧ (∀ s < wS W, wA W s < 12 ∧ wB W s < 12 ∧ wA W s ≠ wB W s)
def wfQ (P : Nat) (q : zQ) : Prop := qS q < 4096 ∧ ∀ p < P, qR q p < 12
def wfH (P : Nat) (H : zHo) : Prop := (∀ p < P, hP H p < 10) ∧ hD H ≤ 40 ∧ ∀ d ≤ hD H, wfQ P (hQ H d)
def wfK (P : Nat) (K : zKp) : Prop := ∀ k < 3, K.1 k = true → wfH P (K.2 k)
def wf (A : zA) : Prop := wfR (aR A) ∧ wfT (aT A) ∧ wfW (aW A) ∧ wfH (wP (aW A)) (aH A) ∧ wfK (wP (aW A)) (aK A)
/-! the class's cells -/
/-- a deed as it is noted, how it was ahead of it and behind it -/
def zlog (P : Nat) (pc : Nat → Nat) (wh of fr dy : Int32) (q q' : zQ) : Prop :=
  (wh = nI 0 ∧ ∃ p : Nat, p < P ∧ of = nI p ∧ fr = nI (qR q p) ∧ qS q' = qS q ∧ qH q' = qH q ∧ qY q' p = qY q p + dy ∧ qT q' p = qT q p + nI 1 ∧ ∀ x < P, x ≠ p → qR q' x = qR q x ∧ qY q' x = qY q x ∧ qT q' x = qT q x) ∨
  (wh = nI 1 ∧ qS q' = qS q ∧ qH q' = qH q + nI 1 ∧ ∀ x < P, qR q' x = (qR q x + pc x) % 12 ∧ qY q' x = qY q x + nI ((qR q x + pc x) / 12) ∧ qT q' x = qT q x) ∨
  (wh = nI 2 ∧ ∃ i : Nat, i < 12 ∧ of = nI i ∧ qS q' = qS q ^^^ 2 ^ i ∧ qH q' = qH q ∧ ∀ x < P, qR q' x = qR q x ∧ qY q' x = qY q x ∧ qT q' x = qT q x)
def XH (f : Nat → Nat → Int32) (r : Nat) (W : zW) (H : zHo) : Prop :=
  f r 0 = nI (wP W) ∧ f r 1 = nI (wS W) ∧ f r 2 = nI (qS (hC H)) ∧ f r 3 = qH (hC H) ∧ f r 4 = nI (hD H) ∧
  (∀ p < wP W, f (r + 1) p = nI (wK W p) ∧ f (r + 2) p = nI (qR (hC H) p) ∧ f (r + 3) p = nI (hP H p) ∧ f (r + 4) p = qY (hC H) p ∧ f (r + 5) p = qT (hC H) p) ∧
  (∀ s < wS W, f (r + 6) s = nI (wA W s) ∧ f (r + 7) s = nI (wB W s)) ∧
  (∀ d < hD H, zlog (wP W) (hP H) (f (r + 8) d) (f (r + 9) d) (f (r + 10) d) (f (r + 11) d) (hQ H d) (hQ H (d + 1)))
def XN (N : zN) (f : Nat → Nat → Int32) (g : Nat → Nat → Int64) : Prop :=
  f 0 12 = nF N ∧ f 0 13 = nA N ∧ g 0 14 = nU N ∧ g 0 15 = nL N ∧ ∀ i < 6, f 55 i = nC N i
def XK (f : Nat → Nat → Int32) (W : zW) (K : zKp) : Prop := ∀ k < 3, f 16 k = zB (K.1 k = true) ∧ (K.1 k = true → XH f (76 + 12 * k) W (K.2 k))
def XR (R : zR) (f : Nat → Nat → Int32) : Prop := ∀ r < 6, f (56 + 2 * r) 1 = R.1 r ∧ ∀ i < 40, f (56 + 2 * r + 1) i = R.2 r i
def XT (R : zR) (f : Nat → Nat → Int32) : Prop := ∀ r < 4, f (68 + 2 * r) 1 = R.1 r ∧ ∀ i < 60, f (68 + 2 * r + 1) i = R.2 r i
def CX (A : zA) (f : Nat → Nat → Int32) (g : Nat → Nat → Int64) : Prop := XN (aN A) f g ∧ XH f 3 (aW A) (aH A) ∧ XK f (aW A) (aK A) ∧ XR (aR A) f ∧ XT (aT A) f
/-! the reference's cells -/
def YQ (f : Nat → Nat → Int32) (o P : Nat) (q : zQ) : Prop :=
  f 113 o = qH q ∧ f 113 (o + 1) = nI (qS q) ∧ ∀ p < P, f 113 (o + 2 + p) = nI (qR q p) ∧ f 113 (o + 8 + p) = qY q p ∧ f 113 (o + 14 + p) = qT q p
def MH (f : Nat → Nat → Int32) (b P : Nat) (H : zHo) : Prop :=
  f 113 b = nI (hD H) ∧ YQ f (b + 1) P (hC H) ∧ (∀ p < P, f 113 (b + 21 + p) = nI (hP H p)) ∧ ∀ d < hD H, YQ f (b + 27 + 20 * d) P (hQ H d)
def MW (W : zW) (f : Nat → Nat → Int32) : Prop :=
  f 112 1 = nI (wP W) ∧ f 112 3 = nI (wS W) ∧ (∀ p < wP W, f 114 p = nI (wK W p)) ∧ ∀ s < wS W, f 115 (2 * s) = nI (wA W s) ∧ f 115 (2 * s + 1) = nI (wB W s)
def MN (N : zN) (f : Nat → Nat → Int32) (g : Nat → Nat → Int64) : Prop :=
  f 112 12 = nF N ∧ f 112 9 = nA N ∧ f 112 22 = nI 0 ∧ g 112 10 = nU N ∧ g 112 11 = nL N ∧ ∀ i < 6, f 120 i = nC N i
def MK (f : Nat → Nat → Int32) (P : Nat) (K : zKp) : Prop := ∀ k < 3, (K.1 k = false → f 113 (827 * (k + 1)) = -1) ∧ (K.1 k = true → MH f (827 * (k + 1)) P (K.2 k))
def MR (R : zR) (f : Nat → Nat → Int32) : Prop := ∀ r < 6, f 116 r = R.1 r ∧ ∀ i < 40, f 117 (40 * r + i) = R.2 r i
def MT (R : zR) (f : Nat → Nat → Int32) : Prop := ∀ r < 4, f 118 r = R.1 r ∧ ∀ i < 60, f 119 (60 * r + i) = R.2 r i
def CM (A : zA) (f : Nat → Nat → Int32) (g : Nat → Nat → Int64) : Prop := MN (aN A) f g ∧ MW (aW A) f ∧ MH f 0 (wP (aW A)) (aH A) ∧ MK f (wP (aW A)) (aK A) ∧ MR (aR A) f ∧ MT (aT A) f
/-! cells that are not its own don't matter -/
theorem XH_fr {f f' : Nat → Nat → Int32} {r : Nat} {W : zW} {H : zHo} (h : XH f r W H) (e : ∀ a, r ≤ a → a ≤ r + 11 → f' a = f a) : XH f' r W H := by
  unfold XH at h ⊢
  rw [e r (by omega) (by omega), e (r + 1) (by omega) (by omega), e (r + 2) (by omega) (by omega), e (r + 3) (by omega) (by omega), e (r + 4) (by omega) (by omega), e (r + 5) (by omega) (by omega), e (r + 6) (by omega) (by omega), e (r + 7) (by omega) (by omega), e (r + 8) (by omega) (by omega), e (r + 9) (by omega) (by omega), e (r + 10) (by omega) (by omega), e (r + 11) (by omega) (by omega)]
  exact h
theorem XN_fr {N : zN} {f f' : Nat → Nat → Int32} {g g' : Nat → Nat → Int64} (h : XN N f g) (e0 : f' 0 = f 0) (e1 : f' 55 = f 55) (e2 : g' 0 = g 0) : XN N f' g' := by
  unfold XN at h ⊢; rw [e0, e1, e2]; exact h
theorem XK_fr {f f' : Nat → Nat → Int32} {W : zW} {K : zKp} (h : XK f W K) (e0 : f' 16 = f 16) (e : ∀ a, 76 ≤ a → a ≤ 111 → f' a = f a) : XK f' W K := by
  intro k hk
  refine ⟨by rw [e0]; exact (h k hk).1, fun q => XH_fr ((h k hk).2 q) (fun a h1 h2 => e a (by omega) (by omega))⟩
theorem XR_fr {R : zR} {f f' : Nat → Nat → Int32} (h : XR R f) (e : ∀ a, 56 ≤ a → a ≤ 67 → f' a = f a) : XR R f' := by
  intro r hr
  rw [e (56 + 2 * r) (by omega) (by omega), e (56 + 2 * r + 1) (by omega) (by omega)]
  exact h r hr
theorem XT_fr {R : zR} {f f' : Nat → Nat → Int32} (h : XT R f) (e : ∀ a, 68 ≤ a → a ≤ 75 → f' a = f a) : XT R f' := by
  intro r hr
  rw [e (68 + 2 * r) (by omega) (by omega), e (68 + 2 * r + 1) (by omega) (by omega)]
  exact h r hr
theorem YQ_fr {f f' : Nat → Nat → Int32} {o P : Nat} {q : zQ} (h : YQ f o P q) (hP : P ≤ 6) (e : ∀ j, o ≤ j → j < o + 20 → f' 113 j = f 113 j) : YQ f' o P q := by
  unfold YQ at h ⊢
  refine ⟨by rw [e _ (by omega) (by omega)]; exact h.1, by rw [e _ (by omega) (by omega)]; exact h.2.1, fun p hp => ?_⟩
  rw [e _ (by omega) (by omega), e (o + 8 + p) (by omega) (by omega), e (o + 14 + p) (by omega) (by omega)]
  exact h.2.2 p hp
theorem MH_fr {f f' : Nat → Nat → Int32} {b P : Nat} {H : zHo} (h : MH f b P H) (hP : P ≤ 6) (hD40 : hD H ≤ 40) (e : ∀ j, b ≤ j → j < b + 827 → f' 113 j = f 113 j) : MH f' b P H := by
  unfold MH at h ⊢
  refine ⟨by rw [e _ (by omega) (by omega)]; exact h.1, YQ_fr h.2.1 hP (fun j h1 h2 => e j (by omega) (by omega)), fun p hp => by rw [e _ (by omega) (by omega)]; exact h.2.2.1 p hp, fun d hd => YQ_fr (h.2.2.2 d hd) hP (fun j h1 h2 => e j (by omega) (by omega))⟩
theorem MW_fr {W : zW} {f f' : Nat → Nat → Int32} (h : MW W f) (e0 : f' 112 1 = f 112 1) (e1 : f' 112 3 = f 112 3) (e2 : f' 114 = f 114) (e3 : f' 115 = f 115) : MW W f' := by
  unfold MW at h ⊢; rw [e0, e1, e2, e3]; exact h
theorem MN_fr {N : zN} {f f' : Nat → Nat → Int32} {g g' : Nat → Nat → Int64} (h : MN N f g) (e0 : f' 112 12 = f 112 12) (e1 : f' 112 9 = f 112 9) (e2 : f' 112 22 = f 112 22) (e3 : f' 120 = f 120) (e4 : g' 112 = g 112) : MN N f' g' := by
  unfold MN at h ⊢; rw [e0, e1, e2, e3, e4]; exact h
theorem MK_fr {f f' : Nat → Nat → Int32} {P : Nat} {K : zKp} (h : MK f P K) (hP : P ≤ 6) (hw : wfK P K) (e : ∀ j, 827 ≤ j → j < 3308 → f' 113 j = f 113 j) : MK f' P K := by
  intro k hk
  refine ⟨fun q => by rw [e _ (by omega) (by omega)]; exact (h k hk).1 q, fun q => MH_fr ((h k hk).2 q) hP (hw k hk q).2.1 (fun j h1 h2 => e j (by omega) (by omega))⟩
theorem MR_fr {R : zR} {f f' : Nat → Nat → Int32} (h : MR R f) (e : f' 116 = f 116) (e2 : f' 117 = f 117) : MR R f' := by
  unfold MR at h ⊢; rw [e, e2]; exact h
theorem MT_fr {R : zR} {f f' : Nat → Nat → Int32} (h : MT R f) (e : f' 118 = f 118) (e2 : f' 119 = f 119) : MT R f' := by
  unfold MT at h ⊢; rw [e, e2]; exact h
/-- only cells in which nothing lasts have changed -/
def zXs (f f' : Nat → Nat → Int32) (g g' : Nat → Nat → Int64) : Prop := (∀ a, a < 17 ∨ 54 < a → f' a = f a) ∧ (∀ a, a < 17 ∨ 54 < a → g' a = g a)
def zMs (f f' : Nat → Nat → Int32) (g g' : Nat → Nat → Int64) : Prop := (∀ a, a ≠ 112 → a < 121 ∨ 127 < a → f' a = f a) ∧ (∀ a, a < 121 ∨ 127 < a → g' a = g a) ∧ (∀ j, j < 14 ∨ j = 22 → f' 112 j = f 112 j)
def zHi (f f' : Nat → Nat → Int32) (g g' : Nat → Nat → Int64) : Prop := (∀ a, 112 ≤ a → f' a = f a) ∧ (∀ a, 112 ≤ a → g' a = g a)
def zLo (f f' : Nat → Nat → Int32) (g g' : Nat → Nat → Int64) : Prop := (∀ a, a < 112 ∨ 128 ≤ a → f' a = f a) ∧ (∀ a, a < 112 ∨ 128 ≤ a → g' a = g a)
theorem zHi_r {f : Nat → Nat → Int32} {g : Nat → Nat → Int64} : zHi f f g g := ⟨fun _ _ => rfl, fun _ _ => rfl⟩
theorem zLo_r {f : Nat → Nat → Int32} {g : Nat → Nat → Int64} : zLo f f g g := ⟨fun _ _ => rfl, fun _ _ => rfl⟩
theorem zHi_t {f f' f'' : Nat → Nat → Int32} {g g' g'' : Nat → Nat → Int64} (h : zHi f f' g g') (h' : zHi f' f'' g' g'') : zHi f f'' g g'' := ⟨fun a q => (h'.1 a q).trans (h.1 a q), fun a q => (h'.2 a q).trans (h.2 a q)⟩
theorem zLo_t {f f' f'' : Nat → Nat → Int32} {g g' g'' : Nat → Nat → Int64} (h : zLo f f' g g') (h' : zLo f' f'' g' g'') : zLo f f'' g g'' := ⟨fun a q => (h'.1 a q).trans (h.1 a q), fun a q => (h'.2 a q).trans (h.2 a q)⟩
theorem zXs_r {f : Nat → Nat → Int32} {g : Nat → Nat → Int64} : zXs f f g g := ⟨fun _ _ => rfl, fun _ _ => rfl⟩
theorem zMs_r {f : Nat → Nat → Int32} {g : Nat → Nat → Int64} : zMs f f g g := ⟨fun _ _ _ => rfl, fun _ _ => rfl, fun _ _ => rfl⟩
theorem zXs_t {f f' f'' : Nat → Nat → Int32} {g g' g'' : Nat → Nat → Int64} (h : zXs f f' g g') (h' : zXs f' f'' g' g'') : zXs f f'' g g'' := ⟨fun a q => (h'.1 a q).trans (h.1 a q), fun a q => (h'.2 a q).trans (h.2 a q)⟩
theorem zMs_t {f f' f'' : Nat → Nat → Int32} {g g' g'' : Nat → Nat → Int64} (h : zMs f f' g g') (h' : zMs f' f'' g' g'') : zMs f f'' g g'' := ⟨fun a q q2 => (h'.1 a q q2).trans (h.1 a q q2), fun a q => (h'.2.1 a q).trans (h.2.1 a q), fun a q => (h'.2.2 a q).trans (h.2.2 a q)⟩
theorem zXs_hi {f f' : Nat → Nat → Int32} {g g' : Nat → Nat → Int64} (h : zXs f f' g g') : zHi f f' g g' := ⟨fun a q => h.1 a (by omega), fun a q => h.2 a (by omega)⟩
theorem zMs_lo {f f' : Nat → Nat → Int32} {g g' : Nat → Nat → Int64} (h : zMs f f' g g') : zLo f f' g g' := ⟨fun a q => h.1 a (by omega) (by omega), fun a q => h.2.1 a (by omega)⟩
theorem CX_s {A : zA} {f f' : Nat → Nat → Int32} {g g' : Nat → Nat → Int64} (h : CX A f g) (e : zXs f f' g g') : CX A f' g' :=
  ⟨XN_fr h.1 (e.1 _ (by omega)) (e.1 _ (by omega)) (e.2 _ (by omega)), XH_fr h.2.1 (fun a h1 h2 => e.1 a (by omega)), XK_fr h.2.2.1 (e.1 _ (by omega)) (fun a h1 h2 => e.1 a (by omega)), XR_fr h.2.2.2.1 (fun a h1 h2 => e.1 a (by omega)), XT_fr h.2.2.2.2 (fun a h1 h2 => e.1 a (by omega))⟩
theorem CM_s {A : zA} {f f' : Nat → Nat → Int32} {g g' : Nat → Nat → Int64} (hw : wf A) (h : CM A f g) (e : zMs f f' g g') : CM A f' g' :=
  ⟨MN_fr h.1 (e.2.2 _ (by omega)) (e.2.2 _ (by omega)) (e.2.2 _ (by omega)) (e.1 _ (by omega) (by omega)) (e.2.1 _ (by omega)), MW_fr h.2.1 (e.2.2 _ (by omega)) (e.2.2 _ (by omega)) (e.1 _ (by omega) (by omega)) (e.1 _ (by omega) (by omega)), MH_fr h.2.2.1 hw.2.2.1.1 hw.2.2.2.1.2.1 (fun j _ _ => by rw [e.1 113 (by omega) (by omega)]), MK_fr h.2.2.2.1 hw.2.2.1.1 hw.2.2.2.2 (fun j _ _ => by rw [e.1 113 (by omega) (by omega)]), MR_fr h.2.2.2.2.1 (e.1 _ (by omega) (by omega)) (e.1 _ (by omega) (by omega)), MT_fr h.2.2.2.2.2 (e.1 _ (by omega) (by omega)) (e.1 _ (by omega) (by omega))⟩
theorem CX_lo {A : zA} {f f' : Nat → Nat → Int32} {g g' : Nat → Nat → Int64} (h : CX A f g) (e : zLo f f' g g') : CX A f' g' :=
  ⟨XN_fr h.1 (e.1 _ (by omega)) (e.1 _ (by omega)) (e.2 _ (by omega)), XH_fr h.2.1 (fun a h1 h2 => e.1 a (by omega)), XK_fr h.2.2.1 (e.1 _ (by omega)) (fun a h1 h2 => e.1 a (by omega)), XR_fr h.2.2.2.1 (fun a h1 h2 => e.1 a (by omega)), XT_fr h.2.2.2.2 (fun a h1 h2 => e.1 a (by omega))⟩
theorem CM_hi {A : zA} {f f' : Nat → Nat → Int32} {g g' : Nat → Nat → Int64} (h : CM A f g) (e : zHi f f' g g') : CM A f' g' := by
  have e' : ∀ a, 112 ≤ a → f' a = f a := e.1
  unfold CM MN MW MH MK MH YQ MR MT at h ⊢
  rw [e' 112 (by omega), e' 113 (by omega), e' 114 (by omega), e' 115 (by omega), e' 116 (by omega), e' 117 (by omega), e' 118 (by omega), e' 119 (by omega), e' 120 (by omega), e.2 112 (by omega)]
  exact h
/-- a call of both, with the same answer -/
def zSim (A : zA) (jx jm : Nat) (as : List Value) : Prop := ∃ (v : Value) (A' : zA), wf A' ∧
  (∀ f g, CX A f g → ∃ f' g', zz_ca jx (.ref 0 :: as) (zK f g) = some (some v, zK f' g') ∧ CX A' f' g' ∧ zHi f f' g g') ∧
  (∀ f g, CM A f g → ∃ f' g', zz_ca jm (.ref 112 :: as) (zK f g) = some (some v, zK f' g') ∧ CM A' f' g' ∧ zLo f f' g g')
