/-! READING A TEXT: place, who lives there, rooms, paces, shut doors -/
abbrev zD : Type := Nat × zW × (Nat → Nat) × (Nat → Nat) × Nat
def dP (D : zD) : Nat := D.1
def dW (D : zD) : zW := D.2.1
def dR (D : zD) : Nat → Nat := D.2.2.1
def dV (D : zD) : Nat → Nat := D.2.2.2.1
def dB (D : zD) : Nat := D.2.2.2.2
def dH (D : zD) : zHo := (dV D, 0, fun _ => (dB D, nI 0, dR D, fun _ => nI 0, fun _ => nI 0))
def wfZ (s : Nat) (D : zD) : Prop := dP D ≤ s ∧ wfW (dW D) ∧ (∀ p < wP (dW D), dR D p < 12 ∧ dV D p < 10) ∧ dB D < 4096
def dStair (D : zD) (x y : Nat) : zD := (dP D + 3, (wP (dW D), wK (dW D), wS (dW D) + 1, zup (wA (dW D)) (wS (dW D)) x, zup (wB (dW D)) (wS (dW D)) y), dR D, dV D, dB D)
def dShut (D : zD) (x : Nat) : zD := (dP D + 2, dW D, dR D, dV D, dB D ||| 2 ^ x)
def dPers (D : zD) (k x v : Nat) : zD := (dP D + 3, (wP (dW D) + 1, zup (wK (dW D)) (wP (dW D)) k, wS (dW D), wA (dW D), wB (dW D)), zup (dR D) (wP (dW D)) x, zup (dV D) (wP (dW D)) v, dB D)
def dNext (D : zD) : zD := (dP D + 1, dW D, dR D, dV D, dB D)
def d0 : zD := (0, (0, fun _ => 0, 0, fun _ => 0, fun _ => 0), fun _ => 0, fun _ => 0, 0)
/-- a room's letter, a figure, a kind's letter -/
def zrm (c : Nat → Int32) (s i : Nat) : Option Nat := if i < s ∧ zz_in (c i - nI 65) 12 then some (zz_ix (c i - nI 65)) else none
def zfg (c : Nat → Int32) (s i : Nat) : Option Nat := if i < s ∧ zz_in (c i - nI 48) 10 then some (zz_ix (c i - nI 48)) else none
def zkn (x : Int32) : Option Nat := if x = nI 112 then some 0 else if x = nI 115 then some 1 else if x = nI 99 then some 2 else if x = nI 107 then some 3 else if x = nI 108 then some 4 else if x = nI 110 then some 5 else none
def zit (c : Nat → Int32) (s : Nat) (D : zD) : Nat ⊕ zD :=
  if c (dP D) = nI 116 then
    (if wS (dW D) = 4 then .inl (dP D) else match zrm c s (dP D + 1) with
      | none => .inl (dP D + 1)
      | some x => match zrm c s (dP D + 2) with
        | none => .inl (dP D + 2)
        | some y => if y = x then .inl (dP D + 2) else .inr (dStair D x y))
  else if c (dP D) = nI 120 then
    (match zrm c s (dP D + 1) with
      | none => .inl (dP D + 1)
      | some x => if (dB D).testBit x = true then .inl (dP D + 1) else .inr (dShut D x))
  else match zkn (c (dP D)) with
    | none => .inl (dP D)
    | some k => if wP (dW D) = 6 then .inl (dP D) else match zrm c s (dP D + 1) with
      | none => .inl (dP D + 1)
      | some x => match zfg c s (dP D + 2) with
        | none => .inl (dP D + 2)
        | some v => .inr (dPers D k x v)
def zrd (c : Nat → Int32) (s : Nat) : Nat → zD → Nat ⊕ zD
  | 0, D => .inr D
  | n + 1, D => if s ≤ dP D then .inr D else if c (dP D) = nI 32 then zrd c s n (dNext D) else match zit c s D with
    | .inl q => .inl q
    | .inr E => zrd c s n E
def zrz (s : Nat) : Nat ⊕ zD → Int32
  | .inl q => nI q
  | .inr D => if wP (dW D) = 0 then nI s else -9
theorem zrm_some {c : Nat → Int32} {s i x : Nat} (h : zrm c s i = some x) : i < s ∧ x < 12 ∧ c i - nI 65 = nI x := by
  unfold zrm at h
  by_cases q : i < s ∧ zz_in (c i - nI 65) 12
  · rw [if_pos q] at h
    obtain ⟨j, h1, h2, h3⟩ := z_inx.mp q.2
    have e : zz_ix (c i - nI 65) = j := by rw [h3]; exact z_ix h2
    rw [e] at h; cases h
    exact ⟨q.1, h1, h3⟩
  · rw [if_neg q] at h; cases h
theorem zfg_some {c : Nat → Int32} {s i x : Nat} (h : zfg c s i = some x) : i < s ∧ x < 10 ∧ c i - nI 48 = nI x := by
  unfold zfg at h
  by_cases q : i < s ∧ zz_in (c i - nI 48) 10
  · rw [if_pos q] at h
    obtain ⟨j, h1, h2, h3⟩ := z_inx.mp q.2
    have e : zz_ix (c i - nI 48) = j := by rw [h3]; exact z_ix h2
    rw [e] at h; cases h
    exact ⟨q.1, h1, h3⟩
  · rw [if_neg q] at h; cases h
theorem zrm_none {c : Nat → Int32} {s i : Nat} (h : zrm c s i = none) : ¬ i < s ∨ ¬ zz_in (c i - nI 65) 12 := by
  unfold zrm at h
  by_cases q : i < s ∧ zz_in (c i - nI 65) 12
  · rw [if_pos q] at h; cases h
  · by_cases q2 : i < s
    · exact Or.inr (fun w => q ⟨q2, w⟩)
    · exact Or.inl q2
theorem zfg_none {c : Nat → Int32} {s i : Nat} (h : zfg c s i = none) : ¬ i < s ∨ ¬ zz_in (c i - nI 48) 10 := by
  unfold zfg at h
  by_cases q : i < s ∧ zz_in (c i - nI 48) 10
  · rw [if_pos q] at h; cases h
  · by_cases q2 : i < s
    · exact Or.inr (fun w => q ⟨q2, w⟩)
    · exact Or.inl q2
theorem zkn_lt {x : Int32} {k : Nat} (h : zkn x = some k) : k < 6 := by
  unfold zkn at h
  split at h
  · cases h; decide
  · split at h
    · cases h; decide
    · split at h
      · cases h; decide
      · split at h
        · cases h; decide
        · split at h
          · cases h; decide
          · split at h
            · cases h; decide
            · cases h
/-- all ways an item may be read -/
theorem zit_c (c : Nat → Int32) (s : Nat) (D : zD) :
    (c (dP D) = nI 116 ∧ wS (dW D) = 4 ∧ zit c s D = .inl (dP D)) ∨
    (c (dP D) = nI 116 ∧ wS (dW D) ≠ 4 ∧ zrm c s (dP D + 1) = none ∧ zit c s D = .inl (dP D + 1)) ∨
    (c (dP D) = nI 116 ∧ wS (dW D) ≠ 4 ∧ ∃ x, zrm c s (dP D + 1) = some x ∧ (zrm c s (dP D + 2) = none ∨ zrm c s (dP D + 2) = some x) ∧ zit c s D = .inl (dP D + 2)) ∨
    (c (dP D) = nI 116 ∧ wS (dW D) ≠ 4 ∧ ∃ x y, zrm c s (dP D + 1) = some x ∧ zrm c s (dP D + 2) = some y ∧ y ≠ x ∧ zit c s D = .inr (dStair D x y)) ∨
    (c (dP D) ≠ nI 116 ∧ c (dP D) = nI 120 ∧ zrm c s (dP D + 1) = none ∧ zit c s D = .inl (dP D + 1)) ∨
    (c (dP D) ≠ nI 116 ∧ c (dP D) = nI 120 ∧ ∃ x, zrm c s (dP D + 1) = some x ∧ (dB D).testBit x = true ∧ zit c s D = .inl (dP D + 1)) ∨
    (c (dP D) ≠ nI 116 ∧ c (dP D) = nI 120 ∧ ∃ x, zrm c s (dP D + 1) = some x ∧ (dB D).testBit x = false ∧ zit c s D = .inr (dShut D x)) ∨
    (c (dP D) ≠ nI 116 ∧ c (dP D) ≠ nI 120 ∧ zkn (c (dP D)) = none ∧ zit c s D = .inl (dP D)) ∨
    (c (dP D) ≠ nI 116 ∧ c (dP D) ≠ nI 120 ∧ ∃ k, zkn (c (dP D)) = some k ∧ wP (dW D) = 6 ∧ zit c s D = .inl (dP D)) ∨
    (c (dP D) ≠ nI 116 ∧ c (dP D) ≠ nI 120 ∧ ∃ k, zkn (c (dP D)) = some k ∧ wP (dW D) ≠ 6 ∧ zrm c s (dP D + 1) = none ∧ zit c s D = .inl (dP D + 1)) ∨
    (c (dP D) ≠ nI 116 ∧ c (dP D) ≠ nI 120 ∧ ∃ k x, zkn (c (dP D)) = some k ∧ wP (dW D) ≠ 6 ∧ zrm c s (dP D + 1) = some x ∧ zfg c s (dP D + 2) = none ∧ zit c s D = .inl (dP D + 2)) ∨
    (c (dP D) ≠ nI 116 ∧ c (dP D) ≠ nI 120 ∧ ∃ k x v, zkn (c (dP D)) = some k ∧ wP (dW D) ≠ 6 ∧ zrm c s (dP D + 1) = some x ∧ zfg c s (dP D + 2) = some v ∧ zit c s D = .inr (dPers D k x v)) := by
  by_cases h1 : c (dP D) = nI 116
  · by_cases h2 : wS (dW D) = 4
    · exact Or.inl ⟨h1, h2, by unfold zit; rw [if_pos h1, if_pos h2]⟩
    · right
      cases hx : zrm c s (dP D + 1) with
      | none => exact Or.inl ⟨h1, h2, rfl, by unfold zit; rw [if_pos h1, if_neg h2]; simp only [hx]⟩
      | some x =>
        right
        cases hy : zrm c s (dP D + 2) with
        | none => exact Or.inl ⟨h1, h2, x, rfl, Or.inl rfl, by unfold zit; rw [if_pos h1, if_neg h2]; simp only [hx, hy]⟩
        | some y =>
          by_cases e : y = x
          · exact Or.inl ⟨h1, h2, x, rfl, Or.inr (by rw [e]), by unfold zit; rw [if_pos h1, if_neg h2]; simp only [hx, hy]; rw [if_pos e]⟩
          · exact Or.inr (Or.inl ⟨h1, h2, x, y, rfl, rfl, e, by unfold zit; rw [if_pos h1, if_neg h2]; simp only [hx, hy]; rw [if_neg e]⟩)
  · right; right; right; right
    by_cases h2 : c (dP D) = nI 120
    · cases hx : zrm c s (dP D + 1) with
      | none => exact Or.inl ⟨h1, h2, rfl, by unfold zit; rw [if_neg h1, if_pos h2]; simp only [hx]⟩
      | some x =>
        right
        cases e : (dB D).testBit x with
        | true => exact Or.inl ⟨h1, h2, x, rfl, e, by unfold zit; rw [if_neg h1, if_pos h2]; simp only [hx]; rw [if_pos e]⟩
        | false => exact Or.inr (Or.inl ⟨h1, h2, x, rfl, e, by unfold zit; rw [if_neg h1, if_pos h2]; simp only [hx]; rw [if_neg (by rw [e]; decide)]⟩)
    · right; right; right
      cases hk : zkn (c (dP D)) with
      | none => exact Or.inl ⟨h1, h2, rfl, by unfold zit; rw [if_neg h1, if_neg h2]; simp only [hk]⟩
      | some k =>
        right
        by_cases h3 : wP (dW D) = 6
        · exact Or.inl ⟨h1, h2, k, rfl, h3, by unfold zit; rw [if_neg h1, if_neg h2]; simp only [hk]; rw [if_pos h3]⟩
        · right
          cases hx : zrm c s (dP D + 1) with
          | none => exact Or.inl ⟨h1, h2, k, rfl, h3, rfl, by unfold zit; rw [if_neg h1, if_neg h2]; simp only [hk]; rw [if_neg h3]; simp only [hx]⟩
          | some x =>
            right
            cases hv : zfg c s (dP D + 2) with
            | none => exact Or.inl ⟨h1, h2, k, x, rfl, h3, rfl, rfl, by unfold zit; rw [if_neg h1, if_neg h2]; simp only [hk]; rw [if_neg h3]; simp only [hx, hv]⟩
            | some v => exact Or.inr ⟨h1, h2, k, x, v, rfl, h3, rfl, rfl, by unfold zit; rw [if_neg h1, if_neg h2]; simp only [hk]; rw [if_neg h3]; simp only [hx, hv]⟩
theorem wfZ_stair {s : Nat} {D : zD} (h : wfZ s D) {x y : Nat} (hS : wS (dW D) ≠ 4) (hx : x < 12) (hy : y < 12) (hxy : y ≠ x) (hp : dP D + 2 < s) : wfZ s (dStair D x y) := by
  obtain ⟨h1, h2, h3, h4⟩ := h
  obtain ⟨w1, w2, w3, w4⟩ := h2
  refine ⟨by show dP D + 3 ≤ s; omega, ⟨w1, by show wS (dW D) + 1 ≤ 4; omega, w3, fun j hj => ?_⟩, h3, h4⟩
  have hj : j < wS (dW D) + 1 := hj
  show zup (wA (dW D)) (wS (dW D)) x j < 12 ∧ zup (wB (dW D)) (wS (dW D)) y j < 12 ∧ zup (wA (dW D)) (wS (dW D)) x j ≠ zup (wB (dW D)) (wS (dW D)) y j
  by_cases e : j = wS (dW D)
  · rw [e, zup_s, zup_s]; exact ⟨hx, hy, fun q => hxy q.symm⟩
  · rw [zup_n e, zup_n e]; exact w4 j (by omega)
theorem wfZ_shut {s : Nat} {D : zD} (h : wfZ s D) {x : Nat} (hx : x < 12) (hp : dP D + 1 < s) : wfZ s (dShut D x) :=
  ⟨by show dP D + 2 ≤ s; omega, h.2.1, h.2.2.1, z_or_lt h.2.2.2 (z_p_lt hx)⟩
theorem wfZ_pers {s : Nat} {D : zD} (h : wfZ s D) {k x v : Nat} (hP : wP (dW D) ≠ 6) (hk : k < 6) (hx : x < 12) (hv : v < 10) (hp : dP D + 2 < s) : wfZ s (dPers D k x v) := by
  obtain ⟨h1, h2, h3, h4⟩ := h
  obtain ⟨w1, w2, w3, w4⟩ := h2
  refine ⟨by show dP D + 3 ≤ s; omega, ⟨by show wP (dW D) + 1 ≤ 6; omega, w2, fun j hj => ?_, w4⟩, fun j hj => ?_, h4⟩
  · have hj : j < wP (dW D) + 1 := hj
    show zup (wK (dW D)) (wP (dW D)) k j < 6
    by_cases e : j = wP (dW D)
    · rw [e, zup_s]; exact hk
    · rw [zup_n e]; exact w3 j (by omega)
  · have hj : j < wP (dW D) + 1 := hj
    show zup (dR D) (wP (dW D)) x j < 12 ∧ zup (dV D) (wP (dW D)) v j < 10
    by_cases e : j = wP (dW D)
    · rw [e, zup_s, zup_s]; exact ⟨hx, hv⟩
    · rw [zup_n e, zup_n e]; exact h3 j (by omega)
theorem wfZ_next {s : Nat} {D : zD} (h : wfZ s D) (hp : dP D < s) : wfZ s (dNext D) := ⟨by show dP D + 1 ≤ s; omega, h.2⟩
theorem wfZ_0 (s : Nat) : wfZ s d0 := ⟨Nat.zero_le _, ⟨Nat.zero_le _, Nat.zero_le _, fun p hp => absurd hp (Nat.not_lt_zero _), fun p hp => absurd hp (Nat.not_lt_zero _)⟩, fun p hp => absurd hp (Nat.not_lt_zero _), by decide⟩
theorem zit_r {c : Nat → Int32} {s : Nat} {D E : zD} (hw : wfZ s D) (h : zit c s D = .inr E) : wfZ s E ∧ dP D < dP E := by
  rcases zit_c c s D with ⟨_, _, z⟩ | ⟨_, _, _, z⟩ | ⟨_, _, x, _, _, z⟩ | ⟨_, h2, x, y, hx, hy, e, z⟩ | ⟨_, _, _, z⟩ | ⟨_, _, x, _, _, z⟩ | ⟨_, _, x, hx, _, z⟩ | ⟨_, _, _, z⟩ | ⟨_, _, k, _, _, z⟩ | ⟨_, _, k, _, _, _, z⟩ | ⟨_, _, k, x, _, _, _, _, z⟩ | ⟨_, _, k, x, v, hk, h3, hx, hv, z⟩ <;> rw [z] at h <;> cases h
  · have a := zrm_some hx; have b := zrm_some hy
    exact ⟨wfZ_stair hw h2 a.2.1 b.2.1 e b.1, by show dP D < dP D + 3; omega⟩
  · have a := zrm_some hx
    exact ⟨wfZ_shut hw a.2.1 a.1, by show dP D < dP D + 2; omega⟩
  · have a := zrm_some hx; have b := zfg_some hv
    exact ⟨wfZ_pers hw h3 (zkn_lt hk) a.2.1 b.2.1 b.1, by show dP D < dP D + 3; omega⟩
theorem zrd_s {c : Nat → Int32} {s n : Nat} {D : zD} : zrd c s (n + 1) D = if s ≤ dP D then .inr D else if c (dP D) = nI 32 then zrd c s n (dNext D) else match zit c s D with
    | .inl q => .inl q
    | .inr E => zrd c s n E := rfl
/-- how much fuel doesn't matter -/
theorem zrd_f {c : Nat → Int32} {s : Nat} : ∀ (n m : Nat) (D : zD), wfZ s D → s - dP D ≤ n → s - dP D ≤ m → zrd c s n D = zrd c s m D
  | 0, 0, D, _, _, _ => rfl
  | 0, m + 1, D, _, h1, _ => by rw [zrd_s, if_pos (by omega)]; rfl
  | n + 1, 0, D, _, _, h2 => by rw [zrd_s, if_pos (by omega)]; rfl
  | n + 1, m + 1, D, hw, h1, h2 => by
    rw [zrd_s, zrd_s]
    by_cases q : s ≤ dP D
    · rw [if_pos q, if_pos q]
    · rw [if_neg q, if_neg q]
      by_cases q2 : c (dP D) = nI 32
      · rw [if_pos q2, if_pos q2]
        have e : dP (dNext D) = dP D + 1 := rfl
        exact zrd_f n m (dNext D) (wfZ_next hw (by omega)) (by omega) (by omega)
      · rw [if_neg q2, if_neg q2]
        cases z : zit c s D with
        | inl q => rfl
        | inr E =>
          have r := zit_r hw z
          exact zrd_f n m E r.1 (by omega) (by omega)
/-- numbers of bytes -/
theorem zby_sub {x : Int32} (h : zby x) {k : Nat} (hk : k < 1000) : (x - nI k).toInt = x.toInt - k := by
  unfold zby at h
  rw [Int32.toInt_sub, nI_toInt (by omega)]
  exact Int.bmod_eq_of_le (by omega) (by omega)
theorem l_150b (f : Nat → Nat → Int32) (g : Nat → Nat → Int64) {x : Int32} (h : zby x) {a n : Nat} (ha : a < 1000) (hn : n < 1000) (hn0 : 0 < n) : zz_ca 150 [.long x.toInt64, .long (lN a), .long (lN (a + n - 1))] (zK f g) = some (some (.int (zB (zz_in (x - nI a) n))), zK f g) := by
  rw [l_150]
  refine congrArg (fun x => some (some (Value.int x), zK f g)) (zB_c ?_)
  rw [Int64.le_iff_toInt_le, Int64.le_iff_toInt_le, Int32.toInt_toInt64, lN_toInt (by omega), lN_toInt (by omega)]
  unfold zz_in
  rw [zby_sub h ha]
  omega
def zor : Option Nat → Int32
  | none => -1
  | some x => nI x
theorem l_39 (f : Nat → Nat → Int32) (g : Nat → Nat → Int64) (x : Int32) : zz_ca 39 [.int x] (zK f g) = some (some (.int (zor (zkn x))), zK f g) := by
  rw [e_39]
  by_cases h1 : x = nI 112
  · subst h1; simp (disch := first | omega | assumption) only [x_39_0, x_39_84, x_39_86, x_39_88, x_39_90, x_39_92, x_39_94, x_39_96, e_39, nI_add, pk_mul, z_in, z_ix, nI_leI, nI_ltI, nI_eq, z_eq0, z_lt0, z_0le, z_0lt, z_le0, z_n9, z_n1, z_m1lt, z_m9lt, z_m9le, z_m1le, zB_0, zB_1, zz_bi_s, zz_bv_s, zz_bl_s, if_pos, if_neg, if_true, if_false, true_and, and_true, not_true_eq_false, not_false_eq_true, ite_self, show zkn (nI 112) = some 0 by decide +kernel]; rfl
  by_cases h2 : x = nI 115
  · subst h2; simp (disch := first | omega | assumption) only [x_39_0, x_39_84, x_39_86, x_39_88, x_39_90, x_39_92, x_39_94, x_39_96, e_39, nI_add, pk_mul, z_in, z_ix, nI_leI, nI_ltI, nI_eq, z_eq0, z_lt0, z_0le, z_0lt, z_le0, z_n9, z_n1, z_m1lt, z_m9lt, z_m9le, z_m1le, zB_0, zB_1, zz_bi_s, zz_bv_s, zz_bl_s, if_pos, if_neg, if_true, if_false, true_and, and_true, not_true_eq_false, not_false_eq_true, ite_self, show zkn (nI 115) = some 1 by decide +kernel]; rfl
  by_cases h3 : x = nI 99
  · subst h3; simp (disch := first | omega | assumption) only [x_39_0, x_39_84, x_39_86, x_39_88, x_39_90, x_39_92, x_39_94, x_39_96, e_39, nI_add, pk_mul, z_in, z_ix, nI_leI, nI_ltI, nI_eq, z_eq0, z_lt0, z_0le, z_0lt, z_le0, z_n9, z_n1, z_m1lt, z_m9lt, z_m9le, z_m1le, zB_0, zB_1, zz_bi_s, zz_bv_s, zz_bl_s, if_pos, if_neg, if_true, if_false, true_and, and_true, not_true_eq_false, not_false_eq_true, ite_self, show zkn (nI 99) = some 2 by decide +kernel]; rfl
  by_cases h4 : x = nI 107
  · subst h4; simp (disch := first | omega | assumption) only [x_39_0, x_39_84, x_39_86, x_39_88, x_39_90, x_39_92, x_39_94, x_39_96, e_39, nI_add, pk_mul, z_in, z_ix, nI_leI, nI_ltI, nI_eq, z_eq0, z_lt0, z_0le, z_0lt, z_le0, z_n9, z_n1, z_m1lt, z_m9lt, z_m9le, z_m1le, zB_0, zB_1, zz_bi_s, zz_bv_s, zz_bl_s, if_pos, if_neg, if_true, if_false, true_and, and_true, not_true_eq_false, not_false_eq_true, ite_self, show zkn (nI 107) = some 3 by decide +kernel]; rfl
  by_cases h5 : x = nI 108
  · subst h5; simp (disch := first | omega | assumption) only [x_39_0, x_39_84, x_39_86, x_39_88, x_39_90, x_39_92, x_39_94, x_39_96, e_39, nI_add, pk_mul, z_in, z_ix, nI_leI, nI_ltI, nI_eq, z_eq0, z_lt0, z_0le, z_0lt, z_le0, z_n9, z_n1, z_m1lt, z_m9lt, z_m9le, z_m1le, zB_0, zB_1, zz_bi_s, zz_bv_s, zz_bl_s, if_pos, if_neg, if_true, if_false, true_and, and_true, not_true_eq_false, not_false_eq_true, ite_self, show zkn (nI 108) = some 4 by decide +kernel]; rfl
  by_cases h6 : x = nI 110
  · subst h6; simp (disch := first | omega | assumption) only [x_39_0, x_39_84, x_39_86, x_39_88, x_39_90, x_39_92, x_39_94, x_39_96, e_39, nI_add, pk_mul, z_in, z_ix, nI_leI, nI_ltI, nI_eq, z_eq0, z_lt0, z_0le, z_0lt, z_le0, z_n9, z_n1, z_m1lt, z_m9lt, z_m9le, z_m1le, zB_0, zB_1, zz_bi_s, zz_bv_s, zz_bl_s, if_pos, if_neg, if_true, if_false, true_and, and_true, not_true_eq_false, not_false_eq_true, ite_self, show zkn (nI 110) = some 5 by decide +kernel]; rfl
  have e : zkn x = none := by unfold zkn; rw [if_neg h1, if_neg h2, if_neg h3, if_neg h4, if_neg h5, if_neg h6]
  simp only [x_39_0, x_39_96, h1, h2, h3, h4, h5, h6, if_false, ite_self, e]; rfl
theorem l_173 (f : Nat → Nat → Int32) (g : Nat → Nat → Int64) (x : Int32) : zz_ca 173 [.int x] (zK f g) = some (some (.int (dI (zkn x))), zK f g) := by
  rw [e_173, x_173_0]
  unfold zkn
  split
  · rfl
  · split
    · rfl
    · split
      · rfl
      · split
        · rfl
        · split
          · rfl
          · split <;> rfl
