/-! the machine without a count of steps -/
theorem zz_ex_up : ∀ (n k pc : Nat) (L S : List Value) (h : zz_H) (r : Option Value × zz_H), zz_ex n k pc L S h = some r → zz_ex (n + 1) k pc L S h = some r := by
  intro n
  induction n with
  | zero => intro k pc L S h r e; simp [zz_ex] at e
  | succ n ih =>
    intro k pc L S h r e
    rw [zz_ex] at e ⊢
    cases hs : zz_stp k pc L S h with
    | none => rw [hs] at e; simp at e
    | some o =>
      rw [hs] at e
      rcases o with ⟨pc', L', S', h'⟩ | v | ⟨j, as, S'⟩
      · exact ih _ _ _ _ _ _ e
      · exact e
      · simp only at e ⊢
        cases hc : zz_ex n j 0 (zz_ini j as) [] h with
        | none => rw [hc] at e; simp at e
        | some q =>
          rw [hc] at e
          rw [ih _ _ _ _ _ _ hc]
          exact ih _ _ _ _ _ _ e
theorem zz_ex_le {n m k pc : Nat} {L S : List Value} {h : zz_H} {r : Option Value × zz_H} (hnm : n ≤ m) (e : zz_ex n k pc L S h = some r) : zz_ex m k pc L S h = some r := by
  induction hnm with
  | refl => exact e
  | step _ ih => exact zz_ex_up _ _ _ _ _ _ _ ih
theorem zz_ex_det {n m k pc : Nat} {L S : List Value} {h : zz_H} {r r' : Option Value × zz_H} (e : zz_ex n k pc L S h = some r) (e' : zz_ex m k pc L S h = some r') : r = r' := by
  have h1 := zz_ex_le (Nat.le_max_left n m) e
  have h2 := zz_ex_le (Nat.le_max_right n m) e'
  rw [h1] at h2
  exact Option.some.inj h2
noncomputable def zz_ev (k pc : Nat) (L S : List Value) (h : zz_H) : Option (Option Value × zz_H) :=
  @dite _ (∃ r n, zz_ex n k pc L S h = some r) (Classical.propDecidable _) (fun e => some (Classical.choose e)) (fun _ => none)
theorem zz_ev_iff {k pc : Nat} {L S : List Value} {h : zz_H} {r : Option Value × zz_H} : zz_ev k pc L S h = some r ↔ ∃ n, zz_ex n k pc L S h = some r := by
  unfold zz_ev
  constructor
  · intro e
    split at e
    · rename_i hh
      have h1 := Classical.choose_spec hh
      rw [Option.some.inj e] at h1
      exact h1
    · cases e
  · rintro ⟨n, e⟩
    have hh : ∃ r n, zz_ex n k pc L S h = some r := ⟨r, n, e⟩
    rw [dif_pos hh]
    obtain ⟨m, hm⟩ := Classical.choose_spec hh
    rw [zz_ex_det hm e]
theorem zz_ev_ext {k pc k' pc' : Nat} {L S L' S' : List Value} {h h' : zz_H} (e : ∀ r, (∃ n, zz_ex n k pc L S h = some r) ↔ (∃ n, zz_ex n k' pc' L' S' h' = some r)) : zz_ev k pc L S h = zz_ev k' pc' L' S' h' := by
  cases h1 : zz_ev k' pc' L' S' h' with
  | some r => exact zz_ev_iff.mpr ((e r).mpr (zz_ev_iff.mp h1))
  | none =>
    cases h2 : zz_ev k pc L S h with
    | none => rfl
    | some r =>
      have h3 := zz_ev_iff.mpr ((e r).mp (zz_ev_iff.mp h2))
      rw [h1] at h3
      cases h3
theorem zz_ev_next {k pc pc' : Nat} {L S L' S' : List Value} {h h' : zz_H} (hs : zz_stp k pc L S h = some (.inl (pc', L', S', h'))) : zz_ev k pc L S h = zz_ev k pc' L' S' h' := by
  refine zz_ev_ext fun r => ⟨fun ⟨n, e⟩ => ?_, fun ⟨n, e⟩ => ⟨n + 1, ?_⟩⟩
  · cases n with
    | zero => simp [zz_ex] at e
    | succ n => rw [zz_ex, hs] at e; exact ⟨n, e⟩
  · rw [zz_ex, hs]; exact e
theorem zz_ev_ret {k pc : Nat} {L S : List Value} {h : zz_H} {v : Option Value} (hs : zz_stp k pc L S h = some (.inr (.inl v))) : zz_ev k pc L S h = some (v, h) := by
  refine zz_ev_iff.mpr ⟨1, ?_⟩
  rw [zz_ex, hs]
theorem zz_ev_stuck {k pc : Nat} {L S : List Value} {h : zz_H} (hs : zz_stp k pc L S h = none) : zz_ev k pc L S h = none := by
  cases h1 : zz_ev k pc L S h with
  | none => rfl
  | some r =>
    obtain ⟨n, e⟩ := zz_ev_iff.mp h1
    cases n with
    | zero => simp [zz_ex] at e
    | succ n => rw [zz_ex, hs] at e; cases e
/-- a call of method j -/
noncomputable def zz_ca (j : Nat) (as : List Value) (h : zz_H) : Option (Option Value × zz_H) := zz_ev j 0 (zz_ini j as) [] h
theorem zz_ev_call {k pc j : Nat} {L S as S' : List Value} {h : zz_H} (hs : zz_stp k pc L S h = some (.inr (.inr (j, as, S')))) : zz_ev k pc L S h = match zz_ca j as h with
    | some (v, h') => zz_ev k (pc + 3) (zz_fgt (zz_fg k pc) L) (v.toList ++ S') h'
    | none => none := by
  have key : ∀ r, zz_ev k pc L S h = some r ↔ (match zz_ca j as h with
    | some (v, h') => zz_ev k (pc + 3) (zz_fgt (zz_fg k pc) L) (v.toList ++ S') h'
    | none => none) = some r := by
    intro r
    rw [zz_ev_iff]
    constructor
    · rintro ⟨n, e⟩
      cases n with
      | zero => simp [zz_ex] at e
      | succ n =>
        rw [zz_ex, hs] at e
        simp only at e
        cases hc : zz_ex n j 0 (zz_ini j as) [] h with
        | none => rw [hc] at e; simp at e
        | some q =>
          rw [hc] at e
          have h1 : zz_ca j as h = some q := zz_ev_iff.mpr ⟨n, hc⟩
          rw [h1]
          exact zz_ev_iff.mpr ⟨n, e⟩
    · intro e
      cases hc : zz_ca j as h with
      | none => rw [hc] at e; cases e
      | some q =>
        rw [hc] at e
        obtain ⟨n, h1⟩ := zz_ev_iff.mp hc
        obtain ⟨m, h2⟩ := zz_ev_iff.mp (show zz_ev k (pc + 3) (zz_fgt (zz_fg k pc) L) (q.1.toList ++ S') q.2 = some r from e)
        refine ⟨max n m + 1, ?_⟩
        rw [zz_ex, hs]
        simp only
        rw [zz_ex_le (Nat.le_max_left n m) h1]
        exact zz_ex_le (Nat.le_max_right n m) h2
  generalize (match zz_ca j as h with
    | some (v, h') => zz_ev k (pc + 3) (zz_fgt (zz_fg k pc) L) (v.toList ++ S') h'
    | none => none) = y at key ⊢
  cases hy : y with
  | some r => exact (key r).mpr hy
  | none =>
    cases hx : zz_ev k pc L S h with
    | none => rfl
    | some r => have := (key r).mp hx; rw [hy] at this; cases this
/-! answers are of their method's kind -/
def zz_okr (rt : Option FieldType) (v : Option Value) : Prop := match rt with
  | some .int => ∃ x, v = some (.int x)
  | some .boolean => ∃ x, v = some (.int x) ∧ zz_bz x
  | some .long => ∃ x, v = some (.long x)
  | none => v = none
  | _ => False
theorem zz_r_ok {ins : Instr} {rt : Option FieldType} {S : List Value} {v : Option Value} (e : zz_r ins rt S = some v) : zz_okr rt v := by
  unfold zz_r at e
  split at e
  · cases e; exact ⟨_, rfl⟩
  · split at e
    · rename_i h; cases e; exact ⟨_, rfl, h⟩
    · cases e
  · cases e; exact ⟨_, rfl⟩
  · cases e; exact rfl
  · cases e
theorem zz_st0_ret {k pc : Nat} {L S : List Value} {h : zz_H} {v : Option Value} (e : zz_st0 k pc L S h = some (.inr (.inl v))) : ∃ ins n aux, zz_cd k pc = some (ins, n, aux) ∧ zz_r ins (zz_m k).2.2.2.1 S = some v := by
  unfold zz_st0 at e
  split at e
  · cases e
  · rename_i ins n aux hc
    refine ⟨ins, n, aux, hc, ?_⟩
    split at e
    · simp at e
    · split at e
      · simp at e
      · split at e
        · simp at e; subst e; assumption
        · split at e <;> simp at e
theorem zz_stp_ret {k pc : Nat} {L S : List Value} {h : zz_H} {v : Option Value} (e : zz_stp k pc L S h = some (.inr (.inl v))) : ∃ ins n aux, zz_cd k pc = some (ins, n, aux) ∧ zz_r ins (zz_m k).2.2.2.1 S = some v := zz_st0_ret e
theorem zz_ex_okr : ∀ (n k pc : Nat) (L S : List Value) (h : zz_H) (v : Option Value) (h' : zz_H), zz_ex n k pc L S h = some (v, h') → zz_okr (zz_m k).2.2.2.1 v := by
  intro n
  induction n with
  | zero => intro k pc L S h v h' e; simp [zz_ex] at e
  | succ n ih =>
    intro k pc L S h v h' e
    rw [zz_ex] at e
    cases hs : zz_stp k pc L S h with
    | none => rw [hs] at e; simp at e
    | some o =>
      rw [hs] at e
      rcases o with ⟨pc', L', S', h1⟩ | v1 | ⟨j, as, S'⟩
      · exact ih _ _ _ _ _ _ _ e
      · simp at e
        obtain ⟨rfl, rfl⟩ := e
        obtain ⟨ins, n1, aux, -, hr⟩ := zz_stp_ret hs
        exact zz_r_ok hr
      · simp only at e
        cases hc : zz_ex n j 0 (zz_ini j as) [] h with
        | none => rw [hc] at e; simp at e
        | some q => rw [hc] at e; exact ih _ _ _ _ _ _ _ e
theorem zz_ca_okr {j : Nat} {as : List Value} {h h' : zz_H} {v : Option Value} (e : zz_ca j as h = some (v, h')) : zz_okr (zz_m j).2.2.2.1 v := by
  obtain ⟨n, e⟩ := zz_ev_iff.mp e
  exact zz_ex_okr _ _ _ _ _ _ _ _ e
/-! behind a call, by what it answers -/
def zz_bi (o : Option (Option Value × zz_H)) (f : Int32 → zz_H → Option (Option Value × zz_H)) : Option (Option Value × zz_H) := match o with
  | some (some (.int r), h) => f r h
  | _ => none
def zz_bl (o : Option (Option Value × zz_H)) (f : Int64 → zz_H → Option (Option Value × zz_H)) : Option (Option Value × zz_H) := match o with
  | some (some (.long r), h) => f r h
  | _ => none
def zz_bv (o : Option (Option Value × zz_H)) (f : zz_H → Option (Option Value × zz_H)) : Option (Option Value × zz_H) := match o with
  | some (none, h) => f h
  | _ => none
theorem zz_bi_s (r : Int32) (h : zz_H) (f : Int32 → zz_H → Option (Option Value × zz_H)) : zz_bi (some (some (.int r), h)) f = f r h := rfl
theorem zz_bl_s (r : Int64) (h : zz_H) (f : Int64 → zz_H → Option (Option Value × zz_H)) : zz_bl (some (some (.long r), h)) f = f r h := rfl
theorem zz_bv_s (h : zz_H) (f : zz_H → Option (Option Value × zz_H)) : zz_bv (some (none, h)) f = f h := rfl
theorem zz_ev_calli {k pc j : Nat} {L S as S' : List Value} {h : zz_H} (hs : zz_stp k pc L S h = some (.inr (.inr (j, as, S')))) (hr : (zz_m j).2.2.2.1 = some .int) : zz_ev k pc L S h = zz_bi (zz_ca j as h) (fun r h' => zz_ev k (pc + 3) (zz_fgt (zz_fg k pc) L) (.int r :: S') h') := by
  rw [zz_ev_call hs]
  cases hc : zz_ca j as h with
  | none => rfl
  | some q =>
    obtain ⟨v, h'⟩ := q
    have h1 := zz_ca_okr hc
    rw [hr] at h1
    obtain ⟨x, rfl⟩ := h1
    rfl
theorem zz_ev_callz {k pc j : Nat} {L S as S' : List Value} {h : zz_H} (hs : zz_stp k pc L S h = some (.inr (.inr (j, as, S')))) (hr : (zz_m j).2.2.2.1 = some .boolean) : zz_ev k pc L S h = zz_bi (zz_ca j as h) (fun r h' => zz_ev k (pc + 3) (zz_fgt (zz_fg k pc) L) (.int r :: S') h') := by
  rw [zz_ev_call hs]
  cases hc : zz_ca j as h with
  | none => rfl
  | some q =>
    obtain ⟨v, h'⟩ := q
    have h1 := zz_ca_okr hc
    rw [hr] at h1
    obtain ⟨x, rfl, -⟩ := h1
    rfl
theorem zz_ev_calll {k pc j : Nat} {L S as S' : List Value} {h : zz_H} (hs : zz_stp k pc L S h = some (.inr (.inr (j, as, S')))) (hr : (zz_m j).2.2.2.1 = some .long) : zz_ev k pc L S h = zz_bl (zz_ca j as h) (fun r h' => zz_ev k (pc + 3) (zz_fgt (zz_fg k pc) L) (.long r :: S') h') := by
  rw [zz_ev_call hs]
  cases hc : zz_ca j as h with
  | none => rfl
  | some q =>
    obtain ⟨v, h'⟩ := q
    have h1 := zz_ca_okr hc
    rw [hr] at h1
    obtain ⟨x, rfl⟩ := h1
    rfl
theorem zz_ev_callv {k pc j : Nat} {L S as S' : List Value} {h : zz_H} (hs : zz_stp k pc L S h = some (.inr (.inr (j, as, S')))) (hr : (zz_m j).2.2.2.1 = none) : zz_ev k pc L S h = zz_bv (zz_ca j as h) (fun h' => zz_ev k (pc + 3) (zz_fgt (zz_fg k pc) L) S' h') := by
  rw [zz_ev_call hs]
  cases hc : zz_ca j as h with
  | none => rfl
  | some q =>
    obtain ⟨v, h'⟩ := q
    have h1 := zz_ca_okr hc
    rw [hr] at h1
    cases h1
    rfl
/-- a branch taken or not -/
theorem zz_ev_if {k a b : Nat} {c : Prop} [Decidable c] {L S : List Value} {h : zz_H} : zz_ev k (if c then a else b) L S h = if c then zz_ev k a L S h else zz_ev k b L S h := by
  split <;> rfl
