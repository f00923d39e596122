/-! SOUNDNESS, 1: values and locals -/
theorem zz_nth_eq {α : Type} (d : α) : ∀ (l : List α) (i : Nat), zz_nth d l i = (l[i]?).getD d
  | [], i => by simp [zz_nth]
  | a :: l, 0 => by simp [zz_nth]
  | a :: l, i + 1 => by simp [zz_nth, zz_nth_eq d l i]
theorem zz_nth_some {α : Type} {d x : α} {l : List α} {i : Nat} (h : zz_nth d l i = x) (hx : x ≠ d) : l[i]? = some x := by
  rw [zz_nth_eq] at h
  cases e : l[i]? with
  | none => rw [e] at h; exact absurd h.symm hx
  | some y => rw [e] at h; simp at h; rw [h]
theorem zz_nth_of {α : Type} {d x : α} {l : List α} {i : Nat} (h : l[i]? = some x) : zz_nth d l i = x := by
  rw [zz_nth_eq, h]; rfl
/-- a value of the small machine as the Java machine's: cell a lies at B + a, the script at b -/
def zz_mv (B b : Nat) (v : Value) : Value := match v with
  | .ref a => .ref (if a = zz_scr then b else B + a)
  | v => v
theorem zz_mv_cat (B b : Nat) (v : Value) : (zz_mv B b v).category = v.category := by cases v <;> rfl
theorem zz_mv_sum (B b : Nat) (S : List Value) : ((S.map (zz_mv B b)).map fun v => v.category).sum = zz_cat S := by
  unfold zz_cat
  rw [List.map_map]
  congr 1
  apply List.map_congr_left
  intro v _
  exact zz_mv_cat B b v
def zz_LR (B b : Nat) (L : List Value) (ls : Array Slot) : Prop := ls.size = L.length ∧ lv_wf ls ∧ ∀ (i : Nat) (v : Value), L[i]? = some v → v ≠ .null → ls[i]? = some (.val (zz_mv B b v))
def zz_nn (B b i : Nat) (o : Option Value) : Option (Nat × Value) := match o with
  | some Value.null => none
  | some v => some (i, zz_mv B b v)
  | none => none
def zz_pr (B b : Nat) (L : List Value) : List (Nat × Value) := (List.range L.length).filterMap fun i => zz_nn B b i L[i]?
theorem zz_pr_in {B b : Nat} {L : List Value} {q : Nat × Value} : q ∈ zz_pr B b L ↔ ∃ v, L[q.1]? = some v ∧ v ≠ .null ∧ q.2 = zz_mv B b v := by
  unfold zz_pr
  rw [List.mem_filterMap]
  constructor
  · rintro ⟨i, -, h⟩
    cases e : L[i]? with
    | none => rw [e] at h; cases h
    | some v =>
      rw [e] at h
      cases v <;> first | (cases h; done) | (cases h; exact ⟨_, e, by simp, rfl⟩)
  · rintro ⟨v, h1, h2, h3⟩
    refine ⟨q.1, List.mem_range.mpr (List.getElem?_eq_some_iff.mp h1).1, ?_⟩
    rw [h1]
    cases v <;> first | exact absurd rfl h2 | (simp only [zz_nn]; rw [← h3])
theorem zz_LR.has {B b : Nat} {L : List Value} {ls : Array Slot} (h : zz_LR B b L ls) : lv_has ls L.length (zz_pr B b L) := by
  refine ⟨h.1, h.2.1, fun q hq => ?_⟩
  obtain ⟨v, h1, h2, h3⟩ := zz_pr_in.mp hq
  rw [h3]
  exact h.2.2 q.1 v h1 h2
theorem zz_kl_len (L : List Value) (i : Nat) : (zz_kl L i).length = L.length := by
  unfold zz_kl
  split
  · rfl
  · split <;> simp
theorem zz_kl_at {L : List Value} {i j : Nat} {u : Value} (h : (zz_kl L i)[j]? = some u) (hu : u ≠ .null) : L[j]? = some u ∧ (j + 1 = i → u.category ≠ 2) := by
  unfold zz_kl at h
  split at h
  · exact ⟨h, fun e => by omega⟩
  · rename_i k
    have key : ∀ (w : Value), (L.set k Value.null)[j]? = some u → L[j]? = some u ∧ (j + 1 = k + 1 → u.category ≠ 2) := by
      intro _ h
      by_cases hj : j = k
      · subst hj
        rw [List.getElem?_set_self'] at h
        cases e : L[j]? with
        | none => rw [e] at h; cases h
        | some z => rw [e] at h; cases h; exact absurd rfl hu
      · rw [List.getElem?_set_ne (Ne.symm hj)] at h
        exact ⟨h, fun e => by omega⟩
    split at h
    · exact key .null h
    · exact key .null h
    · rename_i n1 n2
      refine ⟨h, fun e hc => ?_⟩
      have hj : j = k := by omega
      subst hj
      have hz := zz_nth_of (d := Value.null) h
      cases u with
      | long x => exact n1 x hz
      | double x => exact n2 x hz
      | _ => simp [Value.category] at hc
theorem zz_s1_of {B b : Nat} {L : List Value} {ls' : Array Slot} {i : Nat} {v : Value} (hi : i < L.length) (h : lv_has ls' L.length ((i, zz_mv B b v) :: (zz_pr B b L).filter (fun q => !(q.1 == i) && !(q.1 + 1 == i && q.2.category == 2)))) : zz_LR B b (zz_s1 L i v) ls' := by
  refine ⟨by rw [h.1]; simp [zz_s1, zz_kl_len], h.2.1, fun j u hj hu => ?_⟩
  unfold zz_s1 at hj
  by_cases e : j = i
  · subst e
    rw [List.getElem?_set_self (by rw [zz_kl_len]; exact hi)] at hj
    cases hj
    exact h.2.2 _ List.mem_cons_self
  · rw [List.getElem?_set_ne (Ne.symm e)] at hj
    obtain ⟨h1, h2⟩ := zz_kl_at hj hu
    refine h.2.2 (j, zz_mv B b u) (List.mem_cons_of_mem _ (List.mem_filter.mpr ⟨zz_pr_in.mpr ⟨u, h1, hu, rfl⟩, ?_⟩))
    by_cases e2 : j + 1 = i
    · have h3 := h2 e2
      simp [e, zz_mv_cat, h3]
    · simp [e, e2]
theorem zz_s2_of {B b : Nat} {L : List Value} {ls' : Array Slot} {i : Nat} {v : Value} (hi : i + 1 < L.length) (h : lv_has ls' L.length ((i, zz_mv B b v) :: (zz_pr B b L).filter (fun q => !(q.1 == i) && (!(q.1 == i + 1) && !(q.1 + 1 == i && q.2.category == 2))))) : zz_LR B b (zz_s2 L i v) ls' := by
  refine ⟨by rw [h.1]; simp [zz_s2, zz_kl_len], h.2.1, fun j u hj hu => ?_⟩
  unfold zz_s2 at hj
  by_cases e1 : j = i + 1
  · subst e1
    rw [List.getElem?_set_self (by simp [zz_kl_len]; exact hi)] at hj
    cases hj
    exact absurd rfl hu
  · rw [List.getElem?_set_ne (Ne.symm e1)] at hj
    by_cases e : j = i
    · subst e
      rw [List.getElem?_set_self (by rw [zz_kl_len]; omega)] at hj
      cases hj
      exact h.2.2 _ List.mem_cons_self
    · rw [List.getElem?_set_ne (Ne.symm e)] at hj
      obtain ⟨h1, h2⟩ := zz_kl_at hj hu
      refine h.2.2 (j, zz_mv B b u) (List.mem_cons_of_mem _ (List.mem_filter.mpr ⟨zz_pr_in.mpr ⟨u, h1, hu, rfl⟩, ?_⟩))
      by_cases e2 : j + 1 = i
      · have h3 := h2 e2
        simp [e, e1, zz_mv_cat, h3]
      · simp [e, e1, e2]
/-! the locals at a method's entry -/
theorem zz_slots_len (as : List Value) (B b : Nat) : (lg_sl (as.map (zz_mv B b))).length = (zz_slots as).length := by
  induction as with
  | nil => rfl
  | cons v l ih =>
    have e : lg_sl ((v :: l).map (zz_mv B b)) = (if (zz_mv B b v).category = 2 then [.val (zz_mv B b v), .second] else [.val (zz_mv B b v)]) ++ lg_sl (l.map (zz_mv B b)) := by simp [lg_sl]
    rw [e, List.length_append, ih, zz_mv_cat]
    cases v with
    | double x => simp [zz_slots, Value.category]; omega
    | long x => simp [zz_slots, Value.category]; omega
    | _ => simp [zz_slots, Value.category]; omega
theorem zz_slots_at {B b : Nat} : ∀ (as : List Value) (o i : Nat) (v : Value), (zz_slots as)[i]? = some v → v ≠ .null → (o + i, zz_mv B b v) ∈ lv_args o (as.map (zz_mv B b))
  | [], o, i, v, h, _ => by simp [zz_slots] at h
  | w :: l, o, i, v, h, hv => by
    have key1 : ∀ w' : Value, w'.category = 1 → zz_slots (w' :: l) = w' :: zz_slots l → (zz_slots (w' :: l))[i]? = some v → (o + i, zz_mv B b v) ∈ lv_args o ((w' :: l).map (zz_mv B b)) := by
      intro w' hc he h
      rw [he] at h
      rw [List.map_cons, lv_args, if_neg (by rw [zz_mv_cat, hc]; decide)]
      cases i with
      | zero => simp at h; subst h; exact List.mem_cons_self
      | succ i =>
        rw [List.getElem?_cons_succ] at h
        have := zz_slots_at (B := B) (b := b) l (o + 1) i v h hv
        rw [show o + (i + 1) = o + 1 + i by omega]
        exact List.mem_cons_of_mem _ this
    cases w with
    | long x =>
      simp only [zz_slots] at h
      rw [List.map_cons, lv_args, if_pos (by rw [zz_mv_cat]; rfl)]
      match i, h with
      | 0, h => simp at h; subst h; exact List.mem_cons_self
      | 1, h => simp at h; exact absurd h.symm hv
      | i + 2, h =>
        rw [List.getElem?_cons_succ, List.getElem?_cons_succ] at h
        have := zz_slots_at (B := B) (b := b) l (o + 2) i v h hv
        rw [show o + (i + 2) = o + 2 + i by omega]
        exact List.mem_cons_of_mem _ this
    | double x =>
      simp only [zz_slots] at h
      rw [List.map_cons, lv_args, if_pos (by rw [zz_mv_cat]; rfl)]
      match i, h with
      | 0, h => simp at h; subst h; exact List.mem_cons_self
      | 1, h => simp at h; exact absurd h.symm hv
      | i + 2, h =>
        rw [List.getElem?_cons_succ, List.getElem?_cons_succ] at h
        have := zz_slots_at (B := B) (b := b) l (o + 2) i v h hv
        rw [show o + (i + 2) = o + 2 + i by omega]
        exact List.mem_cons_of_mem _ this
    | int x => exact key1 _ rfl rfl h
    | float x => exact key1 _ rfl rfl h
    | null => exact key1 _ rfl rfl h
    | ref x => exact key1 _ rfl rfl h
    | retAddr x => exact key1 _ rfl rfl h
