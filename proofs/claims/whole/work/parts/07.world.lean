/-! SOUNDNESS, 3: the cells of the small machine as a world of the Java machine: cell a lies at B + a -/
def zz_fv (B : Nat) (h : zz_H) (a : Nat) (t : FieldType) (j : Nat) : Value := match zz_fk t with
  | 0 => .int (h.2.1 a j)
  | 1 => .long (h.2.2 a j)
  | _ => va_rf ((zz_rf h.1 a j).map (fun x => B + x))
def zz_fs (B : Nat) (h : zz_H) (a ci : Nat) : List Value := (List.range (zz_nth 0 zz_N ci)).map (fun j => zz_fv B h a (zz_ty ci j) j)
def zz_en (B : Nat) (cA : Nat → ClassId) (h : zz_H) (a : Nat) : va_E := match zz_kd h.1 a with
  | 0 => .inl (cA 0, zz_ln h.1 a, .inl (h.2.1 a))
  | 1 => .inl (cA 1, zz_ln h.1 a, .inr (.inl (h.2.2 a)))
  | 2 => .inl (cA 2, zz_ln h.1 a, .inl (h.2.1 a))
  | 3 => .inl (cA 3, zz_ln h.1 a, .inr (.inr (.inr (.inr (fun j => (zz_rf h.1 a j).map (fun x => B + x))))))
  | 4 => .inl (cA 4, zz_ln h.1 a, .inr (.inr (.inr (.inr (fun j => (zz_rf h.1 a j).map (fun x => B + x))))))
  | 5 => .inl (cA 5, zz_ln h.1 a, .inr (.inr (.inr (.inr (fun j => (zz_rf h.1 a j).map (fun x => B + x))))))
  | k => .inr (k - 10, zz_fs B h a (k - 10))
def zz_w (B : Nat) (cA : Nat → ClassId) (h : zz_H) : va_W := (List.range h.1.length).map (fun a => (B + a, zz_en B cA h a))
def zz_tys (cA : Nat → ClassId) : List (ClassId × FieldType) := [(cA 0, .int), (cA 1, .long), (cA 2, .boolean), (cA 3, .object "HouseOfHours$Strip"), (cA 4, .object "HouseOfHours$House"), (cA 5, .array .int)]
/-- the words that every method is given; those of nest mates and of arrays over classes, which go another way -/
def zz_ws : List Cond := lw_tbl.filter goodWord
def zz_isn : Cond → Bool
  | .methodLinkNest .. => true
  | .arrayOver (.object _) => true
  | .arrayOver (.array _) => true
  | _ => false
def zz_nw : List Cond := lw_tbl.filter zz_isn
def zz_A (B : Nat) : Nat → Prop := fun q => B ≤ q
abbrev zz_HR (D : va_G) (cA : Nat → ClassId) (B : Nat) (h : zz_H) (H : Heap) : Prop := va_P D zz_cl (zz_w B cA h) H
def zz_X (D : va_G) (cA : Nat → ClassId) (U : State) : Prop := va_K D zz_cl (zz_tys cA) U ∧ ∀ w ∈ zz_nw, va_Nw w U
def zz_sl (h : zz_H) : Nat := (h.1.map (fun s => s.2.1)).sum
theorem zz_w_at {B : Nat} {cA : Nat → ClassId} {h : zz_H} {a : Nat} (ha : a < h.1.length) : (zz_w B cA h)[a]? = some (B + a, zz_en B cA h a) := by
  unfold zz_w
  rw [List.getElem?_map, List.getElem?_range ha]
  rfl
theorem zz_w_in {B : Nat} {cA : Nat → ClassId} {h : zz_H} {k : Nat} {q : Nat × va_E} (e : (zz_w B cA h)[k]? = some q) : k < h.1.length ∧ q = (B + k, zz_en B cA h k) := by
  have hk : k < h.1.length := by
    have := (List.getElem?_eq_some_iff.mp e).1
    simpa [zz_w] using this
  rw [zz_w_at hk] at e
  exact ⟨hk, (Option.some.inj e).symm⟩
theorem zz_D {B : Nat} {cA : Nat → ClassId} {h : zz_H} : va_D (zz_A B) (zz_w B cA h) := by
  refine ⟨fun i j x y hi hj hxy => ?_, fun k q hk => ?_⟩
  · obtain ⟨-, rfl⟩ := zz_w_in hi
    obtain ⟨-, rfl⟩ := zz_w_in hj
    have h9 : B + i = B + j := hxy
    omega
  · obtain ⟨-, rfl⟩ := zz_w_in hk
    exact Nat.le_add_right _ _
theorem zz_en_congr {B : Nat} {cA : Nat → ClassId} {h h' : zz_H} {i : Nat} (h1 : zz_sh h'.1 i = zz_sh h.1 i) (h2 : h'.2.1 i = h.2.1 i) (h3 : h'.2.2 i = h.2.2 i) : zz_en B cA h' i = zz_en B cA h i := by
  have e1 : zz_kd h'.1 i = zz_kd h.1 i := by unfold zz_kd; rw [h1]
  have e2 : zz_ln h'.1 i = zz_ln h.1 i := by unfold zz_ln; rw [h1]
  have e3 : zz_rf h'.1 i = zz_rf h.1 i := by funext j; unfold zz_rf; rw [h1]
  have e4 : ∀ ci, zz_fs B h' i ci = zz_fs B h i ci := by
    intro ci
    unfold zz_fs zz_fv
    rw [h2, h3, e3]
  unfold zz_en
  rw [e1, e2, e3, h2, h3]
  simp only [e4]
theorem zz_w_set {B : Nat} {cA : Nat → ClassId} {h h' : zz_H} {a : Nat} (hl : h'.1.length = h.1.length) (hne : ∀ i, i ≠ a → zz_en B cA h' i = zz_en B cA h i) : zz_w B cA h' = (zz_w B cA h).set a (B + a, zz_en B cA h' a) := by
  apply List.ext_getElem?
  intro i
  by_cases hi : i < h.1.length
  · rw [zz_w_at (by rw [hl]; exact hi)]
    by_cases e : i = a
    · subst e
      rw [List.getElem?_set_self (by simp [zz_w]; exact hi)]
    · rw [List.getElem?_set_ne (Ne.symm e), zz_w_at hi, hne i e]
  · rw [List.getElem?_eq_none (by simp [zz_w, hl]; omega), List.getElem?_eq_none (by simp [zz_w]; omega)]
theorem zz_u_ne {α : Type} {f : Nat → Nat → α} {a j i : Nat} {x : α} (h : i ≠ a) : zz_u f a j x i = f i := by
  funext k
  simp [zz_u, h]
theorem zz_u_self {f : Nat → Nat → Int32} {a j : Nat} {x : Int32} : zz_u f a j x a = upd (f a) j x := by
  funext k
  simp [zz_u, upd]
theorem zz_u_selfL {f : Nat → Nat → Int64} {a j : Nat} {x : Int64} : zz_u f a j x a = vp_updL (f a) j x := by
  funext k
  simp [zz_u, vp_updL]
theorem zz_cp_ne {α : Type} {f : Nat → Nat → α} {a sp b dp n i : Nat} (h : i ≠ b) : zz_cp f a sp b dp n i = f i := by
  funext k
  simp [zz_cp, h]
theorem zz_cp_self {α : Type} {f : Nat → Nat → α} {a sp b dp n : Nat} : zz_cp f a sp b dp n b = va_cpy (f a) (f b) sp dp n := by
  funext k
  simp [zz_cp, va_cpy]
theorem zz_z_ne {α : Type} {f : Nat → Nat → α} {a i : Nat} {x : α} (h : i ≠ a) : zz_z f a x i = f i := by
  funext k
  simp [zz_z, h]
theorem zz_z_self {α : Type} {f : Nat → Nat → α} {a : Nat} {x : α} : zz_z f a x a = fun _ => x := by
  funext k
  simp [zz_z]
theorem zz_in_vp {i : Int32} {n : Nat} (h : zz_in i n) : vp_in i n := vp_in_iff.mpr h
theorem zz_lt_of_kd {sh : List zz_S} {a k : Nat} (h : zz_kd sh a = k) (hk : k ≠ 7) : a < sh.length := by
  rcases Nat.lt_or_ge a sh.length with h1 | h1
  · exact h1
  · exfalso
    apply hk
    rw [← h]
    unfold zz_kd zz_sh
    rw [zz_nth_eq, List.getElem?_eq_none h1]
    rfl
theorem zz_sh_app {sh : List zz_S} {s : zz_S} {i : Nat} (h : i < sh.length) : zz_sh (sh ++ [s]) i = zz_sh sh i := by
  unfold zz_sh
  rw [zz_nth_eq, zz_nth_eq, List.getElem?_append_left h]
theorem zz_sh_last {sh : List zz_S} {s : zz_S} : zz_sh (sh ++ [s]) sh.length = s := by
  unfold zz_sh
  rw [zz_nth_eq, List.getElem?_append_right (Nat.le_refl _), Nat.sub_self]
  rfl
theorem zz_sh_set {sh : List zz_S} {s : zz_S} {a i : Nat} (h : i ≠ a) : zz_sh (sh.set a s) i = zz_sh sh i := by
  unfold zz_sh
  rw [zz_nth_eq, zz_nth_eq, List.getElem?_set_ne (Ne.symm h)]
theorem zz_sh_set_self {sh : List zz_S} {s : zz_S} {a : Nat} (h : a < sh.length) : zz_sh (sh.set a s) a = s := by
  unfold zz_sh
  rw [zz_nth_eq, List.getElem?_set_self h]
  rfl
theorem zz_w_push {B : Nat} {cA : Nat → ClassId} {h : zz_H} {s : zz_S} : zz_w B cA (zz_push h s) = zz_w B cA h ++ [(B + h.1.length, zz_en B cA (zz_push h s) h.1.length)] := by
  unfold zz_w
  have hl : (zz_push h s).1.length = h.1.length + 1 := by simp [zz_push]
  rw [hl, List.range_succ, List.map_append]
  congr 1
  apply List.map_congr_left
  intro i hi
  have hi := List.mem_range.mp hi
  have hne : i ≠ h.1.length := by omega
  rw [zz_en_congr (h := h) (h' := zz_push h s) (zz_sh_app hi) (zz_z_ne hne) (zz_z_ne hne)]
theorem zz_HR_push {D : va_G} {cA : Nat → ClassId} {B : Nat} {h : zz_H} {s : zz_S} {H H' : Heap} (hR : zz_HR D cA B h H) (hk : ∀ q, q < H.size → H'[q]? = H[q]?) (hn : va_at D zz_cl (B + h.1.length, zz_en B cA (zz_push h s) h.1.length) H') : zz_HR D cA B (zz_push h s) H' := by
  show va_P _ _ _ _
  rw [zz_w_push]
  refine va_P.app (hR.kept (fun k q hq => hk _ ((hR k q hq).lt))) (fun k q hq => ?_)
  have h0 : k < 1 := (List.getElem?_eq_some_iff.mp hq).1
  rw [show k = 0 by omega] at hq
  cases hq
  exact hn
/-- how large the heap is: by the cells that it holds, and by the room that is used -/
theorem zz_size {p : Program} {l : Launch} {e : Env} {R : Room} {s : State} {m : MethodId} {args : Array Value} {below : List Frame} {meth : Method} {c : Code} {H : Heap} {locs : List Loc} {cells slots : Nat} {Q : State → Prop} {D : va_G} {cA : Nat → ClassId} {B : Nat} {h : zz_H} {g : JFrame} (hR : zz_HR D cA B h H) (hS : va_S (zz_A B) s.heap H locs) (hB : B ≤ s.heap.size) (hc : s.heap.size + cells = B + h.1.length) (kk : H.size = B + h.1.length → W p l e R s m args below meth c H locs cells slots Q g) : W p l e R s m args below meth c H locs cells slots Q g := by
  intro T hT X
  refine kk ?_ T hT X
  have h1 := X.heapSize
  rw [hT] at h1
  have h2 : B + h.1.length ≤ H.size := by
    rcases Nat.eq_zero_or_pos h.1.length with h0 | h0
    · have := hS.1
      omega
    · have := (hR (h.1.length - 1) _ (zz_w_at (by omega))).lt
      have h3 : B + (h.1.length - 1) < H.size := this
      omega
  omega
theorem zz_S_push {A : Nat → Prop} {H0 H H' : Heap} {locs : List Loc} (hS : va_S A H0 H locs) (hz : H.size ≤ H'.size) (hk : ∀ q, q < H.size → H'[q]? = H[q]?) : va_S A H0 H' locs :=
  ⟨Nat.le_trans hS.1 hz, fun x h1 h2 => (hk x (Nat.lt_of_lt_of_le h1 hS.1)).trans (hS.2.1 x h1 h2), hS.2.2⟩
theorem zz_fs_len {B : Nat} {h : zz_H} {a ci : Nat} : (zz_fs B h a ci).length = zz_nth 0 zz_N ci := by simp [zz_fs]
theorem zz_fs_at {B : Nat} {h : zz_H} {a ci j : Nat} (hj : j < zz_nth 0 zz_N ci) : (zz_fs B h a ci)[j]? = some (zz_fv B h a (zz_ty ci j) j) := by
  unfold zz_fs
  rw [List.getElem?_map, List.getElem?_range hj]
  rfl
theorem zz_fs_set {B : Nat} {h h' : zz_H} {a ci sl : Nat} {v : Value} (hs : zz_fv B h' a (zz_ty ci sl) sl = v) (ho : ∀ j, j ≠ sl → zz_fv B h' a (zz_ty ci j) j = zz_fv B h a (zz_ty ci j) j) : (zz_fs B h a ci).set sl v = zz_fs B h' a ci := by
  apply List.ext_getElem?
  intro i
  by_cases hi : i < zz_nth 0 zz_N ci
  · rw [zz_fs_at hi]
    by_cases e : i = sl
    · subst e
      rw [List.getElem?_set_self (by rw [zz_fs_len]; exact hi), hs]
    · rw [List.getElem?_set_ne (Ne.symm e), zz_fs_at hi, ho i e]
  · rw [List.getElem?_eq_none (by simp [zz_fs_len]; omega), List.getElem?_eq_none (by rw [zz_fs_len]; omega)]
/-! the words of arrays over classes stay -/
theorem zz_AO_moved {t : FieldType} {u U : State} (hvm : u.vm.Alike U.vm) (h : va_Nw (.arrayOver t) u) : va_Nw (.arrayOver t) U := by
  unfold va_Nw Cond.before Cond.holds at h ⊢
  have hi : ∀ comp : ClassId, (U.vm.classes.findIdx? fun (x : Class) => match x.kind with | .array component _ => component == comp | _ => false) = (u.vm.classes.findIdx? fun (x : Class) => match x.kind with | .array component _ => component == comp | _ => false) := by
    intro comp
    exact (va_idx_bare U.vm comp).symm.trans (by rw [hvm.bare_eq]; exact va_idx_bare u.vm comp)
  have hf : ∀ n : String, U.vm.findClass n = u.vm.findClass n := fun n => hvm.findClass n _
  simp only [Cond.value, hf, beq_iff_eq] at h ⊢
  obtain ⟨comp, h1, h2⟩ := Option.bind_eq_some_iff.mp h
  obtain ⟨c, h3, h4⟩ := Option.bind_eq_some_iff.mp h2
  obtain ⟨k, h5, h6⟩ := Option.map_eq_some_iff.mp h4
  obtain ⟨k', hk', he⟩ := hvm.2.2 _ _ h5
  refine Option.bind_eq_some_iff.mpr ⟨comp, h1, Option.bind_eq_some_iff.mpr ⟨c, (hi comp).trans h3, Option.map_eq_some_iff.mpr ⟨k', hk', ?_⟩⟩⟩
  have hkind : k'.kind = k.kind := by rw [he]
  rw [hkind]
  exact h6
theorem zz_X_warm {D : va_G} {cA : Nat → ClassId} {s U : State} (hW : s.WarmedH U.vm) (h : zz_X D cA s) : zz_X D cA U := by
  refine ⟨va_K.moved hW.alike h.1, fun w hw => ?_⟩
  have h1 := h.2 w hw
  have h2 := (List.mem_filter.mp hw).2
  unfold zz_isn at h2
  split at h2
  · exact va_Nw.warmM hW h1
  · exact zz_AO_moved hW.alike h1
  · exact zz_AO_moved hW.alike h1
  · cases h2
/-- the same tables: the same words -/
theorem zz_X_same {D : va_G} {cA : Nat → ClassId} {s U : State} (hv : s.vm = U.vm) (h : zz_X D cA s) : zz_X D cA U := by
  refine ⟨va_K.moved (by rw [hv]; exact Vm.Alike.refl _) h.1, fun w hw => ?_⟩
  have h1 := h.2 w hw
  have h2 := (List.mem_filter.mp hw).2
  unfold zz_isn at h2
  split at h2
  · exact va_Nw.same rfl hv h1
  · exact zz_AO_moved (by rw [hv]; exact Vm.Alike.refl _) h1
  · exact zz_AO_moved (by rw [hv]; exact Vm.Alike.refl _) h1
  · cases h2
