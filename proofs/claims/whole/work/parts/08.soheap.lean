/-! SOUNDNESS, 4: what is checked of each instruction beside its bytes; instructions that read and write cells -/
def zz_has (p : Nat) (w : Cond) : Bool := decide (lw_tbl[p]? = some w) && goodWord w
def zz_hasn (p : Nat) (w : Cond) : Bool := decide (lw_tbl[p]? = some w) && zz_isn w
def zz_own (k : Nat) : String := (zz_m k).1.cls
def zz_ckB (k : Nat) (ins : Instr) (aux : List Nat) : Bool := match ins, aux with
  | .getfield idx, [ci, sl, ty, wp] => decide (ci < 10) && decide (sl < zz_nth 0 zz_N ci) && decide (zz_fk (zz_ty ci sl) = ty) && zz_has wp (.fieldLink (zz_own k) idx (zz_T ci sl).1 (zz_T ci sl).2.1 (zz_T ci sl).2.2.1)
  | .getfield _, _ => false
  | .putfield idx, [ci, sl, ty, wp] => decide (ci < 10) && decide (sl < zz_nth 0 zz_N ci) && decide (zz_fk (zz_ty ci sl) = ty) && zz_has wp (.fieldLink (zz_own k) idx (zz_T ci sl).1 (zz_T ci sl).2.1 (zz_T ci sl).2.2.1) && (!(zz_T ci sl).2.2.2 || (decide ((zz_m k).1.name = "<init>") && decide ((zz_T ci sl).1 = zz_own k))) && (!decide (ty = 2) || (zz_ty ci sl).isReference)
  | .putfield _, _ => false
  | .new idx, [ci, wp] => decide (ci < 10) && zz_has wp (.classLink (zz_own k) idx (zz_nth "" zz_R ci))
  | .new _, _ => false
  | .anewarray idx, [kd, wp] => (decide (kd = 3) && zz_has wp (.classLink (zz_own k) idx "HouseOfHours$Strip")) || (decide (kd = 4) && zz_has wp (.classLink (zz_own k) idx "HouseOfHours$House"))
  | .anewarray _, _ => false
  | .multianewarray idx d, [wp] => decide (d = 2) && zz_has wp (.classLink (zz_own k) idx ("[" ++ (FieldType.array .int).toString))
  | .multianewarray _ _, _ => false
  | .ldc idx, [v, wp] => zz_has wp (.constant (zz_own k) idx (nI v))
  | .ldc _, _ => false
  | .ldc_w idx, [v, wp] => zz_has wp (.constant (zz_own k) idx (nI v))
  | .ldc_w _, _ => false
  | .ldc2_w idx, [v, wp] => zz_has wp (.constantLong (zz_own k) idx (lN v))
  | .ldc2_w _, _ => false
  | .invokestatic idx, [1000, wp] => zz_has wp (.methodLink (zz_own k) idx arraycopyName) && decide (1 ≤ (zz_m k).2.2.2.2.2.2.1) && decide (26 ≤ (zz_m k).2.2.2.2.2.2.2.1)
  | .invokestatic idx, [1002, wp] => zz_has wp (.methodLink (zz_own k) idx Lib.Math.max.name) && decide (1 ≤ (zz_m k).2.2.2.2.2.2.1) && decide (21 ≤ (zz_m k).2.2.2.2.2.2.2.1)
  | .invokestatic idx, [1003, wp] => zz_has wp (.methodLink (zz_own k) idx Lib.Math.min.name) && decide (1 ≤ (zz_m k).2.2.2.2.2.2.1) && decide (21 ≤ (zz_m k).2.2.2.2.2.2.2.1)
  | .invokestatic idx, [1004, wp] => zz_has wp (.methodLink (zz_own k) idx Lib.Math.abs.name) && decide (1 ≤ (zz_m k).2.2.2.2.2.2.1) && decide (21 ≤ (zz_m k).2.2.2.2.2.2.2.1)
  | .invokespecial idx, [1001, wp] => zz_has wp (.methodLink (zz_own k) idx Lib.objectInit) && decide (1 ≤ (zz_m k).2.2.2.2.2.2.1) && decide (20 ≤ (zz_m k).2.2.2.2.2.2.2.1)
  | _, _ => true
theorem zz_has_in {p : Nat} {w : Cond} (h : zz_has p w = true) : w ∈ zz_ws := by
  simp only [zz_has, Bool.and_eq_true, decide_eq_true_eq] at h
  exact List.mem_filter.mpr ⟨List.mem_of_getElem? h.1, h.2⟩
theorem zz_hasn_in {p : Nat} {w : Cond} (h : zz_hasn p w = true) : w ∈ zz_nw := by
  simp only [zz_hasn, Bool.and_eq_true, decide_eq_true_eq] at h
  exact List.mem_filter.mpr ⟨List.mem_of_getElem? h.1, h.2⟩
/-! the classes: what holds of each -/
def zz_okc (ci : Nat) : Prop := zz_cl[ci]? = some (zz_nth "" zz_R ci, zz_T ci, zz_nth 0 zz_N ci) ∧ (∀ w ∈ u_ws (zz_nth "" zz_R ci) (zz_T ci) (zz_nth 0 zz_N ci), w ∈ zz_ws) ∧ (∀ k, k < zz_nth 0 zz_N ci → parseFieldDescriptor (zz_T ci k).2.2.1 = some (zz_ty ci k)) ∧ (∀ a, a < zz_nth 0 zz_N ci → ∀ b, b < zz_nth 0 zz_N ci → a ≠ b → (zz_T ci a).2.1 ≠ (zz_T ci b).2.1) ∧ Cond.instantiable (zz_nth "" zz_R ci) (zz_nth 0 zz_N ci) ∈ zz_ws ∧ Cond.initialized (zz_nth "" zz_R ci) ∈ zz_ws ∧ ∀ j, j < zz_nth 0 zz_N ci → zz_fk (zz_ty ci j) = 2 → (zz_ty ci j).isReference = true
section ZH
variable {p : Program} {l : Launch} {e : Env} {R : Room} {s : State} {m : MethodId} {args : Array Value} {below : List Frame} {meth : Method} {c : Code} {H : Heap} {locs : List Loc} {cells slots : Nat} {Q : State → Prop} {B b : Nat} {pc pc' : Nat} {ls : Array Slot} {L S L' S' : List Value} {h h' : zz_H} {D : va_G} {cA : Nat → ClassId} {k : Nat}
/-- a method's walk: what stays as it is -/
def zz_cx (p : Program) (s : State) (m : MethodId) (args : Array Value) (meth : Method) (c : Code) (R : Room) (D : va_G) (cA : Nat → ClassId) (B b k : Nat) (h0 : Nat → Nat → Int32) : Prop :=
  p.tables.exec = Jvm.exec ∧ c.code = (zz_m k).2.1 ∧ c.maxLocals = (zz_m k).2.2.1 ∧ s.vm.findClass (zz_own k) = some m.cls ∧ (∀ w ∈ zz_ws, w.before args s = true) ∧ meth.name = (zz_m k).1.name ∧ (zz_m k).2.2.2.2.2.2.1 ≤ R.frames ∧ (zz_m k).2.2.2.2.2.2.2.1 ≤ R.locals ∧ zz_X D cA s ∧ B ≤ s.heap.size ∧ (k = 0 → va_X b (h0 (zz_scr + 1) 0).toNatClampNeg (h0 zz_scr) s s.heap ∧ b < s.heap.size ∧ b < B ∧ (∃ n, n ≤ 384 ∧ h0 (zz_scr + 1) 0 = nI n))
/-- what a step over cells must come to -/
def zz_go (p : Program) (l : Launch) (e : Env) (R : Room) (s : State) (m : MethodId) (args : Array Value) (below : List Frame) (meth : Method) (c : Code) (cells slots : Nat) (Q : State → Prop) (D : va_G) (cA : Nat → ClassId) (B b : Nat) (h h' : zz_H) (pc' : Nat) (L' S' : List Value) : Prop :=
  ∀ (ls' : Array Slot) (H' : Heap) (locs' : List Loc), zz_LR B b L' ls' → zz_HR D cA B h' H' → va_S (zz_A B) s.heap H' locs' → W p l e R s m args below meth c H' locs' (cells + (h'.1.length - h.1.length)) (slots + (zz_sl h' - zz_sl h)) Q (F0 m pc' ls' (S'.map (zz_mv B b)))
theorem zz_go_same (kk : zz_go p l e R s m args below meth c cells slots Q D cA B b h h' pc' L' S') (h1 : h'.1.length = h.1.length) (h2 : zz_sl h' = zz_sl h) (hL : zz_LR B b L' ls) (hR : zz_HR D cA B h' H) (hS : va_S (zz_A B) s.heap H locs) : W p l e R s m args below meth c H locs cells slots Q (F0 m pc' ls (S'.map (zz_mv B b))) := by
  have := kk ls H locs hL hR hS
  rw [h1, h2, Nat.sub_self, Nat.sub_self] at this
  exact this
theorem zz_mv_ref (B b : Nat) {a : Nat} (h : a ≠ zz_scr) : zz_mv B b (.ref a) = .ref (B + a) := by
  simp [zz_mv, h]
theorem zz_en_0 {a : Nat} (hk : zz_kd h.1 a = 0) : zz_en B cA h a = .inl (cA 0, zz_ln h.1 a, .inl (h.2.1 a)) := by unfold zz_en; rw [hk]; rfl
theorem zz_en_1 {a : Nat} (hk : zz_kd h.1 a = 1) : zz_en B cA h a = .inl (cA 1, zz_ln h.1 a, .inr (.inl (h.2.2 a))) := by unfold zz_en; rw [hk]; rfl
theorem zz_en_2 {a : Nat} (hk : zz_kd h.1 a = 2) : zz_en B cA h a = .inl (cA 2, zz_ln h.1 a, .inl (h.2.1 a)) := by unfold zz_en; rw [hk]; rfl
theorem zz_en_345 {a k : Nat} (hk : zz_kd h.1 a = k) (h3 : k = 3 ∨ k = 4 ∨ k = 5) : zz_en B cA h a = .inl (cA k, zz_ln h.1 a, .inr (.inr (.inr (.inr (fun j => (zz_rf h.1 a j).map (fun x => B + x)))))) := by
  unfold zz_en; rw [hk]; rcases h3 with rfl | rfl | rfl <;> rfl
theorem zz_en_o {a ci : Nat} (hk : zz_kd h.1 a = 10 + ci) : zz_en B cA h a = .inr (ci, zz_fs B h a ci) := by
  unfold zz_en
  rw [hk]
  have e : ∀ q : Nat, q = 10 + ci → (match q with
    | 0 => (.inl (cA 0, zz_ln h.1 a, .inl (h.2.1 a)) : va_E)
    | 1 => .inl (cA 1, zz_ln h.1 a, .inr (.inl (h.2.2 a)))
    | 2 => .inl (cA 2, zz_ln h.1 a, .inl (h.2.1 a))
    | 3 => .inl (cA 3, zz_ln h.1 a, .inr (.inr (.inr (.inr (fun j => (zz_rf h.1 a j).map (fun x => B + x))))))
    | 4 => .inl (cA 4, zz_ln h.1 a, .inr (.inr (.inr (.inr (fun j => (zz_rf h.1 a j).map (fun x => B + x))))))
    | 5 => .inl (cA 5, zz_ln h.1 a, .inr (.inr (.inr (.inr (fun j => (zz_rf h.1 a j).map (fun x => B + x))))))
    | k => .inr (k - 10, zz_fs B h a (k - 10))) = .inr (ci, zz_fs B h a ci) := by
    intro q hq
    split
    all_goals first | (exfalso; omega) | skip
    have e1 : 10 + ci - 10 = ci := by omega
    rw [hq, e1]
  exact e _ rfl
theorem zz_so_iald (hx : p.tables.exec = Jvm.exec) (hd : decode c.code pc = .ok (.iaload, 1)) (hX : zz_X D cA s) (hsc : k = 0 → va_X b (h.2.1 (zz_scr + 1) 0).toNatClampNeg (h.2.1 zz_scr) s s.heap ∧ b < s.heap.size ∧ b < B) (hR : zz_HR D cA B h H) (hS : va_S (zz_A B) s.heap H locs) (hL : zz_LR B b L ls) (he : zz_iald k pc L S h = some (pc', L', S', h')) (kk : zz_go p l e R s m args below meth c cells slots Q D cA B b h h' pc' L' S') : W p l e R s m args below meth c H locs cells slots Q (F0 m pc ls (S.map (zz_mv B b))) := by
  unfold zz_iald at he
  split at he
  · split at he
    · rename_i hsa
      subst hsa
      split at he
      · rename_i h1
        cases he
        obtain ⟨g1, g2, g3⟩ := hsc h1.1
        refine va_sld (A := zz_A B) hx rfl g1 g2 (Nat.not_le.mpr g3) hS (zz_in_vp h1.2) hd ?_
        exact zz_go_same kk rfl rfl hL hR hS
      · cases he
    · rename_i hsa
      split at he
      · rename_i h1
        cases he
        have hlt := zz_lt_of_kd h1.1 (by decide)
        rw [List.map_cons, List.map_cons, zz_mv_ref B b hsa]
        refine va_iald hx rfl hX.1 hR _ 0 ((zz_w_at hlt).trans (by rw [zz_en_0 h1.1])) rfl (zz_in_vp h1.2) hd ?_
        exact zz_go_same kk rfl rfl hL hR hS
      · cases he
  · cases he
theorem zz_so_bald (hx : p.tables.exec = Jvm.exec) (hd : decode c.code pc = .ok (.baload, 1)) (hX : zz_X D cA s) (hR : zz_HR D cA B h H) (hS : va_S (zz_A B) s.heap H locs) (hL : zz_LR B b L ls) (he : zz_bald pc L S h = some (pc', L', S', h')) (kk : zz_go p l e R s m args below meth c cells slots Q D cA B b h h' pc' L' S') : W p l e R s m args below meth c H locs cells slots Q (F0 m pc ls (S.map (zz_mv B b))) := by
  unfold zz_bald at he
  split at he
  · split at he
    · rename_i h1
      cases he
      have hlt := zz_lt_of_kd h1.2.1 (by decide)
      rw [List.map_cons, List.map_cons, zz_mv_ref B b h1.1]
      refine va_zald hx rfl hX.1 hR _ 2 ((zz_w_at hlt).trans (by rw [zz_en_2 h1.2.1])) rfl (zz_in_vp h1.2.2) hd ?_
      exact zz_go_same kk rfl rfl hL hR hS
    · cases he
  · cases he
theorem zz_so_lald (hx : p.tables.exec = Jvm.exec) (hd : decode c.code pc = .ok (.laload, 1)) (hX : zz_X D cA s) (hR : zz_HR D cA B h H) (hS : va_S (zz_A B) s.heap H locs) (hL : zz_LR B b L ls) (he : zz_lald pc L S h = some (pc', L', S', h')) (kk : zz_go p l e R s m args below meth c cells slots Q D cA B b h h' pc' L' S') : W p l e R s m args below meth c H locs cells slots Q (F0 m pc ls (S.map (zz_mv B b))) := by
  unfold zz_lald at he
  split at he
  · split at he
    · rename_i h1
      cases he
      have hlt := zz_lt_of_kd h1.2.1 (by decide)
      rw [List.map_cons, List.map_cons, zz_mv_ref B b h1.1]
      refine va_lald hx rfl hX.1 hR _ 1 ((zz_w_at hlt).trans (by rw [zz_en_1 h1.2.1])) rfl (zz_in_vp h1.2.2) hd ?_
      exact zz_go_same kk rfl rfl hL hR hS
    · cases he
  · cases he
theorem zz_so_aald (hx : p.tables.exec = Jvm.exec) (hd : decode c.code pc = .ok (.aaload, 1)) (hX : zz_X D cA s) (hR : zz_HR D cA B h H) (hS : va_S (zz_A B) s.heap H locs) (hL : zz_LR B b L ls) (he : zz_aald pc L S h = some (pc', L', S', h')) (kk : zz_go p l e R s m args below meth c cells slots Q D cA B b h h' pc' L' S') : W p l e R s m args below meth c H locs cells slots Q (F0 m pc ls (S.map (zz_mv B b))) := by
  unfold zz_aald at he
  split at he
  · rename_i i a S0
    split at he
    · rename_i h1
      split at he
      · rename_i b0 hb0
        split at he
        · cases he
        · rename_i hbs
          cases he
          have hlt : a < h.1.length := by rcases h1.2.1 with q | q | q <;> exact zz_lt_of_kd q (by decide)
          have hlt2 : i.toNatClampNeg < zz_ln h.1 a := Nat.not_le.mp fun q => (zz_in_vp h1.2.2) (Or.inr q)
          have hT : ∃ ty, ArrOfT s (cA (zz_kd h.1 a)) ty ∧ ty.isReference = true := by
            rcases h1.2.1 with q | q | q <;> rw [q]
            · exact ⟨_, (hX.1.2 3 _ rfl).1, rfl⟩
            · exact ⟨_, (hX.1.2 4 _ rfl).1, rfl⟩
            · exact ⟨_, (hX.1.2 5 _ rfl).1, rfl⟩
          obtain ⟨ty, hT1, hT2⟩ := hT
          have hcell : H[B + a]? = some (arrV (cA (zz_kd h.1 a)) (zz_ln h.1 a) (fun j => va_rf ((zz_rf h.1 a j).map (fun x => B + x)))) := by
            have h9 := hR a _ (zz_w_at hlt)
            rw [zz_en_345 rfl h1.2.1] at h9
            exact h9
          rw [List.map_cons, List.map_cons, zz_mv_ref B b h1.1]
          refine W.aald (v := .ref (B + b0)) (ty := ty) hx rfl hcell (hT1 _ _) hT2 (fun q => by cases q) (by rw [arrV_size]; exact zz_in_vp h1.2.2) ?_ rfl rfl hd ?_
          · rw [arrV_read _ _ hlt2]
            have hb1 : zz_rf h.1 a i.toNatClampNeg = some b0 := hb0
            rw [hb1]
            rfl
          · have := zz_go_same kk rfl rfl hL hR hS
            rw [List.map_cons, zz_mv_ref B b hbs] at this
            exact this
      · cases he
    · cases he
  · cases he
theorem zz_so_iast (hx : p.tables.exec = Jvm.exec) (hd : decode c.code pc = .ok (.iastore, 1)) (hX : zz_X D cA s) (hR : zz_HR D cA B h H) (hS : va_S (zz_A B) s.heap H locs) (hL : zz_LR B b L ls) (he : zz_iast pc L S h = some (pc', L', S', h')) (kk : zz_go p l e R s m args below meth c cells slots Q D cA B b h h' pc' L' S') : W p l e R s m args below meth c H locs cells slots Q (F0 m pc ls (S.map (zz_mv B b))) := by
  unfold zz_iast at he
  split at he
  · rename_i x i a S0
    split at he
    · rename_i h1
      cases he
      have hlt := zz_lt_of_kd h1.2.1 (by decide)
      rw [List.map_cons, List.map_cons, List.map_cons, zz_mv_ref B b h1.1]
      refine va_iast hx rfl hX.1 hR zz_D hS a 0 ((zz_w_at hlt).trans (by rw [zz_en_0 h1.2.1])) rfl (zz_in_vp h1.2.2) hd (fun H1 locs1 hP1 _ hS1 => ?_)
      refine zz_go_same kk rfl rfl hL ?_ hS1
      show va_P _ _ _ _
      rw [zz_w_set (h := h) (h' := (h.1, zz_u h.2.1 a (zz_ix i) x, h.2.2)) (a := a) rfl (fun i hi => zz_en_congr rfl (zz_u_ne hi) rfl), zz_en_0 (h := (h.1, zz_u h.2.1 a (zz_ix i) x, h.2.2)) h1.2.1]
      have e1 : zz_u h.2.1 a (zz_ix i) x a = upd (h.2.1 a) i.toNatClampNeg x := zz_u_self
      simp only [e1]
      exact hP1
    · cases he
  · cases he
theorem zz_so_bast (hx : p.tables.exec = Jvm.exec) (hd : decode c.code pc = .ok (.bastore, 1)) (hX : zz_X D cA s) (hR : zz_HR D cA B h H) (hS : va_S (zz_A B) s.heap H locs) (hL : zz_LR B b L ls) (he : zz_bast pc L S h = some (pc', L', S', h')) (kk : zz_go p l e R s m args below meth c cells slots Q D cA B b h h' pc' L' S') : W p l e R s m args below meth c H locs cells slots Q (F0 m pc ls (S.map (zz_mv B b))) := by
  unfold zz_bast at he
  split at he
  · rename_i x i a S0
    split at he
    · rename_i h1
      cases he
      have hlt := zz_lt_of_kd h1.2.1 (by decide)
      rw [List.map_cons, List.map_cons, List.map_cons, zz_mv_ref B b h1.1]
      refine va_zast hx rfl hX.1 hR zz_D hS a 2 ((zz_w_at hlt).trans (by rw [zz_en_2 h1.2.1])) rfl (zz_in_vp h1.2.2.1) hd (fun H1 locs1 hP1 _ hS1 => ?_)
      refine zz_go_same kk rfl rfl hL ?_ hS1
      show va_P _ _ _ _
      rw [zz_w_set (h := h) (h' := (h.1, zz_u h.2.1 a (zz_ix i) x, h.2.2)) (a := a) rfl (fun i hi => zz_en_congr rfl (zz_u_ne hi) rfl), zz_en_2 (h := (h.1, zz_u h.2.1 a (zz_ix i) x, h.2.2)) h1.2.1]
      have e1 : zz_u h.2.1 a (zz_ix i) x a = upd (h.2.1 a) i.toNatClampNeg x := zz_u_self
      simp only [e1]
      have e2 : vp_nar .boolean x = x := by rcases h1.2.2.2 with rfl | rfl <;> decide +kernel
      rw [e2] at hP1
      exact hP1
    · cases he
  · cases he
theorem zz_so_last (hx : p.tables.exec = Jvm.exec) (hd : decode c.code pc = .ok (.lastore, 1)) (hX : zz_X D cA s) (hR : zz_HR D cA B h H) (hS : va_S (zz_A B) s.heap H locs) (hL : zz_LR B b L ls) (he : zz_last pc L S h = some (pc', L', S', h')) (kk : zz_go p l e R s m args below meth c cells slots Q D cA B b h h' pc' L' S') : W p l e R s m args below meth c H locs cells slots Q (F0 m pc ls (S.map (zz_mv B b))) := by
  unfold zz_last at he
  split at he
  · rename_i x i a S0
    split at he
    · rename_i h1
      cases he
      have hlt := zz_lt_of_kd h1.2.1 (by decide)
      rw [List.map_cons, List.map_cons, List.map_cons, zz_mv_ref B b h1.1]
      refine va_last hx rfl hX.1 hR zz_D hS a 1 ((zz_w_at hlt).trans (by rw [zz_en_1 h1.2.1])) rfl (zz_in_vp h1.2.2) hd (fun H1 locs1 hP1 _ hS1 => ?_)
      refine zz_go_same kk rfl rfl hL ?_ hS1
      show va_P _ _ _ _
      rw [zz_w_set (h := h) (h' := (h.1, h.2.1, zz_u h.2.2 a (zz_ix i) x)) (a := a) rfl (fun i hi => zz_en_congr rfl rfl (zz_u_ne hi)), zz_en_1 (h := (h.1, h.2.1, zz_u h.2.2 a (zz_ix i) x)) h1.2.1]
      have e1 : zz_u h.2.2 a (zz_ix i) x a = vp_updL (h.2.2 a) i.toNatClampNeg x := zz_u_selfL
      simp only [e1]
      exact hP1
    · cases he
  · cases he
theorem zz_rset_len (sh : List zz_S) (a j v : Nat) : (zz_rset sh a j v).length = sh.length := by simp [zz_rset]
theorem zz_rset_sl (h : zz_H) (a j v : Nat) : zz_sl (zz_rset h.1 a j v, h.2.1, h.2.2) = zz_sl h := by
  unfold zz_sl
  congr 1
  apply List.ext_getElem?
  intro i
  rw [List.getElem?_map, List.getElem?_map]
  by_cases hi : i < h.1.length
  · by_cases e : i = a
    · subst e
      simp only [zz_rset]
      rw [List.getElem?_set_self hi]
      unfold zz_ln zz_sh
      rw [zz_nth_eq, List.getElem?_eq_getElem hi]
      rfl
    · simp only [zz_rset]
      rw [List.getElem?_set_ne (Ne.symm e)]
  · simp only [zz_rset]
    rw [List.getElem?_eq_none (by simp; omega), List.getElem?_eq_none (by omega)]
theorem zz_rset_kd {sh : List zz_S} {a j v : Nat} (ha : a < sh.length) : zz_kd (zz_rset sh a j v) a = zz_kd sh a ∧ zz_ln (zz_rset sh a j v) a = zz_ln sh a := by
  unfold zz_kd zz_ln zz_rset
  rw [zz_sh_set_self ha]
  exact ⟨rfl, rfl⟩
theorem zz_rset_rf {sh : List zz_S} {a j v i : Nat} (ha : a < sh.length) (hj : j < (zz_sh sh a).2.2.length) : zz_rf (zz_rset sh a j v) a i = if i = j then some v else zz_rf sh a i := by
  unfold zz_rf zz_rset
  rw [zz_sh_set_self ha, zz_nth_eq, zz_nth_eq]
  by_cases e : i = j
  · subst e
    rw [if_pos rfl]
    simp only
    rw [List.getElem?_set_self hj]
    rfl
  · rw [if_neg e]
    simp only
    rw [List.getElem?_set_ne (Ne.symm e)]
theorem zz_so_aast (hx : p.tables.exec = Jvm.exec) (hd : decode c.code pc = .ok (.aastore, 1)) (hoc : ∀ ci, ci < 10 → zz_okc ci) (hX : zz_X D cA s) (hR : zz_HR D cA B h H) (hS : va_S (zz_A B) s.heap H locs) (hL : zz_LR B b L ls) (he : zz_aast pc L S h = some (pc', L', S', h')) (kk : zz_go p l e R s m args below meth c cells slots Q D cA B b h h' pc' L' S') : W p l e R s m args below meth c H locs cells slots Q (F0 m pc ls (S.map (zz_mv B b))) := by
  unfold zz_aast at he
  split at he
  · rename_i b0 i a S0
    split at he
    · rename_i h1
      obtain ⟨ha, hb0, hkk, hin, hrl⟩ := h1
      cases he
      have hlt : a < h.1.length := by rcases hkk with q | q <;> exact zz_lt_of_kd q.1 (by decide)
      have hltb : b0 < h.1.length := by rcases hkk with q | q <;> exact zz_lt_of_kd q.2 (by decide)
      have fin : ∀ (k9 : Nat) (H1 : Heap) (locs1 : List Loc), (k9 = 3 ∨ k9 = 4 ∨ k9 = 5) → zz_kd h.1 a = k9 → va_P D zz_cl ((zz_w B cA h).set a (B + a, .inl (cA k9, zz_ln h.1 a, .inr (.inr (.inr (.inr (va_up (fun j => (zz_rf h.1 a j).map (fun x => B + x)) i.toNatClampNeg (some (B + b0))))))))) H1 → va_S (zz_A B) s.heap H1 locs1 → W p l e R s m args below meth c H1 locs1 cells slots Q (F0 m (pc + 1) ls (S'.map (zz_mv B b))) := by
        intro k9 H1 locs1 hk9 hka hP1 hS1
        refine zz_go_same kk (zz_rset_len _ _ _ _) (zz_rset_sl _ _ _ _) hL ?_ hS1
        show va_P _ _ _ _
        rw [zz_w_set (h := h) (h' := (zz_rset h.1 a (zz_ix i) b0, h.2.1, h.2.2)) (a := a) (zz_rset_len _ _ _ _) (fun i hi => zz_en_congr (zz_sh_set hi) rfl rfl), zz_en_345 (h := (zz_rset h.1 a (zz_ix i) b0, h.2.1, h.2.2)) (k := k9) ((zz_rset_kd hlt).1.trans hka) hk9]
        have e1 : (fun j => (zz_rf (zz_rset h.1 a (zz_ix i) b0) a j).map (fun x => B + x)) = va_up (fun j => (zz_rf h.1 a j).map (fun x => B + x)) i.toNatClampNeg (some (B + b0)) := by
          funext j
          rw [zz_rset_rf hlt hrl]
          unfold va_up zz_ix
          split <;> rfl
        simp only [e1, (zz_rset_kd hlt).2]
        exact hP1
      rw [List.map_cons, List.map_cons, List.map_cons, zz_mv_ref B b ha, zz_mv_ref B b hb0]
      rcases hkk with ⟨q1, q2⟩ | ⟨q1, q2⟩
      · refine va_astq (r := (zz_nth "" zz_R 8, zz_T 8, zz_nth 0 zz_N 8)) hx rfl hX.1 hR zz_D hS a 3 b0 8 ((zz_w_at hlt).trans (by rw [zz_en_345 q1 (Or.inl rfl)])) rfl ((zz_w_at hltb).trans (by rw [zz_en_o (ci := 8) q2])) (hoc 8 (by decide)).1 (zz_in_vp hin) hd (fun H1 locs1 hP1 _ hS1 => ?_)
        exact fin 3 H1 locs1 (Or.inl rfl) q1 hP1 hS1
      · refine va_astq (r := (zz_nth "" zz_R 1, zz_T 1, zz_nth 0 zz_N 1)) hx rfl hX.1 hR zz_D hS a 4 b0 1 ((zz_w_at hlt).trans (by rw [zz_en_345 q1 (Or.inr (Or.inl rfl))])) rfl ((zz_w_at hltb).trans (by rw [zz_en_o (ci := 1) q2])) (hoc 1 (by decide)).1 (zz_in_vp hin) hd (fun H1 locs1 hP1 _ hS1 => ?_)
        exact fin 4 H1 locs1 (Or.inr (Or.inl rfl)) q1 hP1 hS1
    · cases he
  · cases he
theorem zz_so_alen (hx : p.tables.exec = Jvm.exec) (hd : decode c.code pc = .ok (.arraylength, 1)) (hsc : k = 0 → va_X b (h.2.1 (zz_scr + 1) 0).toNatClampNeg (h.2.1 zz_scr) s s.heap ∧ b < s.heap.size ∧ b < B ∧ ∃ n, n ≤ 384 ∧ h.2.1 (zz_scr + 1) 0 = nI n) (hX : zz_X D cA s) (hR : zz_HR D cA B h H) (hS : va_S (zz_A B) s.heap H locs) (hL : zz_LR B b L ls) (he : zz_alen k pc L S h = some (pc', L', S', h')) (kk : zz_go p l e R s m args below meth c cells slots Q D cA B b h h' pc' L' S') : W p l e R s m args below meth c H locs cells slots Q (F0 m pc ls (S.map (zz_mv B b))) := by
  unfold zz_alen at he
  split at he
  · rename_i a S0
    split at he
    · rename_i hsa
      subst hsa
      split at he
      · rename_i h1
        cases he
        obtain ⟨g1, g2, g3, n, hn, hn2⟩ := hsc h1
        refine va_slen (A := zz_A B) hx rfl g1 g2 (Nat.not_le.mpr g3) hS hd ?_
        have e1 : Int32.ofNat (h.2.1 (zz_scr + 1) 0).toNatClampNeg = h.2.1 (zz_scr + 1) 0 := by
          rw [hn2, nI_clamp (by omega)]
          rfl
        rw [e1]
        exact zz_go_same kk rfl rfl hL hR hS
      · cases he
    · rename_i hsa
      split at he
      · rename_i h1
        cases he
        have hlt : a < h.1.length := zz_lt_of_kd rfl (by omega)
        rw [List.map_cons, zz_mv_ref B b hsa]
        have hk : zz_kd h.1 a = 0 ∨ zz_kd h.1 a = 1 ∨ zz_kd h.1 a = 2 ∨ zz_kd h.1 a = 3 ∨ zz_kd h.1 a = 4 ∨ zz_kd h.1 a = 5 := by omega
        rcases hk with q | q | q | q | q | q
        · exact va_alen (x := (zz_ln h.1 a, .inl (h.2.1 a))) (v := nI (zz_ln h.1 a)) hx rfl hX.1 hR a 0 ((zz_w_at hlt).trans (by rw [zz_en_0 q])) rfl rfl hd (zz_go_same kk rfl rfl hL hR hS)
        · exact va_alen (x := (zz_ln h.1 a, .inr (.inl (h.2.2 a)))) (v := nI (zz_ln h.1 a)) hx rfl hX.1 hR a 1 ((zz_w_at hlt).trans (by rw [zz_en_1 q])) rfl rfl hd (zz_go_same kk rfl rfl hL hR hS)
        · exact va_alen (x := (zz_ln h.1 a, .inl (h.2.1 a))) (v := nI (zz_ln h.1 a)) hx rfl hX.1 hR a 2 ((zz_w_at hlt).trans (by rw [zz_en_2 q])) rfl rfl hd (zz_go_same kk rfl rfl hL hR hS)
        · exact va_alen (x := (zz_ln h.1 a, .inr (.inr (.inr (.inr (fun j => (zz_rf h.1 a j).map (fun x => B + x))))))) (v := nI (zz_ln h.1 a)) hx rfl hX.1 hR a 3 ((zz_w_at hlt).trans (by rw [zz_en_345 q (Or.inl rfl)])) rfl rfl hd (zz_go_same kk rfl rfl hL hR hS)
        · exact va_alen (x := (zz_ln h.1 a, .inr (.inr (.inr (.inr (fun j => (zz_rf h.1 a j).map (fun x => B + x))))))) (v := nI (zz_ln h.1 a)) hx rfl hX.1 hR a 4 ((zz_w_at hlt).trans (by rw [zz_en_345 q (Or.inr (Or.inl rfl))])) rfl rfl hd (zz_go_same kk rfl rfl hL hR hS)
        · exact va_alen (x := (zz_ln h.1 a, .inr (.inr (.inr (.inr (fun j => (zz_rf h.1 a j).map (fun x => B + x))))))) (v := nI (zz_ln h.1 a)) hx rfl hX.1 hR a 5 ((zz_w_at hlt).trans (by rw [zz_en_345 q (Or.inr (Or.inr rfl))])) rfl rfl hd (zz_go_same kk rfl rfl hL hR hS)
      · cases he
  · cases he
end ZH
