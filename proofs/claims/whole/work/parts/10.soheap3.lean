/-! SOUNDNESS, 6: new cells, constants, copies; all instructions over cells -/
theorem zz_sl_push (h : zz_H) (s : zz_S) : zz_sl (zz_push h s) = zz_sl h + s.2.1 := by
  simp [zz_sl, zz_push, List.sum_append]
theorem zz_len_push (h : zz_H) (s : zz_S) : (zz_push h s).1.length = h.1.length + 1 := by simp [zz_push]
theorem zz_kd_push (h : zz_H) (s : zz_S) : zz_kd (zz_push h s).1 h.1.length = s.1 ∧ zz_ln (zz_push h s).1 h.1.length = s.2.1 ∧ ∀ j, zz_rf (zz_push h s).1 h.1.length j = zz_nth none s.2.2 j := by
  unfold zz_kd zz_ln zz_rf zz_push
  refine ⟨?_, ?_, fun j => ?_⟩ <;> simp only [zz_sh_last]
theorem zz_nth_none (n j : Nat) : zz_nth none (List.replicate n (none : Option Nat)) j = none := by
  rw [zz_nth_eq]
  by_cases h : j < n
  · rw [List.getElem?_replicate_of_lt h]; rfl
  · rw [List.getElem?_eq_none (by simp; omega)]; rfl
theorem zz_len_pushes (h : zz_H) (k : Nat) : ∀ n, (zz_pushes h k n).1.length = h.1.length + n
  | 0 => rfl
  | n + 1 => by rw [zz_pushes, zz_len_push, zz_len_pushes h k n]; omega
theorem zz_sl_pushes (h : zz_H) (k : Nat) : ∀ n, zz_sl (zz_pushes h k n) = zz_sl h + n * k
  | 0 => by simp [zz_pushes]
  | n + 1 => by rw [zz_pushes, zz_sl_push, zz_sl_pushes h k n, Nat.succ_mul]; show zz_sl h + n * k + k = _; omega
theorem zz_w_pushes {B : Nat} {cA : Nat → ClassId} (h : zz_H) (k : Nat) : ∀ n, zz_w B cA (zz_pushes h k n) = zz_w B cA h ++ (List.range n).map (fun j => (B + (h.1.length + j), (.inl (cA 0, k, .inl (fun _ => 0)) : va_E)))
  | 0 => by simp [zz_pushes]
  | n + 1 => by
    rw [zz_pushes, zz_w_push, zz_w_pushes h k n, List.range_succ, List.map_append, List.append_assoc]
    congr 2
    rw [zz_len_pushes]
    have e : zz_en B cA (zz_push (zz_pushes h k n) (0, k, [])) (h.1.length + n) = .inl (cA 0, k, .inl (fun _ => 0)) := by
      have h1 := zz_kd_push (zz_pushes h k n) (0, k, [])
      rw [zz_len_pushes] at h1
      rw [zz_en_0 h1.1, h1.2.1]
      have h2 : (zz_push (zz_pushes h k n) (0, k, [])).2.1 (h.1.length + n) = fun _ => 0 := by
        rw [← zz_len_pushes h k n]
        exact zz_z_self
      rw [h2]
    rw [e]
    rfl
theorem zz_outer (c : ClassId) (N h0 : Nat) : ∀ i : Nat, Jvm.Free.Multi.outerC c N h0 i = arrV c N (fun j => va_rf (if j < i then some (h0 + 1 + j) else none))
  | 0 => by
    show ({ cls := c, slots := Array.replicate N .null, vm := .none } : Cell) = _
    rw [arrV_new]
    refine congrArg (arrV c N) (funext fun j => ?_)
    simp [va_rf]
  | i + 1 => by
    show (Jvm.Free.Multi.outerC c N h0 i).setSlot i (.ref (h0 + 1 + i)) = _
    rw [zz_outer c N h0 i, arrV_store]
    refine congrArg (arrV c N) (funext fun j => ?_)
    by_cases e : j = i
    · subst e
      simp [updV, va_rf]
    · by_cases h : j < i
      · simp [updV, e, h, Nat.lt_succ_of_lt h]
      · simp [updV, e, h, show ¬ j < i + 1 by omega]
section ZJ
variable {p : Program} {l : Launch} {e : Env} {R : Room} {s : State} {m : MethodId} {args : Array Value} {below : List Frame} {meth : Method} {c : Code} {H : Heap} {locs : List Loc} {cells slots : Nat} {Q : State → Prop} {B b : Nat} {pc pc' : Nat} {ls : Array Slot} {L S L' S' : List Value} {h h' : zz_H} {D : va_G} {cA : Nat → ClassId} {k : Nat} {aux : List Nat}
theorem zz_go_push {s0 : zz_S} (kk : zz_go p l e R s m args below meth c cells slots Q D cA B b h (zz_push h s0) pc' L' S') (hL : zz_LR B b L' ls) (hR : zz_HR D cA B (zz_push h s0) H) (hS : va_S (zz_A B) s.heap H locs) : W p l e R s m args below meth c H locs (cells + 1) (slots + s0.2.1) Q (F0 m pc' ls (S'.map (zz_mv B b))) := by
  have := kk ls H locs hL hR hS
  rw [zz_len_push, zz_sl_push, Nat.add_sub_cancel_left, Nat.add_sub_cancel_left] at this
  exact this
theorem zz_so_new (hx : p.tables.exec = Jvm.exec) (hoc : ∀ ci, ci < 10 → zz_okc ci) (hts : ∀ w ∈ zz_ws, w.before args s = true) (hown : s.vm.findClass (zz_own k) = some m.cls) {idx : Nat} (hck : zz_ckB k (.new idx) aux = true) (hd : decode c.code pc = .ok (.new idx, 3)) (hX : zz_X D cA s) (hR : zz_HR D cA B h H) (hS : va_S (zz_A B) s.heap H locs) (hL : zz_LR B b L ls) (hsz : H.size = B + h.1.length) (hrm : cells + (h'.1.length - h.1.length) ≤ R.cells ∧ slots + (zz_sl h' - zz_sl h) ≤ R.slots) (he : zz_new aux pc L S h = some (pc', L', S', h')) (kk : zz_go p l e R s m args below meth c cells slots Q D cA B b h h' pc' L' S') : W p l e R s m args below meth c H locs cells slots Q (F0 m pc ls (S.map (zz_mv B b))) := by
  unfold zz_new at he
  split at he
  · rename_i ci wp
    simp only [zz_ckB, Bool.and_eq_true, decide_eq_true_eq] at hck
    split at he
    · rename_i hlen
      cases he
      obtain ⟨o1, o2, o3, o4, o5, o6, o7⟩ := hoc ci hck.1
      rw [zz_len_push, zz_sl_push, Nat.add_sub_cancel_left, Nat.add_sub_cancel_left] at hrm
      have hKn := hX.1.1 ci _ o1
      refine W.newcK hx rfl hown (hts _ (zz_has_in hck.2)) (hts _ o5) (hts _ o6) rfl hd hrm.1 hrm.2 hKn.2.1 hsz fun H1 kC hkC e1 z1 q1 => ?_
      have hk := zz_kd_push h (10 + ci, zz_nth 0 zz_N ci, List.replicate (zz_nth 0 zz_N ci) none)
      have hat : va_at D zz_cl (B + h.1.length, zz_en B cA (zz_push h (10 + ci, zz_nth 0 zz_N ci, List.replicate (zz_nth 0 zz_N ci) none)) h.1.length) H1 := by
        rw [zz_en_o hk.1]
        refine ⟨_, o1, (u_born (zz_ty ci) hts o2 hKn hkC e1 o3).to fun j hj => ?_⟩
        unfold vp_V
        rw [List.getD_eq_getElem?_getD, zz_fs_at hj]
        show defaultValue _ = zz_fv _ _ _ _ _
        rcases zz_fk_lt (zz_ty ci j) with q | q | q
        · rw [zz_fv0 q, zz_fk0 q]
          have : (zz_push h (10 + ci, zz_nth 0 zz_N ci, List.replicate (zz_nth 0 zz_N ci) none)).2.1 h.1.length j = 0 := by simp [zz_push, zz_z]
          rw [this]
          rfl
        · rw [zz_fv1 q, zz_fk1 q]
          have : (zz_push h (10 + ci, zz_nth 0 zz_N ci, List.replicate (zz_nth 0 zz_N ci) none)).2.2 h.1.length j = 0 := by simp [zz_push, zz_z]
          rw [this]
          rfl
        · rw [zz_fv2 q, hk.2.2 j, zz_nth_none]
          have := o7 j hj q
          cases ht : zz_ty ci j <;> rw [ht] at this <;> simp [FieldType.isReference] at this <;> rfl
      have hq1 : ∀ q, q < H.size → H1[q]? = H[q]? := fun q hq => q1 q (by rw [← hsz]; exact hq)
      have := zz_go_push kk hL (zz_HR_push hR hq1 hat) (zz_S_push hS (by rw [z1, hsz]; omega) hq1)
      rw [List.map_cons, zz_mv_ref B b (Nat.ne_of_lt hlen)] at this
      exact this
    · cases he
  · cases he
/-- a new array of numbers -/
theorem zz_so_newK (hx : p.tables.exec = Jvm.exec) (hts : ∀ w ∈ zz_ws, w.before args s = true) {t : ArrayType} {i kd : Nat} (hin : Cond.arrayClass (newarray.typeOf t) ∈ zz_ws) (hi : (zz_tys cA)[i]? = some (cA i, newarray.typeOf t)) (hra : ∀ U cA', va_RA U cA' (newarray.typeOf t) = (U.vm.findClass ("[" ++ (newarray.typeOf t).toString) = some cA')) (hbytes : componentBytes (newarray.typeOf t) ≤ 8) (hd : decode c.code pc = .ok (.newarray t, 2)) (hX : zz_X D cA s) (hR : zz_HR D cA B h H) (hS : va_S (zz_A B) s.heap H locs) (hL : zz_LR B b L ls) (hsz : H.size = B + h.1.length) {n : Int32} {S0 : List Value} (hn : 0 ≤ n.toInt ∧ n.toInt < 10000) (hlen : h.1.length < zz_scr)
    (hat : ∀ H1 : Heap, H1[B + h.1.length]? = some (arrV (cA i) n.toNatClampNeg (fun _ => defaultValue (newarray.typeOf t))) → va_at D zz_cl (B + h.1.length, zz_en B cA (zz_push h (kd, n.toNatClampNeg, [])) h.1.length) H1)
    (hrm : cells + ((zz_push h (kd, n.toNatClampNeg, [])).1.length - h.1.length) ≤ R.cells ∧ slots + (zz_sl (zz_push h (kd, n.toNatClampNeg, [])) - zz_sl h) ≤ R.slots) (kk : zz_go p l e R s m args below meth c cells slots Q D cA B b h (zz_push h (kd, n.toNatClampNeg, [])) (pc + 2) L (.ref h.1.length :: S0)) : W p l e R s m args below meth c H locs cells slots Q (F0 m pc ls (.int n :: S0.map (zz_mv B b))) := by
  rw [zz_len_push, zz_sl_push, Nat.add_sub_cancel_left, Nat.add_sub_cancel_left] at hrm
  have h0 : ¬ n < 0 := by
    rw [Int32.not_lt, Int32.le_iff_toInt_le]
    simpa using hn.1
  have hN : n.toNatClampNeg < 10000 := by
    have : n.toNatClampNeg = n.toInt.toNat := rfl
    omega
  refine va_newaK hx rfl (hts _ hin) rfl hd rfl h0 rfl (by have := Nat.mul_le_mul (Nat.le_of_lt hN) hbytes; omega) hrm.1 hrm.2 hsz fun H1 cA' e1 z1 q1 hAr hNm => ?_
  have hc : cA' = cA i := by
    have := (hX.1.2 i _ hi).2
    rw [hra] at this
    exact Option.some.inj (hNm.symm.trans this)
  subst hc
  have hq1 : ∀ q, q < H.size → H1[q]? = H[q]? := fun q hq => q1 q (by rw [← hsz]; exact hq)
  have := zz_go_push kk hL (zz_HR_push hR hq1 (hat H1 e1)) (zz_S_push hS (by rw [z1, hsz]; omega) hq1)
  rw [List.map_cons, zz_mv_ref B b (Nat.ne_of_lt hlen)] at this
  exact this
theorem zz_so_newa (hx : p.tables.exec = Jvm.exec) (hts : ∀ w ∈ zz_ws, w.before args s = true) (hac : Cond.arrayClass .int ∈ zz_ws ∧ Cond.arrayClass .long ∈ zz_ws ∧ Cond.arrayClass .boolean ∈ zz_ws) {t : ArrayType} (hd : decode c.code pc = .ok (.newarray t, 2)) (hX : zz_X D cA s) (hR : zz_HR D cA B h H) (hS : va_S (zz_A B) s.heap H locs) (hL : zz_LR B b L ls) (hsz : H.size = B + h.1.length) (hrm : cells + (h'.1.length - h.1.length) ≤ R.cells ∧ slots + (zz_sl h' - zz_sl h) ≤ R.slots) (he : zz_newa t pc L S h = some (pc', L', S', h')) (kk : zz_go p l e R s m args below meth c cells slots Q D cA B b h h' pc' L' S') : W p l e R s m args below meth c H locs cells slots Q (F0 m pc ls (S.map (zz_mv B b))) := by
  unfold zz_newa at he
  split at he
  · rename_i n S0
    split at he
    · rename_i h1
      obtain ⟨hlen, hn⟩ := h1
      split at he
      · cases he
        refine zz_so_newK (i := 0) (t := .int) hx hts hac.1 rfl (fun _ _ => rfl) (by decide) hd hX hR hS hL hsz hn hlen (fun H1 e1 => ?_) hrm kk
        have hk := zz_kd_push h (0, n.toNatClampNeg, [])
        rw [zz_en_0 hk.1, hk.2.1]
        have h2 : (zz_push h (0, n.toNatClampNeg, [])).2.1 h.1.length = fun _ => 0 := zz_z_self
        rw [h2]
        exact e1
      · cases he
        refine zz_so_newK (i := 1) (t := .long) hx hts hac.2.1 rfl (fun _ _ => rfl) (by decide) hd hX hR hS hL hsz hn hlen (fun H1 e1 => ?_) hrm kk
        have hk := zz_kd_push h (1, n.toNatClampNeg, [])
        rw [zz_en_1 hk.1, hk.2.1]
        have h2 : (zz_push h (1, n.toNatClampNeg, [])).2.2 h.1.length = fun _ => 0 := zz_z_self
        rw [h2]
        exact e1
      · cases he
        refine zz_so_newK (i := 2) (t := .boolean) hx hts hac.2.2 rfl (fun _ _ => rfl) (by decide) hd hX hR hS hL hsz hn hlen (fun H1 e1 => ?_) hrm kk
        have hk := zz_kd_push h (2, n.toNatClampNeg, [])
        rw [zz_en_2 hk.1, hk.2.1]
        have h2 : (zz_push h (2, n.toNatClampNeg, [])).2.1 h.1.length = fun _ => 0 := zz_z_self
        rw [h2]
        exact e1
      · cases he
    · cases he
  · cases he
theorem zz_so_anew (hx : p.tables.exec = Jvm.exec) (hts : ∀ w ∈ zz_ws, w.before args s = true) (hov : Cond.arrayOver (.object "HouseOfHours$Strip") ∈ zz_nw ∧ Cond.arrayOver (.object "HouseOfHours$House") ∈ zz_nw) (hown : s.vm.findClass (zz_own k) = some m.cls) {idx : Nat} (hck : zz_ckB k (.anewarray idx) aux = true) (hd : decode c.code pc = .ok (.anewarray idx, 3)) (hX : zz_X D cA s) (hR : zz_HR D cA B h H) (hS : va_S (zz_A B) s.heap H locs) (hL : zz_LR B b L ls) (hsz : H.size = B + h.1.length) (hrm : cells + (h'.1.length - h.1.length) ≤ R.cells ∧ slots + (zz_sl h' - zz_sl h) ≤ R.slots) (he : zz_anew aux pc L S h = some (pc', L', S', h')) (kk : zz_go p l e R s m args below meth c cells slots Q D cA B b h h' pc' L' S') : W p l e R s m args below meth c H locs cells slots Q (F0 m pc ls (S.map (zz_mv B b))) := by
  unfold zz_anew at he
  split at he
  · rename_i kd wp n S0
    split at he
    · rename_i h1
      obtain ⟨hlen, hn⟩ := h1
      cases he
      rw [zz_len_push, zz_sl_push, Nat.add_sub_cancel_left, Nat.add_sub_cancel_left] at hrm
      have h0 : ¬ n < 0 := by
        rw [Int32.not_lt, Int32.le_iff_toInt_le]
        simpa using hn.1
      have hN : n.toNatClampNeg < 10000 := by
        have : n.toNatClampNeg = n.toInt.toNat := rfl
        omega
      have key : ∀ (C : String) (i : Nat), (i = 3 ∨ i = 4 ∨ i = 5) → kd = i → (Cond.classLink (zz_own k) idx C).before args s = true → (Cond.arrayOver (.object C)).before args s = true → (zz_tys cA)[i]? = some (cA i, .object C) → W p l e R s m args below meth c H locs cells slots Q (F0 m pc ls (.int n :: S0.map (zz_mv B b))) := by
        intro C i hi hkd hcl hover hty
        subst hkd
        refine W.anew hx rfl hown hcl hover rfl hd rfl h0 (by omega) hrm.1 hrm.2 fun cA' kA comp f1 f2 f3 f4 => ?_
        have hc : cA' = cA kd := by
          obtain ⟨_, _, _, _, _, g4⟩ := (hX.1.2 kd _ hty).2
          exact Option.some.inj (f1.symm.trans g4)
        subst hc
        have hk := zz_kd_push h (kd, n.toNatClampNeg, List.replicate n.toNatClampNeg none)
        have hq1 : ∀ q, q < H.size → (H.push ({ cls := cA kd, slots := Array.replicate n.toNatClampNeg .null, vm := .none } : Cell))[q]? = H[q]? := fun q hq => by
          rw [Array.getElem?_push, if_neg (Nat.ne_of_lt hq)]
        have hat : va_at D zz_cl (B + h.1.length, zz_en B cA (zz_push h (kd, n.toNatClampNeg, List.replicate n.toNatClampNeg none)) h.1.length) (H.push ({ cls := cA kd, slots := Array.replicate n.toNatClampNeg .null, vm := .none } : Cell)) := by
          rw [zz_en_345 hk.1 hi]
          show (H.push _)[B + h.1.length]? = some (vp_cell _ _)
          rw [← hsz, Array.getElem?_push_size, arrV_new, vp_cell_q, hk.2.1]
          congr 2
          funext j
          rw [hk.2.2 j, zz_nth_none]
          rfl
        have := zz_go_push kk hL (zz_HR_push hR hq1 hat) (zz_S_push hS (by simp) hq1)
        rw [List.map_cons, zz_mv_ref B b (Nat.ne_of_lt hlen), ← hsz] at this
        exact this
      simp only [zz_ckB, Bool.or_eq_true, Bool.and_eq_true, decide_eq_true_eq] at hck
      rcases hck with ⟨q1, q2⟩ | ⟨q1, q2⟩
      · exact key _ 3 (Or.inl rfl) q1 (hts _ (zz_has_in q2)) (va_AO.use (hX.2 _ hov.1)) rfl
      · exact key _ 4 (Or.inr (Or.inl rfl)) q1 (hts _ (zz_has_in q2)) (va_AO.use (hX.2 _ hov.2)) rfl
    · cases he
  · cases he
theorem zz_AOA_use {t : FieldType} {A : Array Value} {U : State} (h : va_Nw (.arrayOver t) U) : (Cond.arrayOver t).before A U = true := h
theorem zz_so_mnew (hx : p.tables.exec = Jvm.exec) (hts : ∀ w ∈ zz_ws, w.before args s = true) (hac : Cond.arrayClass .int ∈ zz_ws) (hov : Cond.arrayOver (.array .int) ∈ zz_nw) (hown : s.vm.findClass (zz_own k) = some m.cls) {idx dd : Nat} (hck : zz_ckB k (.multianewarray idx dd) aux = true) (hd : decode c.code pc = .ok (.multianewarray idx dd, 4)) (hX : zz_X D cA s) (hR : zz_HR D cA B h H) (hS : va_S (zz_A B) s.heap H locs) (hL : zz_LR B b L ls) (hsz : H.size = B + h.1.length) (hrm : cells + (h'.1.length - h.1.length) ≤ R.cells ∧ slots + (zz_sl h' - zz_sl h) ≤ R.slots) (he : zz_mnew pc L S h = some (pc', L', S', h')) (kk : zz_go p l e R s m args below meth c cells slots Q D cA B b h h' pc' L' S') : W p l e R s m args below meth c H locs cells slots Q (F0 m pc ls (S.map (zz_mv B b))) := by
  unfold zz_mnew at he
  split at he
  · rename_i k9 n S0
    split at he
    · rename_i h1
      obtain ⟨hlen, hn1, hn2, hk1, hk2⟩ := h1
      cases he
      have hck2 : dd = 2 ∧ ∃ wp, zz_has wp (.classLink (zz_own k) idx ("[" ++ (FieldType.array .int).toString)) = true := by
        match aux, hck with
        | [wp], hck =>
          simp only [zz_ckB, Bool.and_eq_true, decide_eq_true_eq] at hck
          exact ⟨hck.1, wp, hck.2⟩
        | [], hck => simp [zz_ckB] at hck
        | _ :: _ :: _, hck => simp [zz_ckB] at hck
      obtain ⟨rfl, wp, hw⟩ := hck2
      generalize hh0 : zz_push h (5, n.toNatClampNeg, (List.range n.toNatClampNeg).map (fun i => some (h.1.length + 1 + i))) = h0 at hrm kk
      have hl0 : h0.1.length = h.1.length + 1 := by rw [← hh0, zz_len_push]
      have hs0 : zz_sl h0 = zz_sl h + n.toNatClampNeg := by rw [← hh0, zz_sl_push]
      have e1 : (zz_pushes h0 k9.toNatClampNeg n.toNatClampNeg).1.length - h.1.length = 1 + n.toNatClampNeg := by rw [zz_len_pushes, hl0]; omega
      have e2 : zz_sl (zz_pushes h0 k9.toNatClampNeg n.toNatClampNeg) - zz_sl h = n.toNatClampNeg + n.toNatClampNeg * k9.toNatClampNeg := by rw [zz_sl_pushes, hs0]; omega
      rw [e1, e2] at hrm
      have neg : ∀ z : Int32, 0 ≤ z.toInt → ¬ z < 0 := fun z hz => by
        rw [Int32.not_lt, Int32.le_iff_toInt_le]
        simpa using hz
      have hN : n.toNatClampNeg < 10000 := by
        have : n.toNatClampNeg = n.toInt.toNat := rfl
        omega
      have hK9 : k9.toNatClampNeg < 10000 := by
        have : k9.toNatClampNeg = k9.toInt.toNat := rfl
        omega
      intro T hT Xs
      obtain ⟨vm₁, cA', comp, -, fA, fC, hO, -, X', step⟩ := Xs.multianewarray2F hx hown (hts _ (zz_has_in hw)) (zz_AOA_use (hX.2 _ hov)) (hts _ hac) (g := F0 m pc ls (.int k9 :: .int n :: S0.map (zz_mv B b))) rfl hd rfl (neg n hn1) (neg k9 hk1) (by omega) (show k9.toNatClampNeg * 4 ≤ 536870912 by omega) (by omega) rfl rfl hrm.1 hrm.2
      have hc5 : cA' = cA 5 := by
        have := (hX.1.2 5 _ rfl).2
        exact Option.some.inj (fA.symm.trans this)
      have hc0 : comp = cA 0 := by
        have := (hX.1.2 0 _ rfl).2
        exact Option.some.inj (fC.symm.trans this)
      subst hc5
      subst hc0
      generalize hF : Jvm.Free.Multi.fill (T.setVm vm₁) (cA 5) (cA 0) n.toNatClampNeg k9.toNatClampNeg (defaultValue .int) n.toNatClampNeg = F at X' step
      have hTh : (T.setVm vm₁).heap = H := hT
      obtain ⟨f1, f2, -, -⟩ := Jvm.Free.Multi.fill_facts (T.setVm vm₁) (cA 5) (cA 0) n.toNatClampNeg k9.toNatClampNeg (defaultValue .int) n.toNatClampNeg
      rw [hF, hTh] at f1 f2
      have hold : ∀ x : Nat, x < H.size → F.heap[x]? = H[x]? := fun x hx => by
        have := Jvm.Free.Multi.fill_old (T.setVm vm₁) (cA 5) (cA 0) n.toNatClampNeg k9.toNatClampNeg (defaultValue .int) (a := x) (by rw [hTh]; exact hx) n.toNatClampNeg
        rw [hF, hTh] at this
        exact this
      have hrow : ∀ j : Nat, j < n.toNatClampNeg → F.heap[H.size + 1 + j]? = some (arrV (cA 0) k9.toNatClampNeg (fun _ => .int 0)) := fun j hj => by
        have := Jvm.Free.Multi.fill_inner (T.setVm vm₁) (cA 5) (cA 0) n.toNatClampNeg k9.toNatClampNeg (defaultValue .int) n.toNatClampNeg j hj
        rw [hF, hTh] at this
        rw [this]
        exact congrArg some (arrV_new _ _ _)
      rw [zz_outer] at f2
      have hkp := zz_kd_push h (5, n.toNatClampNeg, (List.range n.toNatClampNeg).map (fun i => some (h.1.length + 1 + i)))
      have hat : va_at D zz_cl (B + h.1.length, zz_en B cA h0 h.1.length) F.heap := by
        rw [← hh0, zz_en_345 hkp.1 (Or.inr (Or.inr rfl))]
        show F.heap[B + h.1.length]? = some (vp_cell _ _)
        rw [← hsz, f2, vp_cell_q, hkp.2.1]
        congr 2
        funext j
        rw [hkp.2.2 j, zz_nth_eq, List.getElem?_map]
        by_cases hj : j < n.toNatClampNeg
        · rw [if_pos hj, List.getElem?_range hj]
          show va_rf (some (H.size + 1 + j)) = va_rf (some (B + (h.1.length + 1 + j)))
          rw [hsz]
          congr 2
          omega
        · rw [if_neg hj, List.getElem?_eq_none (by simp; omega)]
          rfl
      have hR0 : zz_HR D cA B h0 F.heap := by
        rw [← hh0]
        exact zz_HR_push hR hold (by rw [hh0]; exact hat)
      have hR1 : zz_HR D cA B (zz_pushes h0 k9.toNatClampNeg n.toNatClampNeg) F.heap := by
        show va_P _ _ _ _
        rw [zz_w_pushes]
        refine va_P.app hR0 (fun q x hq => ?_)
        have hq1 : q < n.toNatClampNeg := by simpa using (List.getElem?_eq_some_iff.mp hq).1
        rw [List.getElem?_map, List.getElem?_range hq1] at hq
        cases hq
        show F.heap[B + (h0.1.length + q)]? = some (vp_cell _ _)
        rw [hl0, show B + (h.1.length + 1 + q) = H.size + 1 + q by omega, hrow q hq1]
        rfl
      have hS1 : va_S (zz_A B) s.heap F.heap locs := zz_S_push hS (by rw [f1]; omega) hold
      have := kk ls F.heap locs hL hR1 hS1
      rw [e1, e2, List.map_cons, zz_mv_ref B b (show h.1.length ≠ zz_scr by omega), ← hsz] at this
      obtain ⟨t, a1, b1⟩ := this F rfl (by
        have hX2 := X'
        rw [Nat.add_assoc cells, Nat.add_assoc slots] at hX2
        exact hX2)
      refine ⟨t, step t ?_, b1⟩
      have e9 : T.heap.size = H.size := by rw [hT]
      rw [e9]
      exact a1
    · cases he
  · cases he
end ZJ
