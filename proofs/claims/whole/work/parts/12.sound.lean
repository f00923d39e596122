/-! SOUNDNESS, 8: calls, and the whole -/
def zz_nest (wp idx k j nest : Nat) : Bool := match nest with
  | 0 => zz_has wp (.methodLink (zz_own k) idx (zz_m j).1)
  | _ => zz_hasn wp (.methodLinkNest (zz_own k) idx (zz_m j).1 "HouseOfHours")
def zz_fits (k j : Nat) : Bool := decide (j ≠ 0) && decide (j < 243) && decide ((zz_m j).2.2.2.2.2.2.1 + 1 ≤ (zz_m k).2.2.2.2.2.2.1) && decide (8 + ((zz_m j).2.2.1 + 11) + (zz_m j).2.2.2.2.2.2.2.1 ≤ (zz_m k).2.2.2.2.2.2.2.1)
def zz_ckC (k : Nat) (ins : Instr) (aux : List Nat) : Bool := match ins, aux with
  | .invokestatic idx, [j, wp, nest] => zz_fits k j && zz_nest wp idx k j nest && decide ((zz_m j).2.2.2.2.1 = 99)
  | .invokevirtual idx, [j, wp, nest] => zz_fits k j && zz_nest wp idx k j nest && decide ((zz_m j).2.2.2.2.1 < 10) && decide ((zz_m j).1.name ≠ "<init>")
  | .invokespecial idx, [j, wp, nest] => zz_fits k j && zz_nest wp idx k j nest && decide ((zz_m j).2.2.2.2.1 < 10) && decide ((zz_m j).1.name = "<init>") && decide ((zz_m j).2.2.2.1 = none)
  | _, _ => true
def zz_mw (j i : Nat) : Nat := zz_nth 0 (zz_m j).2.2.2.2.2.2.2.2 i
def zz_ckm (j : Nat) : Bool := plainName (zz_m j).1.cls && decide ((zz_m j).1.cls ≠ "java/lang/invoke/MethodHandle") && decide ((zz_m j).1.cls ≠ "java/lang/invoke/VarHandle") && decide ((parseMethodDescriptor (zz_m j).1.desc).map (fun d => d.parameters.length) = some (zz_m j).2.2.2.2.2.1) && zz_has (zz_mw j 0) (.code (zz_m j).1 (zz_m j).2.1 (zz_m j).2.2.1 (zz_m j).2.2.2.1) && zz_has (zz_mw j 1) (.initialized (zz_m j).1.cls) && (match decide ((zz_m j).2.2.2.2.1 = 99) with
  | true => zz_has (zz_mw j 2) (.static (zz_m j).1)
  | false => zz_has (zz_mw j 2) (.instanceMethod (zz_m j).1) && decide (zz_nth "" zz_R (zz_m j).2.2.2.2.1 = (zz_m j).1.cls) && (decide ((zz_m j).1.name = "<init>") || zz_has (zz_mw j 3) (.selects (zz_m j).1.cls (zz_m j).1 (zz_m j).1)))
/-- WHAT IS CHECKED OF THE TABLES -/
def zz_ck (k pc : Nat) (q : Instr × Nat × List Nat) : Bool := decide (decode (zz_m k).2.1 pc = .ok (q.1, q.2.1)) && (decide (zz_il q.1 = 0) || decide (q.2.1 = zz_il q.1)) && zz_jk q.1 pc && zz_ckB k q.1 q.2.2 && zz_ckC k q.1 q.2.2
def zz_all : Prop := (∀ k pc q, zz_cd k pc = some q → zz_ck k pc q = true) ∧ (∀ j, j ≠ 0 → j < 243 → zz_ckm j = true) ∧ zz_okw
def zz_wk (j : Nat) : List Cond := Cond.code (zz_m j).1 (zz_m j).2.1 (zz_m j).2.2.1 (zz_m j).2.2.2.1 :: zz_ws
def zz_Pc (D : va_G) (cA : Nat → ClassId) (B b : Nat) (as : List Value) (h : zz_H) : Array Value → State → Prop := fun v U => v = (as.map (zz_mv B b)).toArray ∧ U.heap.size = B + h.1.length ∧ zz_HR D cA B h U.heap ∧ zz_X D cA U
def zz_Qc (D : va_G) (cA : Nat → ClassId) (B b : Nat) (r : Option Value) (h' : zz_H) : Array Value → State → Outcome → State → Prop := fun _ st oc t => (oc = .returned (r.map (zz_mv B b)) ∧ zz_HR D cA B h' t.heap) ∧ va_F (zz_A B) st t
/-- what a run of the small machine gives of the Java machine -/
def zz_WS (l : Launch) (k pc : Nat) (L S : List Value) (h : zz_H) (r : Option Value) (h' : zz_H) : Prop :=
  ∀ (p : Program) (e : Env) (R : Room) (s : State) (m : MethodId) (args : Array Value) (below : List Frame) (meth : Method) (c : Code) (H : Heap) (locs : List Loc) (ls : Array Slot) (cells slots : Nat) (Q : State → Prop) (D : va_G) (cA : Nat → ClassId) (B b : Nat),
    zz_cx p s m args meth c R D cA B b k h.2.1 → L.length = c.maxLocals → zz_LR B b L ls → zz_HR D cA B h H → va_S (zz_A B) s.heap H locs → s.heap.size + cells = B + h.1.length → (cells + (h'.1.length - h.1.length) ≤ R.cells ∧ slots + (zz_sl h' - zz_sl h) ≤ R.slots) →
    (∀ (pc' : Nat) (ls' : Array Slot) (H' : Heap) (locs' : List Loc) (S' : List Value) (ins : Instr) (n : Nat) (aux : List Nat), zz_cd k pc' = some (ins, n, aux) → zz_r ins (zz_m k).2.2.2.1 S' = some r → zz_HR D cA B h' H' → va_S (zz_A B) s.heap H' locs' → W p l e R s m args below meth c H' locs' (cells + (h'.1.length - h.1.length)) (slots + (zz_sl h' - zz_sl h)) Q (F0 m pc' ls' (S'.map (zz_mv B b)))) →
    W p l e R s m args below meth c H locs cells slots Q (F0 m pc ls (S.map (zz_mv B b)))
theorem zz_ar {c a b d : Nat} (h1 : a ≤ b) (h2 : b ≤ d) : c + (b - a) + (d - b) = c + (d - a) := by omega
theorem zz_fgt_len : ∀ (f : List Nat) (L : List Value), (zz_fgt f L).length = L.length
  | [], L => rfl
  | i :: f, L => by rw [zz_fgt, zz_fgt_len f]; simp
theorem zz_fgt_at : ∀ (f : List Nat) (L : List Value) (i : Nat) (v : Value), (zz_fgt f L)[i]? = some v → v ≠ .null → L[i]? = some v
  | [], L, i, v, h, _ => h
  | j :: f, L, i, v, h, hv => by
    have h1 := zz_fgt_at f (L.set j .null) i v h hv
    by_cases e : i = j
    · subst e
      rw [List.getElem?_set_self'] at h1
      cases e2 : L[i]? with
      | none => rw [e2] at h1; cases h1
      | some z => rw [e2] at h1; cases h1; exact absurd rfl hv
    · rwa [List.getElem?_set_ne (Ne.symm e)] at h1
theorem zz_fgt_LR {B b : Nat} {L : List Value} {ls : Array Slot} (f : List Nat) (h : zz_LR B b L ls) : zz_LR B b (zz_fgt f L) ls :=
  ⟨by rw [zz_fgt_len]; exact h.1, h.2.1, fun i v hi hv => h.2.2 i v (zz_fgt_at f L i v hi hv) hv⟩
theorem zz_p_len {ins : Instr} {pc pc' : Nat} {L S L' S' : List Value} (hp : zz_p ins pc L S = some (pc', L', S')) : L'.length = L.length := by
  have st1 : ∀ i v, (zz_s1 L i v).length = L.length := fun i v => by simp [zz_s1, zz_kl_len]
  have st2 : ∀ i v, (zz_s2 L i v).length = L.length := fun i v => by simp [zz_s2, zz_kl_len]
  unfold zz_p at hp
  split at hp
  all_goals first
    | (cases hp; done)
    | (cases hp; rfl)
    | (unfold zz_iload at hp; split at hp <;> cases hp; rfl)
    | (unfold zz_lload at hp; split at hp <;> cases hp; rfl)
    | (unfold zz_aload at hp; split at hp <;> cases hp; rfl)
    | (obtain ⟨x, rfl, h1, rfl, rfl⟩ := zz_so_istore hp; exact st1 _ _)
    | (obtain ⟨x, rfl, h1, rfl, rfl⟩ := zz_so_lstore hp; exact st2 _ _)
    | (obtain ⟨x, rfl, h1, rfl, rfl⟩ := zz_so_astore hp; exact st1 _ _)
    | (unfold zz_iinc at hp; split at hp <;> first | (cases hp; done) | (split at hp <;> cases hp; exact st1 _ _))
    | (obtain ⟨x, y, S0, rfl, rfl, rfl, rfl⟩ := zz_so_bini hp; rfl)
    | (obtain ⟨x, y, S0, rfl, h1, rfl, rfl, rfl⟩ := zz_so_divi hp; rfl)
    | (obtain ⟨x, y, S0, rfl, rfl, rfl, rfl⟩ := zz_so_binl hp; rfl)
    | (obtain ⟨x, y, S0, rfl, h1, rfl, rfl, rfl⟩ := zz_so_divl hp; rfl)
    | (split at hp <;> cases hp <;> rfl)
    | (split at hp <;> first | (cases hp; done) | (split at hp <;> first | (cases hp; rfl) | (split at hp <;> cases hp; rfl)))
theorem zz_stp_inl {k pc pc' : Nat} {L S L' S' : List Value} {h h' : zz_H} (e : zz_st0 k pc L S h = some (.inl (pc', L', S', h'))) : ∃ ins n aux, zz_cd k pc = some (ins, n, aux) ∧ ((zz_p ins pc L S = some (pc', L', S') ∧ h' = h) ∨ zz_h ins aux k pc L S h = some (pc', L', S', h')) := by
  unfold zz_st0 at e
  split at e
  · cases e
  · rename_i ins n aux hc
    refine ⟨ins, n, aux, hc, ?_⟩
    split at e
    · rename_i q1 q2 q3 hp
      simp only [Option.some.injEq, Sum.inl.injEq, Prod.mk.injEq] at e
      obtain ⟨rfl, rfl, rfl, rfl⟩ := e
      exact Or.inl ⟨hp, rfl⟩
    · split at e
      · rename_i q hq
        simp only [Option.some.injEq, Sum.inl.injEq] at e
        subst e
        exact Or.inr hq
      · split at e
        · simp at e
        · split at e <;> simp at e
theorem zz_stp_call {k pc j : Nat} {L S as S' : List Value} {h : zz_H} (e : zz_st0 k pc L S h = some (.inr (.inr (j, as, S')))) : ∃ ins n aux, zz_cd k pc = some (ins, n, aux) ∧ zz_c ins aux S h = some (j, as, S') := by
  unfold zz_st0 at e
  split at e
  · cases e
  · rename_i ins n aux hc
    refine ⟨ins, n, aux, hc, ?_⟩
    split at e
    · simp at e
    · split at e
      · simp at e
      · split at e
        · simp at e
        · split at e
          · rename_i q hq
            simp only [Option.some.injEq, Sum.inr.injEq] at e
            subst e
            exact hq
          · simp at e
theorem zz_ck_use (hall : zz_all) {k pc n : Nat} {ins : Instr} {aux : List Nat} (hc : zz_cd k pc = some (ins, n, aux)) : decode (zz_m k).2.1 pc = .ok (ins, n) ∧ (zz_il ins = 0 ∨ n = zz_il ins) ∧ zz_jk ins pc = true ∧ zz_ckB k ins aux = true ∧ zz_ckC k ins aux = true := by
  have h := hall.1 k pc _ hc
  simp only [zz_ck, Bool.and_eq_true, Bool.or_eq_true, decide_eq_true_eq] at h
  exact ⟨h.1.1.1.1, h.1.1.1.2, h.1.1.2, h.1.2, h.2⟩
theorem zz_ckm_use {j : Nat} (h : zz_ckm j = true) : plainName (zz_m j).1.cls = true ∧ ((zz_m j).1.cls ≠ "java/lang/invoke/MethodHandle" ∧ (zz_m j).1.cls ≠ "java/lang/invoke/VarHandle" ∧ (parseMethodDescriptor (zz_m j).1.desc).map (fun d => d.parameters.length) = some (zz_m j).2.2.2.2.2.1) ∧ Cond.code (zz_m j).1 (zz_m j).2.1 (zz_m j).2.2.1 (zz_m j).2.2.2.1 ∈ zz_ws ∧ Cond.initialized (zz_m j).1.cls ∈ zz_ws ∧ ((zz_m j).2.2.2.2.1 = 99 → Cond.static (zz_m j).1 ∈ zz_ws) ∧ ((zz_m j).2.2.2.2.1 ≠ 99 → Cond.instanceMethod (zz_m j).1 ∈ zz_ws ∧ zz_nth "" zz_R (zz_m j).2.2.2.2.1 = (zz_m j).1.cls ∧ ((zz_m j).1.name ≠ "<init>" → Cond.selects (zz_m j).1.cls (zz_m j).1 (zz_m j).1 ∈ zz_ws)) := by
  simp only [zz_ckm, Bool.and_eq_true, decide_eq_true_eq] at h
  obtain ⟨⟨⟨⟨⟨⟨h1, h2⟩, h3⟩, h4⟩, h5⟩, h6⟩, h7⟩ := h
  refine ⟨h1, ⟨h2, h3, h4⟩, zz_has_in h5, zz_has_in h6, fun e => ?_, fun e => ?_⟩
  · rw [decide_eq_true e] at h7
    exact zz_has_in h7
  · rw [decide_eq_false e] at h7
    simp only [Bool.and_eq_true, Bool.or_eq_true, decide_eq_true_eq] at h7
    refine ⟨zz_has_in h7.1.1, h7.1.2, fun hn => ?_⟩
    rcases h7.2 with q | q
    · exact absurd q hn
    · exact zz_has_in q
theorem zz_good_wk {j : Nat} (h : Cond.code (zz_m j).1 (zz_m j).2.1 (zz_m j).2.2.1 (zz_m j).2.2.2.1 ∈ zz_ws) : GoodIn zz_ws (zz_wk j) := by
  intro w hw
  have hw2 : w ∈ zz_ws := by
    rcases List.mem_cons.mp hw with rfl | hw
    · exact h
    · exact hw
  exact ⟨hw2, good_of_word (List.mem_filter.mp hw2).2⟩
theorem zz_blind {D : va_G} {cA : Nat → ClassId} {B b : Nat} {as : List Value} {h : zz_H} : FrameBlind (zz_Pc D cA B b as h) := by
  intro a U g mk q
  obtain ⟨q1, q2, q3, q4⟩ := q
  exact ⟨q1, q2, q3, zz_X_same (s := U) (U := U.calling g mk a) rfl q4⟩
/-- A METHOD'S CONTRACT, out of a run of the small machine -/
theorem zz_met (hall : zz_all) (l : Launch) {j : Nat} (hj0 : j ≠ 0) (hj : j < 243) {as : List Value} {h h1 : zz_H} {v : Option Value} (hlen : (zz_slots as).length ≤ (zz_m j).2.2.1) (hW : zz_WS l j 0 (zz_ini j as) [] h v h1) (D : va_G) (cA : Nat → ClassId) (B b : Nat) :
    Met l (zz_m j).1 (zz_wk j) { frames := (zz_m j).2.2.2.2.2.2.1, cells := h1.1.length - h.1.length, slots := zz_sl h1 - zz_sl h, locals := (zz_m j).2.2.2.2.2.2.2.1 } (zz_Pc D cA B b as h) (zz_Qc D cA B b v h1) (h1.1.length - h.1.length) (zz_sl h1 - zz_sl h) (zz_A B) := by
  obtain ⟨hpl, -, hcw, hiw, -, -⟩ := zz_ckm_use (hall.2.1 j hj0 hj)
  refine Met.ofW (cc := (zz_m j).2.1) (maxL := (zz_m j).2.2.1) (ret := (zz_m j).2.2.2.1) hpl rfl ?_
  intro p e s m args below meth c s₁ B0 hml hv
  obtain ⟨rfl, hsz, hR, hX⟩ := hv
  have hx := B0.exec
  have hb := B0.bytes
  have hr := B0.returns
  have hts : ∀ w ∈ zz_wk j, w.before (as.map (zz_mv B b)).toArray s = true := atoms_spec (ws := zz_wk j) B0.pre
  have hown : s.vm.findClass (zz_m j).1.cls = some m.cls := findClass_of_methodNamed B0.named
  have hlocks := B0.notSynchronized
  have hin : meth.name = (zz_m j).1.name := (name_of_methodNamed B0.named B0.method).1
  rw [lg_entry_eq]
  have hLR := zz_LR_ini (B := B) (b := b) (k := j) hlen
  have hll : (zz_ini j as).length = c.maxLocals := by rw [hml]; simp [zz_ini]; omega
  refine hW p e _ s m _ below meth c s.heap [] _ 0 0 _ D cA B b ⟨hx, hb, hml, hown, fun w hw => hts w (List.mem_cons_of_mem _ hw), hin, Nat.le_refl _, Nat.le_refl _, hX, by rw [hsz]; omega, fun e => absurd e hj0⟩ hll hLR hR va_S.rf (by rw [hsz]; omega) ⟨by simp [headSpec], by simp [headSpec]⟩ ?_
  intro pc' ls' H' locs' S' ins n aux hc hrr hR' hS'
  obtain ⟨hd, hn, -, -, -⟩ := zz_ck_use hall hc
  have hf : ∀ q ∈ locs', zz_A B q.base := hS'.2.2
  have hq : ∀ t : State, t.heap = H' → s.WarmedH t.vm → zz_Qc D cA B b v h1 (as.map (zz_mv B b)).toArray s (.returned (v.map (zz_mv B b))) t := fun t ht _ => ⟨⟨rfl, by rw [ht]; exact hR'⟩, hS'.F ht⟩
  rw [Nat.zero_add, Nat.zero_add]
  have one : zz_il ins = 1 → decode (zz_m j).2.1 pc' = .ok (ins, 1) := fun h => by rcases hn with h1 | h1 <;> rw [h] at h1 <;> first | (rw [h1] at hd; exact hd) | cases h1
  generalize hrt : (zz_m j).2.2.2.1 = rt at hr hrr
  unfold zz_r at hrr
  split at hrr
  · cases hrr
    exact W.iret hx hb hr hq hf (one rfl) hlocks
  · split at hrr
    · rename_i hbz
      cases hrr
      exact W.zret hx hb hr (by rcases hbz with rfl | rfl <;> decide +kernel) hq hf (one rfl) hlocks
    · cases hrr
  · cases hrr
    exact W.lret hx hb hr hq hf (one rfl) hlocks
  · cases hrr
    exact W.vret hx hb hr hq hf (one rfl) hlocks
  · cases hrr
section ZS
variable {p : Program} {l : Launch} {e : Env} {R : Room} {s : State} {m : MethodId} {args : Array Value} {below : List Frame} {meth : Method} {c : Code} {H : Heap} {locs : List Loc} {cells slots : Nat} {Q : State → Prop} {B b : Nat} {pc : Nat} {ls : Array Slot} {h h1 : zz_H} {D : va_G} {cA : Nat → ClassId} {v : Option Value} {S' : List Value} {mc ms : Nat} {g0 : List Value} {a : Array Value}
/-- behind a call -/
theorem zz_behind (hr : va_Run p l e R s m args below meth c H locs cells slots mc ms (F0 m pc ls g0) (S'.map (zz_mv B b)) (zz_Qc D cA B b v h1 a) (zz_A B)) (hS : va_S (zz_A B) s.heap H locs)
    (kk : ∀ (H1 : Heap) (locs1 : List Loc), zz_HR D cA B h1 H1 → va_S (zz_A B) s.heap H1 locs1 → W p l e R s m args below meth c H1 locs1 (cells + mc) (slots + ms) Q (F0 m (pc + 3) ls ((v.toList ++ S').map (zz_mv B b)))) : W p l e R s m args below meth c H locs cells slots Q (F0 m pc ls g0) := by
  intro T hT X
  obtain ⟨v', st₀, t, T', L, h0, X', hL, e1, e2, ⟨⟨hv, hP⟩, hz, hk⟩, st⟩ := hr T hT X
  cases hv
  rw [h0] at hz hk
  have hS1 : va_S (zz_A B) s.heap T'.heap (locs ++ L) := ⟨Nat.le_trans hS.1 (by rw [e1]; exact hz), fun q h1 h2 => by rw [e1, hk q (Nat.lt_of_lt_of_le h1 hS.1) h2]; exact hS.2.1 q h1 h2, fun q hq => by
      rcases List.mem_append.mp hq with h | h
      · exact hS.2.2 q h
      · exact hL q h⟩
  obtain ⟨t2, a1, b1⟩ := kk T'.heap (locs ++ L) (by rw [e1]; exact hP) hS1 T' rfl X'
  refine ⟨t2, st t2 ?_, b1⟩
  have ev : (v.toList ++ S').map (zz_mv B b) = (v.map (zz_mv B b)).toList ++ S'.map (zz_mv B b) := by
    rw [List.map_append]
    cases v <;> rfl
  rw [ev] at a1
  exact a1
end ZS
set_option maxHeartbeats 4000000 in
theorem zz_sound (hall : zz_all) (l : Launch) : ∀ (n k pc : Nat) (L S : List Value) (h : zz_H) (r : Option Value) (h' : zz_H), zz_ex n k pc L S h = some (r, h') → h.1.length ≤ zz_scr → zz_inv h h' ∧ zz_WS l k pc L S h r h' := by
  intro n
  induction n with
  | zero => intro k pc L S h r h' e; simp [zz_ex] at e
  | succ n ih =>
    intro k pc L0 S h r h' e hscr
    rw [zz_ex] at e
    unfold zz_stp at e
    generalize hfg : zz_fgt (zz_fg k pc) L0 = L at e
    suffices hsuf : zz_inv h h' ∧ zz_WS l k pc L S h r h' by
      refine ⟨hsuf.1, ?_⟩
      intro p e R s m args below meth c H locs ls cells slots Q D cA B b hC hll hL hR hS hcc hrm hret
      refine hsuf.2 p e R s m args below meth c H locs ls cells slots Q D cA B b hC ?_ ?_ hR hS hcc hrm hret
      · rw [← hfg, zz_fgt_len]; exact hll
      · rw [← hfg]; exact zz_fgt_LR _ hL
    cases hs : zz_st0 k pc L S h with
    | none => rw [hs] at e; simp at e
    | some o =>
      rw [hs] at e
      rcases o with ⟨pc1, L1, S1, h1⟩ | v1 | ⟨j, as, S1⟩
      · obtain ⟨ins, nn, aux, hc, hstep⟩ := zz_stp_inl hs
        obtain ⟨hd, hn, hjk, hck, -⟩ := zz_ck_use hall hc
        rcases hstep with ⟨hp, rfl⟩ | hh
        · obtain ⟨i1, w1⟩ := ih _ _ _ _ _ _ _ e hscr
          refine ⟨i1, ?_⟩
          intro p e R s m args below meth c H locs ls cells slots Q D cA B b hC hll hL hR hS hcc hrm hret
          have hx := hC.1
          have hb := hC.2.1
          refine zz_p_so (cc := (zz_m k).2.1) hx hb hd hn hjk hp hL (fun ls' hL' => ?_)
          exact w1 p e R s m args below meth c H locs ls' cells slots Q D cA B b hC ((zz_p_len hp).trans hll) hL' hR hS hcc hrm hret
        · obtain ⟨hLeq, i0⟩ := zz_h_inv hscr hh
          obtain ⟨i1, w1⟩ := ih _ _ _ _ _ _ _ e i0.2.2.1
          refine ⟨zz_inv_tr i0 i1, ?_⟩
          intro p e R s m args below meth c H locs ls cells slots Q D cA B b hC hll hL hR hS hcc hrm hret
          have a1 := i0.1
          have a2 := i0.2.1
          have a3 := i1.1
          have a4 := i1.2.1
          refine zz_size hR hS hC.2.2.2.2.2.2.2.2.2.1 hcc (fun hsz => ?_)
          refine zz_h_so (h' := h1) hall.2.2 hC (by rw [hC.2.1]; exact hd) hn hck hll hR hS hL hsz ⟨by omega, by omega⟩ hh (fun ls' H' locs' hL' hR' hS' => ?_)
          have hC' : zz_cx p s m args meth c R D cA B b k h1.2.1 := by
            obtain ⟨c1, c2, c3, c4, c5, c6, c7, c8, c9, c10, c11⟩ := hC
            refine ⟨c1, c2, c3, c4, c5, c6, c7, c8, c9, c10, ?_⟩
            rw [i0.2.2.2 zz_scr (Nat.le_refl _), i0.2.2.2 (zz_scr + 1) (Nat.le_succ _)]
            exact c11
          refine w1 p e R s m args below meth c H' locs' ls' _ _ Q D cA B b hC' (by rw [hLeq]; exact hll) hL' hR' hS' (by omega) ⟨by omega, by omega⟩ ?_
          intro pc' ls'' H'' locs'' S'' ins' n' aux' g1 g2 g3 g4
          have := hret pc' ls'' H'' locs'' S'' ins' n' aux' g1 g2 g3 g4
          rw [zz_ar a1 a3, zz_ar a2 a4]
          exact this
      · simp only [Option.some.injEq, Prod.mk.injEq] at e
        obtain ⟨rfl, rfl⟩ := e
        obtain ⟨ins, nn, aux, hc, hr⟩ := zz_st0_ret hs
        refine ⟨zz_inv_rf hscr, ?_⟩
        intro p e R s m args below meth c H locs ls cells slots Q D cA B b hC hll hL hR hS hcc hrm hret
        have := hret pc ls H locs S ins nn aux hc hr hR hS
        rw [Nat.sub_self, Nat.sub_self] at this
        exact this
      · simp only at e
        cases hcal : zz_ex n j 0 (zz_ini j as) [] h with
        | none => rw [hcal] at e; simp at e
        | some q =>
          obtain ⟨v, h1⟩ := q
          rw [hcal] at e
          obtain ⟨i0, w0⟩ := ih _ _ _ _ _ _ _ hcal hscr
          obtain ⟨i1, w1⟩ := ih _ _ _ _ _ _ _ e i0.2.2.1
          refine ⟨zz_inv_tr i0 i1, ?_⟩
          intro p e R s m args below meth c H locs ls cells slots Q D cA B b hC hll hL hR hS hcc hrm hret
          obtain ⟨ins, nn, aux, hc, hcl⟩ := zz_stp_call hs
          obtain ⟨hd, hn, -, -, hckC⟩ := zz_ck_use hall hc
          have a1 := i0.1
          have a2 := i0.2.1
          have a3 := i1.1
          have a4 := i1.2.1
          have hC' : zz_cx p s m args meth c R D cA B b k h1.2.1 := by
            obtain ⟨c1, c2, c3, c4, c5, c6, c7, c8, c9, c10, c11⟩ := hC
            refine ⟨c1, c2, c3, c4, c5, c6, c7, c8, c9, c10, ?_⟩
            rw [i0.2.2.2 zz_scr (Nat.le_refl _), i0.2.2.2 (zz_scr + 1) (Nat.le_succ _)]
            exact c11
          obtain ⟨hx, hb, hml, hown, hts, hnm, hrf1, hrf2, hX, hBs, hsc⟩ := hC
          have go : ∀ (H1 : Heap) (locs1 : List Loc), zz_HR D cA B h1 H1 → va_S (zz_A B) s.heap H1 locs1 → W p l e R s m args below meth c H1 locs1 (cells + (h1.1.length - h.1.length)) (slots + (zz_sl h1 - zz_sl h)) Q (F0 m (pc + 3) ls ((v.toList ++ S1).map (zz_mv B b))) := by
            intro H1 locs1 hR1 hS1
            refine w1 p e R s m args below meth c H1 locs1 ls _ _ Q D cA B b hC' hll hL hR1 hS1 (by omega) ⟨by omega, by omega⟩ ?_
            intro pc' ls'' H'' locs'' S'' ins' n' aux' g1 g2 g3 g4
            have := hret pc' ls'' H'' locs'' S'' ins' n' aux' g1 g2 g3 g4
            rw [zz_ar a1 a3, zz_ar a2 a4]
            exact this
          have hlsz : ls.size = c.maxLocals := hL.1.trans hll
          refine zz_size hR hS hBs hcc (fun hsz => ?_)
          have fitsU : ∀ {jj : Nat}, zz_fits k jj = true → jj ≠ 0 ∧ jj < 243 ∧ (zz_m jj).2.2.2.2.2.2.1 + 1 ≤ R.frames ∧ 8 + ((zz_m jj).2.2.1 + 11) + (zz_m jj).2.2.2.2.2.2.2.1 ≤ R.locals := fun {jj} hf => by
            simp only [zz_fits, Bool.and_eq_true, decide_eq_true_eq] at hf
            exact ⟨hf.1.1.1, hf.1.1.2, by omega, by omega⟩
          have hpre : ∀ U : State, U.heap = H → s.WarmedH U.vm → zz_Pc D cA B b as h (as.map (zz_mv B b)).toArray U := fun U hU hW => ⟨rfl, by rw [hU]; exact hsz, by rw [hU]; exact hR, zz_X_warm hW hX⟩
          have hrmc : cells + (h1.1.length - h.1.length) ≤ R.cells ∧ slots + (zz_sl h1 - zz_sl h) ≤ R.slots := ⟨by omega, by omega⟩
          unfold zz_c at hcl
          split at hcl
          -- static
          · rename_i idx jj wp nest
            split at hcl
            · rename_i hg
              obtain ⟨hg1, hg2, hg3⟩ := hg
              cases hcl
              simp only [zz_ckC, Bool.and_eq_true, decide_eq_true_eq] at hckC
              obtain ⟨⟨hf, hne⟩, h99⟩ := hckC
              obtain ⟨hj0, hj, hfr, hlo⟩ := fitsU hf
              obtain ⟨hpl, hyd, hcw, hiw, hst, -⟩ := zz_ckm_use (hall.2.1 _ hj0 hj)
              have hM := zz_met hall l hj0 hj hg3 w0 D cA B b
              have hd3 : decode (zz_m k).2.1 pc = .ok (.invokestatic idx, 3) := by rcases hn with q | q <;> first | (rw [q] at hd; exact hd) | cases q
              have hlenA : ((S.take (zz_m j).2.2.2.2.2.1).reverse.map (zz_mv B b)).length = (zz_m j).2.2.2.2.2.1 := by simp; omega
              have hstk : S.map (zz_mv B b) = ((S.take (zz_m j).2.2.2.2.2.1).reverse.map (zz_mv B b)).reverse ++ (S.drop (zz_m j).2.2.2.2.2.1).map (zz_mv B b) := by
                rw [← List.map_reverse, List.reverse_reverse, ← List.map_append, List.take_append_drop]
              have hcat : 2 * (F0 m pc ls (S.map (zz_mv B b))).monitorRoom + (((S.drop (zz_m j).2.2.2.2.2.1).map (zz_mv B b)).map fun v => v.category).sum ≤ 8 := by
                rw [zz_mv_sum]
                show 2 * 0 + _ ≤ 8
                omega
              cases hnz : nest with
              | zero =>
                rw [hnz] at hne
                have hlk : (Cond.methodLink (zz_own k) idx (zz_m j).1).before args s = true := hts _ (zz_has_in hne)
                exact zz_behind (va_runS (g := F0 m pc ls (S.map (zz_mv B b))) ⟨hx, hb, hml, hown, hts⟩ hM ⟨callB_of _ hts (zz_good_wk hcw) rfl rfl rfl (hts _ hiw) hlk hyd ⟨hfr, hlo⟩, hts _ (hst h99)⟩ ⟨zz_blind, hpre⟩ rfl hlenA (hlsz.trans hml) hstk hcat hd3 hrmc) hS go
              | succ nz =>
                rw [hnz] at hne
                have hlk := hX.2 _ (zz_hasn_in hne)
                exact zz_behind (va_runSN (g := F0 m pc ls (S.map (zz_mv B b))) ⟨hx, hb, hml, hown, hts⟩ hM ⟨va_cnB _ hts (zz_good_wk hcw) rfl rfl rfl hlk (hts _ hiw) hyd ⟨hfr, hlo⟩, hts _ (hst h99), trivial⟩ ⟨zz_blind, hpre⟩ rfl hlenA (hlsz.trans hml) hstk hcat hd3 hrmc) hS go
            · cases hcl
          -- virtual
          · rename_i idx jj wp nest
            split at hcl
            · rename_i a S2 hdrop
              split at hcl
              · rename_i hg
                obtain ⟨hg1, hg2, hga, hgk, hg3⟩ := hg
                cases hcl
                simp only [zz_ckC, Bool.and_eq_true, decide_eq_true_eq] at hckC
                obtain ⟨⟨⟨hf, hne⟩, hci⟩, hni⟩ := hckC
                obtain ⟨hj0, hj, hfr, hlo⟩ := fitsU hf
                obtain ⟨hpl, hyd, hcw, hiw, -, hiv⟩ := zz_ckm_use (hall.2.1 _ hj0 hj)
                obtain ⟨hin, hcn, hsel⟩ := hiv (by omega)
                have hM := zz_met hall l hj0 hj hg3 w0 D cA B b
                have hd3 : decode (zz_m k).2.1 pc = .ok (.invokevirtual idx, 3) := by rcases hn with q | q <;> first | (rw [q] at hd; exact hd) | cases q
                have hlenA : ((S.take (zz_m j).2.2.2.2.2.1).reverse.map (zz_mv B b)).length = (zz_m j).2.2.2.2.2.1 := by simp; omega
                have hstk : S.map (zz_mv B b) = ((S.take (zz_m j).2.2.2.2.2.1).reverse.map (zz_mv B b)).reverse ++ .ref (B + a) :: S1.map (zz_mv B b) := by
                  rw [← zz_mv_ref B b hga, ← List.map_cons, ← hdrop, ← List.map_reverse, List.reverse_reverse, ← List.map_append, List.take_append_drop]
                have hcat : 2 * (F0 m pc ls (S.map (zz_mv B b))).monitorRoom + ((S1.map (zz_mv B b)).map fun v => v.category).sum ≤ 8 := by
                  rw [zz_mv_sum]
                  show 2 * 0 + _ ≤ 8
                  omega
                have hlt : a < h.1.length := zz_lt_of_kd hgk (by omega)
                have hrecv := va_recv hX.1 hR (hall.2.2.1 _ hci).1 ((zz_w_at hlt).trans (by rw [zz_en_o hgk]))
                simp only at hrecv
                rw [hcn] at hrecv
                have has : (Value.ref a :: (S.take (zz_m j).2.2.2.2.2.1).reverse).map (zz_mv B b) = Value.ref (B + a) :: (S.take (zz_m j).2.2.2.2.2.1).reverse.map (zz_mv B b) := by rw [List.map_cons, zz_mv_ref B b hga]
                rw [has] at hpre
                cases hnz : nest with
                | zero =>
                  rw [hnz] at hne
                  have hlk : (Cond.methodLink (zz_own k) idx (zz_m j).1).before args s = true := hts _ (zz_has_in hne)
                  exact zz_behind (va_runV (C := (zz_m j).1.cls) (g := F0 m pc ls (S.map (zz_mv B b))) ⟨hx, hb, hml, hown, hts⟩ hM ⟨callB_of _ hts (zz_good_wk hcw) rfl rfl rfl (hts _ hiw) hlk hyd ⟨hfr, hlo⟩, hts _ hin, hts _ (hsel hni)⟩ ⟨zz_blind, hrecv, hpre⟩ rfl hlenA (hlsz.trans hml) hstk hcat hd3 hrmc) hS go
                | succ nz =>
                  rw [hnz] at hne
                  have hlk := hX.2 _ (zz_hasn_in hne)
                  exact zz_behind (va_runVN (C := (zz_m j).1.cls) (g := F0 m pc ls (S.map (zz_mv B b))) ⟨hx, hb, hml, hown, hts⟩ hM ⟨va_cnB _ hts (zz_good_wk hcw) rfl rfl rfl hlk (hts _ hiw) hyd ⟨hfr, hlo⟩, hts _ hin, hts _ (hsel hni)⟩ ⟨zz_blind, hrecv, hpre⟩ rfl hlenA (hlsz.trans hml) hstk hcat hd3 hrmc) hS go
              · cases hcl
            · cases hcl
          -- special
          · rename_i idx jj wp nest
            split at hcl
            · rename_i a S2 hdrop
              split at hcl
              · rename_i hg
                obtain ⟨hg1, hg2, hga, hgk, hg3⟩ := hg
                cases hcl
                simp only [zz_ckC, Bool.and_eq_true, decide_eq_true_eq] at hckC
                obtain ⟨⟨⟨⟨hf, hne⟩, hci⟩, hni⟩, hrtn⟩ := hckC
                obtain ⟨hj0, hj, hfr, hlo⟩ := fitsU hf
                obtain ⟨hpl, hyd, hcw, hiw, -, hiv⟩ := zz_ckm_use (hall.2.1 _ hj0 hj)
                obtain ⟨hin, hcn, -⟩ := hiv (by omega)
                have hM := zz_met hall l hj0 hj hg3 w0 D cA B b
                have hgw := zz_good_wk hcw
                unfold zz_wk at hM hgw
                rw [hrtn] at hM hgw
                have hd3 : decode (zz_m k).2.1 pc = .ok (.invokespecial idx, 3) := by rcases hn with q | q <;> first | (rw [q] at hd; exact hd) | cases q
                have hlenA : ((S.take (zz_m j).2.2.2.2.2.1).reverse.map (zz_mv B b)).length = (zz_m j).2.2.2.2.2.1 := by simp; omega
                have hstk : S.map (zz_mv B b) = ((S.take (zz_m j).2.2.2.2.2.1).reverse.map (zz_mv B b)).reverse ++ .ref (B + a) :: S1.map (zz_mv B b) := by
                  rw [← zz_mv_ref B b hga, ← List.map_cons, ← hdrop, ← List.map_reverse, List.reverse_reverse, ← List.map_append, List.take_append_drop]
                have hcat : 2 * (F0 m pc ls (S.map (zz_mv B b))).monitorRoom + ((S1.map (zz_mv B b)).map fun v => v.category).sum ≤ 8 := by
                  rw [zz_mv_sum]
                  show 2 * 0 + _ ≤ 8
                  omega
                have has : (Value.ref a :: (S.take (zz_m j).2.2.2.2.2.1).reverse).map (zz_mv B b) = Value.ref (B + a) :: (S.take (zz_m j).2.2.2.2.2.1).reverse.map (zz_mv B b) := by rw [List.map_cons, zz_mv_ref B b hga]
                rw [has] at hpre
                cases hnz : nest with
                | zero =>
                  rw [hnz] at hne
                  have hlk : (Cond.methodLink (zz_own k) idx (zz_m j).1).before args s = true := hts _ (zz_has_in hne)
                  exact zz_behind (va_runI (g := F0 m pc ls (S.map (zz_mv B b))) ⟨hx, hb, hml, hown, hts⟩ hM ⟨callB_of _ hts hgw rfl rfl rfl (hts _ hiw) hlk hyd ⟨hfr, hlo⟩, hni, hts _ hin⟩ ⟨zz_blind, hpre⟩ rfl hlenA (hlsz.trans hml) hstk hcat hd3 hrmc) hS go
                | succ nz =>
                  rw [hnz] at hne
                  have hlk := hX.2 _ (zz_hasn_in hne)
                  exact zz_behind (va_runIN (g := F0 m pc ls (S.map (zz_mv B b))) ⟨hx, hb, hml, hown, hts⟩ hM ⟨va_cnB _ hts hgw rfl rfl rfl hlk (hts _ hiw) hyd ⟨hfr, hlo⟩, hni, hts _ hin⟩ ⟨zz_blind, hpre⟩ rfl hlenA (hlsz.trans hml) hstk hcat hd3 hrmc) hS go
              · cases hcl
            · cases hcl
          · cases hcl
