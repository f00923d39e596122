/-! AT THE START: classes, arrays -/
theorem zw_nw {w : Cond} {s : State} {args : Array Value} (h : zz_isn w = true) (hb : w.before args s = true) : va_Nw w s := by
  unfold zz_isn at h
  split at h
  · exact va_tabs rfl rfl hb
  · exact hb
  · exact hb
  · cases h
theorem zw_start {s : State} {args : Array Value} (hts : ∀ w ∈ lw_tbl, w.before args s = true) : ∃ (D : va_G) (cA : Nat → ClassId), zz_X D cA s := by
  have hws : ∀ w ∈ zz_ws, w.before args s = true := fun w hw => hts w (List.mem_filter.mp hw).1
  have hnw : ∀ w ∈ zz_nw, va_Nw w s := fun w hw => zw_nw (List.mem_filter.mp hw).2 (hts w (List.mem_filter.mp hw).1)
  have hok := zz_ok.2.2
  have key : ∀ ci, ∃ (cC : ClassId) (iS : Nat → Nat), ci < 10 → u_Kn s (zz_nth "" zz_R ci) (zz_T ci) (zz_nth 0 zz_N ci) cC iS := fun ci => by
    by_cases h : ci < 10
    · obtain ⟨a1, a2, a3⟩ := u_known (n := zz_nth 0 zz_N ci) hws (hok.1 ci h).2.1 (hws _ (hok.1 ci h).2.2.2.2.1)
      exact ⟨a1, a2, fun _ => a3⟩
    · obtain ⟨a1, a2, a3⟩ := u_known (n := zz_nth 0 zz_N 0) hws (hok.1 0 (by decide)).2.1 (hws _ (hok.1 0 (by decide)).2.2.2.2.1)
      exact ⟨a1, a2, fun q => absurd q h⟩
  obtain ⟨c0, k0, p0, f0, g0, h0⟩ := Cond.arrayClass_spec (hws _ hok.2.1.1)
  obtain ⟨c1, k1, p1, f1, g1, h1⟩ := Cond.arrayClass_spec (hws _ hok.2.1.2.1)
  obtain ⟨c2, k2, p2, f2, g2, h2⟩ := Cond.arrayClass_spec (hws _ hok.2.1.2.2)
  obtain ⟨p3, c3, k3, e3, -, g3, h3, f3⟩ := Cond.arrayOver_spec (hnw _ hok.2.2.1.1)
  obtain ⟨p4, c4, k4, e4, -, g4, h4, f4⟩ := Cond.arrayOver_spec (hnw _ hok.2.2.1.2.1)
  obtain ⟨p5, c5, k5, e5, -, g5, h5, f5⟩ := arrayOverA_spec (hnw _ hok.2.2.1.2.2)
  refine ⟨(fun ci => Classical.choose (key ci), fun ci => Classical.choose (Classical.choose_spec (key ci))), fun i => zz_nth c5 [c0, c1, c2, c3, c4] i, ⟨fun ci q hq => ?_, fun k q hq => ?_⟩, hnw⟩
  · have hl : ci < 10 := (List.getElem?_eq_some_iff.mp hq).1
    have e := (hok.1 ci hl).1
    rw [hq] at e
    cases e
    exact Classical.choose_spec (Classical.choose_spec (key ci)) hl
  · match k, hq with
    | 0, hq => cases hq; exact ⟨fun n z => ⟨(fun k h => by cases h), k0, g0, p0, h0⟩, f0⟩
    | 1, hq => cases hq; exact ⟨fun n z => ⟨(fun k h => by cases h), k1, g1, p1, h1⟩, f1⟩
    | 2, hq => cases hq; exact ⟨fun n z => ⟨(fun k h => by cases h), k2, g2, p2, h2⟩, f2⟩
    | 3, hq => cases hq; exact ⟨fun n z => ⟨(fun k h => by cases h), k3, g3, p3, h3⟩, k3, p3, g3, h3, e3, f3⟩
    | 4, hq => cases hq; exact ⟨fun n z => ⟨(fun k h => by cases h), k4, g4, p4, h4⟩, k4, p4, g4, h4, e4, f4⟩
    | 5, hq => cases hq; exact ⟨fun n z => ⟨(fun k h => by cases h), k5, g5, p5, h5⟩, f5⟩
    | k + 6, hq => cases hq
theorem zw_ret {ins : Instr} {S : List Value} {rt : Option FieldType} (hrt : rt = some .boolean) (h : zz_r ins rt S = some (some (.int (nI 1)))) : ins = .ireturn ∧ S = [.int (nI 1)] := by
  subst hrt
  unfold zz_r at h
  split at h
  · cases h; exact ⟨rfl, rfl⟩
  · split at h
    · cases h; exact ⟨rfl, rfl⟩
    · cases h
  · cases h
  · cases h
  · cases h
/-! THE CLAIM OUT OF ONE WALK OF THE LAW'S BODY. Your part is whole_start (and what it stands on); all else here is the same for every law, but numbers. -/
def R_law : String := "HouseOfHoursLaw"
def lw_P (b : Addr) (xs : List Int32) (args : Array Value) (s : State) : Prop := args = #[.ref b] ∧ s.IntsAt b xs ∧ xs.length ≤ 384 ∧ (Jvm.Cond.and given_1 narrow_1).before args s = true
def lw_Q (_ : Array Value) (s : State) (o : Outcome) (t : State) : Prop := o = .returned (some (.int 1)) ∧ Framed s o t [] 600000 7302250
def lw_Z (below : List Frame) (a : Array Value) (s : State) : State → Prop := fun t => ∃ o, t.status = .running ∧ Ended t below o ∧ lw_Q a s o t
/-- the law's own end, with 1 on the stack, nothing written that was there before, its room as the claim has it -/
theorem lw_ret {p : Program} {l : Launch} {e : Env} {s : State} {m : MethodId} {below : List Frame} {meth : Method} {c : Code} {b : Nat} (hx : p.tables.exec = Jvm.exec) (hb : c.code = code) (hr : meth.sig.returnType = ret) (hlocks : meth.locks = false) {pc : Nat} {H : Heap} {ls : Array Slot} (hdg : decode code pc = .ok (.ireturn, 1)) : W p l e room_1 s m #[Value.ref b] below meth c H [] 600000 7302250 (lw_Z below #[Value.ref b] s) (F0 m pc ls [.int 1]) := by
  intro T hT X
  obtain ⟨fs, hret, hrun, hended, hW, hframe⟩ := X.leave (v := some (.int 1)) (hlocks := hlocks) (fun h => by rw [hr] at h; cases h)
  have hmeth' : T.vm.method? m = some meth := X.method'
  refine ⟨T.setFrames fs, ?_, .returned (some (.int 1)), hrun, hended, rfl, ⟨_, rfl⟩, hW, hframe⟩
  jvm_step X.here [X.here.top, hx, hb, hdg, hmeth', hr, ret, narrow_b1]
  (try refine ⟨rfl, ?_⟩); (try refine ⟨rfl, ?_⟩)
  first | (intro acts; rw [hret _ acts rfl rfl rfl]) | rw [hret _ _ rfl rfl rfl]
  exact Steps.refl _
/-- what holds at the law's entry: the machine, the code, the tables' words (any of lw_tbl by 'hts w (by decide +kernel)'), the script of L ints xs at the cell b, what the Statement gives of the start (any of its parts by flat_of_before) -/
def lw_At (p : Program) (s : State) (m : MethodId) (meth : Method) (c : Code) (b L : Nat) (xs : Nat → Int32) : Prop :=
  p.tables.exec = Jvm.exec ∧ c.code = code ∧ meth.sig.returnType = ret ∧ c.maxLocals = 4 ∧ s.vm.findClass R_law = some m.cls ∧ (∀ w ∈ lw_tbl, w.before #[Value.ref b] s = true) ∧ va_X b L xs s s.heap ∧ b < s.heap.size ∧ meth.locks = false ∧ (Jvm.Cond.and given_1 narrow_1).before #[Value.ref b] s = true
theorem whole_start {p : Program} {e : Env} {s : State} {m : MethodId} {below : List Frame} {meth : Method} {c : Code} (l : Launch) {b L : Nat} {xs : Nat → Int32} (hL : L ≤ 384) (hname : meth.name = x.name) (C0 : lw_At p s m meth c b L xs) : W p l e room_1 s m #[Value.ref b] below meth c s.heap [] 0 0 (lw_Z below #[Value.ref b] s) (entryFrame m ([Value.ref b] : List Value).toArray 4) := by
  obtain ⟨hx, hb, hr, hml, hown, hts, hX, hbl, hlocks, -⟩ := C0
  obtain ⟨D, cA, hDX⟩ := zw_start hts
  have hws : ∀ w ∈ zz_ws, w.before #[Value.ref b] s = true := fun w hw => hts w (List.mem_filter.mp hw).1
  obtain ⟨f, hf1, hf2⟩ : ∃ f : Nat → Nat → Int32, f zz_scr = xs ∧ f (zz_scr + 1) 0 = nI L := ⟨fun a j => if a = zz_scr then xs j else nI L, by funext j; exact if_pos rfl, if_neg (by decide)⟩
  obtain ⟨h', ev, hsh⟩ := lw_run l f (fun _ _ => 0) hL hf2
  obtain ⟨n, en⟩ := zz_ev_iff.mp ev
  obtain ⟨-, ws⟩ := zz_sound zz_ok l n 0 0 _ _ _ _ _ en (Nat.zero_le _)
  have cl : (f (zz_scr + 1) 0).toNatClampNeg = L := by rw [hf2]; exact nI_clamp (by omega)
  have e128 : zSH.length = 128 := by decide +kernel
  have esl : zz_sl h' ≤ 7302250 := by unfold zz_sl; rw [hsh]; decide +kernel
  rw [lg_entry_eq]
  have hmv : zz_mv s.heap.size b (.ref zz_scr) = .ref b := by simp [zz_mv]
  have hLR := zz_LR_ini (B := s.heap.size) (b := b) (k := 0) (as := [.ref zz_scr]) (by decide +kernel)
  rw [List.map_cons, hmv, List.map_nil] at hLR
  refine ws p e room_1 s m #[Value.ref b] below meth c s.heap [] _ 0 0 _ D cA s.heap.size b ⟨hx, hb, hml, hown, hws, hname, by decide +kernel, by decide +kernel, hDX, Nat.le_refl _, fun _ => ⟨by show va_X b (f (zz_scr + 1) 0).toNatClampNeg (f zz_scr) s s.heap; rw [cl, hf1]; exact hX, hbl, hbl, L, hL, hf2⟩⟩ hml.symm hLR (fun k q h => by cases h) va_S.rf rfl ⟨?_, ?_⟩ ?_
  · show 0 + (h'.1.length - 0) ≤ 600000
    rw [hsh, e128]; decide
  · show 0 + (zz_sl h' - 0) ≤ 7302250
    omega
  · intro pc' ls' H' locs' S' ins nn aux hc hrr hR' hS'
    obtain ⟨hd, hn, -, -, -⟩ := zz_ck_use zz_ok hc
    obtain ⟨rfl, rfl⟩ := zw_ret rfl hrr
    have hd1 : decode code pc' = .ok (.ireturn, 1) := by rcases hn with q | q <;> first | (rw [q] at hd; exact hd) | cases q
    refine va_forget (fun q hq => hS'.2.2 q hq) ?_
    refine W.widen (k := 600000) (n := 7302250) ?_ ?_ ?_
    · show 0 + (h'.1.length - 0) ≤ 600000
      rw [hsh, e128]; decide
    · show 0 + (zz_sl h' - 0) ≤ 7302250
      omega
    · exact lw_ret hx hb hr hlocks hd1
set_option maxHeartbeats 4000000 in
theorem lw_walk (l : Launch) (b : Addr) (xs : List Int32) : MetFree l x (headSpec (Jvm.Cond.code x code maxLocals ret :: tables_1) room_1) (lw_P b xs) (fun _ _ _ _ _ => True) lw_Q := by
  refine MetFree.of_bodyS (code := code) (maxLocals := maxLocals) (ret := ret) (by decide) ?_ ?_
  · intro args s m h hn
    obtain ⟨meth, c, h1, h2, h3, h4, h5, h6, -, -⟩ := Cond.code_spec hn (atoms_spec (ws := Jvm.Cond.code x code maxLocals ret :: tables_1) h _ List.mem_cons_self)
    exact ⟨meth, c, h1, h2, h3, h4, h5, h6⟩
  · intro p e s m args below meth c s₁ B hml0 hP _
    obtain ⟨rfl, hx, hbd, hgv⟩ := hP
    obtain ⟨scr, harrAt, hlist, hof, hsmall⟩ := hx
    obtain ⟨hcb, hkn, -, -⟩ := State.arrayAt?_spec harrAt
    have hown : s.vm.findClass R_law = some m.cls := findClass_of_methodNamed B.named
    have hts0 : ∀ c ∈ (Jvm.Cond.code x code maxLocals ret :: tables_1), c.before #[Value.ref b] s = true := atoms_spec (ws := Jvm.Cond.code x code maxLocals ret :: tables_1) B.pre
    have hts : ∀ w ∈ lw_tbl, w.before #[Value.ref b] s = true := k2_hts_sels lw_privs (fun w hw => hts0 w (List.mem_cons_of_mem _ hw)) lw_privs_ok
    have hml : c.maxLocals = 4 := B.maxLocals_eq (hts0 _ List.mem_cons_self)
    have X₀ : Stand p l e room_1 s m #[Value.ref b] below meth c s₁ [] 0 0 := Stand.of_body B
    have hh0 : s₁.heap = s.heap := by rw [B.state]; rfl
    have hsz : scr.slots.size = xs.length := by rw [← Array.length_toList, hlist, List.length_map]
    have hval : ∀ j : Nat, j < xs.length → scr.slots[j]? = some (.int (xs.getD j 0)) := fun j hj => by
      rw [← Array.getElem?_toList, hlist]
      simp [hj]
    have hbl : b < s.heap.size := (Array.getElem?_eq_some_iff.mp hcb).1
    have hX : va_X b xs.length (fun j => xs.getD j 0) s s.heap := ⟨scr, hcb, hof, hkn, hsz, hval⟩
    have K : W p l e room_1 s m #[Value.ref b] below meth c s₁.heap [] 0 0 (lw_Z below #[Value.ref b] s) (entryFrame m ([Value.ref b] : List Value).toArray 4) := by
      rw [hh0]
      exact whole_start l hbd (name_of_methodNamed B.named B.method).1 ⟨B.exec, B.bytes, B.returns, hml, hown, hts, hX, hbl, B.notSynchronized, hgv⟩
    obtain ⟨t, a1, o, b1, b2, b3⟩ := K s₁ rfl X₀
    exact ⟨t, o, a1, b1, b2, b3⟩
theorem lw_pre_spec {args : Array Value} {s : State} (h : (Jvm.Cond.and given_1 narrow_1).before args s = true) (hr : rest_1_c.before args s = true) : ∃ (b : Addr) (xs : List Int32), lw_P b xs args s := by
  have hs := flat_of_before _ h
  have hq := flat_of_before _ hr
  have hc : (Cond.count 1).before args s = true := hs _ (by decide +kernel)
  have harr : (Cond.arrayOf (.arg 0) .int).before args s = true := hs _ (by decide +kernel)
  have hle : (Cond.le (.length (.arg 0)) (.int 384)).before args s = true := hs _ (by decide +kernel)
  have hlen : (Cond.isInt (.length (.arg 0))).before args s = true := hq _ (by decide +kernel)
  have hall : (Cond.all (.arg 0) (.isInt (.elem (.arg 0) (.index 0)))).before args s = true := hq _ (by decide +kernel)
  obtain ⟨b, xs, hb, hx⟩ := State.ints_of_pre rfl harr hlen hall
  have hsm : xs.length < 2 ^ 31 := hx.choose_spec.2.2.2
  have hev : (Term.length (.arg 0)).eval args s none [] s = some (.int xs.length.toInt32) := hx.length_eval hb
  have hv := Cond.le_ints hev (show (Term.int 384).eval args s none [] s = some (.int 384) from rfl)
  have hd : xs.length.toInt32 ≤ 384 := by
    simpa [Cond.before, Cond.holds, hv] using hle
  have hN : xs.length ≤ 384 := (Int32.ofNat_le_ofNat hsm (by decide)).mp (show Int32.ofNat xs.length ≤ Int32.ofNat 384 from hd)
  exact ⟨b, xs, Cond.one_arg hc (show args[0]? = some (.ref b) from hb), hx, hN, h⟩
theorem lw_comes (l : Launch) : Comes l x (Jvm.Cond.code x code maxLocals ret :: tables_1) room_1 (fun tb e args s => Calls_1 tb e args s ∧ rest_1 tb e args s ∧ Pre_1 tb e args s)
    (fun _ _ args s o t => lw_Q args s o t) := by
  intro p e ha hc hk s m args below hf hfit hheap happ hpre
  obtain ⟨b, xs, hP⟩ := lw_pre_spec hpre.2.2 hpre.2.1
  obtain ⟨k, o, h1, h2, h3, hQ⟩ := lw_walk l b xs p e ha hc hk s m args below hf ((Spec.applies_iff_loose hf).mp happ).1 hP trivial
  exact ⟨k, o, h1, h2, h3, hQ⟩
theorem lw_frame {s t : State} {o : Outcome} {args : Array Value} (h : Framed s o t [] 600000 7302250) :
    Framed s o t (fieldLocs frame_1_writes args s ++ arrayLocs frame_1_arrays args s ++ staticLocs frame_1_statics s) 600000 7302250 := h
theorem lw_limb (L : Cond) (hL : ∀ (args : Array Value) (s t : State), L.after args s (.returned (some (.int 1))) t = true) :
    ArmFor flags0 classFile x code maxLocals ret World_1 tables_1 room_1 Calls_1 rest_1 Pre_1
      (fun tb e a s o t => postC L tb e a s o t ∧ Framed s o t (fieldLocs frame_1_writes a s ++ arrayLocs frame_1_arrays a s ++ staticLocs frame_1_statics s) 600000 7302250) := by
  intro l _ _ _ p e ha hc hk s m args below hf hfit hheap happ hpre
  obtain ⟨k, o, h1, h2, h3, rfl, hF⟩ := lw_comes l p e ha hc hk s m args below hf hfit hheap happ hpre
  exact ⟨k, _, h1, h2, h3, hL args s _, lw_frame hF⟩
theorem i_vc : Claimed_1_1 ∧ Claimed_1_2 := ⟨lw_limb limb_1_1 (fun args s t => by simp [limb_1_1, Cond.after, Cond.holds, Cond.value]), lw_limb limb_1_2 (fun args s t => Cond.after_iff.mpr (by
  first | (rw [show limb_1_2 = Cond.eq .result (.int 1) from rfl, Cond.eq_ints (x := 1) (y := 1) rfl rfl]; simp; done) | (simp [limb_1_2, Cond.value, Term.eval]; done)))⟩
