/-! SOUNDNESS, 2: instructions without heap -/
theorem zz_LR_ini {B b k : Nat} {as : List Value} (hl : (zz_slots as).length ≤ (zz_m k).2.2.1) : zz_LR B b (zz_ini k as) ((lg_sl (as.map (zz_mv B b)) ++ List.replicate ((zz_m k).2.2.1 - (lg_sl (as.map (zz_mv B b))).length) Slot.unset).toArray) := by
  have e := zz_slots_len as B b
  have h := lv_entry (as.map (zz_mv B b)) (n := (zz_m k).2.2.1) (by rw [e]; exact hl)
  refine ⟨by rw [h.1]; simp [zz_ini]; omega, h.2.1, fun i v hi hv => ?_⟩
  have hi' : (zz_slots as)[i]? = some v := by
    unfold zz_ini at hi
    by_cases hlt : i < (zz_slots as).length
    · rwa [List.getElem?_append_left hlt] at hi
    · rw [List.getElem?_append_right (by omega)] at hi
      exact absurd (List.eq_of_mem_replicate (List.mem_of_getElem? hi)) hv
  have := zz_slots_at (B := B) (b := b) as 0 i v hi' hv
  rw [Nat.zero_add] at this
  exact h.2.2 _ this
/-- how long an instruction is (0: as the table says) -/
def zz_il : Instr → Nat
  | .bipush _ | .iload _ | .lload _ | .aload _ | .istore _ | .lstore _ | .astore _ | .ldc _ | .newarray _ => 2
  | .sipush _ | .iinc _ _ | .goto _ | .ifCond _ _ | .if_icmp _ _ | .getfield _ | .putfield _ | .invokestatic _ | .invokevirtual _ | .invokespecial _ | .new _ | .anewarray _ | .ldc_w _ | .ldc2_w _ => 3
  | .multianewarray _ _ => 4
  | .tableswitch _ _ _ _ | .lookupswitch _ _ => 0
  | _ => 1
/-- its jumps stay in the method; a switch's matches rise -/
def zz_jk (ins : Instr) (pc : Nat) : Bool := match ins with
  | .iconst n => decide (Int32.ofInt n = zz_ic n)
  | .bipush n => decide ((Int8.ofInt n).toInt32 = zz_ic n)
  | .sipush n => decide ((Int16.ofInt n).toInt32 = zz_ic n)
  | .iinc _ n => decide (Int32.ofInt n = zz_ic n)
  | .goto off => decide (0 ≤ (pc : Int) + off)
  | .ifCond _ off => decide (0 ≤ (pc : Int) + off)
  | .if_icmp _ off => decide (0 ≤ (pc : Int) + off)
  | .tableswitch d _ _ offs => decide (0 ≤ (pc : Int) + d) && offs.toList.all (fun off => decide (0 ≤ (pc : Int) + off))
  | .lookupswitch d ps => decide (0 ≤ (pc : Int) + d) && ps.toList.all (fun q => decide (0 ≤ (pc : Int) + q.2)) && (ps.toList.zip (ps.toList.drop 1)).all (fun (a, next) => a.1 < next.1)
  | _ => true
theorem zz_tg_eq {pc : Nat} {off : Int} (h : 0 ≤ (pc : Int) + off) : (pc : Int) + off = ((zz_tg pc off : Nat) : Int) := by
  unfold zz_tg; omega
theorem zz_look_in (x d : Int) : ∀ (l : List (Int × Int)), Op.lookupswitch.offset l d x = d ∨ ∃ q ∈ l, Op.lookupswitch.offset l d x = q.2
  | [] => Or.inl rfl
  | (a, o) :: l => by
    rw [Op.lookupswitch.offset_cons]
    split
    · exact Or.inr ⟨(a, o), List.mem_cons_self, rfl⟩
    · rcases zz_look_in x d l with h | ⟨q, h1, h2⟩
      · exact Or.inl h
      · exact Or.inr ⟨q, List.mem_cons_of_mem _ h1, h2⟩
section ZP
variable {p : Program} {l : Launch} {e : Env} {R : Room} {s : State} {m : MethodId} {args : Array Value} {below : List Frame} {meth : Method} {c : Code} {H : Heap} {locs : List Loc} {cells slots : Nat} {Q : State → Prop} {B b : Nat} {cc : ByteArray} {pc pc' : Nat} {ls : Array Slot} {L S L' S' : List Value}
theorem zz_so_iload {i n : Nat} (h : zz_iload i n L S = some (pc', L', S')) (hL : zz_LR B b L ls) : ∃ x, ls[i]? = some (.val (.int x)) ∧ pc' = n ∧ L' = L ∧ S' = .int x :: S := by
  unfold zz_iload at h
  split at h
  · rename_i x hx
    cases h
    exact ⟨x, hL.2.2 i _ (zz_nth_some hx (by simp)) (by simp), rfl, rfl, rfl⟩
  · cases h
theorem zz_so_lload {i n : Nat} (h : zz_lload i n L S = some (pc', L', S')) (hL : zz_LR B b L ls) : ∃ x, ls[i]? = some (.val (.long x)) ∧ pc' = n ∧ L' = L ∧ S' = .long x :: S := by
  unfold zz_lload at h
  split at h
  · rename_i x hx
    cases h
    exact ⟨x, hL.2.2 i _ (zz_nth_some hx (by simp)) (by simp), rfl, rfl, rfl⟩
  · cases h
theorem zz_so_aload {i n : Nat} (h : zz_aload i n L S = some (pc', L', S')) (hL : zz_LR B b L ls) : ∃ x, ls[i]? = some (.val (zz_mv B b (.ref x))) ∧ pc' = n ∧ L' = L ∧ S' = .ref x :: S := by
  unfold zz_aload at h
  split at h
  · rename_i x hx
    cases h
    exact ⟨x, hL.2.2 i _ (zz_nth_some hx (by simp)) (by simp), rfl, rfl, rfl⟩
  · cases h
theorem zz_so_istore {i n : Nat} (h : zz_istore i n L S = some (pc', L', S')) : ∃ x, S = .int x :: S' ∧ i < L.length ∧ pc' = n ∧ L' = zz_s1 L i (.int x) := by
  unfold zz_istore at h
  split at h
  · split at h
    · cases h; exact ⟨_, rfl, by assumption, rfl, rfl⟩
    · cases h
  · cases h
theorem zz_so_lstore {i n : Nat} (h : zz_lstore i n L S = some (pc', L', S')) : ∃ x, S = .long x :: S' ∧ i + 1 < L.length ∧ pc' = n ∧ L' = zz_s2 L i (.long x) := by
  unfold zz_lstore at h
  split at h
  · split at h
    · cases h; exact ⟨_, rfl, by assumption, rfl, rfl⟩
    · cases h
  · cases h
theorem zz_so_astore {i n : Nat} (h : zz_astore i n L S = some (pc', L', S')) : ∃ x, S = .ref x :: S' ∧ i < L.length ∧ pc' = n ∧ L' = zz_s1 L i (.ref x) := by
  unfold zz_astore at h
  split at h
  · split at h
    · cases h; exact ⟨_, rfl, by assumption, rfl, rfl⟩
    · cases h
  · cases h
theorem zz_so_bini {f : Int32 → Int32 → Int32} (h : zz_bini f pc L S = some (pc', L', S')) : ∃ x y S0, S = .int y :: .int x :: S0 ∧ pc' = pc + 1 ∧ L' = L ∧ S' = .int (f x y) :: S0 := by
  unfold zz_bini at h
  split at h
  · cases h; exact ⟨_, _, _, rfl, rfl, rfl, rfl⟩
  · cases h
theorem zz_so_binl {f : Int64 → Int64 → Int64} (h : zz_binl f pc L S = some (pc', L', S')) : ∃ x y S0, S = .long y :: .long x :: S0 ∧ pc' = pc + 1 ∧ L' = L ∧ S' = .long (f x y) :: S0 := by
  unfold zz_binl at h
  split at h
  · cases h; exact ⟨_, _, _, rfl, rfl, rfl, rfl⟩
  · cases h
theorem zz_so_divi {f : Int32 → Int32 → Int32} (h : zz_divi f pc L S = some (pc', L', S')) : ∃ x y S0, S = .int y :: .int x :: S0 ∧ ¬ y = 0 ∧ pc' = pc + 1 ∧ L' = L ∧ S' = .int (f x y) :: S0 := by
  unfold zz_divi at h
  split at h
  · split at h
    · cases h
    · cases h; exact ⟨_, _, _, rfl, by assumption, rfl, rfl, rfl⟩
  · cases h
theorem zz_so_divl {f : Int64 → Int64 → Int64} (h : zz_divl f pc L S = some (pc', L', S')) : ∃ x y S0, S = .long y :: .long x :: S0 ∧ ¬ y = 0 ∧ pc' = pc + 1 ∧ L' = L ∧ S' = .long (f x y) :: S0 := by
  unfold zz_divl at h
  split at h
  · split at h
    · cases h
    · cases h; exact ⟨_, _, _, rfl, by assumption, rfl, rfl, rfl⟩
  · cases h
/-- a branch on two ints -/
theorem zz_so_icmp (hx : p.tables.exec = Jvm.exec) (hb : c.code = cc) {cnd : Jvm.ClassFile.Cond} {off : Int} {x y : Int32} {tgt : Nat} {rest : List Value} (hd : decode cc pc = .ok (.if_icmp cnd off, 3)) (ht : (pc : Int) + off = (tgt : Int)) (kk : W p l e R s m args below meth c H locs cells slots Q (F0 m (if zz_cnd cnd x y = true then tgt else pc + 3) ls rest)) : W p l e R s m args below meth c H locs cells slots Q (F0 m pc ls (.int y :: .int x :: rest)) := by
  cases cnd
  · exact lv_icmp_eq hx hb hd ht (fun h => by rw [if_pos (by simp [zz_cnd, h])] at kk; exact kk) (fun h => by rw [if_neg (by simp [zz_cnd, h])] at kk; exact kk)
  · exact lv_icmp_ne hx hb hd ht (fun h => by rw [if_pos (by simp [zz_cnd, h])] at kk; exact kk) (fun h => by rw [if_neg (by simp [zz_cnd]; simpa using h)] at kk; exact kk)
  · exact lv_icmp_lt hx hb hd ht (fun h => by rw [if_pos (by simp [zz_cnd, h])] at kk; exact kk) (fun h => by rw [if_neg (by simp [zz_cnd]; simpa using h)] at kk; exact kk)
  · exact lv_icmp_ge hx hb hd ht (fun h => by rw [if_pos (by simp [zz_cnd]; exact h)] at kk; exact kk) (fun h => by rw [if_neg (by simp [zz_cnd]; simpa using h)] at kk; exact kk)
  · exact lv_icmp_gt hx hb hd ht (fun h => by rw [if_pos (by simp [zz_cnd]; exact h)] at kk; exact kk) (fun h => by rw [if_neg (by simp [zz_cnd]; simpa using h)] at kk; exact kk)
  · exact lv_icmp_le hx hb hd ht (fun h => by rw [if_pos (by simp [zz_cnd]; exact h)] at kk; exact kk) (fun h => by rw [if_neg (by simp [zz_cnd]; simpa using h)] at kk; exact kk)
theorem zz_so_ifc (hx : p.tables.exec = Jvm.exec) (hb : c.code = cc) {cnd : Jvm.ClassFile.Cond} {off : Int} {x : Int32} {tgt : Nat} {rest : List Value} (hd : decode cc pc = .ok (.ifCond cnd off, 3)) (ht : (pc : Int) + off = (tgt : Int)) (kk : W p l e R s m args below meth c H locs cells slots Q (F0 m (if zz_cnd cnd x 0 = true then tgt else pc + 3) ls rest)) : W p l e R s m args below meth c H locs cells slots Q (F0 m pc ls (.int x :: rest)) := by
  cases cnd
  · exact lv_if_eq hx hb hd ht (fun h => by rw [if_pos (by simp [zz_cnd, h])] at kk; exact kk) (fun h => by rw [if_neg (by simp [zz_cnd, h])] at kk; exact kk)
  · exact lv_if_ne hx hb hd ht (fun h => by rw [if_pos (by simp [zz_cnd, h])] at kk; exact kk) (fun h => by rw [if_neg (by simp [zz_cnd]; simpa using h)] at kk; exact kk)
  · exact lv_if_lt hx hb hd ht (fun h => by rw [if_pos (by simp [zz_cnd, h])] at kk; exact kk) (fun h => by rw [if_neg (by simp [zz_cnd]; simpa using h)] at kk; exact kk)
  · exact lv_if_ge hx hb hd ht (fun h => by rw [if_pos (by simp [zz_cnd]; exact h)] at kk; exact kk) (fun h => by rw [if_neg (by simp [zz_cnd]; simpa using h)] at kk; exact kk)
  · exact lv_if_gt hx hb hd ht (fun h => by rw [if_pos (by simp [zz_cnd]; exact h)] at kk; exact kk) (fun h => by rw [if_neg (by simp [zz_cnd]; simpa using h)] at kk; exact kk)
  · exact lv_if_le hx hb hd ht (fun h => by rw [if_pos (by simp [zz_cnd]; exact h)] at kk; exact kk) (fun h => by rw [if_neg (by simp [zz_cnd]; simpa using h)] at kk; exact kk)
set_option maxHeartbeats 4000000 in
/-- AN INSTRUCTION WITHOUT HEAP -/
theorem zz_p_so (hx : p.tables.exec = Jvm.exec) (hb : c.code = cc) {ins : Instr} {n : Nat} (hd : decode cc pc = .ok (ins, n)) (hn : zz_il ins = 0 ∨ n = zz_il ins) (hj : zz_jk ins pc = true) (hp : zz_p ins pc L S = some (pc', L', S')) (hL : zz_LR B b L ls)
    (kk : ∀ ls', zz_LR B b L' ls' → W p l e R s m args below meth c H locs cells slots Q (F0 m pc' ls' (S'.map (zz_mv B b)))) : W p l e R s m args below meth c H locs cells slots Q (F0 m pc ls (S.map (zz_mv B b))) := by
  have one : ∀ {k : Nat}, zz_il ins = k + 1 → decode cc pc = .ok (ins, k + 1) := fun {k} h => by rcases hn with h1 | h1 <;> rw [h] at h1 <;> first | (rw [h1] at hd; exact hd) | cases h1
  unfold zz_p at hp
  split at hp
  -- iconst, bipush, sipush, lconst
  · cases hp; exact lv_iconst hx hb (one rfl) (by simpa [zz_jk] using hj) (kk ls hL)
  · cases hp; exact lv_bipush hx hb (one rfl) (by simpa [zz_jk] using hj) (kk ls hL)
  · cases hp; exact lv_sipush hx hb (one rfl) (by simpa [zz_jk] using hj) (kk ls hL)
  · cases hp; exact lv_lconst hx hb (one rfl) rfl (kk ls hL)
  -- loads
  · obtain ⟨x, h1, rfl, rfl, rfl⟩ := zz_so_iload hp hL; exact lv_iload hx hb (one rfl) h1 (kk ls hL)
  · obtain ⟨x, h1, rfl, rfl, rfl⟩ := zz_so_iload hp hL; exact lv_iload_n hx hb (one rfl) rfl h1 (kk ls hL)
  · obtain ⟨x, h1, rfl, rfl, rfl⟩ := zz_so_lload hp hL; exact lv_lload hx hb (one rfl) h1 (kk ls hL)
  · obtain ⟨x, h1, rfl, rfl, rfl⟩ := zz_so_lload hp hL; exact lv_lload_n hx hb (one rfl) rfl h1 (kk ls hL)
  · obtain ⟨x, h1, rfl, rfl, rfl⟩ := zz_so_aload hp hL; exact lv_aload hx hb (one rfl) h1 (kk ls hL)
  · obtain ⟨x, h1, rfl, rfl, rfl⟩ := zz_so_aload hp hL; exact lv_aload_n hx hb (one rfl) rfl h1 (kk ls hL)
  -- stores
  · obtain ⟨x, rfl, h1, rfl, rfl⟩ := zz_so_istore hp; exact lv_istore hx hb (one rfl) hL.has h1 rfl (fun ls' h' => kk ls' (zz_s1_of h1 h'))
  · obtain ⟨x, rfl, h1, rfl, rfl⟩ := zz_so_istore hp; exact lv_istore_n hx hb (one rfl) rfl hL.has h1 rfl (fun ls' h' => kk ls' (zz_s1_of h1 h'))
  · obtain ⟨x, rfl, h1, rfl, rfl⟩ := zz_so_lstore hp; exact lv_lstore hx hb (one rfl) hL.has h1 rfl (fun ls' h' => kk ls' (zz_s2_of h1 h'))
  · obtain ⟨x, rfl, h1, rfl, rfl⟩ := zz_so_lstore hp; exact lv_lstore_n hx hb (one rfl) rfl hL.has h1 rfl (fun ls' h' => kk ls' (zz_s2_of h1 h'))
  · obtain ⟨x, rfl, h1, rfl, rfl⟩ := zz_so_astore hp; exact lv_astore hx hb (one rfl) hL.has h1 rfl (fun ls' h' => kk ls' (zz_s1_of h1 h'))
  · obtain ⟨x, rfl, h1, rfl, rfl⟩ := zz_so_astore hp; exact lv_astore_n hx hb (one rfl) rfl hL.has h1 rfl (fun ls' h' => kk ls' (zz_s1_of h1 h'))
  -- iinc
  · unfold zz_iinc at hp
    split at hp
    · rename_i x hx1
      split at hp
      · rename_i hi
        cases hp
        have h1 := zz_nth_some hx1 (by simp)
        obtain ⟨q, hq⟩ := List.getElem?_of_mem (zz_pr_in (B := B) (b := b) (q := (_, Value.int x)).mpr ⟨_, h1, by simp, rfl⟩)
        exact lv_iinc hx hb (one rfl) hL.has hq (by rw [show Int32.ofInt _ = zz_ic _ by simpa [zz_jk] using hj]) hi rfl (fun ls' h' => kk ls' (zz_s1_of hi h'))
      · cases hp
    · cases hp
  -- int arithmetic
  · obtain ⟨x, y, S0, rfl, rfl, rfl, rfl⟩ := zz_so_bini hp; exact lv_iadd hx hb (one rfl) (kk ls hL)
  · obtain ⟨x, y, S0, rfl, rfl, rfl, rfl⟩ := zz_so_bini hp; exact lv_isub hx hb (one rfl) (kk ls hL)
  · obtain ⟨x, y, S0, rfl, rfl, rfl, rfl⟩ := zz_so_bini hp; exact lv_imul hx hb (one rfl) (kk ls hL)
  · obtain ⟨x, y, S0, rfl, rfl, rfl, rfl⟩ := zz_so_bini hp; exact lv_iand hx hb (one rfl) (kk ls hL)
  · obtain ⟨x, y, S0, rfl, rfl, rfl, rfl⟩ := zz_so_bini hp; exact lv_ior hx hb (one rfl) (kk ls hL)
  · obtain ⟨x, y, S0, rfl, rfl, rfl, rfl⟩ := zz_so_bini hp; exact lv_ixor hx hb (one rfl) (kk ls hL)
  · obtain ⟨x, y, S0, rfl, rfl, rfl, rfl⟩ := zz_so_bini hp; exact lv_ishl hx hb (one rfl) (kk ls hL)
  · obtain ⟨x, y, S0, rfl, rfl, rfl, rfl⟩ := zz_so_bini hp; exact lv_ishr hx hb (one rfl) (kk ls hL)
  · obtain ⟨x, y, S0, rfl, rfl, rfl, rfl⟩ := zz_so_bini hp; exact lv_iushr hx hb (one rfl) rfl (kk ls hL)
  · obtain ⟨x, y, S0, rfl, h1, rfl, rfl, rfl⟩ := zz_so_divi hp; exact lv_idiv hx hb (one rfl) h1 (kk ls hL)
  · obtain ⟨x, y, S0, rfl, h1, rfl, rfl, rfl⟩ := zz_so_divi hp; exact lv_irem hx hb (one rfl) h1 (kk ls hL)
  -- longs
  · obtain ⟨x, y, S0, rfl, rfl, rfl, rfl⟩ := zz_so_binl hp; exact lv_ladd hx hb (one rfl) (kk ls hL)
  · obtain ⟨x, y, S0, rfl, rfl, rfl, rfl⟩ := zz_so_binl hp; exact lv_lsub hx hb (one rfl) (kk ls hL)
  · obtain ⟨x, y, S0, rfl, rfl, rfl, rfl⟩ := zz_so_binl hp; exact lv_lmul hx hb (one rfl) (kk ls hL)
  · obtain ⟨x, y, S0, rfl, h1, rfl, rfl, rfl⟩ := zz_so_divl hp; exact lv_ldiv hx hb (one rfl) h1 (kk ls hL)
  · obtain ⟨x, y, S0, rfl, h1, rfl, rfl, rfl⟩ := zz_so_divl hp; exact lv_lrem hx hb (one rfl) h1 (kk ls hL)
  -- ineg, conversions, lcmp
  · split at hp <;> cases hp; exact lv_ineg hx hb (one rfl) (kk ls hL)
  · split at hp <;> cases hp; exact lv_i2l hx hb (one rfl) rfl (kk ls hL)
  · split at hp <;> cases hp; exact lv_l2i hx hb (one rfl) rfl (kk ls hL)
  · split at hp <;> cases hp; exact lv_i2b hx hb (one rfl) rfl (kk ls hL)
  · split at hp <;> cases hp; exact W.lcmp hx hb (one rfl) (kk ls hL)
  -- dup, pop, dup2
  · split at hp <;> cases hp
    · exact lv_dup hx hb (one rfl) rfl (kk ls hL)
    · exact lv_dup hx hb (one rfl) rfl (kk ls hL)
  · split at hp <;> cases hp
    · exact lv_pop hx hb (one rfl) rfl (kk ls hL)
    · exact lv_pop hx hb (one rfl) rfl (kk ls hL)
  · split at hp <;> cases hp; exact lv_dup2_11 hx hb (one rfl) rfl rfl (kk ls hL)
  -- goto, branches
  · cases hp; exact lv_goto hx hb (one rfl) (zz_tg_eq (by simpa [zz_jk] using hj)) (kk ls hL)
  · split at hp <;> cases hp
    exact zz_so_ifc hx hb (one rfl) (zz_tg_eq (by simpa [zz_jk] using hj)) (kk ls hL)
  · split at hp <;> cases hp
    exact zz_so_icmp hx hb (one rfl) (zz_tg_eq (by simpa [zz_jk] using hj)) (kk ls hL)
  -- switches
  · simp only [zz_jk, Bool.and_eq_true, decide_eq_true_eq, List.all_eq_true] at hj
    split at hp
    · split at hp
      · rename_i h1
        cases hp
        exact lv_tableOut hx hb hd h1 (zz_tg_eq hj.1) (kk ls hL)
      · rename_i h1
        split at hp
        · rename_i off ho
          cases hp
          refine lv_tableIn hx hb hd (fun h => h1 (Or.inl h)) (fun h => h1 (Or.inr h)) ho (zz_tg_eq (hj.2 off ?_)) (kk ls hL)
          exact Array.mem_toList_iff.mpr (Array.mem_of_getElem? ho)
        · cases hp
    · cases hp
  · simp only [zz_jk, Bool.and_eq_true, decide_eq_true_eq, List.all_eq_true] at hj
    split at hp
    · cases hp
      refine lv_lookup hx hb hd (by simpa [List.all_eq_true] using hj.2) rfl (zz_tg_eq ?_) (kk ls hL)
      rename_i x
      rcases zz_look_in x.toInt _ _ with h | ⟨q, h1, h2⟩
      · rw [h]; exact hj.1.1
      · rw [h2]; exact hj.1.2 q h1
    · cases hp
  · cases hp
end ZP
