/-! A SMALL MACHINE over numbered cells: the program's instructions as a function. A cell has a shape (kind, length, references) and numbers; the script stands at zz_scr, its length behind it. -/
abbrev zz_S : Type := Nat × Nat × List (Option Nat)
abbrev zz_H : Type := List zz_S × (Nat → Nat → Int32) × (Nat → Nat → Int64)
def zz_scr : Nat := 1000000
def zz_s0 : zz_S := (7, 0, [])
def zz_sh (sh : List zz_S) (a : Nat) : zz_S := zz_nth zz_s0 sh a
def zz_kd (sh : List zz_S) (a : Nat) : Nat := (zz_sh sh a).1
def zz_ln (sh : List zz_S) (a : Nat) : Nat := (zz_sh sh a).2.1
def zz_rf (sh : List zz_S) (a j : Nat) : Option Nat := zz_nth none (zz_sh sh a).2.2 j
def zz_rset (sh : List zz_S) (a j v : Nat) : List zz_S := sh.set a (zz_kd sh a, zz_ln sh a, (zz_sh sh a).2.2.set j (some v))
/-- one number anew -/
def zz_u {α : Type} (h : Nat → Nat → α) (a i : Nat) (v : α) : Nat → Nat → α := fun b j => if b = a ∧ j = i then v else h b j
/-- a cell's numbers anew, all v -/
def zz_z {α : Type} (h : Nat → Nat → α) (a : Nat) (v : α) : Nat → Nat → α := fun b j => if b = a then v else h b j
/-- a stretch copied -/
def zz_cp {α : Type} (h : Nat → Nat → α) (a sp b dp n : Nat) : Nat → Nat → α := fun c j => if c = b ∧ dp ≤ j ∧ j < dp + n then h a (sp + (j - dp)) else h c j
abbrev zz_in (i : Int32) (n : Nat) : Prop := 0 ≤ i.toInt ∧ i.toInt < (n : Int)
def zz_ix (i : Int32) : Nat := i.toNatClampNeg
def zz_rem (x y : Int32) : Int32 := x - x / y * y
def zz_reml (x y : Int64) : Int64 := x - x / y * y
abbrev zz_bz (v : Int32) : Prop := v = 0 ∨ v = 1
/-! locals: null where nothing is known -/
def zz_kl (L : List Value) (i : Nat) : List Value := match i with
  | 0 => L
  | j + 1 => match zz_nth .null L j with
    | .long _ => L.set j .null
    | .double _ => L.set j .null
    | _ => L
def zz_s1 (L : List Value) (i : Nat) (v : Value) : List Value := (zz_kl L i).set i v
def zz_s2 (L : List Value) (i : Nat) (v : Value) : List Value := ((zz_kl L i).set i v).set (i + 1) .null
def zz_slots : List Value → List Value
  | [] => []
  | .long x :: l => .long x :: .null :: zz_slots l
  | .double x :: l => .double x :: .null :: zz_slots l
  | v :: l => v :: zz_slots l
def zz_ini (k : Nat) (as : List Value) : List Value := zz_slots as ++ List.replicate ((zz_m k).2.2.1 - (zz_slots as).length) .null
abbrev zz_P : Type := Option (Nat × List Value × List Value)
/-- an int constant -/
def zz_ic (n : Int) : Int32 := match n with
  | .ofNat m => nI m
  | .negSucc m => -(Int32.ofNat (m + 1))
/-! what an instruction without heap does -/
def zz_iload (i pc : Nat) (L S : List Value) : zz_P := match zz_nth .null L i with
  | .int x => some (pc, L, .int x :: S)
  | _ => none
def zz_lload (i pc : Nat) (L S : List Value) : zz_P := match zz_nth .null L i with
  | .long x => some (pc, L, .long x :: S)
  | _ => none
def zz_aload (i pc : Nat) (L S : List Value) : zz_P := match zz_nth .null L i with
  | .ref x => some (pc, L, .ref x :: S)
  | _ => none
def zz_istore (i pc : Nat) (L S : List Value) : zz_P := match S with
  | .int x :: S => if i < L.length then some (pc, zz_s1 L i (.int x), S) else none
  | _ => none
def zz_lstore (i pc : Nat) (L S : List Value) : zz_P := match S with
  | .long x :: S => if i + 1 < L.length then some (pc, zz_s2 L i (.long x), S) else none
  | _ => none
def zz_astore (i pc : Nat) (L S : List Value) : zz_P := match S with
  | .ref x :: S => if i < L.length then some (pc, zz_s1 L i (.ref x), S) else none
  | _ => none
def zz_iinc (i : Nat) (n : Int) (pc : Nat) (L S : List Value) : zz_P := match zz_nth .null L i with
  | .int x => if i < L.length then some (pc, zz_s1 L i (.int (x + zz_ic n)), S) else none
  | _ => none
def zz_bini (f : Int32 → Int32 → Int32) (pc : Nat) (L S : List Value) : zz_P := match S with
  | .int y :: .int x :: S => some (pc + 1, L, .int (f x y) :: S)
  | _ => none
def zz_binl (f : Int64 → Int64 → Int64) (pc : Nat) (L S : List Value) : zz_P := match S with
  | .long y :: .long x :: S => some (pc + 1, L, .long (f x y) :: S)
  | _ => none
def zz_divi (f : Int32 → Int32 → Int32) (pc : Nat) (L S : List Value) : zz_P := match S with
  | .int y :: .int x :: S => if y = 0 then none else some (pc + 1, L, .int (f x y) :: S)
  | _ => none
def zz_divl (f : Int64 → Int64 → Int64) (pc : Nat) (L S : List Value) : zz_P := match S with
  | .long y :: .long x :: S => if y = 0 then none else some (pc + 1, L, .long (f x y) :: S)
  | _ => none
def zz_tg (pc : Nat) (off : Int) : Nat := ((pc : Int) + off).toNat
def zz_cnd (c : Jvm.ClassFile.Cond) (x y : Int32) : Bool := match c with
  | .eq => decide (x = y)
  | .ne => !decide (x = y)
  | .lt => decide (x < y)
  | .ge => decide (y ≤ x)
  | .gt => decide (y < x)
  | .le => decide (x ≤ y)
def zz_p (ins : Instr) (pc : Nat) (L S : List Value) : zz_P := match ins with
  | .iconst n => some (pc + 1, L, .int (zz_ic n) :: S)
  | .bipush n => some (pc + 2, L, .int (zz_ic n) :: S)
  | .sipush n => some (pc + 3, L, .int (zz_ic n) :: S)
  | .lconst n => some (pc + 1, L, .long (Int64.ofNat n) :: S)
  | .iload i => zz_iload i (pc + 2) L S
  | .iload_n i => zz_iload i (pc + 1) L S
  | .lload i => zz_lload i (pc + 2) L S
  | .lload_n i => zz_lload i (pc + 1) L S
  | .aload i => zz_aload i (pc + 2) L S
  | .aload_n i => zz_aload i (pc + 1) L S
  | .istore i => zz_istore i (pc + 2) L S
  | .istore_n i => zz_istore i (pc + 1) L S
  | .lstore i => zz_lstore i (pc + 2) L S
  | .lstore_n i => zz_lstore i (pc + 1) L S
  | .astore i => zz_astore i (pc + 2) L S
  | .astore_n i => zz_astore i (pc + 1) L S
  | .iinc i n => zz_iinc i n (pc + 3) L S
  | .iadd => zz_bini (fun x y => x + y) pc L S
  | .isub => zz_bini (fun x y => x - y) pc L S
  | .imul => zz_bini (fun x y => x * y) pc L S
  | .iand => zz_bini (fun x y => x &&& y) pc L S
  | .ior => zz_bini (fun x y => x ||| y) pc L S
  | .ixor => zz_bini (fun x y => x ^^^ y) pc L S
  | .ishl => zz_bini (fun x y => x <<< (y &&& 31)) pc L S
  | .ishr => zz_bini (fun x y => x >>> (y &&& 31)) pc L S
  | .iushr => zz_bini (fun x y => (x.toUInt32 >>> (y.toUInt32 &&& Int32.toUInt32 31)).toInt32) pc L S
  | .idiv => zz_divi (fun x y => x / y) pc L S
  | .irem => zz_divi zz_rem pc L S
  | .ladd => zz_binl (fun x y => x + y) pc L S
  | .lsub => zz_binl (fun x y => x - y) pc L S
  | .lmul => zz_binl (fun x y => x * y) pc L S
  | .ldiv => zz_divl (fun x y => x / y) pc L S
  | .lrem => zz_divl zz_reml pc L S
  | .ineg => match S with
    | .int x :: S => some (pc + 1, L, .int (-x) :: S)
    | _ => none
  | .i2l => match S with
    | .int x :: S => some (pc + 1, L, .long x.toInt64 :: S)
    | _ => none
  | .l2i => match S with
    | .long x :: S => some (pc + 1, L, .int x.toInt32 :: S)
    | _ => none
  | .i2b => match S with
    | .int x :: S => some (pc + 1, L, .int x.toInt8.toInt32 :: S)
    | _ => none
  | .lcmp => match S with
    | .long y :: .long x :: S => some (pc + 1, L, .int (lg_cmp x y) :: S)
    | _ => none
  | .dup => match S with
    | .int x :: S => some (pc + 1, L, .int x :: .int x :: S)
    | .ref x :: S => some (pc + 1, L, .ref x :: .ref x :: S)
    | _ => none
  | .pop => match S with
    | .int _ :: S => some (pc + 1, L, S)
    | .ref _ :: S => some (pc + 1, L, S)
    | _ => none
  | .dup2 => match S with
    | .int x :: .ref a :: S => some (pc + 1, L, .int x :: .ref a :: .int x :: .ref a :: S)
    | _ => none
  | .goto off => some (zz_tg pc off, L, S)
  | .ifCond c off => match S with
    | .int x :: S => some (if zz_cnd c x 0 = true then zz_tg pc off else pc + 3, L, S)
    | _ => none
  | .if_icmp c off => match S with
    | .int y :: .int x :: S => some (if zz_cnd c x y = true then zz_tg pc off else pc + 3, L, S)
    | _ => none
  | .tableswitch d lo hi offs => match S with
    | .int x :: S => if x.toInt < lo ∨ hi < x.toInt then some (zz_tg pc d, L, S) else match offs[(x.toInt - lo).toNat]? with
      | some off => some (zz_tg pc off, L, S)
      | none => none
    | _ => none
  | .lookupswitch d ps => match S with
    | .int x :: S => some (zz_tg pc (Op.lookupswitch.offset ps.toList d x.toInt), L, S)
    | _ => none
  | _ => none
/-! what an instruction does that reads or writes cells, or a constant of the class -/
abbrev zz_Q : Type := Option (Nat × List Value × List Value × zz_H)
def zz_cat (S : List Value) : Nat := (S.map fun v => v.category).sum
def zz_iald (k pc : Nat) (L S : List Value) (h : zz_H) : zz_Q := match S with
  | .int i :: .ref a :: S => if a = zz_scr then (if k = 0 ∧ zz_in i (h.2.1 (zz_scr + 1) 0).toNatClampNeg then some (pc + 1, L, .int (h.2.1 zz_scr (zz_ix i)) :: S, h) else none) else if zz_kd h.1 a = 0 ∧ zz_in i (zz_ln h.1 a) then some (pc + 1, L, .int (h.2.1 a (zz_ix i)) :: S, h) else none
  | _ => none
def zz_bald (pc : Nat) (L S : List Value) (h : zz_H) : zz_Q := match S with
  | .int i :: .ref a :: S => if a ≠ zz_scr ∧ zz_kd h.1 a = 2 ∧ zz_in i (zz_ln h.1 a) then some (pc + 1, L, .int (h.2.1 a (zz_ix i)) :: S, h) else none
  | _ => none
def zz_lald (pc : Nat) (L S : List Value) (h : zz_H) : zz_Q := match S with
  | .int i :: .ref a :: S => if a ≠ zz_scr ∧ zz_kd h.1 a = 1 ∧ zz_in i (zz_ln h.1 a) then some (pc + 1, L, .long (h.2.2 a (zz_ix i)) :: S, h) else none
  | _ => none
def zz_aald (pc : Nat) (L S : List Value) (h : zz_H) : zz_Q := match S with
  | .int i :: .ref a :: S => if a ≠ zz_scr ∧ (zz_kd h.1 a = 3 ∨ zz_kd h.1 a = 4 ∨ zz_kd h.1 a = 5) ∧ zz_in i (zz_ln h.1 a) then (match zz_rf h.1 a (zz_ix i) with
      | some b => if b = zz_scr then none else some (pc + 1, L, .ref b :: S, h)
      | none => none) else none
  | _ => none
def zz_iast (pc : Nat) (L S : List Value) (h : zz_H) : zz_Q := match S with
  | .int x :: .int i :: .ref a :: S => if a ≠ zz_scr ∧ zz_kd h.1 a = 0 ∧ zz_in i (zz_ln h.1 a) then some (pc + 1, L, S, (h.1, zz_u h.2.1 a (zz_ix i) x, h.2.2)) else none
  | _ => none
def zz_bast (pc : Nat) (L S : List Value) (h : zz_H) : zz_Q := match S with
  | .int x :: .int i :: .ref a :: S => if a ≠ zz_scr ∧ zz_kd h.1 a = 2 ∧ zz_in i (zz_ln h.1 a) ∧ zz_bz x then some (pc + 1, L, S, (h.1, zz_u h.2.1 a (zz_ix i) x, h.2.2)) else none
  | _ => none
def zz_last (pc : Nat) (L S : List Value) (h : zz_H) : zz_Q := match S with
  | .long x :: .int i :: .ref a :: S => if a ≠ zz_scr ∧ zz_kd h.1 a = 1 ∧ zz_in i (zz_ln h.1 a) then some (pc + 1, L, S, (h.1, h.2.1, zz_u h.2.2 a (zz_ix i) x)) else none
  | _ => none
/-- an array of Strips (3) holds cells of class 8, one of Houses (4) cells of class 1 -/
def zz_aast (pc : Nat) (L S : List Value) (h : zz_H) : zz_Q := match S with
  | .ref b :: .int i :: .ref a :: S => if a ≠ zz_scr ∧ b ≠ zz_scr ∧ ((zz_kd h.1 a = 3 ∧ zz_kd h.1 b = 18) ∨ (zz_kd h.1 a = 4 ∧ zz_kd h.1 b = 11)) ∧ zz_in i (zz_ln h.1 a) ∧ zz_ix i < (zz_sh h.1 a).2.2.length then some (pc + 1, L, S, (zz_rset h.1 a (zz_ix i) b, h.2.1, h.2.2)) else none
  | _ => none
def zz_alen (k pc : Nat) (L S : List Value) (h : zz_H) : zz_Q := match S with
  | .ref a :: S => if a = zz_scr then (if k = 0 then some (pc + 1, L, .int (h.2.1 (zz_scr + 1) 0) :: S, h) else none) else if zz_kd h.1 a < 6 then some (pc + 1, L, .int (nI (zz_ln h.1 a)) :: S, h) else none
  | _ => none
def zz_getf (aux : List Nat) (pc : Nat) (L S : List Value) (h : zz_H) : zz_Q := match aux, S with
  | [ci, sl, ty, _], .ref a :: S => if a ≠ zz_scr ∧ zz_kd h.1 a = 10 + ci then (match ty with
      | 0 => some (pc + 3, L, .int (h.2.1 a sl) :: S, h)
      | 1 => some (pc + 3, L, .long (h.2.2 a sl) :: S, h)
      | _ => match zz_rf h.1 a sl with
        | some b => if b = zz_scr then none else some (pc + 3, L, .ref b :: S, h)
        | none => none) else none
  | _, _ => none
def zz_putf (aux : List Nat) (pc : Nat) (L S : List Value) (h : zz_H) : zz_Q := match aux, S with
  | [ci, sl, 0, _], .int x :: .ref a :: S => if a ≠ zz_scr ∧ zz_kd h.1 a = 10 + ci then some (pc + 3, L, S, (h.1, zz_u h.2.1 a sl x, h.2.2)) else none
  | [ci, sl, 1, _], .long x :: .ref a :: S => if a ≠ zz_scr ∧ zz_kd h.1 a = 10 + ci then some (pc + 3, L, S, (h.1, h.2.1, zz_u h.2.2 a sl x)) else none
  | [ci, sl, 2, _], .ref b :: .ref a :: S => if a ≠ zz_scr ∧ b ≠ zz_scr ∧ zz_kd h.1 a = 10 + ci ∧ sl < (zz_sh h.1 a).2.2.length then some (pc + 3, L, S, (zz_rset h.1 a sl b, h.2.1, h.2.2)) else none
  | _, _ => none
/-- a new cell -/
def zz_push (h : zz_H) (s : zz_S) : zz_H := (h.1 ++ [s], zz_z h.2.1 h.1.length 0, zz_z h.2.2 h.1.length 0)
def zz_new (aux : List Nat) (pc : Nat) (L S : List Value) (h : zz_H) : zz_Q := match aux with
  | [ci, _] => if h.1.length < zz_scr then some (pc + 3, L, .ref h.1.length :: S, zz_push h (10 + ci, zz_nth 0 zz_N ci, List.replicate (zz_nth 0 zz_N ci) none)) else none
  | _ => none
def zz_newa (t : ArrayType) (pc : Nat) (L S : List Value) (h : zz_H) : zz_Q := match S with
  | .int n :: S => if h.1.length < zz_scr ∧ 0 ≤ n.toInt ∧ n.toInt < 10000 then (match t with
      | .int => some (pc + 2, L, .ref h.1.length :: S, zz_push h (0, n.toNatClampNeg, []))
      | .long => some (pc + 2, L, .ref h.1.length :: S, zz_push h (1, n.toNatClampNeg, []))
      | .boolean => some (pc + 2, L, .ref h.1.length :: S, zz_push h (2, n.toNatClampNeg, []))
      | _ => none) else none
  | _ => none
def zz_anew (aux : List Nat) (pc : Nat) (L S : List Value) (h : zz_H) : zz_Q := match aux, S with
  | [kd, _], .int n :: S => if h.1.length < zz_scr ∧ 0 ≤ n.toInt ∧ n.toInt < 10000 then some (pc + 3, L, .ref h.1.length :: S, zz_push h (kd, n.toNatClampNeg, List.replicate n.toNatClampNeg none)) else none
  | _, _ => none
/-- n rows of k ints more -/
def zz_pushes (h : zz_H) (k : Nat) : Nat → zz_H
  | 0 => h
  | n + 1 => zz_push (zz_pushes h k n) (0, k, [])
def zz_mnew (pc : Nat) (L S : List Value) (h : zz_H) : zz_Q := match S with
  | .int k :: .int n :: S => if h.1.length + n.toNatClampNeg < zz_scr ∧ 0 ≤ n.toInt ∧ n.toInt < 10000 ∧ 0 ≤ k.toInt ∧ k.toInt < 10000 then some (pc + 4, L, .ref h.1.length :: S, zz_pushes (zz_push h (5, n.toNatClampNeg, (List.range n.toNatClampNeg).map (fun i => some (h.1.length + 1 + i)))) k.toNatClampNeg n.toNatClampNeg) else none
  | _ => none
def zz_copy (pc : Nat) (L S : List Value) (h : zz_H) : zz_Q := match S with
  | .int n :: .int dp :: .ref b :: .int sp :: .ref a :: S => if a ≠ zz_scr ∧ b ≠ zz_scr ∧ zz_cat S ≤ 8 ∧ 0 ≤ sp.toInt ∧ 0 ≤ dp.toInt ∧ 0 ≤ n.toInt ∧ zz_ix sp + zz_ix n ≤ zz_ln h.1 a ∧ zz_ix dp + zz_ix n ≤ zz_ln h.1 b then
      (if zz_kd h.1 a = 0 ∧ zz_kd h.1 b = 0 then some (pc + 3, L, S, (h.1, zz_cp h.2.1 a (zz_ix sp) b (zz_ix dp) (zz_ix n), h.2.2))
      else if zz_kd h.1 a = 1 ∧ zz_kd h.1 b = 1 then some (pc + 3, L, S, (h.1, h.2.1, zz_cp h.2.2 a (zz_ix sp) b (zz_ix dp) (zz_ix n))) else none) else none
  | _ => none
def zz_h (ins : Instr) (aux : List Nat) (k pc : Nat) (L S : List Value) (h : zz_H) : zz_Q := match ins with
  | .iaload => zz_iald k pc L S h
  | .baload => zz_bald pc L S h
  | .laload => zz_lald pc L S h
  | .aaload => zz_aald pc L S h
  | .iastore => zz_iast pc L S h
  | .bastore => zz_bast pc L S h
  | .lastore => zz_last pc L S h
  | .aastore => zz_aast pc L S h
  | .arraylength => zz_alen k pc L S h
  | .getfield _ => zz_getf aux pc L S h
  | .putfield _ => zz_putf aux pc L S h
  | .new _ => zz_new aux pc L S h
  | .newarray t => zz_newa t pc L S h
  | .anewarray _ => zz_anew aux pc L S h
  | .multianewarray _ _ => zz_mnew pc L S h
  | .ldc _ => match aux with
    | [v, _] => some (pc + 2, L, .int (nI v) :: S, h)
    | _ => none
  | .ldc_w _ => match aux with
    | [v, _] => some (pc + 3, L, .int (nI v) :: S, h)
    | _ => none
  | .ldc2_w _ => match aux with
    | [v, _] => some (pc + 3, L, .long (lN v) :: S, h)
    | _ => none
  | .invokestatic _ => match aux with
    | [1000, _] => zz_copy pc L S h
    | [1002, _] => match S with
      | .int y :: .int x :: S => if zz_cat S ≤ 8 then some (pc + 3, L, .int (if x < y then y else x) :: S, h) else none
      | _ => none
    | [1003, _] => match S with
      | .int y :: .int x :: S => if zz_cat S ≤ 8 then some (pc + 3, L, .int (if y < x then y else x) :: S, h) else none
      | _ => none
    | [1004, _] => match S with
      | .int x :: S => if zz_cat S ≤ 8 then some (pc + 3, L, .int (if 0 ≤ x then x else 0 - x) :: S, h) else none
      | _ => none
    | _ => none
  | .invokespecial _ => match aux, S with
    | [1001, _], .ref _ :: S => if zz_cat S ≤ 8 then some (pc + 3, L, S, h) else none
    | _, _ => none
  | _ => none
/-! returns and calls -/
def zz_r (ins : Instr) (rt : Option FieldType) (S : List Value) : Option (Option Value) := match ins, rt, S with
  | .ireturn, some .int, [.int x] => some (some (.int x))
  | .ireturn, some .boolean, [.int x] => if zz_bz x then some (some (.int x)) else none
  | .lreturn, some .long, [.long x] => some (some (.long x))
  | .return_, none, [] => some none
  | _, _, _ => none
/-- the arguments of a call, the first one first, and what stands below -/
def zz_args (n : Nat) (S : List Value) : List Value × List Value := ((S.take n).reverse, S.drop n)
abbrev zz_C : Type := Option (Nat × List Value × List Value)
def zz_c (ins : Instr) (aux : List Nat) (S : List Value) (h : zz_H) : zz_C := match ins, aux with
  | .invokestatic _, [j, _, _] => if (zz_m j).2.2.2.2.2.1 ≤ S.length ∧ zz_cat (S.drop (zz_m j).2.2.2.2.2.1) ≤ 8 ∧ (zz_slots (S.take (zz_m j).2.2.2.2.2.1).reverse).length ≤ (zz_m j).2.2.1 then some (j, (S.take (zz_m j).2.2.2.2.2.1).reverse, S.drop (zz_m j).2.2.2.2.2.1) else none
  | .invokevirtual _, [j, _, _] => match S.drop (zz_m j).2.2.2.2.2.1 with
    | .ref a :: S' => if (zz_m j).2.2.2.2.2.1 ≤ S.length ∧ zz_cat S' ≤ 8 ∧ a ≠ zz_scr ∧ zz_kd h.1 a = 10 + (zz_m j).2.2.2.2.1 ∧ (zz_slots (.ref a :: (S.take (zz_m j).2.2.2.2.2.1).reverse)).length ≤ (zz_m j).2.2.1 then some (j, .ref a :: (S.take (zz_m j).2.2.2.2.2.1).reverse, S') else none
    | _ => none
  | .invokespecial _, [j, _, _] => match S.drop (zz_m j).2.2.2.2.2.1 with
    | .ref a :: S' => if (zz_m j).2.2.2.2.2.1 ≤ S.length ∧ zz_cat S' ≤ 8 ∧ a ≠ zz_scr ∧ zz_kd h.1 a = 10 + (zz_m j).2.2.2.2.1 ∧ (zz_slots (.ref a :: (S.take (zz_m j).2.2.2.2.2.1).reverse)).length ≤ (zz_m j).2.2.1 then some (j, .ref a :: (S.take (zz_m j).2.2.2.2.2.1).reverse, S') else none
    | _ => none
  | _, _ => none
/-! a step: it goes on, or answers, or calls -/
abbrev zz_O : Type := Option ((Nat × List Value × List Value × zz_H) ⊕ (Option Value) ⊕ (Nat × List Value × List Value))
def zz_st0 (k pc : Nat) (L S : List Value) (h : zz_H) : zz_O := match zz_cd k pc with
  | none => none
  | some (ins, _, aux) => match zz_p ins pc L S with
    | some (pc', L', S') => some (.inl (pc', L', S', h))
    | none => match zz_h ins aux k pc L S h with
      | some q => some (.inl q)
      | none => match zz_r ins (zz_m k).2.2.2.1 S with
        | some v => some (.inr (.inl v))
        | none => match zz_c ins aux S h with
          | some q => some (.inr (.inr q))
          | none => none
/-- places of a list forgotten -/
def zz_fgt : List Nat → List Value → List Value
  | [], L => L
  | i :: l, L => zz_fgt l (L.set i .null)
def zz_stp (k pc : Nat) (L S : List Value) (h : zz_H) : zz_O := zz_st0 k pc (zz_fgt (zz_fg k pc) L) S h
def zz_ex : Nat → Nat → Nat → List Value → List Value → zz_H → Option (Option Value × zz_H)
  | 0, _, _, _, _, _ => none
  | n + 1, k, pc, L, S, h => match zz_stp k pc L S h with
    | some (.inl (pc', L', S', h')) => zz_ex n k pc' L' S' h'
    | some (.inr (.inl v)) => some (v, h)
    | some (.inr (.inr (j, as, S'))) => match zz_ex n j 0 (zz_ini j as) [] h with
      | some (v, h') => zz_ex n k (pc + 3) (zz_fgt (zz_fg k pc) L) (v.toList ++ S') h'
      | none => none
    | none => none
