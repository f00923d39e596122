/-! THE TWO CONSTRUCTORS, run -/
def zi_0 : zz_H := ([], fun _ _ => 0, fun _ _ => 0)
def zi_1 : zz_H := zz_push zi_0 (10, 16, List.replicate 16 none)
def zi_2 (h : zz_H) : zz_H := zz_push h (19, 28, List.replicate 28 none)
def zi_al (f : Nat → Nat → Int32) (a n : Nat) (v : Int32) : Bool := (List.range n).all (fun i => decide (f a i = v))
def zi_ls (f : Nat → Nat → Int32) (l : List (Nat × Nat × Int32)) : Bool := l.all (fun q => decide (f q.1 q.2.1 = q.2.2))
def zi_ckX (f : Nat → Nat → Int32) (g : Nat → Nat → Int64) : Bool := zi_ls f [(0, 12, 0), (0, 13, 0), (56, 1, -1), (58, 1, -1), (60, 1, -1), (62, 1, -1), (64, 1, -1), (66, 1, -1), (68, 1, -1), (70, 1, -1), (72, 1, -1), (74, 1, -1)] && decide (g 0 14 = 0) && decide (g 0 15 = 1) && zi_al f 55 6 0 && zi_al f 3 5 0 && zi_al f 16 3 0 && ((List.range 6).all fun r => zi_al f (56 + 2 * r + 1) 40 0) && ((List.range 4).all fun r => zi_al f (68 + 2 * r + 1) 60 0)
def zi_ckM (f : Nat → Nat → Int32) (g : Nat → Nat → Int64) : Bool := zi_ls f [(112, 12, 0), (112, 9, 0), (112, 22, 0), (112, 1, 0), (112, 3, 0), (113, 0, 0), (113, 1, 0), (113, 2, 0), (113, 827, -1), (113, 1654, -1), (113, 2481, -1)] && decide (g 112 10 = 0) && decide (g 112 11 = 1) && zi_al f 120 6 0 && zi_al f 116 6 (-1) && zi_al f 118 4 (-1) && zi_al f 117 240 0 && zi_al f 119 240 0
def zi_ck (h1 h2 : zz_H) : Bool := decide (h1.1.length = 112) && decide (h2.1 = zSH) && zi_ckX h2.2.1 h2.2.2 && zi_ckM h2.2.1 h2.2.2
def zi_chk (r : Option (Option Value × zz_H)) (k : zz_H → Bool) : Bool := match r with
  | some (none, h) => k h
  | _ => false
theorem zi_chk_use {r : Option (Option Value × zz_H)} {k : zz_H → Bool} (h : zi_chk r k = true) : ∃ x, r = some (none, x) ∧ k x = true := by
  unfold zi_chk at h
  split at h
  · exact ⟨_, rfl, h⟩
  · cases h
theorem zi_ok : zi_chk (zz_ex 1000 1 0 (zz_ini 1 [.ref 0]) [] zi_1) (fun h1 => zi_chk (zz_ex 1000 147 0 (zz_ini 147 [.ref 112]) [] (zi_2 h1)) (zi_ck h1)) = true := by decide +kernel
