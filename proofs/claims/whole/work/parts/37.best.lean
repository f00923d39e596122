/-! BEST -/
theorem zcl_self {N : Nat → Nat} {a : Nat} : (zcl N a).testBit a = true := zS_up (zS_0.mpr rfl) 11 (by omega)
theorem zcl_tr {N : Nat → Nat} (hN : ∀ c < 12, N c < 4096) {a x y : Nat} (ha : a < 12) (hx : (zcl N a).testBit x = true) (hy : (zcl N x).testBit y = true) : (zcl N a).testBit y = true :=
  zS_min hx (fun c hc q b hb => zS_cl hN ha hc q hb) 11 y hy
theorem zcl_sym {N : Nat → Nat} (hN : ∀ c < 12, N c < 4096) (hs : zsym N) {a x : Nat} (ha : a < 12) (hx : x < 12) (h : (zcl N a).testBit x = true) : (zcl N x).testBit a = true := zS_sym hN hs 11 a ha x hx h
theorem zfa_cl {N : Nat → Nat} {a b : Nat} : (∃ d, zfa N a b = some d) ↔ (zcl N a).testBit b = true := by
  constructor
  · rintro ⟨d, h⟩
    cases e : (zcl N a).testBit b with
    | true => rfl
    | false => rw [zfa_none.mpr e] at h; cases h
  · intro h
    cases e : zfa N a b with
    | some d => exact ⟨d, rfl⟩
    | none => rw [zfa_none.mp e] at h; cases h
theorem zsq_all {N : Nat → Nat} (hN : ∀ c < 12, N c < 4096) (hs : zsym N) {a : Nat} (ha : a < 12) {c : Nat → Nat} : ∀ {n : Nat}, (∀ i < n, c i < 12 ∧ (zcl N a).testBit (c i) = true) → ∃ s, zsq N a c n = some s
  | 0, _ => ⟨0, rfl⟩
  | n + 1, h => by
    obtain ⟨s, e⟩ := zsq_all hN hs ha (n := n) (fun i hi => h i (by omega))
    have h1 := h n (by omega)
    have h2 : (zcl N (zpv a c n)).testBit (c n) = true := by
      cases n with
      | zero => exact h1.2
      | succ n =>
        have h3 := h n (by omega)
        exact zcl_tr hN h3.1 (zcl_sym hN hs ha h3.1 h3.2) h1.2
    obtain ⟨d, e2⟩ := zfa_cl.mpr h2
    exact ⟨s + d, zsq_2 e e2⟩
theorem zsq_pre {N : Nat → Nat} {a n s : Nat} {c : Nat → Nat} (h : zsq N a c n = some s) {i : Nat} (hi : i ≤ n) : ∃ t, zsq N a c i = some t := by
  cases e : zsq N a c i with
  | some t => exact ⟨t, rfl⟩
  | none => rw [zsq_up e n hi] at h; cases h
theorem zsq_rc {N : Nat → Nat} (hN : ∀ c < 12, N c < 4096) {a : Nat} (ha : a < 12) {c : Nat → Nat} : ∀ {n s : Nat}, zsq N a c n = some s → ∀ i < n, (zcl N a).testBit (c i) = true
  | 0, _, _, i, hi => by omega
  | n + 1, s, h, i, hi => by
    obtain ⟨t, e⟩ := zsq_pre h (i := n) (by omega)
    by_cases q : i = n
    · subst q
      have e2 : ∃ d, zfa N (zpv a c i) (c i) = some d := by
        cases e3 : zfa N (zpv a c i) (c i) with
        | some d => exact ⟨d, rfl⟩
        | none => rw [zsq_1 e e3] at h; cases h
      have e3 := zfa_cl.mp e2
      cases i with
      | zero => exact e3
      | succ i => exact zcl_tr hN ha (zsq_rc hN ha e i (by omega)) e3
    · exact zsq_rc hN ha e i (by omega)
/-- the search through the orders -/
def zbu (co : Option Nat) (l : List Nat) (acc : Option (Nat × List Nat)) : Option (Nat × List Nat) := match co with
  | none => acc
  | some c => match acc with
    | none => some (c, l)
    | some s => if c < s.1 then some (c, l) else some s
def zbe (n : Nat) (co : List Nat → Option Nat) : Nat → List Nat → Option (Nat × List Nat) → Option (Nat × List Nat)
  | 0, _, acc => acc
  | d + 1, l, acc => match znp n (fun i => l.getD i 0) with
    | none => zbu (co l) l acc
    | some o => zbe n co d ((List.range n).map o) (zbu (co l) l acc)
theorem zbe_n {n d : Nat} {co : List Nat → Option Nat} {l : List Nat} {acc : Option (Nat × List Nat)} (h : znp n (fun i => l.getD i 0) = none) : zbe n co (d + 1) l acc = zbu (co l) l acc := by
  show (match znp n (fun i => l.getD i 0) with
    | none => zbu (co l) l acc
    | some o => zbe n co d ((List.range n).map o) (zbu (co l) l acc)) = _
  rw [h]
theorem zbe_s {n d : Nat} {co : List Nat → Option Nat} {l : List Nat} {acc : Option (Nat × List Nat)} {o : Nat → Nat} (h : znp n (fun i => l.getD i 0) = some o) : zbe n co (d + 1) l acc = zbe n co d ((List.range n).map o) (zbu (co l) l acc) := by
  show (match znp n (fun i => l.getD i 0) with
    | none => zbu (co l) l acc
    | some o => zbe n co d ((List.range n).map o) (zbu (co l) l acc)) = _
  rw [h]
/-! the class: distances of the errands -/
theorem l_93 {f : Nat → Nat → Int32} {g : Nat → Nat → Int64} {N : Nat → Nat} (hN : ∀ c < 12, N c < 4096) {a r n : Nat} {c : Nat → Nat} (ha : a < 12) (hr : r < 6) (hn : n ≤ 6) (h1 : ∀ c < 12, f 31 c = nI (N c)) (hs : f (56 + 2 * r) 1 = nI n) (hc : ∀ i < n, f (56 + 2 * r + 1) i = nI (c i) ∧ c i < 12) : ∃ f', zz_ca 93 [.ref 36, .ref 30, .int (nI a), .ref (56 + 2 * r)] (zK f g) = some (some (.int (zB (∀ i < n, ¬ zfa N a (c i) = none))), zK f' g) ∧ zXs f f' g g ∧ ((∀ i < n, ¬ zfa N a (c i) = none) → f' 36 4 = nI n ∧ (∀ i < n, f' 40 i = dI (zfa N a (c i))) ∧ ∀ i < n, ∀ j < n, f' (42 + i) j = dI (zfa N (c i) (c j))) := by
  have hS := zs_S_row r hr
  have e0 : (if nI 0 < (if nI 6 < nI n then nI 6 else nI n) then (if nI 6 < nI n then nI 6 else nI n) else nI 0) = nI n := by
    simp (disch := omega) only [nI_add, pk_mul, z_in, z_ix, nI_leI, nI_ltI, nI_eq, z_eq0, z_lt0, z_0le, z_0lt, z_le0, z_n9, z_n1, z_m1lt, z_m9lt, z_m9le, z_m1le, zB_0, zB_1, zz_bi_s, zz_bv_s, zz_bl_s, if_pos, if_neg, if_true, if_false, true_and, and_true, not_true_eq_false, not_false_eq_true, ite_self]
    by_cases q : 0 < n
    · rw [if_pos q]
    · rw [if_neg q, show n = 0 by omega]
  rw [e_93, x_93_0 _ _ _ _ hS, hs, e0]
  obtain ⟨f1, e1, k1, k2⟩ := l_83 (f := zz_u f 36 4 (nI n)) (g := g) zs_P_30 hN (fun c hc => by rw [zu_c (by decide)]; exact h1 c hc) ha
  rw [e1, zz_bv_s, x_93_22 _ _ _ _ hS, hw_93_25 _ _ _ _ _ hS]
  have s1 : f1 36 4 = nI n := by rw [k1 36 (by decide), zu_s]
  have row : ∀ x, x = 56 + 2 * r + 1 → f1 x = f x := fun x hx => by rw [k1 x (by omega), zu_c (by omega)]
  -- first loop
  have key := z_loop (fun i (f' : Nat → Nat → Int32) => zz_ev 93 25 [.ref 36, .ref 30, .null, .ref (56 + 2 * r), .int (nI i), .null] [] (zK f' g))
    (fun i f' => (∀ x, x ≠ 40 → f' x = f1 x) ∧ ∀ j < i, f' 40 j = dI (zfa N a (c j)) ∧ ¬ zfa N a (c j) = none)
    (fun x => (∃ f', x = some (some (.int (nI 0)), zK f' g) ∧ (∀ x, x ≠ 40 → f' x = f1 x) ∧ ¬ ∀ i < n, ¬ zfa N a (c i) = none) ∨ (∃ f', x = zz_ev 93 74 [.ref 36, .ref 30, .null, .ref (56 + 2 * r), .int (nI 0), .null] [] (zK f' g) ∧ (∀ x, x ≠ 40 → f' x = f1 x) ∧ ∀ j < n, f' 40 j = dI (zfa N a (c j)) ∧ ¬ zfa N a (c j) = none)) n ?_ ?_ 0 f1 (by omega) ⟨fun _ _ => rfl, fun j hj => by omega⟩
  · rcases key with ⟨f2, e2, q1, q2⟩ | ⟨f2, e2, q1, q2⟩
    · refine ⟨f2, ?_, ⟨fun x hx => by rw [q1 x (by omega), k1 x (by omega), zu_c (by omega)], fun _ _ => rfl⟩, fun q => absurd q q2⟩
      rw [e2, zB_f q2]
    · have hall : ∀ i < n, ¬ zfa N a (c i) = none := fun i hi => (q2 i hi).2
      rw [e2, zB_t hall]
      have s2 : f2 36 4 = nI n := by rw [q1 36 (by decide)]; exact s1
      have b2 : ∀ c < 12, f2 31 c = nI (N c) := fun c hc => by rw [q1 31 (by decide), k1 31 (by decide), zu_c (by decide)]; exact h1 c hc
      -- second loop
      have key2 := z_loop (fun i (f' : Nat → Nat → Int32) => zz_ev 93 74 [.ref 36, .ref 30, .null, .ref (56 + 2 * r), .int (nI i), .null] [] (zK f' g))
        (fun i f' => (∀ x, x ≠ 32 → (x < 42 ∨ 47 < x) → f' x = f2 x) ∧ ∀ j < i, ∀ k < n, f' (42 + j) k = dI (zfa N (c j) (c k)))
        (fun x => ∃ f', x = some (some (.int (nI 1)), zK f' g) ∧ (∀ x, x ≠ 32 → (x < 42 ∨ 47 < x) → f' x = f2 x) ∧ ∀ j < n, ∀ k < n, f' (42 + j) k = dI (zfa N (c j) (c k))) n ?_ ?_ 0 f2 (by omega) ⟨fun _ _ _ => rfl, fun j hj => by omega⟩
      · obtain ⟨f3, e3, t1, t2⟩ := key2
        refine ⟨f3, e3, ⟨fun x hx => by rw [t1 x (by omega) (by omega), q1 x (by omega), k1 x (by omega), zu_c (by omega)], fun _ _ => rfl⟩, fun _ => ⟨by rw [t1 36 (by decide) (by decide)]; exact s2, fun i hi => by rw [t1 40 (by decide) (by decide)]; exact (q2 i hi).1, t2⟩⟩
      · intro i f3 hi ⟨t1, t2⟩
        left
        have m0 : f3 36 4 = nI n := by rw [t1 36 (by decide) (by decide)]; exact s2
        have m1 : f3 (56 + 2 * r + 1) i = nI (c i) := by rw [t1 _ (by omega) (by omega), q1 _ (by omega), row _ rfl]; exact (hc i hi).1
        have hci := (hc i hi).2
        obtain ⟨f4, e4, u1, u2⟩ := l_83 (f := f3) (g := g) zs_P_30 hN (fun c hc => by rw [t1 31 (by decide) (by decide)]; exact b2 c hc) hci
        -- inner loop
        have key3 := z_lp (fun k => zz_ev 93 97 [.ref 36, .ref 30, .null, .ref (56 + 2 * r), .int (nI i), .int (nI k)] [] (zK (fun x y => if x = 42 + i ∧ y < k then dI (zfa N (c i) (c y)) else f4 x y) g)) n (fun k hk => ?_) 0 (by omega)
        · refine ⟨fun x y => if x = 42 + i ∧ y < n then dI (zfa N (c i) (c y)) else f4 x y, ?_, fun x q1 q2 => ?_, fun j hj k hk => ?_⟩
          · rw [x_93_74 _ _ _ _ _ hS, m0]
            simp (disch := first | omega | assumption) only [nI_add, pk_mul, z_in, z_ix, nI_leI, nI_ltI, nI_eq, z_eq0, z_lt0, z_0le, z_0lt, z_le0, z_n9, z_n1, z_m1lt, z_m9lt, z_m9le, z_m1le, zB_0, zB_1, zz_bi_s, zz_bv_s, zz_bl_s, if_pos, if_neg, if_true, if_false, true_and, and_true, not_true_eq_false, not_false_eq_true, ite_self, m1, e4, x_93_94 _ _ _ _ hS]
            refine Eq.trans ?_ (key3.trans ?_)
            · congr 3; funext x y; exact (if_neg (fun q => by omega)).symm
            · have m5 : (if (36 : Nat) = 42 + i ∧ 4 < n then dI (zfa N (c i) (c 4)) else f4 36 4) = nI n := by rw [if_neg (fun q => by omega), u1 36 (by decide)]; exact m0
              rw [x_93_97 _ _ _ _ _ hS]
              rw [m5]
              simp (disch := first | omega | assumption) only [nI_add, pk_mul, z_in, z_ix, nI_leI, nI_ltI, nI_eq, z_eq0, z_lt0, z_0le, z_0lt, z_le0, z_n9, z_n1, z_m1lt, z_m9lt, z_m9le, z_m1le, zB_0, zB_1, zz_bi_s, zz_bv_s, zz_bl_s, if_pos, if_neg, if_true, if_false, true_and, and_true, not_true_eq_false, not_false_eq_true, ite_self, hi_93_74 _ _ _ _ _ hS]
          · funext y; dsimp only; rw [if_neg (fun q => by omega), u1 x q1, t1 x q1 q2]
          · dsimp only
            by_cases q : j = i
            · subst q; rw [if_pos ⟨rfl, hk⟩]
            · rw [if_neg (fun w => by omega), u1 _ (by omega)]; exact t2 j (by omega) k hk
        · show zz_ev 93 97 _ _ _ = zz_ev 93 97 _ _ _
          have m5 : (if (36 : Nat) = 42 + i ∧ 4 < k then dI (zfa N (c i) (c 4)) else f4 36 4) = nI n := by rw [if_neg (fun q => by omega), u1 36 (by decide)]; exact m0
          have m6 : (if 56 + 2 * r + 1 = 42 + i ∧ k < k then dI (zfa N (c i) (c k)) else f4 (56 + 2 * r + 1) k) = nI (c k) := by rw [if_neg (fun q => by omega), u1 _ (by omega), t1 _ (by omega) (by omega), q1 _ (by omega), row _ rfl]; exact (hc k hk).1
          have hck := (hc k hk).2
          have m7 : (if (32 : Nat) = 42 + i ∧ c k < k then dI (zfa N (c i) (c (c k))) else f4 32 (c k)) = dI (zfa N (c i) (c k)) := by rw [if_neg (fun q => by omega)]; exact u2 _ hck
          rw [x_93_97 _ _ _ _ _ hS]
          rw [m5, z_ix (c := k) (by omega), m6, z_ix (c := c k) (by omega), m7]
          simp (disch := first | omega | assumption) only [nI_add, pk_mul, z_in, z_ix, nI_leI, nI_ltI, nI_eq, z_eq0, z_lt0, z_0le, z_0lt, z_le0, z_n9, z_n1, z_m1lt, z_m9lt, z_m9le, z_m1le, zB_0, zB_1, zz_bi_s, zz_bv_s, zz_bl_s, if_pos, if_neg, if_true, if_false, true_and, and_true, not_true_eq_false, not_false_eq_true, ite_self]
          congr 3
          funext x y
          unfold zz_u
          by_cases q : x = 42 + i ∧ y = k
          · rw [if_pos q, if_pos ⟨q.1, by omega⟩, q.2]
          · rw [if_neg q]
            dsimp only
            by_cases q2 : x = 42 + i ∧ y < k
            · rw [if_pos q2, if_pos ⟨q2.1, by omega⟩]
            · rw [if_neg q2, if_neg (fun w => by omega)]
      · intro f3 ⟨t1, t2⟩
        have m0 : f3 36 4 = nI n := by rw [t1 36 (by decide) (by decide)]; exact s2
        refine ⟨f3, ?_, t1, t2⟩
        rw [x_93_74 _ _ _ _ _ hS, m0]; simp (disch := first | omega | assumption) only [nI_add, pk_mul, z_in, z_ix, nI_leI, nI_ltI, nI_eq, z_eq0, z_lt0, z_0le, z_0lt, z_le0, z_n9, z_n1, z_m1lt, z_m9lt, z_m9le, z_m1le, zB_0, zB_1, zz_bi_s, zz_bv_s, zz_bl_s, if_pos, if_neg, if_true, if_false, true_and, and_true, not_true_eq_false, not_false_eq_true, ite_self]
  · intro i f2 hi ⟨q1, q2⟩
    have m0 : f2 36 4 = nI n := by rw [q1 36 (by decide)]; exact s1
    have m1 : f2 (56 + 2 * r + 1) i = nI (c i) := by rw [q1 _ (by omega), row _ rfl]; exact (hc i hi).1
    have hci := (hc i hi).2
    have m2 : f2 32 (c i) = dI (zfa N a (c i)) := by rw [q1 32 (by decide)]; exact k2 _ hci
    rw [x_93_25 _ _ _ _ _ hS, m0]
    simp (disch := first | omega | assumption) only [nI_add, pk_mul, z_in, z_ix, nI_leI, nI_ltI, nI_eq, z_eq0, z_lt0, z_0le, z_0lt, z_le0, z_n9, z_n1, z_m1lt, z_m9lt, z_m9le, z_m1le, zB_0, zB_1, zz_bi_s, zz_bv_s, zz_bl_s, if_pos, if_neg, if_true, if_false, true_and, and_true, not_true_eq_false, not_false_eq_true, ite_self, m1, m2, zu_s]
    have hne : (0 ≤ dI (zfa N a (c i))) ↔ ¬ zfa N a (c i) = none := by
      cases e : zfa N a (c i) with
      | none => simp [dI_n]
      | some d => rw [dI_s, z_0le (by have := zfa_lt e; omega)]; simp
    by_cases q : zfa N a (c i) = none
    · right; left
      refine ⟨_, by rw [if_neg (fun w => hne.mp w q)], fun x hx => by rw [zu_c hx]; exact q1 x hx, fun w => w i hi q⟩
    · left
      refine ⟨_, by rw [if_pos (hne.mpr q)], fun x hx => by rw [zu_c hx]; exact q1 x hx, fun j hj => ?_⟩
      by_cases q3 : j = i
      · subst q3; rw [zu_s]; exact ⟨rfl, q⟩
      · rw [zu_i q3]; exact q2 j (by omega)
  · intro f2 ⟨q1, q2⟩
    right
    have m0 : f2 36 4 = nI n := by rw [q1 36 (by decide)]; exact s1
    refine ⟨f2, ?_, q1, q2⟩
    rw [x_93_25 _ _ _ _ _ hS, m0]; simp (disch := first | omega | assumption) only [nI_add, pk_mul, z_in, z_ix, nI_leI, nI_ltI, nI_eq, z_eq0, z_lt0, z_0le, z_0lt, z_le0, z_n9, z_n1, z_m1lt, z_m9lt, z_m9le, z_m1le, zB_0, zB_1, zz_bi_s, zz_bv_s, zz_bl_s, if_pos, if_neg, if_true, if_false, true_and, and_true, not_true_eq_false, not_false_eq_true, ite_self]
theorem l_96 {f : Nat → Nat → Int32} {g : Nat → Nat → Int64} {N : Nat → Nat} {a n s : Nat} {c o : Nat → Nat} (hn : n ≤ 6) (h0 : f 36 4 = nI n) (h1 : ∀ i < n, f 40 i = dI (zfa N a (c i))) (h2 : ∀ i < n, ∀ j < n, f (42 + i) j = dI (zfa N (c i) (c j))) (ho : ∀ i < n, f 38 i = nI (o i) ∧ o i < n) (hz : zsq N a (fun i => c (o i)) n = some s) : zz_ca 96 [.ref 36] (zK f g) = some (some (.int (nI s)), zK f g) := by
  rw [e_96, x_96_0, h0]
  by_cases hn0 : n = 0
  · subst hn0; cases hz; simp (disch := first | omega | assumption) only [nI_add, pk_mul, z_in, z_ix, nI_leI, nI_ltI, nI_eq, z_eq0, z_lt0, z_0le, z_0lt, z_le0, z_n9, z_n1, z_m1lt, z_m9lt, z_m9le, z_m1le, zB_0, zB_1, zz_bi_s, zz_bv_s, zz_bl_s, if_pos, if_neg, if_true, if_false, true_and, and_true, not_true_eq_false, not_false_eq_true, ite_self]
  · have m0 := ho 0 (by omega)
    have l0 := m0.2
    simp (disch := first | omega | assumption) only [nI_add, pk_mul, z_in, z_ix, nI_leI, nI_ltI, nI_eq, z_eq0, z_lt0, z_0le, z_0lt, z_le0, z_n9, z_n1, z_m1lt, z_m9lt, z_m9le, z_m1le, zB_0, zB_1, zz_bi_s, zz_bv_s, zz_bl_s, if_pos, if_neg, if_true, if_false, true_and, and_true, not_true_eq_false, not_false_eq_true, ite_self, m0.1, h1 (o 0)]
    have key := z_loop (fun i (t : Nat) => zz_ev 96 26 [.ref 36, .int (nI t), .int (nI (i + 1))] [] (zK f g))
      (fun i t => zsq N a (fun i => c (o i)) (i + 1) = some t) (fun x => x = some (some (.int (nI s)), zK f g)) (n - 1) ?_ ?_
    · obtain ⟨t, e1⟩ := zsq_pre hz (i := 1) (by omega)
      cases e2 : zfa N a (c (o 0)) with
      | none => rw [zsq_1 (n := 0) (s := 0) rfl e2] at e1; cases e1
      | some d =>
        have e3 : zsq N a (fun i => c (o i)) 1 = some (0 + d) := zsq_2 (n := 0) (s := 0) rfl e2
        have := key 0 d (by omega) (by rw [e3]; congr 1; omega)
        exact this
    · intro i t hi e1
      left
      obtain ⟨t2, e2⟩ := zsq_pre hz (i := i + 2) (by omega)
      have p1 := ho i (by omega)
      have p2 := ho (i + 1) (by omega)
      have l1 := p1.2
      have l2 := p2.2
      have m := h2 _ l1 _ l2
      have hlt := zsq_le e1
      refine ⟨t2, ?_, e2⟩
      rw [x_96_26, h0]
      simp (disch := first | omega | assumption) only [nI_add, pk_mul, z_in, z_ix, nI_leI, nI_ltI, nI_eq, z_eq0, z_lt0, z_0le, z_0lt, z_le0, z_n9, z_n1, z_m1lt, z_m9lt, z_m9le, z_m1le, zB_0, zB_1, zz_bi_s, zz_bv_s, zz_bl_s, if_pos, if_neg, if_true, if_false, true_and, and_true, not_true_eq_false, not_false_eq_true, ite_self, pk_sub, p2.1]
      rw [show i + 1 - 1 = i by omega]
      simp (disch := first | omega | assumption) only [nI_add, pk_mul, z_in, z_ix, nI_leI, nI_ltI, nI_eq, z_eq0, z_lt0, z_0le, z_0lt, z_le0, z_n9, z_n1, z_m1lt, z_m9lt, z_m9le, z_m1le, zB_0, zB_1, zz_bi_s, zz_bv_s, zz_bl_s, if_pos, if_neg, if_true, if_false, true_and, and_true, not_true_eq_false, not_false_eq_true, ite_self, p1.1, p2.1, m]
      cases e3 : zfa N (c (o i)) (c (o (i + 1))) with
      | none => rw [zsq_1 (n := i + 1) e1 e3] at e2; cases e2
      | some d => rw [zsq_2 (n := i + 1) e1 e3] at e2; cases e2; rw [dI_s, nI_add]
    · intro t e1
      rw [show n - 1 + 1 = n by omega, hz] at e1; cases e1
      rw [x_96_26, h0]; simp (disch := first | omega | assumption) only [nI_add, pk_mul, z_in, z_ix, nI_leI, nI_ltI, nI_eq, z_eq0, z_lt0, z_0le, z_0lt, z_le0, z_n9, z_n1, z_m1lt, z_m9lt, z_m9le, z_m1le, zB_0, zB_1, zz_bi_s, zz_bv_s, zz_bl_s, if_pos, if_neg, if_true, if_false, true_and, and_true, not_true_eq_false, not_false_eq_true, ite_self]
def zb1 (acc : Option (Nat × List Nat)) : Nat := match acc with
  | none => 0
  | some s => s.1
theorem zbu_n {c : Nat} {l : List Nat} : zbu (some c) l none = some (c, l) := rfl
theorem zbu_s {c : Nat} {l : List Nat} {s : Nat × List Nat} : zbu (some c) l (some s) = if c < s.1 then some (c, l) else some s := rfl
theorem l_94 {N : Nat → Nat} {a n : Nat} {c : Nat → Nat} {g : Nat → Nat → Int64} (hn : n ≤ 6) (hall : ∀ l : List Nat, (∀ i < n, l.getD i 0 < n) → ∃ s, zsq N a (fun i => c (l.getD i 0)) n = some s) : ∀ (d : Nat) (l : List Nat) (acc : Option (Nat × List Nat)) (f : Nat → Nat → Int32), zch n d l = true → d ≤ 720 → (acc = none ↔ d = 720) → (∀ s, acc = some s → s.1 < 2 ^ 31 ∧ zOr f 39 n (fun i => s.2.getD i 0)) → f 36 4 = nI n → f 37 1 = nI n → (∀ i < n, f 40 i = dI (zfa N a (c i))) → (∀ i < n, ∀ j < n, f (42 + i) j = dI (zfa N (c i) (c j))) → zOr f 38 n (fun i => l.getD i 0) → ∃ s f', zbe n (fun l => zsq N a (fun i => c (l.getD i 0)) n) d l acc = some s ∧ zz_ev 94 15 [.ref 36, .int (nI (zb1 acc)), .int (nI (720 - d)), .null] [] (zK f g) = some (some (.int (nI s.1)), zK f' g) ∧ (∀ x, x ≠ 38 → x ≠ 39 → f' x = f x) ∧ zOr f' 39 n (fun i => s.2.getD i 0)
  | 0, l, acc, f, hch, hd, ha, hb, h1, h2, h3, h4, h5 => by cases hch
  | d + 1, l, acc, f, hch, hd, ha, hb, h1, h2, h3, h4, h5 => by
    obtain ⟨ok, nxt⟩ := zch_1 hch
    obtain ⟨s, hs⟩ := hall l (fun i hi => (ok i hi).1)
    have hsl := zsq_le hs
    have m1 := l_96 (g := g) hn h1 h3 h4 (fun i hi => ⟨h5 i hi, (ok i hi).1⟩) hs
    -- behind the comparison
    have step : ∃ s1 f1, zbu (some s) l acc = some s1 ∧ s1.1 < 2 ^ 31 ∧ zz_ev 94 26 [.ref 36, .int (nI (zb1 acc)), .int (nI (720 - (d + 1))), .null] [.int (nI s)] (zK f g) = zz_ev 94 56 [.ref 36, .int (nI s1.1), .int (nI (720 - (d + 1))), .int (nI s)] [] (zK f1 g) ∧ (∀ x, x ≠ 39 → f1 x = f x) ∧ zOr f1 39 n (fun i => s1.2.getD i 0) := by
      have cpy : zOr (zz_cp f 38 0 39 0 6) 39 n (fun i => l.getD i 0) := fun k hk => by
        unfold zz_cp; rw [if_pos ⟨rfl, by omega, by omega⟩, show 0 + (k - 0) = k by omega]; exact h5 k hk
      have cpc : ∀ x, x ≠ 39 → zz_cp f 38 0 39 0 6 x = f x := fun x hx => by funext y; exact if_neg (fun q => hx q.1)
      have cpn : ∀ v v2, zz_ev 94 36 [.ref 36, .int v, .int v2, .int (nI s)] [] (zK f g) = zz_ev 94 56 [.ref 36, .int (nI s), .int v2, .int (nI s)] [] (zK (zz_cp f 38 0 39 0 6) g) := fun v v2 => by
        rw [x_94_36, if_pos (by decide +kernel)]; rfl
      rw [x_94_26]
      cases acc with
      | none =>
        have : d + 1 = 720 := ha.mp rfl
        refine ⟨(s, l), _, zbu_n, by show s < _; omega, ?_, cpc, cpy⟩
        simp (disch := first | omega | assumption) only [nI_add, pk_mul, z_in, z_ix, nI_leI, nI_ltI, nI_eq, z_eq0, z_lt0, z_0le, z_0lt, z_le0, z_n9, z_n1, z_m1lt, z_m9lt, z_m9le, z_m1le, zB_0, zB_1, zz_bi_s, zz_bv_s, zz_bl_s, if_pos, if_neg, if_true, if_false, true_and, and_true, not_true_eq_false, not_false_eq_true, ite_self]; rw [cpn]
      | some t =>
        have ht := hb t rfl
        have : ¬ d + 1 = 720 := fun q => by have := ha.mpr q; cases this
        rw [zbu_s, show zb1 (some t) = t.1 from rfl]
        simp (disch := first | omega | assumption) only [nI_add, pk_mul, z_in, z_ix, nI_leI, nI_ltI, nI_eq, z_eq0, z_lt0, z_0le, z_0lt, z_le0, z_n9, z_n1, z_m1lt, z_m9lt, z_m9le, z_m1le, zB_0, zB_1, zz_bi_s, zz_bv_s, zz_bl_s, if_pos, if_neg, if_true, if_false, true_and, and_true, not_true_eq_false, not_false_eq_true, ite_self]
        by_cases q : s < t.1
        · refine ⟨(s, l), _, if_pos q, by show s < _; omega, ?_, cpc, cpy⟩
          rw [if_neg (by omega), cpn]
        · exact ⟨t, f, if_neg q, ht.1, by rw [if_pos (by omega)], fun _ _ => rfl, ht.2⟩
    obtain ⟨s1, f1, b1, b2, b3, b4, b5⟩ := step
    have go := l_97 (f := f1) (g := g) zs_O_37 hn (o := fun i => l.getD i 0) (fun k hk => by have := (ok k hk).1; omega) (by rw [b4 37 (by decide)]; exact h2) (fun k hk => by rw [b4 38 (by decide)]; exact h5 k hk)
    have head : zz_ev 94 15 [.ref 36, .int (nI (zb1 acc)), .int (nI (720 - (d + 1))), .null] [] (zK f g) = zz_bi (zz_ca 97 [.ref 37] (zK f1 g)) (fun r9 h9 => zz_ev 94 63 [.ref 36, .int (nI s1.1), .int (nI (720 - (d + 1))), .int (nI s)] [.int r9] h9) := by
      rw [x_94_15]; simp (disch := first | omega | assumption) only [nI_add, pk_mul, z_in, z_ix, nI_leI, nI_ltI, nI_eq, z_eq0, z_lt0, z_0le, z_0lt, z_le0, z_n9, z_n1, z_m1lt, z_m9lt, z_m9le, z_m1le, zB_0, zB_1, zz_bi_s, zz_bv_s, zz_bl_s, if_pos, if_neg, if_true, if_false, true_and, and_true, not_true_eq_false, not_false_eq_true, ite_self, m1]; rw [b3, x_94_56]
    rcases go with ⟨g1, g2⟩ | ⟨o', f2, g1, g2, g3, g4⟩
    · refine ⟨s1, f1, by rw [zbe_n g1, hs]; exact b1, ?_, fun x _ hx => b4 x hx, b5⟩
      rw [head, g2, zz_bi_s, x_94_63]; simp (disch := first | omega | assumption) only [nI_add, pk_mul, z_in, z_ix, nI_leI, nI_ltI, nI_eq, z_eq0, z_lt0, z_0le, z_0lt, z_le0, z_n9, z_n1, z_m1lt, z_m9lt, z_m9le, z_m1le, zB_0, zB_1, zz_bi_s, zz_bv_s, zz_bl_s, if_pos, if_neg, if_true, if_false, true_and, and_true, not_true_eq_false, not_false_eq_true, ite_self]; rw [x_94_75]
    · obtain ⟨s2, f3, r1, r2, r3, r4⟩ := l_94 hn hall d ((List.range n).map o') (some s1) f2 (nxt o' g1) (by omega) ⟨fun q => (by cases q), fun q => by omega⟩ (fun t ht => by cases ht; exact ⟨b2, fun k hk => by rw [g3 39 (by decide)]; exact b5 k hk⟩) (by rw [g3 36 (by decide), b4 36 (by decide)]; exact h1) (by rw [g3 37 (by decide), b4 37 (by decide)]; exact h2) (fun i hi => by rw [g3 40 (by decide), b4 40 (by decide)]; exact h3 i hi) (fun i hi j hj => by rw [g3 _ (by omega), b4 _ (by omega)]; exact h4 i hi j hj) (zOr_c g4 (fun k hk => z_rmap hk))
      refine ⟨s2, f3, by rw [zbe_s g1, hs, b1]; exact r1, ?_, fun x x1 x2 => by rw [r3 x x1 x2, g3 x x1, b4 x x2], r4⟩
      rw [head, g2, zz_bi_s, x_94_63]; simp (disch := first | omega | assumption) only [nI_add, pk_mul, z_in, z_ix, nI_leI, nI_ltI, nI_eq, z_eq0, z_lt0, z_0le, z_0lt, z_le0, z_n9, z_n1, z_m1lt, z_m9lt, z_m9le, z_m1le, zB_0, zB_1, zz_bi_s, zz_bv_s, zz_bl_s, if_pos, if_neg, if_true, if_false, true_and, and_true, not_true_eq_false, not_false_eq_true, ite_self, hi_94_15]
      rw [show 720 - (d + 1) + 1 = 720 - d by omega]
      exact r2
