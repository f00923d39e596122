/-! NUMBERS -/
theorem z_in {c n : Nat} (hc : c < 2 ^ 31) : zz_in (nI c) n ↔ c < n := by
  unfold zz_in; rw [nI_toInt hc]; omega
theorem z_ix {c : Nat} (hc : c < 2 ^ 31) : zz_ix (nI c) = c := nI_clamp hc
theorem z_inx {x : Int32} {n : Nat} : zz_in x n ↔ ∃ j : Nat, j < n ∧ j < 2 ^ 31 ∧ x = nI j := by
  constructor
  · intro h
    have h0 : ¬ x < 0 := by rw [Int32.lt_iff_toInt_lt]; have := h.1; simp; exact this
    obtain ⟨j, hj, rfl⟩ := nI_of h0
    exact ⟨j, (z_in hj).mp h, hj, rfl⟩
  · rintro ⟨j, hj, hj2, rfl⟩
    exact (z_in hj2).mpr hj
theorem z_rem {a d : Nat} (ha : a < 2 ^ 31) (h0 : 0 < d) (hd : d < 2 ^ 31) : zz_rem (nI a) (nI d) = nI (a % d) := pk_rem ha h0 hd
theorem z_0 : (0 : Int32) = nI 0 := rfl
theorem z_1 : (1 : Int32) = nI 1 := rfl
theorem z_eq0 {n : Nat} (h : n < 2 ^ 31) : (nI n = 0) ↔ n = 0 := nI_eq h (by decide)
theorem z_lt0 {n : Nat} (h : n < 2 ^ 31) : (nI n < 0) ↔ False := ⟨fun q => nI_pos h q, False.elim⟩
theorem z_0le {n : Nat} (h : n < 2 ^ 31) : (0 ≤ nI n) ↔ True := ⟨fun _ => trivial, fun _ => nI_pos' h⟩
theorem z_0lt {n : Nat} (h : n < 2 ^ 31) : (0 < nI n) ↔ 0 < n := nI_ltI (a := 0) (by decide) h
theorem z_le0 {n : Nat} (h : n < 2 ^ 31) : (nI n ≤ 0) ↔ n = 0 := by
  have := nI_leI (b := 0) h (by decide); rw [show (0 : Int32) = nI 0 from rfl, this]; omega
theorem z_n9 {n : Nat} (h : n < 2 ^ 31) : (nI n = -9) ↔ False := by
  refine ⟨fun q => ?_, False.elim⟩
  have := congrArg Int32.toInt q; rw [nI_toInt h] at this
  have h2 : (-9 : Int32).toInt = -9 := by decide +kernel
  omega
theorem z_n1 {n : Nat} (h : n < 2 ^ 31) : (nI n = -1) ↔ False := by
  refine ⟨fun q => ?_, False.elim⟩
  have := congrArg Int32.toInt q; rw [nI_toInt h] at this
  have h2 : (-1 : Int32).toInt = -1 := by decide +kernel
  omega
theorem z_m1lt : ((-1 : Int32) < 0) ↔ True := by decide +kernel
theorem z_m9lt : ((-9 : Int32) < 0) ↔ True := by decide +kernel
theorem z_m9le : ((0 : Int32) ≤ -9) ↔ False := by decide +kernel
theorem z_m1le : ((0 : Int32) ≤ -1) ↔ False := by decide +kernel
theorem z_dec {n : Nat} (h : 0 < n) : nI n + -1 = nI (n - 1) := by
  obtain ⟨m, rfl⟩ : ∃ m, n = m + 1 := ⟨n - 1, by omega⟩
  exact pk_m1 m
/-- a truth as an int -/
def zB (c : Prop) [Decidable c] : Int32 := if c then nI 1 else nI 0
theorem zB_0 {c : Prop} [Decidable c] : (zB c = 0) ↔ ¬ c := by
  unfold zB; split <;> rename_i h
  · exact ⟨fun q => by exact absurd q (by decide +kernel), fun q => absurd h q⟩
  · exact ⟨fun _ => h, fun _ => rfl⟩
theorem zB_1 {c : Prop} [Decidable c] : (zB c = nI 1) ↔ c := by
  unfold zB; split <;> rename_i h
  · exact ⟨fun _ => h, fun _ => rfl⟩
  · exact ⟨fun q => by exact absurd q (by decide +kernel), fun q => absurd q h⟩
theorem zB_t {c : Prop} [Decidable c] (h : c) : zB c = nI 1 := if_pos h
theorem zB_f {c : Prop} [Decidable c] (h : ¬ c) : zB c = nI 0 := if_neg h
theorem zB_bz {c : Prop} [Decidable c] : zz_bz (zB c) := by unfold zB; split; exact Or.inr rfl; exact Or.inl rfl
theorem zB_c {c d : Prop} [Decidable c] [Decidable d] (h : c ↔ d) : zB c = zB d := by
  unfold zB; simp only [h]
/-- what stands at a place that was set, or at another -/
theorem zu_s {α : Type} {f : Nat → Nat → α} {a i : Nat} {v : α} : zz_u f a i v a i = v := if_pos ⟨rfl, rfl⟩
theorem zu_c {α : Type} {f : Nat → Nat → α} {a i b : Nat} {v : α} (h : b ≠ a) : zz_u f a i v b = f b := by
  funext j; exact if_neg (fun q => h q.1)
theorem zu_n {α : Type} {f : Nat → Nat → α} {a i b j : Nat} {v : α} (h : b ≠ a ∨ j ≠ i) : zz_u f a i v b j = f b j := if_neg (fun q => by omega)
theorem zu_i {α : Type} {f : Nat → Nat → α} {a i j : Nat} {v : α} (h : j ≠ i) : zz_u f a i v a j = f a j := if_neg (fun q => h q.2)
theorem zu_if {α : Type} {f : Nat → Nat → α} {a i j : Nat} {v : α} : zz_u f a i v a j = if j = i then v else f a j := by
  unfold zz_u; simp
/-! bits -/
theorem z_and (a b : Nat) : nI a &&& nI b = nI (a &&& b) := by
  apply Int32.toBitVec_inj.mp; show BitVec.ofNat 32 a &&& BitVec.ofNat 32 b = BitVec.ofNat 32 (a &&& b); rw [BitVec.ofNat_and]
theorem z_or (a b : Nat) : nI a ||| nI b = nI (a ||| b) := by
  apply Int32.toBitVec_inj.mp; show BitVec.ofNat 32 a ||| BitVec.ofNat 32 b = BitVec.ofNat 32 (a ||| b); rw [BitVec.ofNat_or]
theorem z_xor (a b : Nat) : nI a ^^^ nI b = nI (a ^^^ b) := by
  apply Int32.toBitVec_inj.mp; show BitVec.ofNat 32 a ^^^ BitVec.ofNat 32 b = BitVec.ofNat 32 (a ^^^ b); rw [BitVec.ofNat_xor]
theorem z_shk {k : Nat} (hk : k < 32) : ((nI k &&& 31).toBitVec.smod 32).toNat = k := by
  have : ∀ k < 32, ((nI k &&& 31).toBitVec.smod 32).toNat = k := by decide +kernel
  exact this k hk
theorem z_shl {a k : Nat} (hk : k < 32) (h : a * 2 ^ k < 2 ^ 32) : nI a <<< (nI k &&& 31) = nI (a * 2 ^ k) := pk_shlN _ k (z_shk hk) h
theorem z_1shl {k : Nat} (hk : k < 32) : nI 1 <<< (nI k &&& 31) = nI (2 ^ k) := by
  have h : 2 ^ k < 2 ^ 32 := Nat.pow_lt_pow_right (by decide) hk
  rw [z_shl hk (by omega), Nat.one_mul]
theorem z_shr {a k : Nat} (ha : a < 2 ^ 31) (hk : k < 32) : nI a >>> (nI k &&& 31) = nI (a / 2 ^ k) := pk_shrN ha _ k (z_shk hk)
theorem z_bit {a k : Nat} (ha : a < 2 ^ 31) (hk : k < 32) : (nI a >>> (nI k &&& 31)) &&& nI 1 = nI (a.testBit k).toNat := by
  rw [z_shr ha hk, z_and]
  congr 1
  rw [Nat.testBit_eq_decide_div_mod_eq, Nat.and_one_is_mod]
  have : a / 2 ^ k % 2 = 0 ∨ a / 2 ^ k % 2 = 1 := by omega
  rcases this with h | h <;> simp [h]
theorem z_hasb {a k : Nat} (ha : a < 2 ^ 31) (hk : k < 32) : ((nI a >>> (nI k &&& 31)) &&& nI 1 = nI 1) ↔ a.testBit k = true := by
  rw [z_bit ha hk]
  cases a.testBit k <;> decide +kernel
theorem z_nt (b : Nat) : nI b ^^^ -1 = ~~~ nI b := by
  apply Int32.toBitVec_inj.mp
  show BitVec.ofNat 32 b ^^^ BitVec.allOnes 32 = ~~~ BitVec.ofNat 32 b
  rw [BitVec.xor_allOnes]
/-- a without the bits of b -/
def zdf (a b : Nat) : Nat := a ^^^ (a &&& b)
theorem zdf_t (a b i : Nat) : (zdf a b).testBit i = (a.testBit i && !b.testBit i) := by
  unfold zdf; rw [Nat.testBit_xor, Nat.testBit_and]; cases a.testBit i <;> cases b.testBit i <;> rfl
theorem z_andn (a b : Nat) : nI a &&& (nI b ^^^ -1) = nI (zdf a b) := by
  rw [z_nt]
  apply Int32.toBitVec_inj.mp
  show BitVec.ofNat 32 a &&& ~~~ BitVec.ofNat 32 b = BitVec.ofNat 32 (zdf a b)
  apply BitVec.eq_of_getLsbD_eq
  intro i hi
  rw [BitVec.getLsbD_and, BitVec.getLsbD_not, BitVec.getLsbD_ofNat, BitVec.getLsbD_ofNat, BitVec.getLsbD_ofNat, zdf_t]
  simp only [hi, decide_true, Bool.true_and]
theorem z_lt2 {a n : Nat} (h : a < 2 ^ n) {i : Nat} (hi : n ≤ i) : a.testBit i = false := Nat.testBit_lt_two_pow (Nat.lt_of_lt_of_le h (Nat.pow_le_pow_right (by decide) hi))
theorem z_ext {a b n : Nat} (ha : a < 2 ^ n) (hb : b < 2 ^ n) (h : ∀ i < n, a.testBit i = b.testBit i) : a = b := by
  apply Nat.eq_of_testBit_eq
  intro i
  by_cases hi : i < n
  · exact h i hi
  · rw [z_lt2 ha (by omega), z_lt2 hb (by omega)]
theorem z_or_lt {a b : Nat} (ha : a < 4096) (hb : b < 4096) : a ||| b < 4096 := Nat.or_lt_two_pow (n := 12) ha hb
theorem z_and_lt {a b : Nat} (ha : a < 4096) : a &&& b < 4096 := Nat.lt_of_le_of_lt Nat.and_le_left ha
theorem z_xor_lt {a b : Nat} (ha : a < 4096) (hb : b < 4096) : a ^^^ b < 4096 := Nat.xor_lt_two_pow (n := 12) ha hb
theorem z_df_lt {a b : Nat} (ha : a < 4096) : zdf a b < 4096 := z_xor_lt ha (z_and_lt ha)
theorem z_p_lt {k : Nat} (hk : k < 12) : 2 ^ k < 4096 := by
  have : ∀ k < 12, 2 ^ k < 4096 := by decide
  exact this k hk
theorem z_tp {k i : Nat} : (2 ^ k).testBit i = decide (k = i) := Nat.testBit_two_pow
/-- how many of twelve -/
def zpc (n s : Nat) : Nat := match n with
  | 0 => 0
  | n + 1 => zpc n s + (s.testBit n).toNat
theorem zpc_le (n s : Nat) : zpc n s ≤ n := by
  induction n with
  | zero => exact Nat.le_refl 0
  | succ n ih => unfold zpc; have := Bool.toNat_le (s.testBit n); omega
def zbc (v0 : Int32) : Int32 := ((((((((v0 - (((v0.toUInt32 >>> ((nI 1).toUInt32 &&& Int32.toUInt32 31)).toInt32) &&& (nI 1431655765))) &&& (nI 858993459)) + ((((v0 - (((v0.toUInt32 >>> ((nI 1).toUInt32 &&& Int32.toUInt32 31)).toInt32) &&& (nI 1431655765))).toUInt32 >>> ((nI 2).toUInt32 &&& Int32.toUInt32 31)).toInt32) &&& (nI 858993459))) + (((((v0 - (((v0.toUInt32 >>> ((nI 1).toUInt32 &&& Int32.toUInt32 31)).toInt32) &&& (nI 1431655765))) &&& (nI 858993459)) + ((((v0 - (((v0.toUInt32 >>> ((nI 1).toUInt32 &&& Int32.toUInt32 31)).toInt32) &&& (nI 1431655765))).toUInt32 >>> ((nI 2).toUInt32 &&& Int32.toUInt32 31)).toInt32) &&& (nI 858993459))).toUInt32 >>> ((nI 4).toUInt32 &&& Int32.toUInt32 31)).toInt32)) &&& (nI 252645135)) + (((((((v0 - (((v0.toUInt32 >>> ((nI 1).toUInt32 &&& Int32.toUInt32 31)).toInt32) &&& (nI 1431655765))) &&& (nI 858993459)) + ((((v0 - (((v0.toUInt32 >>> ((nI 1).toUInt32 &&& Int32.toUInt32 31)).toInt32) &&& (nI 1431655765))).toUInt32 >>> ((nI 2).toUInt32 &&& Int32.toUInt32 31)).toInt32) &&& (nI 858993459))) + (((((v0 - (((v0.toUInt32 >>> ((nI 1).toUInt32 &&& Int32.toUInt32 31)).toInt32) &&& (nI 1431655765))) &&& (nI 858993459)) + ((((v0 - (((v0.toUInt32 >>> ((nI 1).toUInt32 &&& Int32.toUInt32 31)).toInt32) &&& (nI 1431655765))).toUInt32 >>> ((nI 2).toUInt32 &&& Int32.toUInt32 31)).toInt32) &&& (nI 858993459))).toUInt32 >>> ((nI 4).toUInt32 &&& Int32.toUInt32 31)).toInt32)) &&& (nI 252645135)).toUInt32 >>> ((nI 8).toUInt32 &&& Int32.toUInt32 31)).toInt32)) + ((((((((v0 - (((v0.toUInt32 >>> ((nI 1).toUInt32 &&& Int32.toUInt32 31)).toInt32) &&& (nI 1431655765))) &&& (nI 858993459)) + ((((v0 - (((v0.toUInt32 >>> ((nI 1).toUInt32 &&& Int32.toUInt32 31)).toInt32) &&& (nI 1431655765))).toUInt32 >>> ((nI 2).toUInt32 &&& Int32.toUInt32 31)).toInt32) &&& (nI 858993459))) + (((((v0 - (((v0.toUInt32 >>> ((nI 1).toUInt32 &&& Int32.toUInt32 31)).toInt32) &&& (nI 1431655765))) &&& (nI 858993459)) + ((((v0 - (((v0.toUInt32 >>> ((nI 1).toUInt32 &&& Int32.toUInt32 31)).toInt32) &&& (nI 1431655765))).toUInt32 >>> ((nI 2).toUInt32 &&& Int32.toUInt32 31)).toInt32) &&& (nI 858993459))).toUInt32 >>> ((nI 4).toUInt32 &&& Int32.toUInt32 31)).toInt32)) &&& (nI 252645135)) + (((((((v0 - (((v0.toUInt32 >>> ((nI 1).toUInt32 &&& Int32.toUInt32 31)).toInt32) &&& (nI 1431655765))) &&& (nI 858993459)) + ((((v0 - (((v0.toUInt32 >>> ((nI 1).toUInt32 &&& Int32.toUInt32 31)).toInt32) &&& (nI 1431655765))).toUInt32 >>> ((nI 2).toUInt32 &&& Int32.toUInt32 31)).toInt32) &&& (nI 858993459))) + (((((v0 - (((v0.toUInt32 >>> ((nI 1).toUInt32 &&& Int32.toUInt32 31)).toInt32) &&& (nI 1431655765))) &&& (nI 858993459)) + ((((v0 - (((v0.toUInt32 >>> ((nI 1).toUInt32 &&& Int32.toUInt32 31)).toInt32) &&& (nI 1431655765))).toUInt32 >>> ((nI 2).toUInt32 &&& Int32.toUInt32 31)).toInt32) &&& (nI 858993459))).toUInt32 >>> ((nI 4).toUInt32 &&& Int32.toUInt32 31)).toInt32)) &&& (nI 252645135)).toUInt32 >>> ((nI 8).toUInt32 &&& Int32.toUInt32 31)).toInt32)).toUInt32 >>> ((nI 16).toUInt32 &&& Int32.toUInt32 31)).toInt32)) &&& (nI 63))
theorem zbc_eq {s : Nat} (hs : s < 4096) : zbc (nI s) = nI (zpc 12 s) := by
  have : ∀ a < 64, ∀ b < 64, zbc (nI (64 * a + b)) = nI (zpc 12 (64 * a + b)) := by decide +kernel
  have h := this (s / 64) (by omega) (s % 64) (by omega)
  rwa [Nat.div_add_mod] at h
/-! loops -/
theorem z_loop {S R : Type} (E : Nat → S → R) (I : Nat → S → Prop) (Q : R → Prop) (N : Nat)
    (hs : ∀ i s, i < N → I i s → (∃ s', E i s = E (i + 1) s' ∧ I (i + 1) s') ∨ Q (E i s)) (he : ∀ s, I N s → Q (E N s)) : ∀ i s, i ≤ N → I i s → Q (E i s) := by
  intro i s hi
  induction h : N - i generalizing i s with
  | zero => intro q; have : i = N := by omega
            subst this; exact he s q
  | succ n ih =>
    intro q
    rcases hs i s (by omega) q with ⟨s', e, q'⟩ | q'
    · rw [e]; exact ih (i + 1) s' (by omega) (by omega) q'
    · exact q'
