/-! walking rows, more: calls, switches, Math -/
section ZY
variable {k pc j : Nat} {c : List zz_I} {L L1 S S' as : List Value} {h : zz_H} {f : Nat → Nat → Int32} {g : Nat → Nat → Int64} {a : Nat} {rs : List (Option Nat)} {ci N idx wp nest n : Nat}
theorem zx_icn (hk : ∀ pc, zz_cd k pc = zz_nth none c pc) {off : Int} (hc : zz_nth none c pc = some (.if_icmp .ne off, 3, [])) (hf : zz_fgt (zz_fg k pc) L = L1) {x y : Int32} {t : Nat} (ht : zz_tg pc off = t) : zz_ev k pc L (.int y :: .int x :: S) h = if x = y then zz_ev k (pc + 3) L1 S h else zz_ev k t L1 S h := by
  rw [zx_icmp hk hc hf zc_ne ht]
  by_cases hq : x = y
  · rw [if_neg (fun q => q hq), if_pos hq]
  · rw [if_pos hq, if_neg hq]
theorem zx_ifn (hk : ∀ pc, zz_cd k pc = zz_nth none c pc) {off : Int} (hc : zz_nth none c pc = some (.ifCond .ne off, 3, [])) (hf : zz_fgt (zz_fg k pc) L = L1) {x : Int32} {t : Nat} (ht : zz_tg pc off = t) : zz_ev k pc L (.int x :: S) h = if x = 0 then zz_ev k (pc + 3) L1 S h else zz_ev k t L1 S h := by
  rw [zx_ifc hk hc hf zc_ne ht]
  by_cases hq : x = 0
  · rw [if_neg (fun q => q hq), if_pos hq]
  · rw [if_pos hq, if_neg hq]
/-- a call of a static method -/
theorem zx_stS (hk : ∀ pc, zz_cd k pc = zz_nth none c pc) (hc : zz_nth none c pc = some (.invokestatic idx, 3, [j, wp, nest])) (hn : (zz_m j).2.2.2.2.2.1 = n) (hl : n ≤ S.length) (ha : (S.take n).reverse = as) (hd : S.drop n = S') (hct : zz_cat S' ≤ 8) (hsl : (zz_slots as).length ≤ (zz_m j).2.2.1) : zz_stp k pc L S h = some (.inr (.inr (j, as, S'))) := by
  refine zx_st0 hk hc rfl ?_
  have h1 : zz_c (.invokestatic idx) [j, wp, nest] S h = some (j, as, S') := by
    simp only [zz_c]
    rw [hn, ha, hd, if_pos ⟨hl, hct, hsl⟩]
  have h2 : zz_h (.invokestatic idx) [j, wp, nest] k pc (zz_fgt (zz_fg k pc) L) S h = none := by simp [zz_h]
  have h3 : zz_r (.invokestatic idx) (zz_m k).2.2.2.1 S = none := by
    rfl
  rw [h1, h2, h3]
  rfl
/-- a call of a method of a cell -/
theorem zx_stV (hk : ∀ pc, zz_cd k pc = zz_nth none c pc) (hc : zz_nth none c pc = some (.invokevirtual idx, 3, [j, wp, nest])) (hs : zs_C a (10 + ci, N, rs)) (hci : (zz_m j).2.2.2.2.1 = ci) (hn : (zz_m j).2.2.2.2.2.1 = n) (hl : n ≤ S.length) (ha : (S.take n).reverse = as) (hd : S.drop n = .ref a :: S') (hct : zz_cat S' ≤ 8) (hsl : (zz_slots (.ref a :: as)).length ≤ (zz_m j).2.2.1) : zz_stp k pc L S (zK f g) = some (.inr (.inr (j, .ref a :: as, S'))) := by
  refine zx_st0 hk hc rfl ?_
  have hk1 : zz_kd zSH a = 10 + ci := by unfold zz_kd; rw [hs.2]
  have h1 : zz_c (.invokevirtual idx) [j, wp, nest] S (zK f g) = some (j, .ref a :: as, S') := by
    simp only [zz_c]
    rw [hn, hd]
    simp only
    rw [ha, hci, if_pos ⟨hl, hct, hs.1, hk1, hsl⟩]
  have h2 : zz_h (.invokevirtual idx) [j, wp, nest] k pc (zz_fgt (zz_fg k pc) L) S (zK f g) = none := rfl
  have h3 : zz_r (.invokevirtual idx) (zz_m k).2.2.2.1 S = none := by
    rfl
  rw [h1, h2, h3]
  rfl
theorem zx_mx (hk : ∀ pc, zz_cd k pc = zz_nth none c pc) (hc : zz_nth none c pc = some (.invokestatic idx, 3, [1002, wp])) (hf : zz_fgt (zz_fg k pc) L = L1) (hct : zz_cat S ≤ 8) {x y : Int32} : zz_ev k pc L (.int y :: .int x :: S) h = zz_ev k (pc + 3) L1 (.int (if x < y then y else x) :: S) h := by
  refine zz_ev_next (zx_st0 hk hc hf ?_)
  simp only [zz_p, zz_h, if_pos hct]
theorem zx_mn (hk : ∀ pc, zz_cd k pc = zz_nth none c pc) (hc : zz_nth none c pc = some (.invokestatic idx, 3, [1003, wp])) (hf : zz_fgt (zz_fg k pc) L = L1) (hct : zz_cat S ≤ 8) {x y : Int32} : zz_ev k pc L (.int y :: .int x :: S) h = zz_ev k (pc + 3) L1 (.int (if y < x then y else x) :: S) h := by
  refine zz_ev_next (zx_st0 hk hc hf ?_)
  simp only [zz_p, zz_h, if_pos hct]
theorem zx_ma (hk : ∀ pc, zz_cd k pc = zz_nth none c pc) (hc : zz_nth none c pc = some (.invokestatic idx, 3, [1004, wp])) (hf : zz_fgt (zz_fg k pc) L = L1) (hct : zz_cat S ≤ 8) {x : Int32} : zz_ev k pc L (.int x :: S) h = zz_ev k (pc + 3) L1 (.int (if 0 ≤ x then x else 0 - x) :: S) h := by
  refine zz_ev_next (zx_st0 hk hc hf ?_)
  simp only [zz_p, zz_h, if_pos hct]
/-! switches as branches one by one -/
noncomputable def zz_swe (k : Nat) (L S : List Value) (h : zz_H) (pc : Nat) (d : Int) (x : Int32) : List Int → Nat → Option (Option Value × zz_H)
  | [], _ => zz_ev k (zz_tg pc d) L S h
  | o :: l, lo => if x = nI lo then zz_ev k (zz_tg pc o) L S h else zz_swe k L S h pc d x l (lo + 1)
theorem zz_swe_eq {d : Int} (x : Int32) : ∀ (l : List Int) (lo : Nat), lo + l.length < 2 ^ 31 → zz_swe k L S h pc d x l lo = if x.toInt < lo ∨ (lo : Int) + l.length ≤ x.toInt then zz_ev k (zz_tg pc d) L S h else match l[(x.toInt - lo).toNat]? with
    | some o => zz_ev k (zz_tg pc o) L S h
    | none => zz_ev k (zz_tg pc d) L S h
  | [], lo, _ => by
    simp only [zz_swe, List.length_nil, List.getElem?_nil]
    split <;> rfl
  | o :: l, lo, hl => by
    have hl1 : lo + 1 + l.length < 2 ^ 31 := by simp at hl; omega
    have hlo : (nI lo).toInt = (lo : Int) := nI_toInt (by simp at hl; omega)
    rw [zz_swe]
    by_cases e : x = nI lo
    · rw [if_pos e, e, hlo, if_neg (by simp; omega)]
      simp
    · have hne : x.toInt ≠ lo := fun q => e (Int32.toInt_inj.mp (by rw [hlo]; exact q))
      rw [if_neg e, zz_swe_eq x l (lo + 1) hl1]
      by_cases h1 : x.toInt < lo
      · rw [if_pos (Or.inl (by omega)), if_pos (Or.inl h1)]
      · by_cases h2 : (lo : Int) + 1 + l.length ≤ x.toInt
        · rw [if_pos (Or.inr (by simpa using h2)), if_pos (Or.inr (by simp; omega))]
        · rw [if_neg (by simp; omega), if_neg (by simp; omega)]
          have e2 : (x.toInt - lo).toNat = (x.toInt - ((lo + 1 : Nat) : Int)).toNat + 1 := by omega
          rw [e2, List.getElem?_cons_succ]
theorem zx_tsw (hk : ∀ pc, zz_cd k pc = zz_nth none c pc) {d : Int} {lo hi : Nat} {offs : Array Int} {len : Nat} (hc : zz_nth none c pc = some (.tableswitch d lo hi offs, len, [])) (hf : zz_fgt (zz_fg k pc) L = L1) (hn : lo + offs.toList.length = hi + 1) (hb : hi + 1 < 2 ^ 31) {x : Int32} : zz_ev k pc L (.int x :: S) h = zz_swe k L1 S h pc d x offs.toList lo := by
  rw [zz_swe_eq x offs.toList lo (by omega)]
  by_cases h1 : x.toInt < lo ∨ (hi : Int) < x.toInt
  · rw [if_pos (by omega)]
    refine zz_ev_next (zx_st0 hk hc hf ?_)
    simp only [zz_p, if_pos h1]
  · rw [if_neg (by omega)]
    have h2 : (x.toInt - lo).toNat < offs.toList.length := by omega
    have h3 : offs[(x.toInt - lo).toNat]? = some offs.toList[(x.toInt - lo).toNat] := by
      rw [← Array.getElem?_toList, List.getElem?_eq_getElem h2]
    rw [List.getElem?_eq_getElem h2]
    refine zz_ev_next (zx_st0 hk hc hf ?_)
    simp only [zz_p, if_neg h1, h3]
noncomputable def zz_lwe (k : Nat) (L S : List Value) (h : zz_H) (pc : Nat) (d : Int) (x : Int32) : List (Nat × Int) → Option (Option Value × zz_H)
  | [] => zz_ev k (zz_tg pc d) L S h
  | (a, o) :: l => if x = nI a then zz_ev k (zz_tg pc o) L S h else zz_lwe k L S h pc d x l
theorem zz_lwe_eq {d : Int} (x : Int32) : ∀ (l : List (Nat × Int)), (∀ q ∈ l, q.1 < 2 ^ 31) → zz_lwe k L S h pc d x l = zz_ev k (zz_tg pc (Op.lookupswitch.offset (l.map (fun q => ((q.1 : Int), q.2))) d x.toInt)) L S h
  | [], _ => rfl
  | (a, o) :: l, hl => by
    have ha : (nI a).toInt = (a : Int) := nI_toInt (hl _ List.mem_cons_self)
    rw [List.map_cons, Op.lookupswitch.offset_cons, zz_lwe]
    by_cases e : x = nI a
    · rw [if_pos e, if_pos (by rw [e, ha])]
    · rw [if_neg e, if_neg (fun q => e (Int32.toInt_inj.mp (by rw [ha]; exact q.symm))), zz_lwe_eq x l (fun q hq => hl q (List.mem_cons_of_mem _ hq))]
theorem zx_lsw (hk : ∀ pc, zz_cd k pc = zz_nth none c pc) {d : Int} {ps : Array (Int × Int)} {len : Nat} (hc : zz_nth none c pc = some (.lookupswitch d ps, len, [])) (hf : zz_fgt (zz_fg k pc) L = L1) {l : List (Nat × Int)} (hl : ps.toList = l.map (fun q => ((q.1 : Int), q.2))) (hb : ∀ q ∈ l, q.1 < 2 ^ 31) {x : Int32} : zz_ev k pc L (.int x :: S) h = zz_lwe k L1 S h pc d x l := by
  rw [zz_lwe_eq x l hb, ← hl]
  exact zz_ev_next (zx_st0 hk hc hf rfl)
end ZY
