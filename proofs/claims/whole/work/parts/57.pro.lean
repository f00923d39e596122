/-! THE BEGINNING: both as they are made, and the law up to its loop -/
def A0 : zA := ((fun _ => -1, fun _ _ => 0), (fun _ => -1, fun _ _ => 0), (0, fun _ => 0, 0, fun _ => 0, fun _ => 0), (fun _ => 0, 0, fun _ => (0, 0, fun _ => 0, fun _ => 0, fun _ => 0)), (fun _ => false, fun _ => (fun _ => 0, 0, fun _ => (0, 0, fun _ => 0, fun _ => 0, fun _ => 0))), (0, 0, fun _ => 0, 0, 1))
theorem A0_wf : wf A0 := by
  refine ⟨fun r _ => Or.inl rfl, fun r _ => ⟨Or.inl rfl, fun i _ => ?_⟩, ⟨Nat.zero_le _, Nat.zero_le _, fun p hp => absurd hp (Nat.not_lt_zero _), fun p hp => absurd hp (Nat.not_lt_zero _)⟩, ⟨fun p hp => absurd hp (Nat.not_lt_zero _), Nat.zero_le _, fun d _ => ⟨?_, fun p hp => absurd hp (Nat.not_lt_zero _)⟩⟩, fun k _ q => by cases q⟩
  · show -128 ≤ (0 : Int32).toInt ∧ (0 : Int32).toInt ≤ 127
    decide +kernel
  · show 0 < 4096
    decide
theorem zi_al_use {f : Nat → Nat → Int32} {a n : Nat} {v : Int32} (h : zi_al f a n v = true) : ∀ i < n, f a i = v := fun i hi => by
  unfold zi_al at h
  rw [List.all_eq_true] at h
  exact of_decide_eq_true (h i (List.mem_range.mpr hi))
theorem zi_ls_use {f : Nat → Nat → Int32} {l : List (Nat × Nat × Int32)} (h : zi_ls f l = true) {a j : Nat} {v : Int32} (hm : (a, j, v) ∈ l) : f a j = v := by
  unfold zi_ls at h
  rw [List.all_eq_true] at h
  exact of_decide_eq_true (h (a, j, v) hm)
theorem A0_X {f f' : Nat → Nat → Int32} {g g' : Nat → Nat → Int64} (h : zi_ckX f g = true) (e : ∀ a < 128, f a = f' a ∧ g a = g' a) : CX A0 f' g' := by
  unfold zi_ckX at h
  simp only [Bool.and_eq_true] at h
  obtain ⟨⟨⟨⟨⟨⟨⟨h1, h2⟩, h3⟩, h4⟩, h5⟩, h6⟩, h7⟩, h8⟩ := h
  have F : ∀ a < 128, f' a = f a := fun a ha => (e a ha).1.symm
  have G : ∀ a < 128, g' a = g a := fun a ha => (e a ha).2.symm
  refine ⟨⟨?_, ?_, ?_, ?_, fun i hi => ?_⟩, ⟨?_, ?_, ?_, ?_, ?_, fun p hp => absurd hp (Nat.not_lt_zero _), fun p hp => absurd hp (Nat.not_lt_zero _), fun p hp => absurd hp (Nat.not_lt_zero _)⟩, fun k hk => ⟨?_, fun q => by cases q⟩, fun r hr => ⟨?_, fun i hi => ?_⟩, fun r hr => ⟨?_, fun i hi => ?_⟩⟩
  · rw [F 0 (by decide)]; exact zi_ls_use h1 (by decide)
  · rw [F 0 (by decide)]; exact zi_ls_use h1 (by decide)
  · rw [G 0 (by decide)]; exact of_decide_eq_true h2
  · rw [G 0 (by decide)]; exact of_decide_eq_true h3
  · rw [F 55 (by decide)]; exact zi_al_use h4 i hi
  · rw [F 3 (by decide)]; exact zi_al_use h5 0 (by decide)
  · rw [F 3 (by decide)]; exact zi_al_use h5 1 (by decide)
  · rw [F 3 (by decide)]; exact zi_al_use h5 2 (by decide)
  · rw [F 3 (by decide)]; exact zi_al_use h5 3 (by decide)
  · rw [F 3 (by decide)]; exact zi_al_use h5 4 (by decide)
  · rw [F 16 (by decide)]; exact zi_al_use h6 k hk
  · rw [F _ (by omega)]
    obtain rfl | rfl | rfl | rfl | rfl | rfl : r = 0 ∨ r = 1 ∨ r = 2 ∨ r = 3 ∨ r = 4 ∨ r = 5 := by omega
    · exact zi_ls_use h1 (a := 56) (by decide)
    · exact zi_ls_use h1 (a := 58) (by decide)
    · exact zi_ls_use h1 (a := 60) (by decide)
    · exact zi_ls_use h1 (a := 62) (by decide)
    · exact zi_ls_use h1 (a := 64) (by decide)
    · exact zi_ls_use h1 (a := 66) (by decide)
  · rw [F _ (by omega)]
    rw [List.all_eq_true] at h7
    exact zi_al_use (h7 r (List.mem_range.mpr hr)) i hi
  · rw [F _ (by omega)]
    obtain rfl | rfl | rfl | rfl : r = 0 ∨ r = 1 ∨ r = 2 ∨ r = 3 := by omega
    · exact zi_ls_use h1 (a := 68) (by decide)
    · exact zi_ls_use h1 (a := 70) (by decide)
    · exact zi_ls_use h1 (a := 72) (by decide)
    · exact zi_ls_use h1 (a := 74) (by decide)
  · rw [F _ (by omega)]
    rw [List.all_eq_true] at h8
    exact zi_al_use (h8 r (List.mem_range.mpr hr)) i hi
theorem A0_M {f f' : Nat → Nat → Int32} {g g' : Nat → Nat → Int64} (h : zi_ckM f g = true) (e : ∀ a < 128, f a = f' a ∧ g a = g' a) : CM A0 f' g' := by
  unfold zi_ckM at h
  simp only [Bool.and_eq_true] at h
  obtain ⟨⟨⟨⟨⟨⟨⟨h1, h2⟩, h3⟩, h4⟩, h5⟩, h6⟩, h7⟩, h8⟩ := h
  have F : ∀ a < 128, f' a = f a := fun a ha => (e a ha).1.symm
  have G : ∀ a < 128, g' a = g a := fun a ha => (e a ha).2.symm
  refine ⟨⟨?_, ?_, ?_, ?_, ?_, fun i hi => ?_⟩, ⟨?_, ?_, fun p hp => absurd hp (Nat.not_lt_zero _), fun p hp => absurd hp (Nat.not_lt_zero _)⟩, ⟨?_, ⟨?_, ?_, fun p hp => absurd hp (Nat.not_lt_zero _)⟩, fun p hp => absurd hp (Nat.not_lt_zero _), fun p hp => absurd hp (Nat.not_lt_zero _)⟩, fun k hk => ⟨fun _ => ?_, fun q => by cases q⟩, fun r hr => ⟨?_, fun i hi => ?_⟩, fun r hr => ⟨?_, fun i hi => ?_⟩⟩
  · rw [F 112 (by decide)]; exact zi_ls_use h1 (by decide)
  · rw [F 112 (by decide)]; exact zi_ls_use h1 (by decide)
  · rw [F 112 (by decide)]; exact zi_ls_use h1 (v := 0) (by decide)
  · rw [G 112 (by decide)]; exact of_decide_eq_true h2
  · rw [G 112 (by decide)]; exact of_decide_eq_true h3
  · rw [F 120 (by decide)]; exact zi_al_use h4 i hi
  · rw [F 112 (by decide)]; exact zi_ls_use h1 (v := 0) (by decide)
  · rw [F 112 (by decide)]; exact zi_ls_use h1 (v := 0) (by decide)
  · rw [F 113 (by decide)]; exact zi_ls_use h1 (v := 0) (by decide)
  · rw [F 113 (by decide)]; exact zi_ls_use h1 (j := 1) (v := 0) (by decide)
  · rw [F 113 (by decide)]; exact zi_ls_use h1 (j := 2) (v := 0) (by decide)
  · rw [F 113 (by decide)]
    obtain rfl | rfl | rfl : k = 0 ∨ k = 1 ∨ k = 2 := by omega
    · exact zi_ls_use h1 (j := 827) (by decide)
    · exact zi_ls_use h1 (j := 1654) (by decide)
    · exact zi_ls_use h1 (j := 2481) (by decide)
  · rw [F 116 (by decide)]; exact zi_al_use h5 r hr
  · rw [F 117 (by decide)]; exact zi_al_use h7 _ (by omega)
  · rw [F 118 (by decide)]; exact zi_al_use h6 r hr
  · rw [F 119 (by decide)]; exact zi_al_use h8 _ (by omega)
/-! the law's first steps -/
theorem zx_newg {k pc idx ci wp : Nat} {c : List zz_I} {L L1 S : List Value} {h : zz_H} (hk : ∀ pc, zz_cd k pc = zz_nth none c pc) (hc : zz_nth none c pc = some (.new idx, 3, [ci, wp])) (hf : zz_fgt (zz_fg k pc) L = L1) (hl : h.1.length < zz_scr) : zz_ev k pc L S h = zz_ev k (pc + 3) L1 (.ref h.1.length :: S) (zz_push h (10 + ci, zz_nth 0 zz_N ci, List.replicate (zz_nth 0 zz_N ci) none)) := by
  refine zz_ev_next (zx_st0 hk hc hf ?_)
  simp only [zz_p, zz_h, zz_new, if_pos hl]
theorem zx_spI {k pc idx j wp nest a : Nat} {c : List zz_I} {L S : List Value} {h : zz_H} (hk : ∀ pc, zz_cd k pc = zz_nth none c pc) (hc : zz_nth none c pc = some (.invokespecial idx, 3, [j, wp, nest])) (hkd : zz_kd h.1 a = 10 + (zz_m j).2.2.2.2.1) (ha : a ≠ zz_scr) (hn : (zz_m j).2.2.2.2.2.1 = 0) (hct : zz_cat S ≤ 8) (hsl : (zz_slots [.ref a]).length ≤ (zz_m j).2.2.1) : zz_stp k pc L (.ref a :: S) h = some (.inr (.inr (j, [.ref a], S))) := by
  refine zx_st0 hk hc rfl ?_
  have h1 : zz_c (.invokespecial idx) [j, wp, nest] (.ref a :: S) h = some (j, [.ref a], S) := by
    have ht : ((Value.ref a :: S).take 0).reverse = [] := rfl
    have hd : (Value.ref a :: S).drop 0 = Value.ref a :: S := rfl
    simp only [zz_c]
    rw [hn, hd]
    simp only
    rw [ht, if_pos ⟨Nat.zero_le _, hct, ha, hkd, hsl⟩]
  have h2 : zz_h (.invokespecial idx) [j, wp, nest] k pc (zz_fgt (zz_fg k pc) L) (.ref a :: S) h = none := by simp [zz_h]
  have h3 : zz_r (.invokespecial idx) (zz_m k).2.2.2.1 (.ref a :: S) = none := rfl
  rw [h1, h2, h3]
  rfl
set_option maxRecDepth 100000 in
theorem lw_pro (l : Launch) (f : Nat → Nat → Int32) (g : Nat → Nat → Int64) : ∃ (f1 : Nat → Nat → Int32) (g1 : Nat → Nat → Int64), zz_ev 0 0 [.ref zz_scr, .null, .null, .null] [] ([], f, g) = zz_ev 0 18 [.ref zz_scr, .ref 0, .ref 112, .int (nI 0)] [] (zK f1 g1) ∧ CX A0 f1 g1 ∧ CM A0 f1 g1 ∧ ∀ a, zz_scr ≤ a → f1 a = f a := by
  obtain ⟨c1, e1, q1⟩ := zi_chk_use zi_ok
  obtain ⟨c2, e2, q2⟩ := zi_chk_use q1
  unfold zi_ck at q2
  simp only [Bool.and_eq_true, decide_eq_true_eq] at q2
  obtain ⟨⟨⟨l1, l2⟩, kX⟩, kM⟩ := q2
  have hs0 : 0 < zz_scr := by decide
  have r0 : zz_rl zi_1 (zz_push ([], f, g) (10, 16, List.replicate 16 none)) := zz_rl_push (sh := []) (fun a ha => absurd ha (Nat.not_lt_zero _)) _
  obtain ⟨h1, d1, r1, s1⟩ := zz_ca_rl zz_ok l (n := 1000) (k := 1) (as := [.ref 0]) (sh := zi_1.1) (f := zi_1.2.1) (g := zi_1.2.2) (f' := (zz_push ([], f, g) (10, 16, List.replicate 16 none)).2.1) (g' := (zz_push ([], f, g) (10, 16, List.replicate 16 none)).2.2) (by decide) (by decide) r0.2 e1
  have d1 : zz_ca 1 [.ref 0] (zz_push ([], f, g) (10, 16, List.replicate 16 none)) = some (none, h1) := d1
  obtain ⟨sc, fc, gc⟩ := c1
  obtain ⟨s1h, f1, g1⟩ := h1
  obtain ⟨r1a, r1b⟩ := r1
  have r1a : sc = s1h := r1a
  subst r1a
  have l1 : sc.length = 112 := l1
  have h112 : sc.length < zz_scr := by rw [l1]; decide
  have r2 := zz_rl_push r1b (19, 28, List.replicate 28 none)
  obtain ⟨h2, d2, r3, s2⟩ := zz_ca_rl zz_ok l (n := 1000) (k := 147) (as := [.ref 112]) (sh := (zi_2 (sc, fc, gc)).1) (f := (zi_2 (sc, fc, gc)).2.1) (g := (zi_2 (sc, fc, gc)).2.2) (f' := (zz_push (sc, f1, g1) (19, 28, List.replicate 28 none)).2.1) (g' := (zz_push (sc, f1, g1) (19, 28, List.replicate 28 none)).2.2) (by decide) (by
    show (zz_push (sc, fc, gc) (19, 28, List.replicate 28 none)).1.length ≤ zz_scr
    rw [zz_len_push]; exact h112) r2.2 e2
  have d2 : zz_ca 147 [.ref 112] (zz_push (sc, f1, g1) (19, 28, List.replicate 28 none)) = some (none, h2) := d2
  obtain ⟨sc2, fc2, gc2⟩ := c2
  obtain ⟨s2h, f2, g2⟩ := h2
  obtain ⟨r3a, r3b⟩ := r3
  have r3a : sc2 = s2h := r3a
  subst r3a
  have l2 : sc2 = zSH := l2
  subst l2
  have e128 : zSH.length = 128 := by decide +kernel
  have fr : ∀ a < 128, fc2 a = f2 a ∧ gc2 a = g2 a := fun a ha => r3b a (by show a < zSH.length; rw [e128]; exact ha)
  refine ⟨f2, g2, ?_, A0_X kX fr, A0_M kM fr, fun a ha => ?_⟩
  · -- the walk
    rw [zx_newg (h := ([], f, g)) (pc := 0) (S := []) (idx := 7) (ci := 0) (wp := 82) (L1 := [.ref zz_scr, .null, .null, .null]) zc_0 rfl rfl hs0]
    rw [zx_run zc_0 1 3 _ _ (pc' := 4) (L' := [.ref zz_scr, .null, .null, .null]) (S' := [.ref 0, .ref 0]) rfl]
    rw [zz_ev_callv (zx_spI (a := 0) zc_0 rfl rfl (by decide) rfl (by decide) (by decide +kernel)) rfl]
    rw [show (zz_push ([], f, g) (10 + 0, zz_nth 0 zz_N 0, List.replicate (zz_nth 0 zz_N 0) none)) = zz_push ([], f, g) (10, 16, List.replicate 16 none) from rfl, d1, zz_bv_s]
    rw [zx_run zc_0 1 7 _ _ (pc' := 8) (L' := [.ref zz_scr, .ref 0, .null, .null]) (S' := []) rfl]
    rw [zx_newg (h := (sc, f1, g1)) (pc := 8) (S := []) (idx := 10) (ci := 9) (wp := 932) (L1 := [.ref zz_scr, .ref 0, .null, .null]) zc_0 rfl rfl h112]
    rw [show (sc, f1, g1).1.length = 112 from l1]
    rw [zx_run zc_0 1 11 _ _ (pc' := 12) (L' := [.ref zz_scr, .ref 0, .null, .null]) (S' := [.ref 112, .ref 112]) rfl]
    have kd : zz_kd (zz_push (sc, f1, g1) (10 + 9, zz_nth 0 zz_N 9, List.replicate (zz_nth 0 zz_N 9) none)).1 112 = 10 + (zz_m 147).2.2.2.2.1 := by
      rw [← l1]
      show (zz_sh (sc ++ [_]) sc.length).1 = _
      rw [zz_sh_last]; rfl
    rw [zz_ev_callv (zx_spI (a := 112) zc_0 rfl kd (by decide) rfl (by decide) (by decide +kernel)) rfl]
    rw [show (zz_push (sc, f1, g1) (10 + 9, zz_nth 0 zz_N 9, List.replicate (zz_nth 0 zz_N 9) none)) = zz_push (sc, f1, g1) (19, 28, List.replicate 28 none) from rfl, d2, zz_bv_s]
    rw [zx_run zc_0 3 15 _ _ (pc' := 18) (L' := [.ref zz_scr, .ref 0, .ref 112, .int (nI 0)]) (S' := []) rfl]
    rfl
  · have a1 := s2 a ha
    have a2 := s1 a ha
    have a1 : f2 a = zz_z f1 sc.length 0 a := a1
    have a2 : f1 a = zz_z f 0 0 a := a2
    rw [a1, zz_z_ne (by omega), a2, zz_z_ne (by omega)]
theorem lw_run (l : Launch) (f : Nat → Nat → Int32) (g : Nat → Nat → Int64) {L : Nat} (hL : L ≤ 384) (h : f (zz_scr + 1) 0 = nI L) : ∃ h', zz_ev 0 0 [.ref zz_scr, .null, .null, .null] [] ([], f, g) = some (some (.int (nI 1)), h') ∧ h'.1 = zSH := by
  obtain ⟨f1, g1, e, c1, c2, fr⟩ := lw_pro l f g
  obtain ⟨f2, g2, e2⟩ := lw_loop hL 384 0 A0 f1 g1 (by omega) (by omega) A0_wf c1 c2 (by rw [fr _ (Nat.le_succ _)]; exact h)
  exact ⟨zK f2 g2, e.trans e2, rfl⟩
