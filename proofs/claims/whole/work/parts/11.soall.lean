/-! SOUNDNESS, 7: every instruction over cells; what no step changes -/
/-- what stands in the tables beside a class's and a method's own words -/
def zz_okw : Prop := (∀ ci, ci < 10 → zz_okc ci) ∧ (Cond.arrayClass .int ∈ zz_ws ∧ Cond.arrayClass .long ∈ zz_ws ∧ Cond.arrayClass .boolean ∈ zz_ws) ∧ (Cond.arrayOver (.object "HouseOfHours$Strip") ∈ zz_nw ∧ Cond.arrayOver (.object "HouseOfHours$House") ∈ zz_nw ∧ Cond.arrayOver (.array .int) ∈ zz_nw) ∧ (Cond.native arraycopyName ∈ zz_ws ∧ Cond.static arraycopyName ∈ zz_ws ∧ Cond.initialized "java/lang/System" ∈ zz_ws) ∧ (Cond.instanceMethod Lib.objectInit ∈ zz_ws ∧ Cond.code Lib.objectInit ⟨#[0xb1]⟩ 1 none ∈ zz_ws) ∧ (Cond.initialized "java/lang/Math" ∈ zz_ws ∧ Cond.static Lib.Math.max.name ∈ zz_ws ∧ Cond.code Lib.Math.max.name Lib.Math.max.code 2 (some .int) ∈ zz_ws ∧ Cond.static Lib.Math.min.name ∈ zz_ws ∧ Cond.code Lib.Math.min.name Lib.Math.min.code 2 (some .int) ∈ zz_ws ∧ Cond.static Lib.Math.abs.name ∈ zz_ws ∧ Cond.code Lib.Math.abs.name Lib.Math.abs.code 1 (some .int) ∈ zz_ws)
def zz_inv (h h' : zz_H) : Prop := h.1.length ≤ h'.1.length ∧ zz_sl h ≤ zz_sl h' ∧ h'.1.length ≤ zz_scr ∧ ∀ a, zz_scr ≤ a → h'.2.1 a = h.2.1 a
theorem zz_inv_rf {h : zz_H} (hl : h.1.length ≤ zz_scr) : zz_inv h h := ⟨Nat.le_refl _, Nat.le_refl _, hl, fun _ _ => rfl⟩
theorem zz_inv_tr {h h1 h2 : zz_H} (a : zz_inv h h1) (b : zz_inv h1 h2) : zz_inv h h2 := ⟨Nat.le_trans a.1 b.1, Nat.le_trans a.2.1 b.2.1, b.2.2.1, fun q hq => (b.2.2.2 q hq).trans (a.2.2.2 q hq)⟩
theorem zz_inv_push {h : zz_H} {s : zz_S} (hl : h.1.length < zz_scr) : zz_inv h (zz_push h s) := by
  refine ⟨by rw [zz_len_push]; omega, by rw [zz_sl_push]; omega, by rw [zz_len_push]; omega, fun a ha => zz_z_ne ?_⟩
  omega
theorem zz_inv_pushes {h : zz_H} {k : Nat} : ∀ n, h.1.length + n ≤ zz_scr → zz_inv h (zz_pushes h k n)
  | 0, hl => zz_inv_rf (by omega)
  | n + 1, hl => zz_inv_tr (zz_inv_pushes n (by omega)) (zz_inv_push (by rw [zz_len_pushes]; omega))
theorem zz_inv_rset {h : zz_H} {a j v : Nat} (hl : h.1.length ≤ zz_scr) : zz_inv h (zz_rset h.1 a j v, h.2.1, h.2.2) :=
  ⟨by rw [zz_rset_len]; exact Nat.le_refl _, by rw [zz_rset_sl]; exact Nat.le_refl _, by rw [zz_rset_len]; exact hl, fun _ _ => rfl⟩
theorem zz_inv_u {h : zz_H} {a j : Nat} {x : Int32} (hl : h.1.length ≤ zz_scr) (ha : a < h.1.length) : zz_inv h (h.1, zz_u h.2.1 a j x, h.2.2) :=
  ⟨Nat.le_refl _, Nat.le_refl _, hl, fun q hq => zz_u_ne (by omega)⟩
/-- a step over cells: the locals stay, cells are not taken away, the script stays -/
theorem zz_h_inv {ins : Instr} {aux : List Nat} {k pc pc' : Nat} {L S L' S' : List Value} {h h' : zz_H} (hl : h.1.length ≤ zz_scr) (he : zz_h ins aux k pc L S h = some (pc', L', S', h')) : L' = L ∧ zz_inv h h' := by
  unfold zz_h at he
  split at he
  · unfold zz_iald at he
    split at he
    · split at he
      · split at he <;> cases he; exact ⟨rfl, zz_inv_rf hl⟩
      · split at he <;> cases he; exact ⟨rfl, zz_inv_rf hl⟩
    · cases he
  · unfold zz_bald at he
    split at he
    · split at he <;> cases he; exact ⟨rfl, zz_inv_rf hl⟩
    · cases he
  · unfold zz_lald at he
    split at he
    · split at he <;> cases he; exact ⟨rfl, zz_inv_rf hl⟩
    · cases he
  · unfold zz_aald at he
    split at he
    · split at he
      · split at he
        · split at he <;> cases he; exact ⟨rfl, zz_inv_rf hl⟩
        · cases he
      · cases he
    · cases he
  · unfold zz_iast at he
    split at he
    · split at he
      · rename_i h1; cases he; exact ⟨rfl, zz_inv_u hl (zz_lt_of_kd h1.2.1 (by decide))⟩
      · cases he
    · cases he
  · unfold zz_bast at he
    split at he
    · split at he
      · rename_i h1; cases he; exact ⟨rfl, zz_inv_u hl (zz_lt_of_kd h1.2.1 (by decide))⟩
      · cases he
    · cases he
  · unfold zz_last at he
    split at he
    · split at he <;> cases he; exact ⟨rfl, Nat.le_refl _, Nat.le_refl _, hl, fun _ _ => rfl⟩
    · cases he
  · unfold zz_aast at he
    split at he
    · split at he <;> cases he; exact ⟨rfl, zz_inv_rset hl⟩
    · cases he
  · unfold zz_alen at he
    split at he
    · split at he
      · split at he <;> cases he; exact ⟨rfl, zz_inv_rf hl⟩
      · split at he <;> cases he; exact ⟨rfl, zz_inv_rf hl⟩
    · cases he
  · unfold zz_getf at he
    split at he
    · split at he
      · split at he
        · cases he; exact ⟨rfl, zz_inv_rf hl⟩
        · cases he; exact ⟨rfl, zz_inv_rf hl⟩
        · split at he
          · split at he <;> cases he; exact ⟨rfl, zz_inv_rf hl⟩
          · cases he
      · cases he
    · cases he
  · unfold zz_putf at he
    split at he
    · split at he
      · rename_i h1; cases he; exact ⟨rfl, zz_inv_u hl (zz_lt_of_kd h1.2 (by omega))⟩
      · cases he
    · split at he <;> cases he; exact ⟨rfl, Nat.le_refl _, Nat.le_refl _, hl, fun _ _ => rfl⟩
    · split at he <;> cases he; exact ⟨rfl, zz_inv_rset hl⟩
    · cases he
  · unfold zz_new at he
    split at he
    · split at he
      · rename_i h1; cases he; exact ⟨rfl, zz_inv_push h1⟩
      · cases he
    · cases he
  · unfold zz_newa at he
    split at he
    · split at he
      · rename_i h1
        split at he <;> cases he <;> exact ⟨rfl, zz_inv_push h1.1⟩
      · cases he
    · cases he
  · unfold zz_anew at he
    split at he
    · split at he
      · rename_i h1; cases he; exact ⟨rfl, zz_inv_push h1.1⟩
      · cases he
    · cases he
  · unfold zz_mnew at he
    split at he
    · split at he
      · rename_i h1
        cases he
        refine ⟨rfl, zz_inv_tr (zz_inv_push (by omega)) (zz_inv_pushes _ (by rw [zz_len_push]; omega))⟩
      · cases he
    · cases he
  · split at he <;> cases he; exact ⟨rfl, zz_inv_rf hl⟩
  · split at he <;> cases he; exact ⟨rfl, zz_inv_rf hl⟩
  · split at he <;> cases he; exact ⟨rfl, zz_inv_rf hl⟩
  · split at he
    · unfold zz_copy at he
      split at he
      · split at he
        · rename_i h1
          split at he
          · rename_i h2
            cases he
            refine ⟨rfl, Nat.le_refl _, Nat.le_refl _, hl, fun q hq => zz_cp_ne ?_⟩
            have := zz_lt_of_kd h2.2 (by decide)
            omega
          · split at he <;> cases he; exact ⟨rfl, Nat.le_refl _, Nat.le_refl _, hl, fun _ _ => rfl⟩
        · cases he
      · cases he
    · split at he
      · split at he <;> cases he; exact ⟨rfl, zz_inv_rf hl⟩
      · cases he
    · split at he
      · split at he <;> cases he; exact ⟨rfl, zz_inv_rf hl⟩
      · cases he
    · split at he
      · split at he <;> cases he; exact ⟨rfl, zz_inv_rf hl⟩
      · cases he
    · cases he
  · split at he
    · split at he <;> cases he; exact ⟨rfl, zz_inv_rf hl⟩
    · cases he
  · cases he
section ZK
variable {p : Program} {l : Launch} {e : Env} {R : Room} {s : State} {m : MethodId} {args : Array Value} {below : List Frame} {meth : Method} {c : Code} {H : Heap} {locs : List Loc} {cells slots : Nat} {Q : State → Prop} {B b : Nat} {pc pc' : Nat} {ls : Array Slot} {L S L' S' : List Value} {h h' : zz_H} {D : va_G} {cA : Nat → ClassId} {k : Nat} {aux : List Nat}
theorem zz_so_copy (hx : p.tables.exec = Jvm.exec) (hok : zz_okw) (hts : ∀ w ∈ zz_ws, w.before args s = true) (hown : s.vm.findClass (zz_own k) = some m.cls) (hml : c.maxLocals = ls.size) {idx wp : Nat} (hck : zz_ckB k (.invokestatic idx) [1000, wp] = true) (hrf : (zz_m k).2.2.2.2.2.2.1 ≤ R.frames ∧ (zz_m k).2.2.2.2.2.2.2.1 ≤ R.locals) (hd : decode c.code pc = .ok (.invokestatic idx, 3)) (hX : zz_X D cA s) (hR : zz_HR D cA B h H) (hS : va_S (zz_A B) s.heap H locs) (hL : zz_LR B b L ls) (he : zz_copy pc L S h = some (pc', L', S', h')) (kk : zz_go p l e R s m args below meth c cells slots Q D cA B b h h' pc' L' S') : W p l e R s m args below meth c H locs cells slots Q (F0 m pc ls (S.map (zz_mv B b))) := by
  simp only [zz_ckB, Bool.and_eq_true, decide_eq_true_eq] at hck
  obtain ⟨⟨hw, hf1⟩, hl1⟩ := hck
  obtain ⟨hn1, hn2, hn3⟩ := hok.2.2.2.1
  have neg : ∀ z : Int32, 0 ≤ z.toInt → ¬ z < 0 := fun z hz => by
    rw [Int32.not_lt, Int32.le_iff_toInt_le]
    simpa using hz
  unfold zz_copy at he
  split at he
  · rename_i n dp b0 sp a S0
    split at he
    · rename_i h1
      obtain ⟨ha, hb0, hcat, g1, g2, g3, g4, g5⟩ := h1
      have hcat2 : ((S0.map (zz_mv B b)).map fun v => v.category).sum + (nativeFrameWords "java/lang/System" "arraycopy" 5 + 11) ≤ R.locals := by
        rw [zz_mv_sum]
        have : nativeFrameWords "java/lang/System" "arraycopy" 5 = 7 := by decide +kernel
        omega
      rw [List.map_cons, List.map_cons, List.map_cons, List.map_cons, List.map_cons, zz_mv_ref B b ha, zz_mv_ref B b hb0]
      split at he
      · rename_i h2
        cases he
        have hlta := zz_lt_of_kd h2.1 (by decide)
        have hltb := zz_lt_of_kd h2.2 (by decide)
        refine va_copyi (ty := .int) hx rfl hml hown (hts _ (zz_has_in hw)) (hts _ hn1) (hts _ hn2) (hts _ hn3) hX.1 hR zz_D hS a b0 0 0 ((zz_w_at hlta).trans (by rw [zz_en_0 h2.1])) ((zz_w_at hltb).trans (by rw [zz_en_0 h2.2])) rfl rfl rfl (neg _ g1) (neg _ g2) (neg _ g3) g4 g5 (fun i _ => rfl) (by omega) hcat2 hd (fun H1 locs1 hP1 _ hS1 => ?_)
        refine zz_go_same kk rfl rfl hL ?_ hS1
        show va_P _ _ _ _
        rw [zz_w_set (h := h) (h' := (h.1, zz_cp h.2.1 a (zz_ix sp) b0 (zz_ix dp) (zz_ix n), h.2.2)) (a := b0) rfl (fun i hi => zz_en_congr rfl (zz_cp_ne hi) rfl), zz_en_0 (h := (h.1, zz_cp h.2.1 a (zz_ix sp) b0 (zz_ix dp) (zz_ix n), h.2.2)) h2.2]
        simp only [zz_cp_self]
        exact hP1
      · split at he
        · rename_i h2
          cases he
          have hlta := zz_lt_of_kd h2.1 (by decide)
          have hltb := zz_lt_of_kd h2.2 (by decide)
          refine va_copyl (ty := .long) hx rfl hml hown (hts _ (zz_has_in hw)) (hts _ hn1) (hts _ hn2) (hts _ hn3) hX.1 hR zz_D hS a b0 1 1 ((zz_w_at hlta).trans (by rw [zz_en_1 h2.1])) ((zz_w_at hltb).trans (by rw [zz_en_1 h2.2])) rfl rfl rfl (neg _ g1) (neg _ g2) (neg _ g3) g4 g5 (fun i _ => rfl) (by omega) hcat2 hd (fun H1 locs1 hP1 _ hS1 => ?_)
          refine zz_go_same kk rfl rfl hL ?_ hS1
          show va_P _ _ _ _
          rw [zz_w_set (h := h) (h' := (h.1, h.2.1, zz_cp h.2.2 a (zz_ix sp) b0 (zz_ix dp) (zz_ix n))) (a := b0) rfl (fun i hi => zz_en_congr rfl rfl (zz_cp_ne hi)), zz_en_1 (h := (h.1, h.2.1, zz_cp h.2.2 a (zz_ix sp) b0 (zz_ix dp) (zz_ix n))) h2.2]
          simp only [zz_cp_self]
          exact hP1
        · cases he
    · cases he
  · cases he
/-- AN INSTRUCTION OVER CELLS -/
theorem zz_h_so (hok : zz_okw) (hC : zz_cx p s m args meth c R D cA B b k h.2.1) {ins : Instr} {n : Nat} (hd : decode c.code pc = .ok (ins, n)) (hn : zz_il ins = 0 ∨ n = zz_il ins) (hck : zz_ckB k ins aux = true) (hml : L.length = c.maxLocals) (hR : zz_HR D cA B h H) (hS : va_S (zz_A B) s.heap H locs) (hL : zz_LR B b L ls) (hsz : H.size = B + h.1.length) (hrm : cells + (h'.1.length - h.1.length) ≤ R.cells ∧ slots + (zz_sl h' - zz_sl h) ≤ R.slots) (he : zz_h ins aux k pc L S h = some (pc', L', S', h')) (kk : zz_go p l e R s m args below meth c cells slots Q D cA B b h h' pc' L' S') : W p l e R s m args below meth c H locs cells slots Q (F0 m pc ls (S.map (zz_mv B b))) := by
  obtain ⟨hx, hb, hmL, hown, hts, hnm, hrf1, hrf2, hX, hBs, hsc⟩ := hC
  have one : ∀ {k : Nat}, zz_il ins = k + 1 → decode c.code pc = .ok (ins, k + 1) := fun {k} h => by rcases hn with h1 | h1 <;> rw [h] at h1 <;> first | (rw [h1] at hd; exact hd) | cases h1
  have hml2 : c.maxLocals = ls.size := by rw [hL.1]; exact hml.symm
  unfold zz_h at he
  split at he
  · exact zz_so_iald hx (one rfl) hX (fun h0 => ⟨(hsc h0).1, (hsc h0).2.1, (hsc h0).2.2.1⟩) hR hS hL he kk
  · exact zz_so_bald hx (one rfl) hX hR hS hL he kk
  · exact zz_so_lald hx (one rfl) hX hR hS hL he kk
  · exact zz_so_aald hx (one rfl) hX hR hS hL he kk
  · exact zz_so_iast hx (one rfl) hX hR hS hL he kk
  · exact zz_so_bast hx (one rfl) hX hR hS hL he kk
  · exact zz_so_last hx (one rfl) hX hR hS hL he kk
  · exact zz_so_aast hx (one rfl) hok.1 hX hR hS hL he kk
  · exact zz_so_alen hx (one rfl) hsc hX hR hS hL he kk
  · exact zz_so_getf hx hok.1 hts hown hck (one rfl) hX hR hS hL he kk
  · exact zz_so_putf hx hok.1 hts hown hnm hck (one rfl) hX hR hS hL he kk
  · exact zz_so_new hx hok.1 hts hown hck (one rfl) hX hR hS hL hsz hrm he kk
  · exact zz_so_newa hx hts hok.2.1 (one rfl) hX hR hS hL hsz hrm he kk
  · exact zz_so_anew hx hts ⟨hok.2.2.1.1, hok.2.2.1.2.1⟩ hown hck (one rfl) hX hR hS hL hsz hrm he kk
  · exact zz_so_mnew hx hts hok.2.1.1 hok.2.2.1.2.2 hown hck (one rfl) hX hR hS hL hsz hrm he kk
  · split at he
    · cases he
      exact lv_ldc hx rfl hown (hts _ (zz_has_in hck)) (one rfl) (zz_go_same kk rfl rfl hL hR hS)
    · cases he
  · split at he
    · cases he
      exact lv_ldcw hx rfl hown (hts _ (zz_has_in hck)) (one rfl) (zz_go_same kk rfl rfl hL hR hS)
    · cases he
  · split at he
    · cases he
      exact lv_ldc2 hx rfl hown (hts _ (zz_has_in hck)) (one rfl) (zz_go_same kk rfl rfl hL hR hS)
    · cases he
  · split at he
    · exact zz_so_copy hx hok hts hown hml2 hck ⟨hrf1, hrf2⟩ (one rfl) hX hR hS hL he kk
    · split at he
      · split at he
        · rename_i hcat
          cases he
          simp only [zz_ckB, Bool.and_eq_true, decide_eq_true_eq] at hck
          rw [Nat.sub_self, Nat.sub_self] at hrm
          refine va_mmax hx rfl hml2 hown (hts _ (zz_has_in hck.1.1)) (hts _ hok.2.2.2.2.2.2.1) (hts _ hok.2.2.2.2.2.1) (hts _ hok.2.2.2.2.2.2.2.1) (by omega) ?_ hrm.1 hrm.2 (one rfl) (zz_go_same kk rfl rfl hL hR hS)
          rw [zz_mv_sum]
          omega
        · cases he
      · cases he
    · split at he
      · split at he
        · rename_i hcat
          cases he
          simp only [zz_ckB, Bool.and_eq_true, decide_eq_true_eq] at hck
          rw [Nat.sub_self, Nat.sub_self] at hrm
          refine va_mmin hx rfl hml2 hown (hts _ (zz_has_in hck.1.1)) (hts _ hok.2.2.2.2.2.2.2.2.1) (hts _ hok.2.2.2.2.2.1) (hts _ hok.2.2.2.2.2.2.2.2.2.1) (by omega) ?_ hrm.1 hrm.2 (one rfl) (zz_go_same kk rfl rfl hL hR hS)
          rw [zz_mv_sum]
          omega
        · cases he
      · cases he
    · split at he
      · split at he
        · rename_i hcat
          cases he
          simp only [zz_ckB, Bool.and_eq_true, decide_eq_true_eq] at hck
          rw [Nat.sub_self, Nat.sub_self] at hrm
          refine va_mabs hx rfl hml2 hown (hts _ (zz_has_in hck.1.1)) (hts _ hok.2.2.2.2.2.2.2.2.2.2.1) (hts _ hok.2.2.2.2.2.1) (hts _ hok.2.2.2.2.2.2.2.2.2.2.2) (by omega) ?_ hrm.1 hrm.2 (one rfl) (zz_go_same kk rfl rfl hL hR hS)
          rw [zz_mv_sum]
          omega
        · cases he
      · cases he
    · cases he
  · split at he
    · split at he
      · rename_i hcat
        cases he
        simp only [zz_ckB, Bool.and_eq_true, decide_eq_true_eq] at hck
        refine W.objInit hx rfl hown (hts _ (zz_has_in hck.1.1)) (hts _ hok.2.2.2.2.1.1) (hts _ hok.2.2.2.2.1.2) rfl hml2.symm rfl (one rfl) (by omega) ?_ (zz_go_same kk rfl rfl hL hR hS)
        rw [zz_mv_sum]
        show 2 * 0 + zz_cat _ + 12 ≤ R.locals
        omega
      · cases he
    · cases he
  · cases he
end ZK
