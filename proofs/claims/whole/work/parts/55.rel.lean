/-! what stands in cells that are not there doesn't matter -/
def zz_rl (h h' : zz_H) : Prop := h.1 = h'.1 ∧ ∀ a < h.1.length, h.2.1 a = h'.2.1 a ∧ h.2.2 a = h'.2.2 a
theorem zz_rl_push {sh : List zz_S} {f f' : Nat → Nat → Int32} {g g' : Nat → Nat → Int64} (e : ∀ a < sh.length, f a = f' a ∧ g a = g' a) (s : zz_S) : zz_rl (zz_push (sh, f, g) s) (zz_push (sh, f', g') s) := by
  refine ⟨rfl, fun a ha => ?_⟩
  rw [zz_len_push] at ha
  show zz_z f sh.length 0 a = zz_z f' sh.length 0 a ∧ zz_z g sh.length 0 a = zz_z g' sh.length 0 a
  by_cases q : a = sh.length
  · subst q; exact ⟨by rw [zz_z_self, zz_z_self], by rw [zz_z_self, zz_z_self]⟩
  · have ha : a < sh.length + 1 := ha
    rw [zz_z_ne q, zz_z_ne q, zz_z_ne q, zz_z_ne q]; exact e a (by omega)
theorem zz_rl_pushes {h h' : zz_H} (e : zz_rl h h') (k : Nat) : ∀ n, zz_rl (zz_pushes h k n) (zz_pushes h' k n)
  | 0 => e
  | n + 1 => by
    have i := zz_rl_pushes e k n
    show zz_rl (zz_push (zz_pushes h k n) (0, k, [])) (zz_push (zz_pushes h' k n) (0, k, []))
    revert i
    generalize zz_pushes h k n = p
    generalize zz_pushes h' k n = p'
    intro i
    obtain ⟨sh, f, g⟩ := p
    obtain ⟨sh', f', g'⟩ := p'
    obtain ⟨i1, i2⟩ := i
    have i1 : sh = sh' := i1
    subst i1
    exact zz_rl_push i2 _
section ZRL
variable {k pc pc' : Nat} {L S L' S' : List Value} {sh : List zz_S} {f f' : Nat → Nat → Int32} {g g' : Nat → Nat → Int64} {h1 : zz_H}
theorem rl_u (e : ∀ a < sh.length, f a = f' a ∧ g a = g' a) (b j : Nat) (x : Int32) : zz_rl (sh, zz_u f b j x, g) (sh, zz_u f' b j x, g') := by
  refine ⟨rfl, fun a ha => ⟨?_, (e a ha).2⟩⟩
  show zz_u f b j x a = zz_u f' b j x a
  by_cases q : a = b
  · subst q; funext i; unfold zz_u; rw [(e a ha).1]
  · rw [zu_c q, zu_c q]; exact (e a ha).1
theorem rl_ul (e : ∀ a < sh.length, f a = f' a ∧ g a = g' a) (b j : Nat) (x : Int64) : zz_rl (sh, f, zz_u g b j x) (sh, f', zz_u g' b j x) := by
  refine ⟨rfl, fun a ha => ⟨(e a ha).1, ?_⟩⟩
  show zz_u g b j x a = zz_u g' b j x a
  by_cases q : a = b
  · subst q; funext i; unfold zz_u; rw [(e a ha).2]
  · rw [zu_c q, zu_c q]; exact (e a ha).2
theorem rl_set (e : ∀ a < sh.length, f a = f' a ∧ g a = g' a) (b j v : Nat) : zz_rl (zz_rset sh b j v, f, g) (zz_rset sh b j v, f', g') :=
  ⟨rfl, fun a ha => e a (by rw [zz_rset_len] at ha; exact ha)⟩
theorem rl_cp (e : ∀ a < sh.length, f a = f' a ∧ g a = g' a) {a b : Nat} (ha : a < sh.length) (hb : b < sh.length) (sp dp n : Nat) : zz_rl (sh, zz_cp f a sp b dp n, g) (sh, zz_cp f' a sp b dp n, g') := by
  refine ⟨rfl, fun x hx => ⟨?_, (e x hx).2⟩⟩
  show zz_cp f a sp b dp n x = zz_cp f' a sp b dp n x
  funext i; unfold zz_cp; rw [(e a ha).1, (e x hx).1]
theorem rl_cpl (e : ∀ a < sh.length, f a = f' a ∧ g a = g' a) {a b : Nat} (ha : a < sh.length) (hb : b < sh.length) (sp dp n : Nat) : zz_rl (sh, f, zz_cp g a sp b dp n) (sh, f', zz_cp g' a sp b dp n) := by
  refine ⟨rfl, fun x hx => ⟨(e x hx).1, ?_⟩⟩
  show zz_cp g a sp b dp n x = zz_cp g' a sp b dp n x
  funext i; unfold zz_cp; rw [(e a ha).2, (e x hx).2]
theorem rl_iald (hk : k ≠ 0) (e : ∀ a < sh.length, f a = f' a ∧ g a = g' a) (he : zz_iald k pc L S (sh, f, g) = some (pc', L', S', h1)) : ∃ h2, zz_iald k pc L S (sh, f', g') = some (pc', L', S', h2) ∧ zz_rl h1 h2 := by
  unfold zz_iald at he
  split at he
  · rename_i i a S0
    split at he
    · split at he
      · rename_i q; exact absurd q.1 hk
      · cases he
    · rename_i q
      split at he
      · rename_i q2
        cases he
        refine ⟨(sh, f', g'), ?_, rfl, e⟩
        show (if a = zz_scr then _ else if zz_kd sh a = 0 ∧ zz_in i (zz_ln sh a) then some (pc + 1, L, Value.int (f' a (zz_ix i)) :: S0, ((sh, f', g') : zz_H)) else none) = _
        rw [if_neg q, if_pos q2, ← (e a (zz_lt_of_kd q2.1 (by decide))).1]
      · cases he
  · cases he
theorem rl_bald (e : ∀ a < sh.length, f a = f' a ∧ g a = g' a) (he : zz_bald pc L S (sh, f, g) = some (pc', L', S', h1)) : ∃ h2, zz_bald pc L S (sh, f', g') = some (pc', L', S', h2) ∧ zz_rl h1 h2 := by
  unfold zz_bald at he
  split at he
  · rename_i i a S0
    split at he
    · rename_i q2
      cases he
      refine ⟨(sh, f', g'), ?_, rfl, e⟩
      show (if a ≠ zz_scr ∧ zz_kd sh a = 2 ∧ zz_in i (zz_ln sh a) then some (pc + 1, L, Value.int (f' a (zz_ix i)) :: S0, ((sh, f', g') : zz_H)) else none) = _
      rw [if_pos q2, ← (e a (zz_lt_of_kd q2.2.1 (by decide))).1]
    · cases he
  · cases he
theorem rl_lald (e : ∀ a < sh.length, f a = f' a ∧ g a = g' a) (he : zz_lald pc L S (sh, f, g) = some (pc', L', S', h1)) : ∃ h2, zz_lald pc L S (sh, f', g') = some (pc', L', S', h2) ∧ zz_rl h1 h2 := by
  unfold zz_lald at he
  split at he
  · rename_i i a S0
    split at he
    · rename_i q2
      cases he
      refine ⟨(sh, f', g'), ?_, rfl, e⟩
      show (if a ≠ zz_scr ∧ zz_kd sh a = 1 ∧ zz_in i (zz_ln sh a) then some (pc + 1, L, Value.long (g' a (zz_ix i)) :: S0, ((sh, f', g') : zz_H)) else none) = _
      rw [if_pos q2, ← (e a (zz_lt_of_kd q2.2.1 (by decide))).2]
    · cases he
  · cases he
theorem rl_aald (e : ∀ a < sh.length, f a = f' a ∧ g a = g' a) (he : zz_aald pc L S (sh, f, g) = some (pc', L', S', h1)) : ∃ h2, zz_aald pc L S (sh, f', g') = some (pc', L', S', h2) ∧ zz_rl h1 h2 := by
  unfold zz_aald at he
  split at he
  · rename_i i a S0
    split at he
    · rename_i q2
      split at he
      · rename_i b0 hb0
        split at he
        · cases he
        · rename_i q3
          cases he
          refine ⟨(sh, f', g'), ?_, rfl, e⟩
          show (if a ≠ zz_scr ∧ (zz_kd sh a = 3 ∨ zz_kd sh a = 4 ∨ zz_kd sh a = 5) ∧ zz_in i (zz_ln sh a) then (match zz_rf sh a (zz_ix i) with
            | some b => if b = zz_scr then none else some (pc + 1, L, Value.ref b :: S0, ((sh, f', g') : zz_H))
            | none => none) else none) = _
          have hb0 : zz_rf sh a (zz_ix i) = some b0 := hb0
          rw [if_pos q2, hb0]
          show (if b0 = zz_scr then none else some (pc + 1, L, Value.ref b0 :: S0, ((sh, f', g') : zz_H))) = _
          rw [if_neg q3]
      · cases he
    · cases he
  · cases he
theorem rl_iast (e : ∀ a < sh.length, f a = f' a ∧ g a = g' a) (he : zz_iast pc L S (sh, f, g) = some (pc', L', S', h1)) : ∃ h2, zz_iast pc L S (sh, f', g') = some (pc', L', S', h2) ∧ zz_rl h1 h2 := by
  unfold zz_iast at he
  split at he
  · rename_i x i a S0
    split at he
    · rename_i q2
      cases he
      exact ⟨(sh, zz_u f' a (zz_ix i) x, g'), if_pos q2, rl_u e _ _ _⟩
    · cases he
  · cases he
theorem rl_bast (e : ∀ a < sh.length, f a = f' a ∧ g a = g' a) (he : zz_bast pc L S (sh, f, g) = some (pc', L', S', h1)) : ∃ h2, zz_bast pc L S (sh, f', g') = some (pc', L', S', h2) ∧ zz_rl h1 h2 := by
  unfold zz_bast at he
  split at he
  · rename_i x i a S0
    split at he
    · rename_i q2
      cases he
      exact ⟨(sh, zz_u f' a (zz_ix i) x, g'), if_pos q2, rl_u e _ _ _⟩
    · cases he
  · cases he
theorem rl_last (e : ∀ a < sh.length, f a = f' a ∧ g a = g' a) (he : zz_last pc L S (sh, f, g) = some (pc', L', S', h1)) : ∃ h2, zz_last pc L S (sh, f', g') = some (pc', L', S', h2) ∧ zz_rl h1 h2 := by
  unfold zz_last at he
  split at he
  · rename_i x i a S0
    split at he
    · rename_i q2
      cases he
      exact ⟨(sh, f', zz_u g' a (zz_ix i) x), if_pos q2, rl_ul e _ _ _⟩
    · cases he
  · cases he
theorem rl_aast (e : ∀ a < sh.length, f a = f' a ∧ g a = g' a) (he : zz_aast pc L S (sh, f, g) = some (pc', L', S', h1)) : ∃ h2, zz_aast pc L S (sh, f', g') = some (pc', L', S', h2) ∧ zz_rl h1 h2 := by
  unfold zz_aast at he
  split at he
  · rename_i b i a S0
    split at he
    · rename_i q2
      cases he
      exact ⟨(zz_rset sh a (zz_ix i) b, f', g'), if_pos q2, rl_set e _ _ _⟩
    · cases he
  · cases he
theorem rl_alen (hk : k ≠ 0) (e : ∀ a < sh.length, f a = f' a ∧ g a = g' a) (he : zz_alen k pc L S (sh, f, g) = some (pc', L', S', h1)) : ∃ h2, zz_alen k pc L S (sh, f', g') = some (pc', L', S', h2) ∧ zz_rl h1 h2 := by
  unfold zz_alen at he
  split at he
  · rename_i a S0
    split at he
    · cases he
    · rename_i q
      split at he
      · rename_i q2
        cases he
        refine ⟨(sh, f', g'), ?_, rfl, e⟩
        show (if a = zz_scr then _ else if zz_kd sh a < 6 then some (pc + 1, L, Value.int (nI (zz_ln sh a)) :: S0, ((sh, f', g') : zz_H)) else none) = _
        rw [if_neg q, if_pos q2]
      · cases he
  · cases he
theorem rl_getf {aux : List Nat} (e : ∀ a < sh.length, f a = f' a ∧ g a = g' a) (he : zz_getf aux pc L S (sh, f, g) = some (pc', L', S', h1)) : ∃ h2, zz_getf aux pc L S (sh, f', g') = some (pc', L', S', h2) ∧ zz_rl h1 h2 := by
  unfold zz_getf at he
  split at he
  · rename_i ci sl ty w a S0
    split at he
    · rename_i q2
      have hlt : a < sh.length := zz_lt_of_kd q2.2 (by omega)
      split at he
      · cases he
        refine ⟨(sh, f', g'), ?_, rfl, e⟩
        show (if a ≠ zz_scr ∧ zz_kd sh a = 10 + ci then some (pc + 3, L, Value.int (f' a sl) :: S0, ((sh, f', g') : zz_H)) else none) = _
        rw [if_pos q2, ← (e a hlt).1]
      · cases he
        refine ⟨(sh, f', g'), ?_, rfl, e⟩
        show (if a ≠ zz_scr ∧ zz_kd sh a = 10 + ci then some (pc + 3, L, Value.long (g' a sl) :: S0, ((sh, f', g') : zz_H)) else none) = _
        rw [if_pos q2, ← (e a hlt).2]
      · rename_i t0 t1
        split at he
        · rename_i b0 hb0
          split at he
          · cases he
          · rename_i q3
            cases he
            refine ⟨(sh, f', g'), ?_, rfl, e⟩
            have hb0 : zz_rf sh a sl = some b0 := hb0
            unfold zz_getf
            simp only [if_pos q2, hb0, if_neg q3]
        · cases he
    · cases he
  · cases he
theorem rl_putf {aux : List Nat} (e : ∀ a < sh.length, f a = f' a ∧ g a = g' a) (he : zz_putf aux pc L S (sh, f, g) = some (pc', L', S', h1)) : ∃ h2, zz_putf aux pc L S (sh, f', g') = some (pc', L', S', h2) ∧ zz_rl h1 h2 := by
  unfold zz_putf at he
  split at he
  · rename_i ci sl w x a S0
    split at he
    · rename_i q2
      cases he
      exact ⟨(sh, zz_u f' a sl x, g'), if_pos q2, rl_u e _ _ _⟩
    · cases he
  · rename_i ci sl w x a S0
    split at he
    · rename_i q2
      cases he
      exact ⟨(sh, f', zz_u g' a sl x), if_pos q2, rl_ul e _ _ _⟩
    · cases he
  · rename_i ci sl w b a S0
    split at he
    · rename_i q2
      cases he
      exact ⟨(zz_rset sh a sl b, f', g'), if_pos q2, rl_set e _ _ _⟩
    · cases he
  · cases he
theorem rl_new {aux : List Nat} (e : ∀ a < sh.length, f a = f' a ∧ g a = g' a) (he : zz_new aux pc L S (sh, f, g) = some (pc', L', S', h1)) : ∃ h2, zz_new aux pc L S (sh, f', g') = some (pc', L', S', h2) ∧ zz_rl h1 h2 := by
  unfold zz_new at he
  split at he
  · split at he
    · rename_i q2
      cases he
      exact ⟨_, if_pos q2, zz_rl_push e _⟩
    · cases he
  · cases he
theorem rl_newa {t : ArrayType} (e : ∀ a < sh.length, f a = f' a ∧ g a = g' a) (he : zz_newa t pc L S (sh, f, g) = some (pc', L', S', h1)) : ∃ h2, zz_newa t pc L S (sh, f', g') = some (pc', L', S', h2) ∧ zz_rl h1 h2 := by
  unfold zz_newa at he
  split at he
  · split at he
    · rename_i q2
      split at he
      · cases he; exact ⟨_, if_pos q2, zz_rl_push e _⟩
      · cases he; exact ⟨_, if_pos q2, zz_rl_push e _⟩
      · cases he; exact ⟨_, if_pos q2, zz_rl_push e _⟩
      · cases he
    · cases he
  · cases he
theorem rl_anew {aux : List Nat} (e : ∀ a < sh.length, f a = f' a ∧ g a = g' a) (he : zz_anew aux pc L S (sh, f, g) = some (pc', L', S', h1)) : ∃ h2, zz_anew aux pc L S (sh, f', g') = some (pc', L', S', h2) ∧ zz_rl h1 h2 := by
  unfold zz_anew at he
  split at he
  · split at he
    · rename_i q2
      cases he
      exact ⟨_, if_pos q2, zz_rl_push e _⟩
    · cases he
  · cases he
theorem rl_mnew (e : ∀ a < sh.length, f a = f' a ∧ g a = g' a) (he : zz_mnew pc L S (sh, f, g) = some (pc', L', S', h1)) : ∃ h2, zz_mnew pc L S (sh, f', g') = some (pc', L', S', h2) ∧ zz_rl h1 h2 := by
  unfold zz_mnew at he
  split at he
  · split at he
    · rename_i q2
      cases he
      exact ⟨_, if_pos q2, zz_rl_pushes (zz_rl_push e _) _ _⟩
    · cases he
  · cases he
theorem rl_copy (e : ∀ a < sh.length, f a = f' a ∧ g a = g' a) (he : zz_copy pc L S (sh, f, g) = some (pc', L', S', h1)) : ∃ h2, zz_copy pc L S (sh, f', g') = some (pc', L', S', h2) ∧ zz_rl h1 h2 := by
  unfold zz_copy at he
  split at he
  · rename_i n dp b sp a S0
    split at he
    · rename_i q1
      split at he
      · rename_i q2
        cases he
        refine ⟨_, ?_, rl_cp e (zz_lt_of_kd q2.1 (by decide)) (zz_lt_of_kd q2.2 (by decide)) _ _ _⟩
        unfold zz_copy
        simp only [if_pos q1, if_pos q2]
      · rename_i q2
        split at he
        · rename_i q3
          cases he
          refine ⟨_, ?_, rl_cpl e (zz_lt_of_kd q3.1 (by decide)) (zz_lt_of_kd q3.2 (by decide)) _ _ _⟩
          unfold zz_copy
          simp only [if_pos q1, if_neg q2, if_pos q3]
        · cases he
    · cases he
  · cases he
theorem zz_h_rl {ins : Instr} {aux : List Nat} (hk : k ≠ 0) (e : ∀ a < sh.length, f a = f' a ∧ g a = g' a) (he : zz_h ins aux k pc L S (sh, f, g) = some (pc', L', S', h1)) : ∃ h2, zz_h ins aux k pc L S (sh, f', g') = some (pc', L', S', h2) ∧ zz_rl h1 h2 := by
  unfold zz_h at he
  split at he
  · exact rl_iald hk e he
  · exact rl_bald e he
  · exact rl_lald e he
  · exact rl_aald e he
  · exact rl_iast e he
  · exact rl_bast e he
  · exact rl_last e he
  · exact rl_aast e he
  · exact rl_alen hk e he
  · exact rl_getf e he
  · exact rl_putf e he
  · exact rl_new e he
  · exact rl_newa e he
  · exact rl_anew e he
  · exact rl_mnew e he
  · split at he <;> cases he; exact ⟨(sh, f', g'), rfl, rfl, e⟩
  · split at he <;> cases he; exact ⟨(sh, f', g'), rfl, rfl, e⟩
  · split at he <;> cases he; exact ⟨(sh, f', g'), rfl, rfl, e⟩
  · split at he
    · exact rl_copy e he
    · split at he
      · split at he
        · rename_i q; cases he; exact ⟨(sh, f', g'), if_pos q, rfl, e⟩
        · cases he
      · cases he
    · split at he
      · split at he
        · rename_i q; cases he; exact ⟨(sh, f', g'), if_pos q, rfl, e⟩
        · cases he
      · cases he
    · split at he
      · split at he
        · rename_i q; cases he; exact ⟨(sh, f', g'), if_pos q, rfl, e⟩
        · cases he
      · cases he
    · cases he
  · split at he
    · split at he
      · rename_i q; cases he; exact ⟨(sh, f', g'), if_pos q, rfl, e⟩
      · cases he
    · cases he
  · cases he
theorem zz_h_rln {ins : Instr} {aux : List Nat} (hk : k ≠ 0) (e : ∀ a < sh.length, f a = f' a ∧ g a = g' a) (he : zz_h ins aux k pc L S (sh, f, g) = none) : zz_h ins aux k pc L S (sh, f', g') = none := by
  cases q : zz_h ins aux k pc L S (sh, f', g') with
  | none => rfl
  | some r =>
    obtain ⟨a1, a2, a3, a4⟩ := r
    obtain ⟨h2, e2, -⟩ := zz_h_rl (f := f') (f' := f) (g := g') (g' := g) hk (fun a ha => ⟨(e a ha).1.symm, (e a ha).2.symm⟩) q
    rw [he] at e2; cases e2
end ZRL
theorem zz_c_j0 (hall : zz_all) {k pc n j : Nat} {ins : Instr} {aux : List Nat} {S S' as : List Value} {h : zz_H} (hc : zz_cd k pc = some (ins, n, aux)) (hcl : zz_c ins aux S h = some (j, as, S')) : j ≠ 0 := by
  obtain ⟨-, -, -, -, hckC⟩ := zz_ck_use hall hc
  have ff : ∀ jj, zz_fits k jj = true → jj ≠ 0 := fun jj hf => by
    simp only [zz_fits, Bool.and_eq_true, decide_eq_true_eq] at hf
    exact hf.1.1.1
  unfold zz_c at hcl
  split at hcl
  · split at hcl
    · cases hcl
      simp only [zz_ckC, Bool.and_eq_true, decide_eq_true_eq] at hckC
      exact ff _ hckC.1.1
    · cases hcl
  · split at hcl
    · split at hcl
      · cases hcl
        simp only [zz_ckC, Bool.and_eq_true, decide_eq_true_eq] at hckC
        exact ff _ hckC.1.1.1
      · cases hcl
    · cases hcl
  · split at hcl
    · split at hcl
      · cases hcl
        simp only [zz_ckC, Bool.and_eq_true, decide_eq_true_eq] at hckC
        exact ff _ hckC.1.1.1.1
      · cases hcl
    · cases hcl
  · cases hcl
theorem zz_st_rl {k pc : Nat} {L S : List Value} {sh : List zz_S} {f f' : Nat → Nat → Int32} {g g' : Nat → Nat → Int64} (hk : k ≠ 0) (hl : sh.length ≤ zz_scr) (e : ∀ a < sh.length, f a = f' a ∧ g a = g' a) {o : (Nat × List Value × List Value × zz_H) ⊕ (Option Value) ⊕ (Nat × List Value × List Value)} (hs : zz_st0 k pc L S (sh, f, g) = some o) : (∃ pc1 L1 S1 h3 h4, o = .inl (pc1, L1, S1, h3) ∧ zz_st0 k pc L S (sh, f', g') = some (.inl (pc1, L1, S1, h4)) ∧ zz_rl h3 h4 ∧ h3.1.length ≤ zz_scr) ∨ (∃ x, o = .inr x ∧ zz_st0 k pc L S (sh, f', g') = some (.inr x)) := by
  unfold zz_st0 at hs ⊢
  cases hc : zz_cd k pc with
  | none => rw [hc] at hs; cases hs
  | some q =>
    obtain ⟨ins, nn, aux⟩ := q
    rw [hc] at hs
    simp only at hs ⊢
    cases hp : zz_p ins pc L S with
    | some r =>
      obtain ⟨r1, r2, r3⟩ := r
      rw [hp] at hs
      simp only [Option.some.injEq] at hs
      exact Or.inl ⟨r1, r2, r3, (sh, f, g), (sh, f', g'), hs.symm, rfl, ⟨rfl, e⟩, hl⟩
    | none =>
      rw [hp] at hs
      simp only at hs ⊢
      cases hh : zz_h ins aux k pc L S (sh, f, g) with
      | some q =>
        obtain ⟨a1, a2, a3, a4⟩ := q
        rw [hh] at hs
        simp only [Option.some.injEq] at hs
        obtain ⟨h2, e2, r2⟩ := zz_h_rl hk e hh
        rw [e2]
        exact Or.inl ⟨a1, a2, a3, a4, h2, hs.symm, rfl, r2, (zz_h_inv (h := (sh, f, g)) hl hh).2.2.2.1⟩
      | none =>
        rw [hh] at hs
        rw [zz_h_rln hk e hh]
        simp only at hs ⊢
        cases hr : zz_r ins (zz_m k).2.2.2.1 S with
        | some v =>
          rw [hr] at hs
          simp only [Option.some.injEq] at hs
          exact Or.inr ⟨_, hs.symm, rfl⟩
        | none =>
          rw [hr] at hs
          simp only at hs ⊢
          have ec : zz_c ins aux S (sh, f', g') = zz_c ins aux S (sh, f, g) := rfl
          rw [ec]
          cases hcc : zz_c ins aux S (sh, f, g) with
          | some q =>
            rw [hcc] at hs
            simp only [Option.some.injEq] at hs
            exact Or.inr ⟨_, hs.symm, rfl⟩
          | none => rw [hcc] at hs; cases hs
theorem zz_ex_rl (hall : zz_all) (l : Launch) : ∀ (n k pc : Nat) (L S : List Value) (sh : List zz_S) (f f' : Nat → Nat → Int32) (g g' : Nat → Nat → Int64) (v : Option Value) (h1 : zz_H), k ≠ 0 → sh.length ≤ zz_scr → (∀ a < sh.length, f a = f' a ∧ g a = g' a) → zz_ex n k pc L S (sh, f, g) = some (v, h1) → ∃ h2, zz_ex n k pc L S (sh, f', g') = some (v, h2) ∧ zz_rl h1 h2 := by
  intro n
  induction n with
  | zero => intro k pc L S sh f f' g g' v h1 _ _ _ e; simp [zz_ex] at e
  | succ n ih =>
    intro k pc L0 S sh f f' g g' v h1 hk hl e0 e
    rw [zz_ex] at e ⊢
    unfold zz_stp at e ⊢
    generalize zz_fgt (zz_fg k pc) L0 = L at e ⊢
    cases hs : zz_st0 k pc L S (sh, f, g) with
    | none => rw [hs] at e; simp at e
    | some o =>
      rw [hs] at e
      rcases zz_st_rl hk hl e0 hs with ⟨pc1, L1, S1, h3, h4, rfl, hs', r4, hl3⟩ | ⟨x, rfl, hs'⟩
      · rw [hs']
        simp only at e ⊢
        obtain ⟨sh3, f3, g3⟩ := h3
        obtain ⟨sh4, f4, g4⟩ := h4
        obtain ⟨r5, r6⟩ := r4
        have r5 : sh3 = sh4 := r5
        subst r5
        exact ih _ _ _ _ _ _ f4 _ g4 _ _ hk hl3 r6 e
      · rw [hs']
        rcases x with v1 | ⟨j, as, S1⟩
        · simp only [Option.some.injEq, Prod.mk.injEq] at e ⊢
          obtain ⟨rfl, rfl⟩ := e
          exact ⟨(sh, f', g'), ⟨rfl, rfl⟩, rfl, e0⟩
        · simp only at e ⊢
          obtain ⟨ins, nn, aux, hc, hcl⟩ := zz_stp_call hs
          have hj := zz_c_j0 hall hc hcl
          cases hcal : zz_ex n j 0 (zz_ini j as) [] (sh, f, g) with
          | none => rw [hcal] at e; simp at e
          | some q =>
            obtain ⟨w, h3⟩ := q
            rw [hcal] at e
            obtain ⟨h4, e4, r4⟩ := ih _ _ _ _ _ _ f' _ g' _ _ hj hl e0 hcal
            have hl3 := (zz_sound hall l n j 0 _ _ _ _ _ hcal hl).1.2.2.1
            rw [e4]
            obtain ⟨sh3, f3, g3⟩ := h3
            obtain ⟨sh4, f4, g4⟩ := h4
            obtain ⟨r5, r6⟩ := r4
            have r5 : sh3 = sh4 := r5
            subst r5
            exact ih _ _ _ _ _ _ f4 _ g4 _ _ hk hl3 r6 e
theorem zz_ca_rl (hall : zz_all) (l : Launch) {n k : Nat} {as : List Value} {sh : List zz_S} {f f' : Nat → Nat → Int32} {g g' : Nat → Nat → Int64} {v : Option Value} {h1 : zz_H} (hk : k ≠ 0) (hl : sh.length ≤ zz_scr) (e : ∀ a < sh.length, f a = f' a ∧ g a = g' a) (he : zz_ex n k 0 (zz_ini k as) [] (sh, f, g) = some (v, h1)) : ∃ h2, zz_ca k as (sh, f', g') = some (v, h2) ∧ zz_rl h1 h2 ∧ ∀ a, zz_scr ≤ a → h2.2.1 a = f' a := by
  obtain ⟨h2, e2, r2⟩ := zz_ex_rl hall l n k 0 _ _ sh f f' g g' v h1 hk hl e he
  exact ⟨h2, zz_ev_iff.mpr ⟨n, e2⟩, r2, (zz_sound hall l n k 0 _ _ _ _ _ e2 hl).1.2.2.2⟩
