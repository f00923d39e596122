/-! SOUNDNESS, 5: fields, new cells, constants, copies -/
theorem zz_fk0 {t : FieldType} (h : zz_fk t = 0) : t = .int := by cases t <;> simp [zz_fk] at h <;> rfl
theorem zz_fk1 {t : FieldType} (h : zz_fk t = 1) : t = .long := by cases t <;> simp [zz_fk] at h <;> rfl
theorem zz_fv0 {B : Nat} {h : zz_H} {a j : Nat} {t : FieldType} (e : zz_fk t = 0) : zz_fv B h a t j = .int (h.2.1 a j) := by unfold zz_fv; rw [e]; rfl
theorem zz_fv1 {B : Nat} {h : zz_H} {a j : Nat} {t : FieldType} (e : zz_fk t = 1) : zz_fv B h a t j = .long (h.2.2 a j) := by unfold zz_fv; rw [e]; rfl
theorem zz_fv2 {B : Nat} {h : zz_H} {a j : Nat} {t : FieldType} (e : zz_fk t = 2) : zz_fv B h a t j = va_rf ((zz_rf h.1 a j).map (fun x => B + x)) := by unfold zz_fv; rw [e]; rfl
theorem zz_fk_lt (t : FieldType) : zz_fk t = 0 ∨ zz_fk t = 1 ∨ zz_fk t = 2 := by cases t <;> simp [zz_fk]
theorem zz_fits_ref {t : FieldType} (h : t.isReference = true) (a : Nat) : fits t (.ref a) = true := by cases t <;> simp [FieldType.isReference] at h <;> rfl
theorem zz_narrow_ref (t : FieldType) (a : Nat) : narrow t (.ref a) = .ref a := by cases t <;> rfl
section ZI
variable {p : Program} {l : Launch} {e : Env} {R : Room} {s : State} {m : MethodId} {args : Array Value} {below : List Frame} {meth : Method} {c : Code} {H : Heap} {locs : List Loc} {cells slots : Nat} {Q : State → Prop} {B b : Nat} {pc pc' : Nat} {ls : Array Slot} {L S L' S' : List Value} {h h' : zz_H} {D : va_G} {cA : Nat → ClassId} {k : Nat} {aux : List Nat}
theorem zz_so_getf (hx : p.tables.exec = Jvm.exec) (hoc : ∀ ci, ci < 10 → zz_okc ci) (hts : ∀ w ∈ zz_ws, w.before args s = true) (hown : s.vm.findClass (zz_own k) = some m.cls) {idx : Nat} (hck : zz_ckB k (.getfield idx) aux = true) (hd : decode c.code pc = .ok (.getfield idx, 3)) (hX : zz_X D cA s) (hR : zz_HR D cA B h H) (hS : va_S (zz_A B) s.heap H locs) (hL : zz_LR B b L ls) (he : zz_getf aux pc L S h = some (pc', L', S', h')) (kk : zz_go p l e R s m args below meth c cells slots Q D cA B b h h' pc' L' S') : W p l e R s m args below meth c H locs cells slots Q (F0 m pc ls (S.map (zz_mv B b))) := by
  unfold zz_getf at he
  split at he
  · rename_i ci sl ty wp a S0
    simp only [zz_ckB, Bool.and_eq_true, decide_eq_true_eq] at hck
    obtain ⟨⟨⟨hci, hsl⟩, hty⟩, hw⟩ := hck
    split at he
    · rename_i h1
      obtain ⟨o1, o2, o3, o4, -, -, -⟩ := hoc ci hci
      have hlt : a < h.1.length := zz_lt_of_kd h1.2 (by omega)
      rw [List.map_cons, zz_mv_ref B b h1.1]
      have key : ∀ (v : Value) (S1 : List Value), zz_fv B h a (zz_ty ci sl) sl = zz_mv B b v → zz_go p l e R s m args below meth c cells slots Q D cA B b h h (pc + 3) L (v :: S1) → W p l e R s m args below meth c H locs cells slots Q (F0 m pc ls (.ref (B + a) :: S1.map (zz_mv B b))) := by
        intro v S1 hv kk
        refine va_get hx rfl hts o2 hown hX.1 hR a ((zz_w_at hlt).trans (by rw [zz_en_o h1.2])) o1 sl hsl (hts _ (zz_has_in hw)) (fun _ h9 => h9) ((zz_fs_at hsl).trans (by rw [hv])) hd ?_
        exact zz_go_same kk rfl rfl hL hR hS
      split at he
      · cases he
        exact key _ _ (zz_fv0 hty) kk
      · cases he
        exact key _ _ (zz_fv1 hty) kk
      · rename_i n0 n1
        split at he
        · rename_i b0 hb0
          split at he
          · cases he
          · rename_i hbs
            cases he
            refine key _ _ ?_ kk
            rcases zz_fk_lt (zz_ty ci sl) with q | q | q
            · exact absurd (hty.symm.trans q) n0
            · exact absurd (hty.symm.trans q) n1
            · rw [zz_fv2 q, hb0, zz_mv_ref B b hbs]
              rfl
        · cases he
    · cases he
  · cases he
theorem zz_so_put (hx : p.tables.exec = Jvm.exec) (hoc : ∀ ci, ci < 10 → zz_okc ci) (hts : ∀ w ∈ zz_ws, w.before args s = true) (hown : s.vm.findClass (zz_own k) = some m.cls) (hnm : meth.name = (zz_m k).1.name) {idx ci sl ty wp a : Nat} {v : Value} {S0 : List Value} (hck : zz_ckB k (.putfield idx) [ci, sl, ty, wp] = true) (hd : decode c.code pc = .ok (.putfield idx, 3)) (hX : zz_X D cA s) (hR : zz_HR D cA B h H) (hS : va_S (zz_A B) s.heap H locs) (hL : zz_LR B b L ls)
    (ha : a ≠ zz_scr) (hk : zz_kd h.1 a = 10 + ci) (hk' : zz_kd h'.1 a = 10 + ci) (hn : narrow (zz_ty ci sl) (zz_mv B b v) = zz_mv B b v) (hf : fits (zz_ty ci sl) (zz_mv B b v) = true) (hl : h'.1.length = h.1.length) (hsl2 : zz_sl h' = zz_sl h) (hne : ∀ i, i ≠ a → zz_en B cA h' i = zz_en B cA h i) (hs : zz_fv B h' a (zz_ty ci sl) sl = zz_mv B b v) (ho : ∀ j, j ≠ sl → zz_fv B h' a (zz_ty ci j) j = zz_fv B h a (zz_ty ci j) j)
    (kk : zz_go p l e R s m args below meth c cells slots Q D cA B b h h' (pc + 3) L S0) : W p l e R s m args below meth c H locs cells slots Q (F0 m pc ls (zz_mv B b v :: zz_mv B b (.ref a) :: S0.map (zz_mv B b))) := by
  simp only [zz_ckB, Bool.and_eq_true, decide_eq_true_eq] at hck
  obtain ⟨⟨⟨⟨⟨hci, hsl⟩, hty⟩, hw⟩, hfi⟩, -⟩ := hck
  obtain ⟨o1, o2, o3, o4, -, -, -⟩ := hoc ci hci
  have hlt : a < h.1.length := zz_lt_of_kd hk (by omega)
  rw [zz_mv_ref B b ha]
  have fin : ∀ (H1 : Heap) (locs1 : List Loc), va_P D zz_cl ((zz_w B cA h).set a (B + a, .inr (ci, (zz_fs B h a ci).set sl (zz_mv B b v)))) H1 → va_S (zz_A B) s.heap H1 locs1 → W p l e R s m args below meth c H1 locs1 cells slots Q (F0 m (pc + 3) ls (S0.map (zz_mv B b))) := by
    intro H1 locs1 hP1 hS1
    refine zz_go_same kk hl hsl2 hL ?_ hS1
    show va_P _ _ _ _
    rw [zz_w_set hl hne, zz_en_o hk', ← zz_fs_set hs ho]
    exact hP1
  cases hff : (zz_T ci sl).2.2.2 with
  | false =>
    exact va_put hx rfl hts o2 (zz_ty ci) o3 o4 hown hX.1 hR zz_D hS a ((zz_w_at hlt).trans (by rw [zz_en_o hk])) o1 sl hsl (hts _ (zz_has_in hw)) (fun _ h9 => h9) hff (o3 sl hsl) hn hf (by rw [zz_fs_len]; exact hsl) hd (fun H1 locs1 hP1 _ hS1 => fin H1 locs1 hP1 hS1)
  | true =>
    rw [hff] at hfi
    simp only [Bool.not_true, Bool.false_or, Bool.and_eq_true, decide_eq_true_eq] at hfi
    exact va_putF hx rfl hts o2 (zz_ty ci) o3 o4 hown hX.1 hR zz_D hS a ((zz_w_at hlt).trans (by rw [zz_en_o hk])) o1 sl hsl (hts _ (zz_has_in hw)) (fun _ h9 => h9) hff (hnm.trans hfi.1) hfi.2 (o3 sl hsl) hn hf (by rw [zz_fs_len]; exact hsl) hd (fun H1 locs1 hP1 _ hS1 => fin H1 locs1 hP1 hS1)
theorem zz_so_putf (hx : p.tables.exec = Jvm.exec) (hoc : ∀ ci, ci < 10 → zz_okc ci) (hts : ∀ w ∈ zz_ws, w.before args s = true) (hown : s.vm.findClass (zz_own k) = some m.cls) (hnm : meth.name = (zz_m k).1.name) {idx : Nat} (hck : zz_ckB k (.putfield idx) aux = true) (hd : decode c.code pc = .ok (.putfield idx, 3)) (hX : zz_X D cA s) (hR : zz_HR D cA B h H) (hS : va_S (zz_A B) s.heap H locs) (hL : zz_LR B b L ls) (he : zz_putf aux pc L S h = some (pc', L', S', h')) (kk : zz_go p l e R s m args below meth c cells slots Q D cA B b h h' pc' L' S') : W p l e R s m args below meth c H locs cells slots Q (F0 m pc ls (S.map (zz_mv B b))) := by
  unfold zz_putf at he
  split at he
  · rename_i ci sl wp x a S0
    split at he
    · rename_i h1
      cases he
      have hck0 := hck
      simp only [zz_ckB, Bool.and_eq_true, decide_eq_true_eq] at hck0
      have hty := hck0.1.1.1.2
      have et := zz_fk0 hty
      refine zz_so_put (v := .int x) (h' := (h.1, zz_u h.2.1 a sl x, h.2.2)) hx hoc hts hown hnm hck hd hX hR hS hL h1.1 h1.2 h1.2 (by rw [et]; rfl) (by rw [et]; rfl) rfl rfl (fun i hi => zz_en_congr rfl (zz_u_ne hi) rfl) ?_ (fun j hj => ?_) kk
      · rw [zz_fv0 hty]
        simp [zz_u, zz_mv]
      · unfold zz_fv
        simp [zz_u, hj]
    · cases he
  · rename_i ci sl wp x a S0
    split at he
    · rename_i h1
      cases he
      have hck0 := hck
      simp only [zz_ckB, Bool.and_eq_true, decide_eq_true_eq] at hck0
      have hty := hck0.1.1.1.2
      have et := zz_fk1 hty
      refine zz_so_put (v := .long x) (h' := (h.1, h.2.1, zz_u h.2.2 a sl x)) hx hoc hts hown hnm hck hd hX hR hS hL h1.1 h1.2 h1.2 (by rw [et]; rfl) (by rw [et]; rfl) rfl rfl (fun i hi => zz_en_congr rfl rfl (zz_u_ne hi)) ?_ (fun j hj => ?_) kk
      · rw [zz_fv1 hty]
        simp [zz_u, zz_mv]
      · unfold zz_fv
        simp [zz_u, hj]
    · cases he
  · rename_i ci sl wp b0 a S0
    split at he
    · rename_i h1
      obtain ⟨ha, hb0, hkd, hrl⟩ := h1
      cases he
      have hck0 := hck
      simp only [zz_ckB, Bool.and_eq_true, decide_eq_true_eq] at hck0
      have hty := hck0.1.1.1.2
      have hrr : (zz_ty ci sl).isReference = true := by simpa using hck0.2
      have hlt : a < h.1.length := zz_lt_of_kd hkd (by omega)
      refine zz_so_put (v := .ref b0) (h' := (zz_rset h.1 a sl b0, h.2.1, h.2.2)) hx hoc hts hown hnm hck hd hX hR hS hL ha hkd ((zz_rset_kd hlt).1.trans hkd) (by rw [zz_mv_ref B b hb0]; exact zz_narrow_ref _ _) (by rw [zz_mv_ref B b hb0]; exact zz_fits_ref hrr _) (zz_rset_len _ _ _ _) (zz_rset_sl _ _ _ _) (fun i hi => zz_en_congr (zz_sh_set hi) rfl rfl) ?_ (fun j hj => ?_) kk
      · rw [zz_fv2 hty, zz_rset_rf hlt hrl, if_pos rfl, zz_mv_ref B b hb0]
        rfl
      · unfold zz_fv
        simp only
        rw [zz_rset_rf hlt hrl, if_neg hj]
    · cases he
  · cases he
end ZI
