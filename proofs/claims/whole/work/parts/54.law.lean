/-! THE LAW: each call of both answers alike -/
theorem lw_s {A : zA} {jx jm : Nat} {as : List Value} (s : zSim A jx jm as) {f : Nat → Nat → Int32} {g : Nat → Nat → Int64} (h1 : CX A f g) (h2 : CM A f g) : ∃ (v : Value) (A' : zA) (f' : Nat → Nat → Int32) (g' : Nat → Nat → Int64) (f2 : Nat → Nat → Int32) (g2 : Nat → Nat → Int64), wf A' ∧ zz_ca jx (.ref 0 :: as) (zK f g) = some (some v, zK f' g') ∧ zz_ca jm (.ref 112 :: as) (zK f' g') = some (some v, zK f2 g2) ∧ CX A' f2 g2 ∧ CM A' f2 g2 ∧ (f' zz_scr = f zz_scr ∧ f' (zz_scr + 1) = f (zz_scr + 1)) ∧ f2 zz_scr = f zz_scr ∧ f2 (zz_scr + 1) = f (zz_scr + 1) := by
  obtain ⟨v, A', w, hx, hm⟩ := s
  obtain ⟨f', g', e1, c1, hi⟩ := hx f g h1
  obtain ⟨f2, g2, e2, c2, lo⟩ := hm f' g' (CM_hi h2 hi)
  have a1 : 112 ≤ zz_scr := by decide
  have a2 : 128 ≤ zz_scr := by decide
  exact ⟨v, A', f', g', f2, g2, w, e1, e2, CX_lo c1 lo, c2, ⟨hi.1 _ a1, hi.1 _ (by omega)⟩, (lo.1 _ (Or.inr a2)).trans (hi.1 _ a1), (lo.1 _ (Or.inr (by omega))).trans (hi.1 _ (by omega))⟩
theorem lw_int {j : Nat} {as : List Value} {h h' : zz_H} {v : Value} (e : zz_ca j as h = some (some v, h')) (hr : (zz_m j).2.2.2.1 = some .int) : ∃ x, v = .int x := by
  have q := zz_ca_okr e
  rw [hr] at q
  obtain ⟨x, hx⟩ := q
  exact ⟨x, Option.some.inj hx⟩
theorem lw_long {j : Nat} {as : List Value} {h h' : zz_H} {v : Value} (e : zz_ca j as h = some (some v, h')) (hr : (zz_m j).2.2.2.1 = some .long) : ∃ x, v = .long x := by
  have q := zz_ca_okr e
  rw [hr] at q
  obtain ⟨x, hx⟩ := q
  exact ⟨x, Option.some.inj hx⟩
/-- five ints more are there -/
def zLn (f : Nat → Nat → Int32) (v : Int32) : Prop := zz_in (v + nI 1) (f (zz_scr + 1) 0).toNatClampNeg ∧ zz_in (v + nI 2) (f (zz_scr + 1) 0).toNatClampNeg ∧ zz_in (v + nI 3) (f (zz_scr + 1) 0).toNatClampNeg ∧ zz_in (v + nI 4) (f (zz_scr + 1) 0).toNatClampNeg ∧ zz_in (v + nI 5) (f (zz_scr + 1) 0).toNatClampNeg
/-- from here the law comes to the end of the turn, and class and reference agree -/
def zLQ (pc : Nat) (f : Nat → Nat → Int32) (g : Nat → Nat → Int64) (v : Int32) : Prop := ∃ (A' : zA) (f' : Nat → Nat → Int32) (g' : Nat → Nat → Int64), wf A' ∧ CX A' f' g' ∧ CM A' f' g' ∧ f' zz_scr = f zz_scr ∧ f' (zz_scr + 1) = f (zz_scr + 1) ∧ zz_ev 0 pc [.ref zz_scr, .ref 0, .ref 112, .int v] [] (zK f g) = zz_ev 0 1499 [.ref zz_scr, .ref 0, .ref 112, .int v] [] (zK f' g')
theorem lo_0 {A : zA} (hw : wf A) {f : Nat → Nat → Int32} {g : Nat → Nat → Int64} (h1 : CX A f g) (h2 : CM A f g) {v : Int32} (hn : zLn f v) : zLQ 224 f g v := by
  obtain ⟨y, A', f', g', f2, g2, w, e1, e2, c1, c2, ⟨s1, s2⟩, s3, s4⟩ := lw_s (sim_row A hw (f zz_scr (zz_ix (v + nI 1))) (f zz_scr (zz_ix (v + nI 2)))) h1 h2
  obtain ⟨x, rfl⟩ := lw_int e1 rfl
  refine ⟨A', f2, g2, w, c1, c2, s3, s4, ?_⟩
  simp only [x_0_224, x_0_238, x_0_252, if_pos hn.1, if_pos hn.2.1, e1, e2, s1, s2, zz_bi_s, lgc_eq, eq_self, if_true]
theorem lo_1 {A : zA} (hw : wf A) {f : Nat → Nat → Int32} {g : Nat → Nat → Int64} (h1 : CX A f g) (h2 : CM A f g) {v : Int32} (hn : zLn f v) : zLQ 257 f g v := by
  obtain ⟨y, A', f', g', f2, g2, w, e1, e2, c1, c2, ⟨s1, s2⟩, s3, s4⟩ := lw_s (sim_lay A hw (f zz_scr (zz_ix (v + nI 1))) (f zz_scr (zz_ix (v + nI 2))) (f zz_scr (zz_ix (v + nI 3)))) h1 h2
  obtain ⟨x, rfl⟩ := lw_int e1 rfl
  refine ⟨A', f2, g2, w, c1, c2, s3, s4, ?_⟩
  simp only [x_0_257, x_0_276, x_0_295, if_pos hn.1, if_pos hn.2.1, if_pos hn.2.2.1, e1, e2, s1, s2, zz_bi_s, lgc_eq, eq_self, if_true]
theorem lo_2 {A : zA} (hw : wf A) {f : Nat → Nat → Int32} {g : Nat → Nat → Int64} (h1 : CX A f g) (h2 : CM A f g) {v : Int32} (hn : zLn f v) : zLQ 300 f g v := by
  obtain ⟨y, A', f', g', f2, g2, w, e1, e2, c1, c2, ⟨s1, s2⟩, s3, s4⟩ := lw_s (sim_at A hw (f zz_scr (zz_ix (v + nI 1))) (f zz_scr (zz_ix (v + nI 2)))) h1 h2
  obtain ⟨x, rfl⟩ := lw_int e1 rfl
  refine ⟨A', f2, g2, w, c1, c2, s3, s4, ?_⟩
  simp only [x_0_300, x_0_314, x_0_328, if_pos hn.1, if_pos hn.2.1, e1, e2, s1, s2, zz_bi_s, lgc_eq, eq_self, if_true]
theorem lo_3 {A : zA} (hw : wf A) {f : Nat → Nat → Int32} {g : Nat → Nat → Int64} (h1 : CX A f g) (h2 : CM A f g) {v : Int32} (hn : zLn f v) : zLQ 333 f g v := by
  obtain ⟨y, A', f', g', f2, g2, w, e1, e2, c1, c2, ⟨s1, s2⟩, s3, s4⟩ := lw_s (sim_tear A hw (f zz_scr (zz_ix (v + nI 1)))) h1 h2
  obtain ⟨x, rfl⟩ := lw_int e1 rfl
  refine ⟨A', f2, g2, w, c1, c2, s3, s4, ?_⟩
  simp only [x_0_333, x_0_342, x_0_351, if_pos hn.1, e1, e2, s1, s2, zz_bi_s, lgc_eq, eq_self, if_true]
theorem lo_4 {A : zA} (hw : wf A) {f : Nat → Nat → Int32} {g : Nat → Nat → Int64} (h1 : CX A f g) (h2 : CM A f g) {v : Int32} (hn : zLn f v) : zLQ 356 f g v := by
  obtain ⟨y, A', f', g', f2, g2, w, e1, e2, c1, c2, ⟨s1, s2⟩, s3, s4⟩ := lw_s (sim_copy A hw (f zz_scr (zz_ix (v + nI 1))) (f zz_scr (zz_ix (v + nI 2))) (f zz_scr (zz_ix (v + nI 3))) (f zz_scr (zz_ix (v + nI 4))) (f zz_scr (zz_ix (v + nI 5)))) h1 h2
  obtain ⟨x, rfl⟩ := lw_int e1 rfl
  refine ⟨A', f2, g2, w, c1, c2, s3, s4, ?_⟩
  simp only [x_0_356, x_0_385, x_0_414, if_pos hn.1, if_pos hn.2.1, if_pos hn.2.2.1, if_pos hn.2.2.2.1, if_pos hn.2.2.2.2, e1, e2, s1, s2, zz_bi_s, lgc_eq, eq_self, if_true]
theorem lo_5 {A : zA} (hw : wf A) {f : Nat → Nat → Int32} {g : Nat → Nat → Int64} (h1 : CX A f g) (h2 : CM A f g) {v : Int32} (hn : zLn f v) : zLQ 419 f g v := by
  obtain ⟨y, A', f', g', f2, g2, w, e1, e2, c1, c2, ⟨s1, s2⟩, s3, s4⟩ := lw_s (sim_mean A hw (f zz_scr (zz_ix (v + nI 1)))) h1 h2
  obtain ⟨x, rfl⟩ := lw_int e1 rfl
  refine ⟨A', f2, g2, w, c1, c2, s3, s4, ?_⟩
  simp only [x_0_419, x_0_428, x_0_437, if_pos hn.1, e1, e2, s1, s2, zz_bi_s, lgc_eq, eq_self, if_true]
theorem lo_6 {A : zA} (hw : wf A) {f : Nat → Nat → Int32} {g : Nat → Nat → Int64} (h1 : CX A f g) (h2 : CM A f g) {v : Int32} (hn : zLn f v) : zLQ 442 f g v := by
  obtain ⟨y, A', f', g', f2, g2, w, e1, e2, c1, c2, ⟨s1, s2⟩, s3, s4⟩ := lw_s (sim_text A hw (f zz_scr (zz_ix (v + nI 1))) (f zz_scr (zz_ix (v + nI 2)))) h1 h2
  obtain ⟨x, rfl⟩ := lw_int e1 rfl
  refine ⟨A', f2, g2, w, c1, c2, s3, s4, ?_⟩
  simp only [x_0_442, x_0_456, x_0_470, if_pos hn.1, if_pos hn.2.1, e1, e2, s1, s2, zz_bi_s, lgc_eq, eq_self, if_true]
theorem lo_7 {A : zA} (hw : wf A) {f : Nat → Nat → Int32} {g : Nat → Nat → Int64} (h1 : CX A f g) (h2 : CM A f g) {v : Int32} (hn : zLn f v) : zLQ 475 f g v := by
  obtain ⟨y, A', f', g', f2, g2, w, e1, e2, c1, c2, ⟨s1, s2⟩, s3, s4⟩ := lw_s (sim_put A hw (f zz_scr (zz_ix (v + nI 1))) (f zz_scr (zz_ix (v + nI 2))) (f zz_scr (zz_ix (v + nI 3)))) h1 h2
  obtain ⟨x, rfl⟩ := lw_int e1 rfl
  refine ⟨A', f2, g2, w, c1, c2, s3, s4, ?_⟩
  simp only [x_0_475, x_0_494, x_0_513, if_pos hn.1, if_pos hn.2.1, if_pos hn.2.2.1, e1, e2, s1, s2, zz_bi_s, lgc_eq, eq_self, if_true]
theorem lo_8 {A : zA} (hw : wf A) {f : Nat → Nat → Int32} {g : Nat → Nat → Int64} (h1 : CX A f g) (h2 : CM A f g) {v : Int32} (hn : zLn f v) : zLQ 518 f g v := by
  obtain ⟨y, A', f', g', f2, g2, w, e1, e2, c1, c2, ⟨s1, s2⟩, s3, s4⟩ := lw_s (sim_fault A hw (f zz_scr (zz_ix (v + nI 1)))) h1 h2
  obtain ⟨x, rfl⟩ := lw_int e1 rfl
  refine ⟨A', f2, g2, w, c1, c2, s3, s4, ?_⟩
  simp only [x_0_518, x_0_527, x_0_536, if_pos hn.1, e1, e2, s1, s2, zz_bi_s, lgc_eq, eq_self, if_true]
theorem lo_9 {A : zA} (hw : wf A) {f : Nat → Nat → Int32} {g : Nat → Nat → Int64} (h1 : CX A f g) (h2 : CM A f g) {v : Int32} (hn : zLn f v) : zLQ 541 f g v := by
  obtain ⟨y, A', f', g', f2, g2, w, e1, e2, c1, c2, ⟨s1, s2⟩, s3, s4⟩ := lw_s (sim_house A hw (f zz_scr (zz_ix (v + nI 1)))) h1 h2
  obtain ⟨x, rfl⟩ := lw_int e1 rfl
  refine ⟨A', f2, g2, w, c1, c2, s3, s4, ?_⟩
  simp only [x_0_541, x_0_550, x_0_559, if_pos hn.1, e1, e2, s1, s2, zz_bi_s, lgc_eq, eq_self, if_true]
theorem lo_10 {A : zA} (hw : wf A) {f : Nat → Nat → Int32} {g : Nat → Nat → Int64} (h1 : CX A f g) (h2 : CM A f g) {v : Int32} (hn : zLn f v) : zLQ 564 f g v := by
  obtain ⟨y, A', f', g', f2, g2, w, e1, e2, c1, c2, ⟨s1, s2⟩, s3, s4⟩ := lw_s (sim_person A hw (f zz_scr (zz_ix (v + nI 1))) (f zz_scr (zz_ix (v + nI 2)))) h1 h2
  obtain ⟨x, rfl⟩ := lw_int e1 rfl
  refine ⟨A', f2, g2, w, c1, c2, s3, s4, ?_⟩
  simp only [x_0_564, x_0_578, x_0_592, if_pos hn.1, if_pos hn.2.1, e1, e2, s1, s2, zz_bi_s, lgc_eq, eq_self, if_true]
theorem lo_11 {A : zA} (hw : wf A) {f : Nat → Nat → Int32} {g : Nat → Nat → Int64} (h1 : CX A f g) (h2 : CM A f g) {v : Int32} (hn : zLn f v) : zLQ 597 f g v := by
  obtain ⟨y, A', f', g', f2, g2, w, e1, e2, c1, c2, ⟨s1, s2⟩, s3, s4⟩ := lw_s (sim_door A hw (f zz_scr (zz_ix (v + nI 1)))) h1 h2
  obtain ⟨x, rfl⟩ := lw_int e1 rfl
  refine ⟨A', f2, g2, w, c1, c2, s3, s4, ?_⟩
  simp only [x_0_597, x_0_606, x_0_615, if_pos hn.1, e1, e2, s1, s2, zz_bi_s, lgc_eq, eq_self, if_true]
theorem lo_12 {A : zA} (hw : wf A) {f : Nat → Nat → Int32} {g : Nat → Nat → Int64} (h1 : CX A f g) (h2 : CM A f g) {v : Int32} (hn : zLn f v) : zLQ 620 f g v := by
  obtain ⟨y, A', f', g', f2, g2, w, e1, e2, c1, c2, ⟨s1, s2⟩, s3, s4⟩ := lw_s (sim_mark A hw (f zz_scr (zz_ix (v + nI 1))) (f zz_scr (zz_ix (v + nI 2)))) h1 h2
  obtain ⟨x, rfl⟩ := lw_int e1 rfl
  refine ⟨A', f2, g2, w, c1, c2, s3, s4, ?_⟩
  simp only [x_0_620, x_0_634, x_0_648, if_pos hn.1, if_pos hn.2.1, e1, e2, s1, s2, zz_bi_s, lgc_eq, eq_self, if_true]
theorem lo_13 {A : zA} (hw : wf A) {f : Nat → Nat → Int32} {g : Nat → Nat → Int64} (h1 : CX A f g) (h2 : CM A f g) {v : Int32} (hn : zLn f v) : zLQ 653 f g v := by
  obtain ⟨y, A', f', g', f2, g2, w, e1, e2, c1, c2, ⟨s1, s2⟩, s3, s4⟩ := lw_s (sim_pace A hw (f zz_scr (zz_ix (v + nI 1))) (f zz_scr (zz_ix (v + nI 2)))) h1 h2
  obtain ⟨x, rfl⟩ := lw_int e1 rfl
  refine ⟨A', f2, g2, w, c1, c2, s3, s4, ?_⟩
  simp only [x_0_653, x_0_667, x_0_681, if_pos hn.1, if_pos hn.2.1, e1, e2, s1, s2, zz_bi_s, lgc_eq, eq_self, if_true]
theorem lo_14 {A : zA} (hw : wf A) {f : Nat → Nat → Int32} {g : Nat → Nat → Int64} (h1 : CX A f g) (h2 : CM A f g) {v : Int32} (hn : zLn f v) : zLQ 686 f g v := by
  obtain ⟨y, A', f', g', f2, g2, w, e1, e2, c1, c2, ⟨s1, s2⟩, s3, s4⟩ := lw_s (sim_step A hw (f zz_scr (zz_ix (v + nI 1))) (f zz_scr (zz_ix (v + nI 2)))) h1 h2
  obtain ⟨x, rfl⟩ := lw_int e1 rfl
  refine ⟨A', f2, g2, w, c1, c2, s3, s4, ?_⟩
  simp only [x_0_686, x_0_700, x_0_714, if_pos hn.1, if_pos hn.2.1, e1, e2, s1, s2, zz_bi_s, lgc_eq, eq_self, if_true]
theorem lo_15 {A : zA} (hw : wf A) {f : Nat → Nat → Int32} {g : Nat → Nat → Int64} (h1 : CX A f g) (h2 : CM A f g) {v : Int32} (hn : zLn f v) : zLQ 719 f g v := by
  obtain ⟨y, A', f', g', f2, g2, w, e1, e2, c1, c2, ⟨s1, s2⟩, s3, s4⟩ := lw_s (sim_hour A hw ) h1 h2
  obtain ⟨x, rfl⟩ := lw_int e1 rfl
  refine ⟨A', f2, g2, w, c1, c2, s3, s4, ?_⟩
  simp only [x_0_719, x_0_723, x_0_727, e1, e2, zz_bi_s, lgc_eq, eq_self, if_true]
theorem lo_16 {A : zA} (hw : wf A) {f : Nat → Nat → Int32} {g : Nat → Nat → Int64} (h1 : CX A f g) (h2 : CM A f g) {v : Int32} (hn : zLn f v) : zLQ 732 f g v := by
  obtain ⟨y, A', f', g', f2, g2, w, e1, e2, c1, c2, ⟨s1, s2⟩, s3, s4⟩ := lw_s (sim_turn A hw (f zz_scr (zz_ix (v + nI 1))) (f zz_scr (zz_ix (v + nI 2)))) h1 h2
  obtain ⟨x, rfl⟩ := lw_int e1 rfl
  refine ⟨A', f2, g2, w, c1, c2, s3, s4, ?_⟩
  simp only [x_0_732, x_0_746, x_0_760, if_pos hn.1, if_pos hn.2.1, e1, e2, s1, s2, zz_bi_s, lgc_eq, eq_self, if_true]
theorem lo_17 {A : zA} (hw : wf A) {f : Nat → Nat → Int32} {g : Nat → Nat → Int64} (h1 : CX A f g) (h2 : CM A f g) {v : Int32} (hn : zLn f v) : zLQ 765 f g v := by
  obtain ⟨y, A', f', g', f2, g2, w, e1, e2, c1, c2, ⟨s1, s2⟩, s3, s4⟩ := lw_s (sim_undo A hw (f zz_scr (zz_ix (v + nI 1)))) h1 h2
  obtain ⟨x, rfl⟩ := lw_int e1 rfl
  refine ⟨A', f2, g2, w, c1, c2, s3, s4, ?_⟩
  simp only [x_0_765, x_0_774, x_0_783, if_pos hn.1, e1, e2, s1, s2, zz_bi_s, lgc_eq, eq_self, if_true]
theorem lo_18 {A : zA} (hw : wf A) {f : Nat → Nat → Int32} {g : Nat → Nat → Int64} (h1 : CX A f g) (h2 : CM A f g) {v : Int32} (hn : zLn f v) : zLQ 788 f g v := by
  obtain ⟨y, A', f', g', f2, g2, w, e1, e2, c1, c2, ⟨s1, s2⟩, s3, s4⟩ := lw_s (sim_keep A hw (f zz_scr (zz_ix (v + nI 1)))) h1 h2
  obtain ⟨x, rfl⟩ := lw_int e1 rfl
  refine ⟨A', f2, g2, w, c1, c2, s3, s4, ?_⟩
  simp only [x_0_788, x_0_797, x_0_806, if_pos hn.1, e1, e2, s1, s2, zz_bi_s, lgc_eq, eq_self, if_true]
theorem lo_19 {A : zA} (hw : wf A) {f : Nat → Nat → Int32} {g : Nat → Nat → Int64} (h1 : CX A f g) (h2 : CM A f g) {v : Int32} (hn : zLn f v) : zLQ 811 f g v := by
  obtain ⟨y, A', f', g', f2, g2, w, e1, e2, c1, c2, ⟨s1, s2⟩, s3, s4⟩ := lw_s (sim_on A hw (f zz_scr (zz_ix (v + nI 1)))) h1 h2
  obtain ⟨x, rfl⟩ := lw_int e1 rfl
  refine ⟨A', f2, g2, w, c1, c2, s3, s4, ?_⟩
  simp only [x_0_811, x_0_820, x_0_829, if_pos hn.1, e1, e2, s1, s2, zz_bi_s, lgc_eq, eq_self, if_true]
theorem lo_20 {A : zA} (hw : wf A) {f : Nat → Nat → Int32} {g : Nat → Nat → Int64} (h1 : CX A f g) (h2 : CM A f g) {v : Int32} (hn : zLn f v) : zLQ 834 f g v := by
  obtain ⟨y, A', f', g', f2, g2, w, e1, e2, c1, c2, ⟨s1, s2⟩, s3, s4⟩ := lw_s (sim_way A hw (f zz_scr (zz_ix (v + nI 1))) (f zz_scr (zz_ix (v + nI 2))) (f zz_scr (zz_ix (v + nI 3)))) h1 h2
  obtain ⟨x, rfl⟩ := lw_int e1 rfl
  refine ⟨A', f2, g2, w, c1, c2, s3, s4, ?_⟩
  simp only [x_0_834, x_0_853, x_0_872, if_pos hn.1, if_pos hn.2.1, if_pos hn.2.2.1, e1, e2, s1, s2, zz_bi_s, lgc_eq, eq_self, if_true]
theorem lo_21 {A : zA} (hw : wf A) {f : Nat → Nat → Int32} {g : Nat → Nat → Int64} (h1 : CX A f g) (h2 : CM A f g) {v : Int32} (hn : zLn f v) : zLQ 877 f g v := by
  obtain ⟨y, A', f', g', f2, g2, w, e1, e2, c1, c2, ⟨s1, s2⟩, s3, s4⟩ := lw_s (sim_within A hw (f zz_scr (zz_ix (v + nI 1))) (f zz_scr (zz_ix (v + nI 2)))) h1 h2
  obtain ⟨x, rfl⟩ := lw_int e1 rfl
  refine ⟨A', f2, g2, w, c1, c2, s3, s4, ?_⟩
  simp only [x_0_877, x_0_891, x_0_905, if_pos hn.1, if_pos hn.2.1, e1, e2, s1, s2, zz_bi_s, lgc_eq, eq_self, if_true]
theorem lo_22 {A : zA} (hw : wf A) {f : Nat → Nat → Int32} {g : Nat → Nat → Int64} (h1 : CX A f g) (h2 : CM A f g) {v : Int32} (hn : zLn f v) : zLQ 910 f g v := by
  obtain ⟨y, A', f', g', f2, g2, w, e1, e2, c1, c2, ⟨s1, s2⟩, s3, s4⟩ := lw_s (sim_errands A hw (f zz_scr (zz_ix (v + nI 1))) (f zz_scr (zz_ix (v + nI 2)))) h1 h2
  obtain ⟨x, rfl⟩ := lw_int e1 rfl
  refine ⟨A', f2, g2, w, c1, c2, s3, s4, ?_⟩
  simp only [x_0_910, x_0_924, x_0_938, if_pos hn.1, if_pos hn.2.1, e1, e2, s1, s2, zz_bi_s, lgc_eq, eq_self, if_true]
theorem lo_23 {A : zA} (hw : wf A) {f : Nat → Nat → Int32} {g : Nat → Nat → Int64} (h1 : CX A f g) (h2 : CM A f g) {v : Int32} (hn : zLn f v) : zLQ 943 f g v := by
  obtain ⟨y, A', f', g', f2, g2, w, e1, e2, c1, c2, ⟨s1, s2⟩, s3, s4⟩ := lw_s (sim_best A hw (f zz_scr (zz_ix (v + nI 1))) (f zz_scr (zz_ix (v + nI 2))) (f zz_scr (zz_ix (v + nI 3)))) h1 h2
  obtain ⟨x, rfl⟩ := lw_int e1 rfl
  refine ⟨A', f2, g2, w, c1, c2, s3, s4, ?_⟩
  simp only [x_0_943, x_0_962, x_0_981, if_pos hn.1, if_pos hn.2.1, if_pos hn.2.2.1, e1, e2, s1, s2, zz_bi_s, lgc_eq, eq_self, if_true]
theorem lo_24 {A : zA} (hw : wf A) {f : Nat → Nat → Int32} {g : Nat → Nat → Int64} (h1 : CX A f g) (h2 : CM A f g) {v : Int32} (hn : zLn f v) : zLQ 986 f g v := by
  obtain ⟨y, A', f', g', f2, g2, w, e1, e2, c1, c2, ⟨s1, s2⟩, s3, s4⟩ := lw_s (sim_middle A hw (f zz_scr (zz_ix (v + nI 1))) (f zz_scr (zz_ix (v + nI 2)))) h1 h2
  obtain ⟨x, rfl⟩ := lw_int e1 rfl
  refine ⟨A', f2, g2, w, c1, c2, s3, s4, ?_⟩
  simp only [x_0_986, x_0_1000, x_0_1014, if_pos hn.1, if_pos hn.2.1, e1, e2, s1, s2, zz_bi_s, lgc_eq, eq_self, if_true]
theorem lo_25 {A : zA} (hw : wf A) {f : Nat → Nat → Int32} {g : Nat → Nat → Int64} (h1 : CX A f g) (h2 : CM A f g) {v : Int32} (hn : zLn f v) : zLQ 1019 f g v := by
  obtain ⟨y, A', f', g', f2, g2, w, e1, e2, c1, c2, ⟨s1, s2⟩, s3, s4⟩ := lw_s (sim_bar A hw (f zz_scr (zz_ix (v + nI 1))) (f zz_scr (zz_ix (v + nI 2)))) h1 h2
  obtain ⟨x, rfl⟩ := lw_int e1 rfl
  refine ⟨A', f2, g2, w, c1, c2, s3, s4, ?_⟩
  simp only [x_0_1019, x_0_1033, x_0_1047, if_pos hn.1, if_pos hn.2.1, e1, e2, s1, s2, zz_bi_s, lgc_eq, eq_self, if_true]
theorem lo_26 {A : zA} (hw : wf A) {f : Nat → Nat → Int32} {g : Nat → Nat → Int64} (h1 : CX A f g) (h2 : CM A f g) {v : Int32} (hn : zLn f v) : zLQ 1052 f g v := by
  obtain ⟨y, A', f', g', f2, g2, w, e1, e2, c1, c2, ⟨s1, s2⟩, s3, s4⟩ := lw_s (sim_parts A hw (f zz_scr (zz_ix (v + nI 1)))) h1 h2
  obtain ⟨x, rfl⟩ := lw_int e1 rfl
  refine ⟨A', f2, g2, w, c1, c2, s3, s4, ?_⟩
  simp only [x_0_1052, x_0_1061, x_0_1070, if_pos hn.1, e1, e2, s1, s2, zz_bi_s, lgc_eq, eq_self, if_true]
theorem lo_27 {A : zA} (hw : wf A) {f : Nat → Nat → Int32} {g : Nat → Nat → Int64} (h1 : CX A f g) (h2 : CM A f g) {v : Int32} (hn : zLn f v) : zLQ 1075 f g v := by
  obtain ⟨y, A', f', g', f2, g2, w, e1, e2, c1, c2, ⟨s1, s2⟩, s3, s4⟩ := lw_s (sim_later A hw (f zz_scr (zz_ix (v + nI 1))) (f zz_scr (zz_ix (v + nI 2)))) h1 h2
  obtain ⟨x, rfl⟩ := lw_int e1 rfl
  refine ⟨A', f2, g2, w, c1, c2, s3, s4, ?_⟩
  simp only [x_0_1075, x_0_1089, x_0_1103, if_pos hn.1, if_pos hn.2.1, e1, e2, s1, s2, zz_bi_s, lgc_eq, eq_self, if_true]
theorem lo_28 {A : zA} (hw : wf A) {f : Nat → Nat → Int32} {g : Nat → Nat → Int64} (h1 : CX A f g) (h2 : CM A f g) {v : Int32} (hn : zLn f v) : zLQ 1108 f g v := by
  obtain ⟨y, A', f', g', f2, g2, w, e1, e2, c1, c2, ⟨s1, s2⟩, s3, s4⟩ := lw_s (sim_when A hw (f zz_scr (zz_ix (v + nI 1))) (f zz_scr (zz_ix (v + nI 2)))) h1 h2
  obtain ⟨x, rfl⟩ := lw_int e1 rfl
  refine ⟨A', f2, g2, w, c1, c2, s3, s4, ?_⟩
  simp only [x_0_1108, x_0_1122, x_0_1136, if_pos hn.1, if_pos hn.2.1, e1, e2, s1, s2, zz_bi_s, lgc_eq, eq_self, if_true]
theorem lo_29 {A : zA} (hw : wf A) {f : Nat → Nat → Int32} {g : Nat → Nat → Int64} (h1 : CX A f g) (h2 : CM A f g) {v : Int32} (hn : zLn f v) : zLQ 1141 f g v := by
  obtain ⟨y, A', f', g', f2, g2, w, e1, e2, c1, c2, ⟨s1, s2⟩, s3, s4⟩ := lw_s (sim_meet A hw (f zz_scr (zz_ix (v + nI 1))) (f zz_scr (zz_ix (v + nI 2)))) h1 h2
  obtain ⟨x, rfl⟩ := lw_int e1 rfl
  refine ⟨A', f2, g2, w, c1, c2, s3, s4, ?_⟩
  simp only [x_0_1141, x_0_1155, x_0_1169, if_pos hn.1, if_pos hn.2.1, e1, e2, s1, s2, zz_bi_s, lgc_eq, eq_self, if_true]
theorem lo_30 {A : zA} (hw : wf A) {f : Nat → Nat → Int32} {g : Nat → Nat → Int64} (h1 : CX A f g) (h2 : CM A f g) {v : Int32} (hn : zLn f v) : zLQ 1174 f g v := by
  obtain ⟨y, A', f', g', f2, g2, w, e1, e2, c1, c2, ⟨s1, s2⟩, s3, s4⟩ := lw_s (sim_crowd A hw ) h1 h2
  obtain ⟨x, rfl⟩ := lw_int e1 rfl
  refine ⟨A', f2, g2, w, c1, c2, s3, s4, ?_⟩
  simp only [x_0_1174, x_0_1178, x_0_1182, e1, e2, zz_bi_s, lgc_eq, eq_self, if_true]
theorem lo_31 {A : zA} (hw : wf A) {f : Nat → Nat → Int32} {g : Nat → Nat → Int64} (h1 : CX A f g) (h2 : CM A f g) {v : Int32} (hn : zLn f v) : zLQ 1187 f g v := by
  obtain ⟨y, A', f', g', f2, g2, w, e1, e2, c1, c2, ⟨s1, s2⟩, s3, s4⟩ := lw_s (sim_change A hw (f zz_scr (zz_ix (v + nI 1))) (f zz_scr (zz_ix (v + nI 2)))) h1 h2
  obtain ⟨x, rfl⟩ := lw_int e1 rfl
  refine ⟨A', f2, g2, w, c1, c2, s3, s4, ?_⟩
  simp only [x_0_1187, x_0_1201, x_0_1215, if_pos hn.1, if_pos hn.2.1, e1, e2, s1, s2, zz_bi_s, lgc_eq, eq_self, if_true]
theorem lo_32 {A : zA} (hw : wf A) {f : Nat → Nat → Int32} {g : Nat → Nat → Int64} (h1 : CX A f g) (h2 : CM A f g) {v : Int32} (hn : zLn f v) : zLQ 1220 f g v := by
  obtain ⟨y, A', f', g', f2, g2, w, e1, e2, c1, c2, ⟨s1, s2⟩, s3, s4⟩ := lw_s (sim_round A hw ) h1 h2
  obtain ⟨x, rfl⟩ := lw_int e1 rfl
  refine ⟨A', f2, g2, w, c1, c2, s3, s4, ?_⟩
  simp only [x_0_1220, x_0_1224, x_0_1228, e1, e2, zz_bi_s, lgc_eq, eq_self, if_true]
theorem lo_33 {A : zA} (hw : wf A) {f : Nat → Nat → Int32} {g : Nat → Nat → Int64} (h1 : CX A f g) (h2 : CM A f g) {v : Int32} (hn : zLn f v) : zLQ 1233 f g v := by
  obtain ⟨y, A', f', g', f2, g2, w, e1, e2, c1, c2, ⟨s1, s2⟩, s3, s4⟩ := lw_s (sim_paces A hw (f zz_scr (zz_ix (v + nI 1))) (f zz_scr (zz_ix (v + nI 2))) (f zz_scr (zz_ix (v + nI 3)))) h1 h2
  obtain ⟨x, rfl⟩ := lw_int e1 rfl
  refine ⟨A', f2, g2, w, c1, c2, s3, s4, ?_⟩
  simp only [x_0_1233, x_0_1252, x_0_1271, if_pos hn.1, if_pos hn.2.1, if_pos hn.2.2.1, e1, e2, s1, s2, zz_bi_s, lgc_eq, eq_self, if_true]
theorem lo_34 {A : zA} (hw : wf A) {f : Nat → Nat → Int32} {g : Nat → Nat → Int64} (h1 : CX A f g) (h2 : CM A f g) {v : Int32} (hn : zLn f v) : zLQ 1276 f g v := by
  obtain ⟨y, A', f', g', f2, g2, w, e1, e2, c1, c2, ⟨s1, s2⟩, s3, s4⟩ := lw_s (sim_ages A hw (f zz_scr (zz_ix (v + nI 1))) (f zz_scr (zz_ix (v + nI 2)))) h1 h2
  obtain ⟨x, rfl⟩ := lw_int e1 rfl
  refine ⟨A', f2, g2, w, c1, c2, s3, s4, ?_⟩
  simp only [x_0_1276, x_0_1290, x_0_1304, if_pos hn.1, if_pos hn.2.1, e1, e2, s1, s2, zz_bi_s, lgc_eq, eq_self, if_true]
theorem lo_35 {A : zA} (hw : wf A) {f : Nat → Nat → Int32} {g : Nat → Nat → Int64} (h1 : CX A f g) (h2 : CM A f g) {v : Int32} (hn : zLn f v) : zLQ 1309 f g v := by
  obtain ⟨y, A', f', g', f2, g2, w, e1, e2, c1, c2, ⟨s1, s2⟩, s3, s4⟩ := lw_s (sim_odds A hw (f zz_scr (zz_ix (v + nI 1))) (f zz_scr (zz_ix (v + nI 2))) (f zz_scr (zz_ix (v + nI 3)))) h1 h2
  obtain ⟨x, rfl⟩ := lw_int e1 rfl
  refine ⟨A', f2, g2, w, c1, c2, s3, s4, ?_⟩
  simp only [x_0_1309, x_0_1328, x_0_1347, if_pos hn.1, if_pos hn.2.1, if_pos hn.2.2.1, e1, e2, s1, s2, zz_bi_s, lgc_eq, eq_self, if_true]
theorem lo_36 {A : zA} (hw : wf A) {f : Nat → Nat → Int32} {g : Nat → Nat → Int64} (h1 : CX A f g) (h2 : CM A f g) {v : Int32} (hn : zLn f v) : zLQ 1352 f g v := by
  obtain ⟨y, A', f', g', f2, g2, w, e1, e2, c1, c2, ⟨s1, s2⟩, s3, s4⟩ := lw_s (sim_lots A hw (f zz_scr (zz_ix (v + nI 1))) (f zz_scr (zz_ix (v + nI 2)))) h1 h2
  obtain ⟨x, rfl⟩ := lw_int e1 rfl
  refine ⟨A', f2, g2, w, c1, c2, s3, s4, ?_⟩
  simp only [x_0_1352, x_0_1366, x_0_1380, if_pos hn.1, if_pos hn.2.1, e1, e2, s1, s2, zz_bi_s, lgc_eq, eq_self, if_true]
theorem lo_37 {A : zA} (hw : wf A) {f : Nat → Nat → Int32} {g : Nat → Nat → Int64} (h1 : CX A f g) (h2 : CM A f g) {v : Int32} (hn : zLn f v) : zLQ 1385 f g v := by
  obtain ⟨y, A', f', g', f2, g2, w, e1, e2, c1, c2, ⟨s1, s2⟩, s3, s4⟩ := lw_s (sim_asked A hw ) h1 h2
  obtain ⟨x, rfl⟩ := lw_int e1 rfl
  refine ⟨A', f2, g2, w, c1, c2, s3, s4, ?_⟩
  simp only [x_0_1385, x_0_1389, x_0_1393, e1, e2, zz_bi_s, lgc_eq, eq_self, if_true]
theorem lo_38 {A : zA} (hw : wf A) {f : Nat → Nat → Int32} {g : Nat → Nat → Int64} (h1 : CX A f g) (h2 : CM A f g) {v : Int32} (hn : zLn f v) : zLQ 1398 f g v := by
  obtain ⟨y, A', f', g', f2, g2, w, e1, e2, c1, c2, ⟨s1, s2⟩, s3, s4⟩ := lw_s (sim_upper A hw ) h1 h2
  obtain ⟨x, rfl⟩ := lw_long e1 rfl
  refine ⟨A', f2, g2, w, c1, c2, s3, s4, ?_⟩
  simp only [x_0_1398, x_0_1402, x_0_1406, e1, e2, zz_bl_s, lgc_eq, eq_self, if_true]
theorem lo_39 {A : zA} (hw : wf A) {f : Nat → Nat → Int32} {g : Nat → Nat → Int64} (h1 : CX A f g) (h2 : CM A f g) {v : Int32} (hn : zLn f v) : zLQ 1412 f g v := by
  obtain ⟨y, A', f', g', f2, g2, w, e1, e2, c1, c2, ⟨s1, s2⟩, s3, s4⟩ := lw_s (sim_lower A hw ) h1 h2
  obtain ⟨x, rfl⟩ := lw_long e1 rfl
  refine ⟨A', f2, g2, w, c1, c2, s3, s4, ?_⟩
  simp only [x_0_1412, x_0_1416, x_0_1420, e1, e2, zz_bl_s, lgc_eq, eq_self, if_true]
theorem lo_40 {A : zA} (hw : wf A) {f : Nat → Nat → Int32} {g : Nat → Nat → Int64} (h1 : CX A f g) (h2 : CM A f g) {v : Int32} (hn : zLn f v) : zLQ 1426 f g v := by
  obtain ⟨y, A', f', g', f2, g2, w, e1, e2, c1, c2, ⟨s1, s2⟩, s3, s4⟩ := lw_s (sim_count A hw (f zz_scr (zz_ix (v + nI 1)))) h1 h2
  obtain ⟨x, rfl⟩ := lw_int e1 rfl
  refine ⟨A', f2, g2, w, c1, c2, s3, s4, ?_⟩
  simp only [x_0_1426, x_0_1435, x_0_1444, if_pos hn.1, e1, e2, s1, s2, zz_bi_s, lgc_eq, eq_self, if_true]
theorem lo_41 {A : zA} (hw : wf A) {f : Nat → Nat → Int32} {g : Nat → Nat → Int64} (h1 : CX A f g) (h2 : CM A f g) {v : Int32} (hn : zLn f v) : zLQ 1449 f g v := by
  obtain ⟨y, A', f', g', f2, g2, w, e1, e2, c1, c2, ⟨s1, s2⟩, s3, s4⟩ := lw_s (sim_finding A hw ) h1 h2
  obtain ⟨x, rfl⟩ := lw_int e1 rfl
  refine ⟨A', f2, g2, w, c1, c2, s3, s4, ?_⟩
  simp only [x_0_1449, x_0_1453, x_0_1457, e1, e2, zz_bi_s, lgc_eq, eq_self, if_true]
theorem lo_42 {A : zA} (hw : wf A) {f : Nat → Nat → Int32} {g : Nat → Nat → Int64} (h1 : CX A f g) (h2 : CM A f g) {v : Int32} (hn : zLn f v) : zLQ 1462 f g v := by
  obtain ⟨y, A', f', g', f2, g2, w, e1, e2, c1, c2, ⟨s1, s2⟩, s3, s4⟩ := lw_s (sim_findings A hw (f zz_scr (zz_ix (v + nI 1)))) h1 h2
  obtain ⟨x, rfl⟩ := lw_int e1 rfl
  refine ⟨A', f2, g2, w, c1, c2, s3, s4, ?_⟩
  simp only [x_0_1462, x_0_1471, x_0_1480, if_pos hn.1, e1, e2, s1, s2, zz_bi_s, lgc_eq, eq_self, if_true]
theorem lo_43 {A : zA} (hw : wf A) {f : Nat → Nat → Int32} {g : Nat → Nat → Int64} (h1 : CX A f g) (h2 : CM A f g) {v : Int32} (hn : zLn f v) : zLQ 1485 f g v := by
  obtain ⟨y, A', f', g', f2, g2, w, e1, e2, c1, c2, ⟨s1, s2⟩, s3, s4⟩ := lw_s (sim_digest A hw ) h1 h2
  obtain ⟨x, rfl⟩ := lw_long e1 rfl
  refine ⟨A', f2, g2, w, c1, c2, s3, s4, ?_⟩
  simp only [x_0_1485, x_0_1489, x_0_1493, e1, e2, zz_bl_s, lgc_eq, eq_self, if_true]
theorem lw_step {A : zA} (hw : wf A) {f : Nat → Nat → Int32} {g : Nat → Nat → Int64} (h1 : CX A f g) (h2 : CM A f g) {v : Int32} (hlt : ¬ (f (zz_scr + 1) 0 - nI 6 < v)) (hin : zz_in v (f (zz_scr + 1) 0).toNatClampNeg) (hn : zLn f v) : zLQ 18 f g v := by
  unfold zLQ
  rw [x_0_18, if_neg hlt, if_pos hin]
  generalize (f zz_scr (zz_ix v)) &&& nI 63 = o
  by_cases q : o = nI 0
  · rw [if_pos q]; exact lo_0 hw h1 h2 hn
  rw [if_neg q]; clear q
  by_cases q : o = nI 1
  · rw [if_pos q]; exact lo_1 hw h1 h2 hn
  rw [if_neg q]; clear q
  by_cases q : o = nI 2
  · rw [if_pos q]; exact lo_2 hw h1 h2 hn
  rw [if_neg q]; clear q
  by_cases q : o = nI 3
  · rw [if_pos q]; exact lo_3 hw h1 h2 hn
  rw [if_neg q]; clear q
  by_cases q : o = nI 4
  · rw [if_pos q]; exact lo_4 hw h1 h2 hn
  rw [if_neg q]; clear q
  by_cases q : o = nI 5
  · rw [if_pos q]; exact lo_5 hw h1 h2 hn
  rw [if_neg q]; clear q
  by_cases q : o = nI 6
  · rw [if_pos q]; exact lo_6 hw h1 h2 hn
  rw [if_neg q]; clear q
  by_cases q : o = nI 7
  · rw [if_pos q]; exact lo_7 hw h1 h2 hn
  rw [if_neg q]; clear q
  by_cases q : o = nI 8
  · rw [if_pos q]; exact lo_8 hw h1 h2 hn
  rw [if_neg q]; clear q
  by_cases q : o = nI 9
  · rw [if_pos q]; exact lo_9 hw h1 h2 hn
  rw [if_neg q]; clear q
  by_cases q : o = nI 10
  · rw [if_pos q]; exact lo_10 hw h1 h2 hn
  rw [if_neg q]; clear q
  by_cases q : o = nI 11
  · rw [if_pos q]; exact lo_11 hw h1 h2 hn
  rw [if_neg q]; clear q
  by_cases q : o = nI 12
  · rw [if_pos q]; exact lo_12 hw h1 h2 hn
  rw [if_neg q]; clear q
  by_cases q : o = nI 13
  · rw [if_pos q]; exact lo_13 hw h1 h2 hn
  rw [if_neg q]; clear q
  by_cases q : o = nI 14
  · rw [if_pos q]; exact lo_14 hw h1 h2 hn
  rw [if_neg q]; clear q
  by_cases q : o = nI 15
  · rw [if_pos q]; exact lo_15 hw h1 h2 hn
  rw [if_neg q]; clear q
  by_cases q : o = nI 16
  · rw [if_pos q]; exact lo_16 hw h1 h2 hn
  rw [if_neg q]; clear q
  by_cases q : o = nI 17
  · rw [if_pos q]; exact lo_17 hw h1 h2 hn
  rw [if_neg q]; clear q
  by_cases q : o = nI 18
  · rw [if_pos q]; exact lo_18 hw h1 h2 hn
  rw [if_neg q]; clear q
  by_cases q : o = nI 19
  · rw [if_pos q]; exact lo_19 hw h1 h2 hn
  rw [if_neg q]; clear q
  by_cases q : o = nI 20
  · rw [if_pos q]; exact lo_20 hw h1 h2 hn
  rw [if_neg q]; clear q
  by_cases q : o = nI 21
  · rw [if_pos q]; exact lo_21 hw h1 h2 hn
  rw [if_neg q]; clear q
  by_cases q : o = nI 22
  · rw [if_pos q]; exact lo_22 hw h1 h2 hn
  rw [if_neg q]; clear q
  by_cases q : o = nI 23
  · rw [if_pos q]; exact lo_23 hw h1 h2 hn
  rw [if_neg q]; clear q
  by_cases q : o = nI 24
  · rw [if_pos q]; exact lo_24 hw h1 h2 hn
  rw [if_neg q]; clear q
  by_cases q : o = nI 25
  · rw [if_pos q]; exact lo_25 hw h1 h2 hn
  rw [if_neg q]; clear q
  by_cases q : o = nI 26
  · rw [if_pos q]; exact lo_26 hw h1 h2 hn
  rw [if_neg q]; clear q
  by_cases q : o = nI 27
  · rw [if_pos q]; exact lo_27 hw h1 h2 hn
  rw [if_neg q]; clear q
  by_cases q : o = nI 28
  · rw [if_pos q]; exact lo_28 hw h1 h2 hn
  rw [if_neg q]; clear q
  by_cases q : o = nI 29
  · rw [if_pos q]; exact lo_29 hw h1 h2 hn
  rw [if_neg q]; clear q
  by_cases q : o = nI 30
  · rw [if_pos q]; exact lo_30 hw h1 h2 hn
  rw [if_neg q]; clear q
  by_cases q : o = nI 31
  · rw [if_pos q]; exact lo_31 hw h1 h2 hn
  rw [if_neg q]; clear q
  by_cases q : o = nI 32
  · rw [if_pos q]; exact lo_32 hw h1 h2 hn
  rw [if_neg q]; clear q
  by_cases q : o = nI 33
  · rw [if_pos q]; exact lo_33 hw h1 h2 hn
  rw [if_neg q]; clear q
  by_cases q : o = nI 34
  · rw [if_pos q]; exact lo_34 hw h1 h2 hn
  rw [if_neg q]; clear q
  by_cases q : o = nI 35
  · rw [if_pos q]; exact lo_35 hw h1 h2 hn
  rw [if_neg q]; clear q
  by_cases q : o = nI 36
  · rw [if_pos q]; exact lo_36 hw h1 h2 hn
  rw [if_neg q]; clear q
  by_cases q : o = nI 37
  · rw [if_pos q]; exact lo_37 hw h1 h2 hn
  rw [if_neg q]; clear q
  by_cases q : o = nI 38
  · rw [if_pos q]; exact lo_38 hw h1 h2 hn
  rw [if_neg q]; clear q
  by_cases q : o = nI 39
  · rw [if_pos q]; exact lo_39 hw h1 h2 hn
  rw [if_neg q]; clear q
  by_cases q : o = nI 40
  · rw [if_pos q]; exact lo_40 hw h1 h2 hn
  rw [if_neg q]; clear q
  by_cases q : o = nI 41
  · rw [if_pos q]; exact lo_41 hw h1 h2 hn
  rw [if_neg q]; clear q
  by_cases q : o = nI 42
  · rw [if_pos q]; exact lo_42 hw h1 h2 hn
  rw [if_neg q]; clear q
  by_cases q : o = nI 43
  · rw [if_pos q]; exact lo_43 hw h1 h2 hn
  rw [if_neg q]; clear q
  exact ⟨A, f, g, hw, h1, h2, rfl, rfl, rfl⟩
theorem lw_loop {L : Nat} (hL : L ≤ 384) : ∀ (n a : Nat) (A : zA) (f : Nat → Nat → Int32) (g : Nat → Nat → Int64), L ≤ a + n → a ≤ 400 → wf A → CX A f g → CM A f g → f (zz_scr + 1) 0 = nI L → ∃ (f' : Nat → Nat → Int32) (g' : Nat → Nat → Int64), zz_ev 0 18 [.ref zz_scr, .ref 0, .ref 112, .int (nI a)] [] (zK f g) = some (some (.int (nI 1)), zK f' g') := by
  have key : ∀ a, a ≤ 400 → ((nI L - nI 6 < nI a) ↔ L < a + 6) := fun a ha => by
    rw [Int32.lt_iff_toInt_lt, Int32.toInt_sub, nI_toInt (by omega), nI_toInt (by decide), nI_toInt (by omega), Int.bmod_eq_of_le (by omega) (by omega)]; omega
  have fin : ∀ (a : Nat) (f : Nat → Nat → Int32) (g : Nat → Nat → Int64), a ≤ 400 → f (zz_scr + 1) 0 = nI L → L < a + 6 → ∃ (f' : Nat → Nat → Int32) (g' : Nat → Nat → Int64), zz_ev 0 18 [.ref zz_scr, .ref 0, .ref 112, .int (nI a)] [] (zK f g) = some (some (.int (nI 1)), zK f' g') := fun a f g ha hf h => ⟨f, g, by rw [x_0_18, hf, if_pos ((key a ha).mpr h)]⟩
  intro n
  induction n with
  | zero => intro a A f g hn ha hw h1 h2 hf; exact fin a f g ha hf (by omega)
  | succ n ih =>
    intro a A f g hn ha hw h1 h2 hf
    by_cases q : L < a + 6
    · exact fin a f g ha hf q
    · have cl : (f (zz_scr + 1) 0).toNatClampNeg = L := by rw [hf]; exact nI_clamp (by omega)
      have hz : zLn f (nI a) := by
        unfold zLn
        rw [cl, nI_add, nI_add, nI_add, nI_add, nI_add]
        exact ⟨(z_in (by omega)).mpr (by omega), (z_in (by omega)).mpr (by omega), (z_in (by omega)).mpr (by omega), (z_in (by omega)).mpr (by omega), (z_in (by omega)).mpr (by omega)⟩
      obtain ⟨A', f', g', w, c1, c2, s1, s2, e⟩ := lw_step hw h1 h2 (v := nI a) (by rw [hf, key a ha]; exact q) (by rw [cl]; exact (z_in (by omega)).mpr (by omega)) hz
      obtain ⟨f2, g2, e2⟩ := ih (a + 6) A' f' g' (by omega) (by omega) w c1 c2 (by rw [s2]; exact hf)
      exact ⟨f2, g2, by rw [e, x_0_1499, nI_add]; exact e2⟩
