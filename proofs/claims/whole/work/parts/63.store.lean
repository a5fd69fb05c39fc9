/-- what a store leaves on both sides -/
def sRel (g pf : Nat → Int32) (pn : Int32) (v : Nat → Int32) (c : (Nat → Int32) × (Nat → Int32) × (Nat → Int32) × (Nat → Int32) × Int32) (r : Int32 × (Nat → Int32) × (Nat → Int32) × (Nat → Int32) × (Nat → Int32)) : Prop := c.1 5 = r.1 ∧ (∀ i : Nat, i ≠ 5 → c.1 i = g i) ∧ (∀ i : Nat, i ≠ 0 → r.2.1 i = v i) ∧ RB 1024 c.2.1 r.2.2.1 ∧ RB 64 c.2.2.1 r.2.2.2.1 ∧ (r.1 = 0 → c.2.2.2.2 = r.2.1 0 ∧ Tp r.2.1 ∧ (∀ j : Nat, (j : Int) < (r.2.1 0).toInt → c.2.2.2.1 j = r.2.2.2.2 j)) ∧ (¬ r.1 = 0 → c.2.2.2.1 = pf ∧ c.2.2.2.2 = pn)
theorem s_flt {g pf v mem qm loc ql qs : Nat → Int32} (h : RB 1024 mem qm) (hl : RB 64 loc ql) {f : Int32} (hf : ¬ f = 0) : sRel g pf (v 0) v (upd g 5 f, mem, loc, pf, v 0) (f, v, qm, ql, qs) := ⟨upd_same g 5 f, fun _ hi => upd_ne g f hi, fun _ _ => rfl, h, hl, fun q => absurd q hf, fun _ => ⟨rfl, rfl⟩⟩
theorem s_ok {g pf v mem qm loc ql qs : Nat → Int32} (h : RB 1024 mem qm) (hl : RB 64 loc ql) (h5 : g 5 = 0) (hv : Tp v) (hs : ∀ j : Nat, (j : Int) < (v 0).toInt → pf j = qs j) : sRel g pf (v 0) v (g, mem, loc, pf, v 0) (0, v, qm, ql, qs) := ⟨h5, fun _ _ => rfl, fun _ _ => rfl, h, hl, fun _ => ⟨rfl, hv, hs⟩, fun q => absurd rfl q⟩
theorem s_mem {g mem qm loc ql pf qs v : Nat → Int32} (h : RB 1024 mem qm) (hl : RB 64 loc ql) {b w : Int32} (a : Int32) (hw : 0 ≤ w.toInt ∧ w.toInt ≤ 4) (h0 : g 0 = v 2) (h5 : g 5 = 0) (hv : Tp v) (hs : ∀ j : Nat, (j : Int) < (v 0).toInt → pf j = qs j) : sRel g pf (v 0) v ((pX2_storeMemory g mem b w a).1, (pX2_storeMemory g mem b w a).2, loc, pf, v 0) ((pX8_lays v qm b w a).1, v, (pX8_lays v qm b w a).2, ql, qs) := by
  rw [pX2_storeMemory, mLet_eq, may_eq h0 h5 hw.1, pX8_lays]
  by_cases c : pX8_isIn b w = 0
  · rw [if_pos c, if_pos c, if_pos (nought_eq _)]; exact s_flt h hl (by decide)
  · rw [if_neg c, if_neg c]
    by_cases d : v 2 ≤ b
    · have i := (isIn_iff (by omega)).mp c
      rw [if_pos d, if_pos d, if_neg (one_ne _), mLet_eq]
      have e1 := (lays_lp a i.1 hw.1 i.2 ((Int32.toInt w - Int32.toInt 0).toNat + 1) qm 0 (by decide) (by have z0 : Int32.toInt 0 = 0 := rfl; omega)).1
      have m := s_ok (g := g) (put_lays h a i.1 hw.1 hw.2 i.2) hl h5 hv hs
      rw [e1]; exact m
    · rw [if_neg d, if_neg d, if_pos (nought_eq _)]; exact s_flt h hl (by decide)
theorem s_loc {g mem qm loc ql pf qs v : Nat → Int32} (h : RB 1024 mem qm) (hl : RB 64 loc ql) {b w : Int32} (a : Int32) (hw : 0 ≤ w.toInt ∧ w.toInt ≤ 4) (h3 : g 3 = w) (h5 : g 5 = 0) (hv : Tp v) (hs : ∀ j : Nat, (j : Int) < (v 0).toInt → pf j = qs j) : sRel g pf (v 0) v ((pX2_storeLocal g loc b a).1, mem, (pX2_storeLocal g loc b a).2, pf, v 0) (if b < 0 then (7, v, qm, ql, qs) else (if b ≤ (64 - w) then (pX8_store_lp101 w a ((Int32.toInt w - Int32.toInt 0).toNat + 1) v qm ql qs b 0) else (7, v, qm, ql, qs))) := by
  have z0 : Int32.toInt 0 = 0 := rfl
  have z64 : Int32.toInt 64 = 64 := rfl
  have hh := holds_iff (n := 64) (x1 := b) (x2 := w) (by decide)
  have es : (64 - w).toInt = 64 - w.toInt := by rw [ti_sub (by omega) (by omega), z64]
  rw [pX2_storeLocal, h3]
  by_cases c : b < 0
  · have c' := c
    rw [Int32.lt_iff_toInt_lt] at c'
    have n : pX0_holds 64 b w = 0 := Classical.byContradiction fun q => by have := hh.mp q; omega
    rw [if_pos c, if_pos n]; exact s_flt h hl (by decide)
  · rw [if_neg c]
    have c' := c
    rw [Int32.lt_iff_toInt_lt] at c'
    by_cases d : b ≤ 64 - w
    · have d' := d
      rw [Int32.le_iff_toInt_le] at d'
      rw [if_pos d, if_neg (hh.mpr ⟨by omega, by omega, by omega⟩), mLet_eq]
      obtain ⟨W, e1, e2⟩ := put_store hl v qm qs (x1 := b) (x2 := w) a (by omega) hw.1 hw.2 (by omega)
      rw [e1]; exact s_ok h e2 h5 hv hs
    · have d' := d
      rw [Int32.le_iff_toInt_le] at d'
      have n : pX0_holds 64 b w = 0 := Classical.byContradiction fun q => by have := hh.mp q; omega
      rw [if_neg d, if_pos n]; exact s_flt h hl (by decide)
theorem s_top {g mem qm loc ql pf qs v : Nat → Int32} (h : RB 1024 mem qm) (hl : RB 64 loc ql) {w a : Int32} (h5 : g 5 = 0) (hv : Tp v) (hs : ∀ j : Nat, (j : Int) < (v 0).toInt → pf j = qs j) (hlw : lw w a) : sRel g pf (v 0) v ((pX2_storeTop g pf (v 0) a).1, mem, loc, (pX2_storeTop g pf (v 0) a).2.1, (pX2_storeTop g pf (v 0) a).2.2) (if v 0 = 40 then (5, v, qm, ql, qs) else (0, upd v 0 (v 0 + 1), qm, ql, upd qs (v 0).toNatClampNeg (pX8_lowest a w))) := by
  have z0 : Int32.toInt 0 = 0 := rfl
  have z1 : Int32.toInt 1 = 1 := rfl
  have z40 : Int32.toInt 40 = 40 := rfl
  have hv1 := hv.1
  have hv2 := hv.2
  rw [pX2_storeTop, pX3_isFull]
  by_cases c : v 0 = 40
  · rw [if_pos c, if_neg (show ¬ v 0 < 40 by rw [c]; decide), if_neg (show ¬ (1 : Int32) = 0 by decide)]; exact s_flt h hl (by decide)
  · have c' : ¬ (v 0).toInt = 40 := fun q => c (Int32.toInt_inj.mp q)
    have k : v 0 < 40 := by rw [Int32.lt_iff_toInt_lt]; omega
    have ea : (v 0 + 1).toInt = (v 0).toInt + 1 := by rw [ti_add (by omega) (by omega), z1]
    have hc := nat_clamp hv1
    have e0 : upd v 0 (v 0 + 1) 0 = v 0 + 1 := upd_same _ _ _
    have lw' : pX8_lowest a w = a := hlw
    rw [if_neg c, if_pos k, if_pos (show (0 : Int32) = 0 from rfl), mLet_eq, pX3_add, pX3_isFull, if_pos k, if_pos (show (0 : Int32) = 0 from rfl), setCell_in hv1 (by omega), lw']
    refine ⟨h5, fun _ _ => rfl, fun i hi => upd_ne v _ hi, h, hl, fun _ => ⟨e0.symm, ?_, fun j hj => ?_⟩, fun q => absurd rfl q⟩
    · rw [Tp]; dsimp only; rw [e0]; omega
    · dsimp only at hj ⊢
      rw [e0] at hj
      rw [upd_at, upd_at]
      by_cases q : j = (v 0).toNatClampNeg
      · rw [if_pos q, if_pos q]
      · rw [if_neg q, if_neg q]; exact hs j (by omega)
theorem s_0 {g mem qm loc ql pf qs fm fn qd qn v : Nat → Int32} (h : RB 1024 mem qm) (hl : RB 64 loc ql) {k w : Int32} (a : Int32) (hk : 0 ≤ k.toInt ∧ k.toInt < 8) (hm : fm k.toNatClampNeg = qd k.toNatClampNeg) (hn : fn k.toNatClampNeg = qn k.toNatClampNeg) (hw : 0 ≤ w.toInt ∧ w.toInt ≤ 4) (h3 : g 3 = w) (h0 : g 0 = v 2) (h5 : g 5 = 0) (hv : Tp v) (hs : ∀ j : Nat, (j : Int) < (v 0).toInt → pf j = qs j) (hlw : lw w a) (e : qd k.toNatClampNeg = 0) : sRel g pf (v 0) v (pX2_storeOperand g mem loc pf (v 0) fm fn k a) (pX8_store v qm ql qs qd qn k w a) := by
  rw [pX8_store, e, if_pos (by decide)]
  rw [pX2_storeOperand, modeOf_in hk.1 hk.2, hm, e, if_neg (by decide), if_neg (by decide), if_neg (by decide), if_neg (by decide), if_neg (by decide), if_neg (by decide), if_neg (by decide), if_neg (by decide), if_neg (by decide), if_neg (by decide)]
  exact s_ok h hl h5 hv hs
theorem s_5 {g mem qm loc ql pf qs fm fn qd qn v : Nat → Int32} (h : RB 1024 mem qm) (hl : RB 64 loc ql) {k w : Int32} (a : Int32) (hk : 0 ≤ k.toInt ∧ k.toInt < 8) (hm : fm k.toNatClampNeg = qd k.toNatClampNeg) (hn : fn k.toNatClampNeg = qn k.toNatClampNeg) (hw : 0 ≤ w.toInt ∧ w.toInt ≤ 4) (h3 : g 3 = w) (h0 : g 0 = v 2) (h5 : g 5 = 0) (hv : Tp v) (hs : ∀ j : Nat, (j : Int) < (v 0).toInt → pf j = qs j) (hlw : lw w a) (e : qd k.toNatClampNeg = 5) : sRel g pf (v 0) v (pX2_storeOperand g mem loc pf (v 0) fm fn k a) (pX8_store v qm ql qs qd qn k w a) := by
  rw [pX8_store, e, if_neg (by decide), if_neg (by decide), if_pos (by decide), if_pos (by decide), mLet_eq]
  rw [pX2_storeOperand, modeOf_in hk.1 hk.2, hm, e, if_pos (by decide), mLet_eq, numberOf_in hk.1 hk.2, hn, h3]
  exact s_mem h hl a hw h0 h5 hv hs
theorem s_6 {g mem qm loc ql pf qs fm fn qd qn v : Nat → Int32} (h : RB 1024 mem qm) (hl : RB 64 loc ql) {k w : Int32} (a : Int32) (hk : 0 ≤ k.toInt ∧ k.toInt < 8) (hm : fm k.toNatClampNeg = qd k.toNatClampNeg) (hn : fn k.toNatClampNeg = qn k.toNatClampNeg) (hw : 0 ≤ w.toInt ∧ w.toInt ≤ 4) (h3 : g 3 = w) (h0 : g 0 = v 2) (h5 : g 5 = 0) (hv : Tp v) (hs : ∀ j : Nat, (j : Int) < (v 0).toInt → pf j = qs j) (hlw : lw w a) (e : qd k.toNatClampNeg = 6) : sRel g pf (v 0) v (pX2_storeOperand g mem loc pf (v 0) fm fn k a) (pX8_store v qm ql qs qd qn k w a) := by
  rw [pX8_store, e, if_neg (by decide), if_neg (by decide), if_pos (by decide), if_pos (by decide), mLet_eq]
  rw [pX2_storeOperand, modeOf_in hk.1 hk.2, hm, e, if_neg (by decide), if_pos (by decide), mLet_eq, numberOf_in hk.1 hk.2, hn, h3]
  exact s_mem h hl a hw h0 h5 hv hs
theorem s_7 {g mem qm loc ql pf qs fm fn qd qn v : Nat → Int32} (h : RB 1024 mem qm) (hl : RB 64 loc ql) {k w : Int32} (a : Int32) (hk : 0 ≤ k.toInt ∧ k.toInt < 8) (hm : fm k.toNatClampNeg = qd k.toNatClampNeg) (hn : fn k.toNatClampNeg = qn k.toNatClampNeg) (hw : 0 ≤ w.toInt ∧ w.toInt ≤ 4) (h3 : g 3 = w) (h0 : g 0 = v 2) (h5 : g 5 = 0) (hv : Tp v) (hs : ∀ j : Nat, (j : Int) < (v 0).toInt → pf j = qs j) (hlw : lw w a) (e : qd k.toNatClampNeg = 7) : sRel g pf (v 0) v (pX2_storeOperand g mem loc pf (v 0) fm fn k a) (pX8_store v qm ql qs qd qn k w a) := by
  rw [pX8_store, e, if_neg (by decide), if_neg (by decide), if_pos (by decide), if_pos (by decide), mLet_eq]
  rw [pX2_storeOperand, modeOf_in hk.1 hk.2, hm, e, if_neg (by decide), if_neg (by decide), if_pos (by decide), mLet_eq, numberOf_in hk.1 hk.2, hn, h3]
  exact s_mem h hl a hw h0 h5 hv hs
theorem s_8 {g mem qm loc ql pf qs fm fn qd qn v : Nat → Int32} (h : RB 1024 mem qm) (hl : RB 64 loc ql) {k w : Int32} (a : Int32) (hk : 0 ≤ k.toInt ∧ k.toInt < 8) (hm : fm k.toNatClampNeg = qd k.toNatClampNeg) (hn : fn k.toNatClampNeg = qn k.toNatClampNeg) (hw : 0 ≤ w.toInt ∧ w.toInt ≤ 4) (h3 : g 3 = w) (h0 : g 0 = v 2) (h5 : g 5 = 0) (hv : Tp v) (hs : ∀ j : Nat, (j : Int) < (v 0).toInt → pf j = qs j) (hlw : lw w a) (e : qd k.toNatClampNeg = 8) : sRel g pf (v 0) v (pX2_storeOperand g mem loc pf (v 0) fm fn k a) (pX8_store v qm ql qs qd qn k w a) := by
  rw [pX8_store, e, if_neg (by decide), if_pos (by decide)]
  rw [pX2_storeOperand, modeOf_in hk.1 hk.2, hm, e, if_neg (by decide), if_neg (by decide), if_neg (by decide), if_pos (by decide), mLet_eq]
  exact s_top h hl h5 hv hs hlw
theorem s_9 {g mem qm loc ql pf qs fm fn qd qn v : Nat → Int32} (h : RB 1024 mem qm) (hl : RB 64 loc ql) {k w : Int32} (a : Int32) (hk : 0 ≤ k.toInt ∧ k.toInt < 8) (hm : fm k.toNatClampNeg = qd k.toNatClampNeg) (hn : fn k.toNatClampNeg = qn k.toNatClampNeg) (hw : 0 ≤ w.toInt ∧ w.toInt ≤ 4) (h3 : g 3 = w) (h0 : g 0 = v 2) (h5 : g 5 = 0) (hv : Tp v) (hs : ∀ j : Nat, (j : Int) < (v 0).toInt → pf j = qs j) (hlw : lw w a) (e : qd k.toNatClampNeg = 9) : sRel g pf (v 0) v (pX2_storeOperand g mem loc pf (v 0) fm fn k a) (pX8_store v qm ql qs qd qn k w a) := by
  rw [pX8_store, e, if_neg (by decide), if_neg (by decide), if_neg (by decide), if_neg (by decide)]
  rw [pX2_storeOperand, modeOf_in hk.1 hk.2, hm, e, if_neg (by decide), if_neg (by decide), if_neg (by decide), if_neg (by decide), if_pos (by decide), mLet_eq, numberOf_in hk.1 hk.2, hn]
  exact s_loc h hl a hw h3 h5 hv hs
theorem s_10 {g mem qm loc ql pf qs fm fn qd qn v : Nat → Int32} (h : RB 1024 mem qm) (hl : RB 64 loc ql) {k w : Int32} (a : Int32) (hk : 0 ≤ k.toInt ∧ k.toInt < 8) (hm : fm k.toNatClampNeg = qd k.toNatClampNeg) (hn : fn k.toNatClampNeg = qn k.toNatClampNeg) (hw : 0 ≤ w.toInt ∧ w.toInt ≤ 4) (h3 : g 3 = w) (h0 : g 0 = v 2) (h5 : g 5 = 0) (hv : Tp v) (hs : ∀ j : Nat, (j : Int) < (v 0).toInt → pf j = qs j) (hlw : lw w a) (e : qd k.toNatClampNeg = 10) : sRel g pf (v 0) v (pX2_storeOperand g mem loc pf (v 0) fm fn k a) (pX8_store v qm ql qs qd qn k w a) := by
  rw [pX8_store, e, if_neg (by decide), if_neg (by decide), if_neg (by decide), if_neg (by decide)]
  rw [pX2_storeOperand, modeOf_in hk.1 hk.2, hm, e, if_neg (by decide), if_neg (by decide), if_neg (by decide), if_neg (by decide), if_neg (by decide), if_pos (by decide), mLet_eq, numberOf_in hk.1 hk.2, hn]
  exact s_loc h hl a hw h3 h5 hv hs
theorem s_11 {g mem qm loc ql pf qs fm fn qd qn v : Nat → Int32} (h : RB 1024 mem qm) (hl : RB 64 loc ql) {k w : Int32} (a : Int32) (hk : 0 ≤ k.toInt ∧ k.toInt < 8) (hm : fm k.toNatClampNeg = qd k.toNatClampNeg) (hn : fn k.toNatClampNeg = qn k.toNatClampNeg) (hw : 0 ≤ w.toInt ∧ w.toInt ≤ 4) (h3 : g 3 = w) (h0 : g 0 = v 2) (h5 : g 5 = 0) (hv : Tp v) (hs : ∀ j : Nat, (j : Int) < (v 0).toInt → pf j = qs j) (hlw : lw w a) (e : qd k.toNatClampNeg = 11) : sRel g pf (v 0) v (pX2_storeOperand g mem loc pf (v 0) fm fn k a) (pX8_store v qm ql qs qd qn k w a) := by
  rw [pX8_store, e, if_neg (by decide), if_neg (by decide), if_neg (by decide), if_neg (by decide)]
  rw [pX2_storeOperand, modeOf_in hk.1 hk.2, hm, e, if_neg (by decide), if_neg (by decide), if_neg (by decide), if_neg (by decide), if_neg (by decide), if_neg (by decide), if_pos (by decide), mLet_eq, numberOf_in hk.1 hk.2, hn]
  exact s_loc h hl a hw h3 h5 hv hs
theorem s_13 {g mem qm loc ql pf qs fm fn qd qn v : Nat → Int32} (h : RB 1024 mem qm) (hl : RB 64 loc ql) {k w : Int32} (a : Int32) (hk : 0 ≤ k.toInt ∧ k.toInt < 8) (hm : fm k.toNatClampNeg = qd k.toNatClampNeg) (hn : fn k.toNatClampNeg = qn k.toNatClampNeg) (hw : 0 ≤ w.toInt ∧ w.toInt ≤ 4) (h3 : g 3 = w) (h0 : g 0 = v 2) (h5 : g 5 = 0) (hv : Tp v) (hs : ∀ j : Nat, (j : Int) < (v 0).toInt → pf j = qs j) (hlw : lw w a) (e : qd k.toNatClampNeg = 13) : sRel g pf (v 0) v (pX2_storeOperand g mem loc pf (v 0) fm fn k a) (pX8_store v qm ql qs qd qn k w a) := by
  rw [pX8_store, e, if_neg (by decide), if_neg (by decide), if_neg (by decide), if_pos (by decide), if_neg (by decide), mLet_eq]
  rw [pX2_storeOperand, modeOf_in hk.1 hk.2, hm, e, if_neg (by decide), if_neg (by decide), if_neg (by decide), if_neg (by decide), if_neg (by decide), if_neg (by decide), if_neg (by decide), if_pos (by decide), mLet_eq, numberOf_in hk.1 hk.2, hn, h3, h0]
  exact s_mem h hl a hw h0 h5 hv hs
theorem s_14 {g mem qm loc ql pf qs fm fn qd qn v : Nat → Int32} (h : RB 1024 mem qm) (hl : RB 64 loc ql) {k w : Int32} (a : Int32) (hk : 0 ≤ k.toInt ∧ k.toInt < 8) (hm : fm k.toNatClampNeg = qd k.toNatClampNeg) (hn : fn k.toNatClampNeg = qn k.toNatClampNeg) (hw : 0 ≤ w.toInt ∧ w.toInt ≤ 4) (h3 : g 3 = w) (h0 : g 0 = v 2) (h5 : g 5 = 0) (hv : Tp v) (hs : ∀ j : Nat, (j : Int) < (v 0).toInt → pf j = qs j) (hlw : lw w a) (e : qd k.toNatClampNeg = 14) : sRel g pf (v 0) v (pX2_storeOperand g mem loc pf (v 0) fm fn k a) (pX8_store v qm ql qs qd qn k w a) := by
  rw [pX8_store, e, if_neg (by decide), if_neg (by decide), if_neg (by decide), if_pos (by decide), if_neg (by decide), mLet_eq]
  rw [pX2_storeOperand, modeOf_in hk.1 hk.2, hm, e, if_neg (by decide), if_neg (by decide), if_neg (by decide), if_neg (by decide), if_neg (by decide), if_neg (by decide), if_neg (by decide), if_neg (by decide), if_pos (by decide), mLet_eq, numberOf_in hk.1 hk.2, hn, h3, h0]
  exact s_mem h hl a hw h0 h5 hv hs
theorem s_15 {g mem qm loc ql pf qs fm fn qd qn v : Nat → Int32} (h : RB 1024 mem qm) (hl : RB 64 loc ql) {k w : Int32} (a : Int32) (hk : 0 ≤ k.toInt ∧ k.toInt < 8) (hm : fm k.toNatClampNeg = qd k.toNatClampNeg) (hn : fn k.toNatClampNeg = qn k.toNatClampNeg) (hw : 0 ≤ w.toInt ∧ w.toInt ≤ 4) (h3 : g 3 = w) (h0 : g 0 = v 2) (h5 : g 5 = 0) (hv : Tp v) (hs : ∀ j : Nat, (j : Int) < (v 0).toInt → pf j = qs j) (hlw : lw w a) (e : qd k.toNatClampNeg = 15) : sRel g pf (v 0) v (pX2_storeOperand g mem loc pf (v 0) fm fn k a) (pX8_store v qm ql qs qd qn k w a) := by
  rw [pX8_store, e, if_neg (by decide), if_neg (by decide), if_neg (by decide), if_pos (by decide), if_neg (by decide), mLet_eq]
  rw [pX2_storeOperand, modeOf_in hk.1 hk.2, hm, e, if_neg (by decide), if_neg (by decide), if_neg (by decide), if_neg (by decide), if_neg (by decide), if_neg (by decide), if_neg (by decide), if_neg (by decide), if_neg (by decide), if_pos (by decide), mLet_eq, numberOf_in hk.1 hk.2, hn, h3, h0]
  exact s_mem h hl a hw h0 h5 hv hs
theorem s_all {g mem qm loc ql pf qs fm fn qd qn v : Nat → Int32} (h : RB 1024 mem qm) (hl : RB 64 loc ql) {k w : Int32} (a : Int32) (hk : 0 ≤ k.toInt ∧ k.toInt < 8) (hm : fm k.toNatClampNeg = qd k.toNatClampNeg) (hn : fn k.toNatClampNeg = qn k.toNatClampNeg) (hw : 0 ≤ w.toInt ∧ w.toInt ≤ 4) (h3 : g 3 = w) (h0 : g 0 = v 2) (h5 : g 5 = 0) (hv : Tp v) (hs : ∀ j : Nat, (j : Int) < (v 0).toInt → pf j = qs j) (hlw : lw w a) (hr : 0 ≤ (qd k.toNatClampNeg).toInt ∧ (qd k.toNatClampNeg).toInt ≤ 15) (h4 : ¬ qd k.toNatClampNeg = 4) (h12 : ¬ qd k.toNatClampNeg = 12) (hf : ¬ (1 ≤ (qd k.toNatClampNeg).toInt ∧ (qd k.toNatClampNeg).toInt ≤ 3)) : sRel g pf (v 0) v (pX2_storeOperand g mem loc pf (v 0) fm fn k a) (pX8_store v qm ql qs qd qn k w a) := by
  by_cases c0 : qd k.toNatClampNeg = 0
  · exact s_0 h hl a hk hm hn hw h3 h0 h5 hv hs hlw c0
  by_cases c5 : qd k.toNatClampNeg = 5
  · exact s_5 h hl a hk hm hn hw h3 h0 h5 hv hs hlw c5
  by_cases c6 : qd k.toNatClampNeg = 6
  · exact s_6 h hl a hk hm hn hw h3 h0 h5 hv hs hlw c6
  by_cases c7 : qd k.toNatClampNeg = 7
  · exact s_7 h hl a hk hm hn hw h3 h0 h5 hv hs hlw c7
  by_cases c8 : qd k.toNatClampNeg = 8
  · exact s_8 h hl a hk hm hn hw h3 h0 h5 hv hs hlw c8
  by_cases c9 : qd k.toNatClampNeg = 9
  · exact s_9 h hl a hk hm hn hw h3 h0 h5 hv hs hlw c9
  by_cases c10 : qd k.toNatClampNeg = 10
  · exact s_10 h hl a hk hm hn hw h3 h0 h5 hv hs hlw c10
  by_cases c11 : qd k.toNatClampNeg = 11
  · exact s_11 h hl a hk hm hn hw h3 h0 h5 hv hs hlw c11
  by_cases c13 : qd k.toNatClampNeg = 13
  · exact s_13 h hl a hk hm hn hw h3 h0 h5 hv hs hlw c13
  by_cases c14 : qd k.toNatClampNeg = 14
  · exact s_14 h hl a hk hm hn hw h3 h0 h5 hv hs hlw c14
  by_cases c15 : qd k.toNatClampNeg = 15
  · exact s_15 h hl a hk hm hn hw h3 h0 h5 hv hs hlw c15
  exfalso
  have d0 : ¬ (qd k.toNatClampNeg).toInt = 0 := fun q => c0 (Int32.toInt_inj.mp q)
  have d4 : ¬ (qd k.toNatClampNeg).toInt = 4 := fun q => h4 (Int32.toInt_inj.mp q)
  have d5 : ¬ (qd k.toNatClampNeg).toInt = 5 := fun q => c5 (Int32.toInt_inj.mp q)
  have d6 : ¬ (qd k.toNatClampNeg).toInt = 6 := fun q => c6 (Int32.toInt_inj.mp q)
  have d7 : ¬ (qd k.toNatClampNeg).toInt = 7 := fun q => c7 (Int32.toInt_inj.mp q)
  have d8 : ¬ (qd k.toNatClampNeg).toInt = 8 := fun q => c8 (Int32.toInt_inj.mp q)
  have d9 : ¬ (qd k.toNatClampNeg).toInt = 9 := fun q => c9 (Int32.toInt_inj.mp q)
  have d10 : ¬ (qd k.toNatClampNeg).toInt = 10 := fun q => c10 (Int32.toInt_inj.mp q)
  have d11 : ¬ (qd k.toNatClampNeg).toInt = 11 := fun q => c11 (Int32.toInt_inj.mp q)
  have d12 : ¬ (qd k.toNatClampNeg).toInt = 12 := fun q => h12 (Int32.toInt_inj.mp q)
  have d13 : ¬ (qd k.toNatClampNeg).toInt = 13 := fun q => c13 (Int32.toInt_inj.mp q)
  have d14 : ¬ (qd k.toNatClampNeg).toInt = 14 := fun q => c14 (Int32.toInt_inj.mp q)
  have d15 : ¬ (qd k.toNatClampNeg).toInt = 15 := fun q => c15 (Int32.toInt_inj.mp q)
  omega
