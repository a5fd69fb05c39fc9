theorem lay_eq {mem qm : Nat → Int32} (h : RB 1024 mem qm) (x1 x2 : Int32) (x3 : Int64) : (pX7_lay mem x1 x2 x3).1 = (pX8_lay qm x1 x2 x3).1 ∧ RB 1024 (pX7_lay mem x1 x2 x3).2 (pX8_lay qm x1 x2 x3).2 := by
  have z0 : Int32.toInt 0 = 0 := rfl
  have z1 : Int32.toInt 1 = 1 := rfl
  have z8 : Int32.toInt 8 = 8 := rfl
  have zk : Int32.toInt 1024 = 1024 := rfl
  rw [pX7_lay, pX8_lay]
  by_cases c1 : x2 < 1
  · rw [if_pos c1, if_pos c1]; exact ⟨rfl, h⟩
  rw [if_neg c1, if_neg c1]
  by_cases c2 : 8 < x2
  · rw [if_pos c2, if_pos c2]; exact ⟨rfl, h⟩
  rw [if_neg c2, if_neg c2]
  rw [Int32.lt_iff_toInt_lt] at c1 c2
  have hh := holds_iff (n := 1024) (x1 := x1) (x2 := x2) (by decide)
  have es : (1024 - x2).toInt = 1024 - x2.toInt := by rw [ti_sub (by omega) (by omega), zk]
  by_cases c3 : x1 < 0
  · have c3' := c3
    rw [Int32.lt_iff_toInt_lt] at c3'
    rw [if_pos c3, if_pos (Classical.byContradiction fun q => by have := hh.mp q; omega)]; exact ⟨rfl, h⟩
  rw [if_neg c3]
  have c3' := c3
  rw [Int32.lt_iff_toInt_lt] at c3'
  by_cases c4 : x1 ≤ 1024 - x2
  · have c4' := c4
    rw [Int32.le_iff_toInt_le] at c4'
    rw [if_pos c4, if_neg (hh.mpr ⟨by omega, by omega, by omega⟩)]
    exact ⟨(lay_lp x3 (by omega) (by omega) (by omega) ((Int32.toInt x2 - Int32.toInt 0).toNat + 1) qm 0 (by decide) (by omega)).1.symm, put_lay h x3 (by omega) (by omega) (by omega) (by omega)⟩
  · have c4' := c4
    rw [Int32.le_iff_toInt_le] at c4'
    rw [if_neg c4, if_pos (Classical.byContradiction fun q => by have := hh.mp q; omega)]; exact ⟨rfl, h⟩
theorem told_eq {g v : Nat → Int32} {pn : Int32} (hn : pn = v 0) (h0 : g 0 = v 2) (h1 : g 1 = v 1) (h4 : g 4 = v 4) (h5 : g 5 = v 5) (h6 : g 6 = v 6) (h7 : g 7 = v 3) (x : Int32) : pX7_told g pn x = pX8_told v x := by
  rw [pX7_told, pX8_told, hn, h0, h1, h4, h5, h6, h7]
theorem octet_eq {mem qm : Nat → Int32} (h : RB 1024 mem qm) (x : Int32) : pX7_octet mem x = pX8_octet qm x := by
  have z1 : Int32.toInt 1 = 1 := rfl
  rw [pX7_octet, pX8_octet]
  by_cases c : pX8_isIn x 1 = 0
  · rw [if_pos c, if_pos ((holds_isIn (by decide)).mpr c)]
  · have i := (isIn_iff (by decide)).mp c
    rw [if_neg c, if_neg (fun q => c ((holds_isIn (by decide)).mp q)), byteAt_eq (by decide) h i.1 (by omega)]
theorem local_eq2 {loc ql : Nat → Int32} (h : RB 64 loc ql) (x : Int32) : pX7_local loc x = pX8_local ql x := by
  have z0 : Int32.toInt 0 = 0 := rfl
  have z4 : Int32.toInt 4 = 4 := rfl
  have z60 : Int32.toInt 60 = 60 := rfl
  have hh := holds_iff (n := 64) (x1 := x) (x2 := 4) (by decide)
  rw [pX7_local, pX8_local]
  by_cases c : x < 0
  · have c' := c
    rw [Int32.lt_iff_toInt_lt] at c'
    rw [if_pos c, if_pos (Classical.byContradiction fun q => by have := hh.mp q; omega)]
  · have c' := c
    rw [Int32.lt_iff_toInt_lt] at c'
    rw [if_neg c]
    by_cases d : 60 < x
    · have d' := d
      rw [Int32.lt_iff_toInt_lt] at d'
      rw [if_pos d, if_pos (Classical.byContradiction fun q => by have := hh.mp q; omega)]
    · have d' := d
      rw [Int32.lt_iff_toInt_lt] at d'
      rw [if_neg d, if_neg (hh.mpr ⟨by omega, by omega, by omega⟩), local_eq h ⟨by omega, by omega⟩]
theorem stack_eq {pf qs v : Nat → Int32} (hv : Tp v) (hs : ∀ j : Nat, (j : Int) < (v 0).toInt → pf j = qs j) (x : Int32) : pX7_stack pf (v 0) x = pX8_stack v qs x := by
  have z0 : Int32.toInt 0 = 0 := rfl
  have z1 : Int32.toInt 1 = 1 := rfl
  have hv1 := hv.1
  have hv2 := hv.2
  rw [pX7_stack, pX3_fromTop, pX8_stack]
  by_cases c : x < 0
  · rw [if_pos c, if_pos c]
  rw [if_neg c, if_neg c]
  by_cases d : v 0 ≤ x
  · rw [if_pos d, if_pos d]
  rw [if_neg d, if_neg d]
  rw [Int32.lt_iff_toInt_lt] at c
  rw [Int32.le_iff_toInt_le] at d
  have e1 : (v 0 - 1).toInt = (v 0).toInt - 1 := by rw [ti_sub (by omega) (by omega), z1]
  have e2 : (v 0 - 1 - x).toInt = (v 0).toInt - 1 - x.toInt := by rw [ti_sub (by omega) (by omega), e1]
  have hc := nat_clamp (x := v 0 - 1 - x) (by omega)
  rw [cell_in (by omega) (by omega), hs _ (by omega)]
theorem ram_eq {g mem loc pf v qm ql qs : Nat → Int32} {pn : Int32} (R : Rl g mem loc pf pn v qm ql qs) (x : Int32) : (pX7_ram g x).1 = (pX8_ram v x).1 ∧ Rl (pX7_ram g x).2 mem loc pf pn (pX8_ram v x).2 qm ql qs ∧ (∀ i : Nat, i ≠ 0 → (pX7_ram g x).2 i = g i) ∧ ∀ i : Nat, i ≠ 2 → (pX8_ram v x).2 i = v i := by
  obtain ⟨r1, r2, r3, r4, r5, r6, r7, r8, r9, r10⟩ := R
  rw [pX7_ram, pX8_ram]
  by_cases c : x < 0
  · rw [if_pos c, if_pos c]; exact ⟨rfl, ⟨r1, r2, r3, r4, r5, r6, r7, r8, r9, r10⟩, fun _ _ => rfl, fun _ _ => rfl⟩
  rw [if_neg c, if_neg c]
  by_cases d : x ≤ 1024
  · rw [if_pos d, if_pos d]
    have u : ∀ i : Nat, i ≠ 0 → upd g 0 x i = g i := fun i hi => upd_ne g x hi
    have w : ∀ i : Nat, i ≠ 2 → upd v 2 x i = v i := fun i hi => upd_ne v x hi
    have w0 := w 0 (by decide)
    refine ⟨r6, ⟨r1, r2, r3.trans w0.symm, ?_, fun j hj => ?_, ?_, ?_, ?_, ?_, ?_⟩, u, w⟩
    · rw [Tp]; dsimp only; rw [w0]; exact r4
    · dsimp only at hj; rw [w0] at hj; exact r5 j hj
    · exact (upd_same g 0 x).trans (upd_same v 2 x).symm
    · exact (u 1 (by decide)).trans (r7.trans (w 1 (by decide)).symm)
    · exact (u 4 (by decide)).trans (r8.trans (w 4 (by decide)).symm)
    · exact (u 6 (by decide)).trans (r9.trans (w 6 (by decide)).symm)
    · exact (u 7 (by decide)).trans (r10.trans (w 3 (by decide)).symm)
  · rw [if_neg d, if_neg d]; exact ⟨rfl, ⟨r1, r2, r3, r4, r5, r6, r7, r8, r9, r10⟩, fun _ _ => rfl, fun _ _ => rfl⟩
theorem go_eq {g mem loc pf v qm ql qs : Nat → Int32} {pn : Int32} (R : Rl g mem loc pf pn v qm ql qs) (x : Int32) : (pX7_go g x).1 = (pX8_go v x).1 ∧ Rl (pX7_go g x).2 mem loc pf pn (pX8_go v x).2 qm ql qs ∧ (∀ i : Nat, i ≠ 1 → i ≠ 7 → (pX7_go g x).2 i = g i) ∧ ∀ i : Nat, i ≠ 1 → i ≠ 3 → (pX8_go v x).2 i = v i := by
  obtain ⟨r1, r2, r3, r4, r5, r6, r7, r8, r9, r10⟩ := R
  rw [pX7_go, pX8_go]
  have u : ∀ i : Nat, i ≠ 1 → i ≠ 7 → upd (upd g 1 x) 7 0 i = g i := fun i h1 h7 => (upd_ne _ _ h7).trans (upd_ne _ _ h1)
  have w : ∀ i : Nat, i ≠ 1 → i ≠ 3 → upd (upd v 1 x) 3 0 i = v i := fun i h1 h7 => (upd_ne _ _ h7).trans (upd_ne _ _ h1)
  have w0 := w 0 (by decide) (by decide)
  refine ⟨r7, ⟨r1, r2, r3.trans w0.symm, ?_, fun j hj => ?_, ?_, ?_, ?_, ?_, ?_⟩, u, w⟩
  · rw [Tp]; dsimp only; rw [w0]; exact r4
  · dsimp only at hj; rw [w0] at hj; exact r5 j hj
  · exact (u 0 (by decide) (by decide)).trans (r6.trans (w 2 (by decide) (by decide)).symm)
  · have a1 : upd (upd g 1 x) 7 0 1 = x := by rw [upd_ne _ _ (by decide), upd_same]
    have b1 : upd (upd v 1 x) 3 0 1 = x := by rw [upd_ne _ _ (by decide), upd_same]
    exact a1.trans b1.symm
  · exact (u 4 (by decide) (by decide)).trans (r8.trans (w 4 (by decide) (by decide)).symm)
  · exact (u 6 (by decide) (by decide)).trans (r9.trans (w 6 (by decide) (by decide)).symm)
  · exact (upd_same (upd g 1 x) 7 0).trans (upd_same (upd v 1 x) 3 0).symm
theorem push_eq {g mem loc pf v qm ql qs : Nat → Int32} {pn : Int32} (R : Rl g mem loc pf pn v qm ql qs) (x : Int32) : (pX7_push pf pn x).1 = (pX8_push v qs x).1 ∧ Rl g mem loc (pX7_push pf pn x).2.1 (pX7_push pf pn x).2.2 (pX8_push v qs x).2.1 qm ql (pX8_push v qs x).2.2 ∧ ∀ i : Nat, i ≠ 0 → (pX8_push v qs x).2.1 i = v i := by
  obtain ⟨r1, r2, r3, r4, r5, r6, r7, r8, r9, r10⟩ := R
  have z0 : Int32.toInt 0 = 0 := rfl
  have z1 : Int32.toInt 1 = 1 := rfl
  have z40 : Int32.toInt 40 = 40 := rfl
  have hv1 := r4.1
  have hv2 := r4.2
  rw [pX7_push, pX8_push, r3, pX3_isFull]
  by_cases c : v 0 = 40
  · rw [if_pos c, if_neg (show ¬ v 0 < 40 by rw [c]; decide), if_neg (show ¬ (1 : Int32) = 0 by decide)]; exact ⟨rfl, ⟨r1, r2, rfl, r4, r5, r6, r7, r8, r9, r10⟩, fun _ _ => rfl⟩
  · have c' : ¬ (v 0).toInt = 40 := fun q => c (Int32.toInt_inj.mp q)
    have k : v 0 < 40 := by rw [Int32.lt_iff_toInt_lt]; omega
    have ea : (v 0 + 1).toInt = (v 0).toInt + 1 := by rw [ti_add (by omega) (by omega), z1]
    have hc := nat_clamp hv1
    have e0 : upd v 0 (v 0 + 1) 0 = v 0 + 1 := upd_same _ _ _
    have w : ∀ i : Nat, i ≠ 0 → upd v 0 (v 0 + 1) i = v i := fun i hi => upd_ne v _ hi
    rw [if_neg c, if_pos k, if_pos (show (0 : Int32) = 0 from rfl), mLet_eq, pX3_add, pX3_isFull, if_pos k, if_pos (show (0 : Int32) = 0 from rfl), setCell_in hv1 (by omega)]
    refine ⟨rfl, ⟨r1, r2, e0.symm, ?_, fun j hj => ?_, r6.trans (w 2 (by decide)).symm, r7.trans (w 1 (by decide)).symm, r8.trans (w 4 (by decide)).symm, r9.trans (w 6 (by decide)).symm, r10.trans (w 3 (by decide)).symm⟩, w⟩
    · rw [Tp]; dsimp only; rw [e0]; omega
    · dsimp only at hj ⊢
      rw [e0] at hj
      rw [upd_at, upd_at]
      by_cases q : j = (v 0).toNatClampNeg
      · rw [if_pos q, if_pos q]
      · rw [if_neg q, if_neg q]; exact r5 j (by omega)
theorem clear_lp (v : Nat → Int32) (k1 : Int32) : ∀ (n_ : Nat) (ql : Nat → Int32) (k2 : Int32), 0 ≤ k2.toInt → (64 - k2.toInt).toNat < n_ → ∃ w : Nat → Int32, pX8_clear_lp12 n_ v ql k1 k2 = (k1, v, w) ∧ (∀ j : Nat, k2.toInt ≤ j → j < 64 → w j = 0) ∧ ∀ j : Nat, (j : Int) < k2.toInt → w j = ql j := by
  have z64 : Int32.toInt 64 = 64 := rfl
  intro n_
  induction n_ with
  | zero => intro ql k2 _ h; exact absurd h (Nat.not_lt_zero _)
  | succ n_ ih =>
    intro ql k2 h0 h1
    rw [pX8_clear_lp12]
    by_cases c : 64 ≤ k2
    · rw [if_pos c]
      rw [Int32.le_iff_toInt_le] at c
      exact ⟨ql, rfl, fun j hj hj2 => by omega, fun _ _ => rfl⟩
    · have ed := i32_add1 c
      have hc := nat_clamp h0
      rw [if_neg c]
      rw [Int32.le_iff_toInt_le] at c
      obtain ⟨w, q1, q2, q3⟩ := ih (upd ql k2.toNatClampNeg 0) (k2 + 1) (by rw [ed]; omega) (by rw [ed]; omega)
      refine ⟨w, q1, fun j hj hj2 => ?_, fun j hj => ?_⟩
      · by_cases q : (j : Int) = k2.toInt
        · rw [q3 j (by rw [ed]; omega), upd_at, if_pos (by omega)]
        · exact q2 j (by rw [ed]; omega) hj2
      · rw [q3 j (by rw [ed]; omega), upd_at, if_neg (by omega)]
theorem clear_eq {g mem loc pf v qm ql qs : Nat → Int32} {pn : Int32} (R : Rl g mem loc pf pn v qm ql qs) : (pX7_clear loc pn).1 = (pX8_clear v ql).1 ∧ Rl g mem (pX7_clear loc pn).2.1 pf (pX7_clear loc pn).2.2 (pX8_clear v ql).2.1 qm (pX8_clear v ql).2.2 qs ∧ ∀ i : Nat, i ≠ 0 → (pX8_clear v ql).2.1 i = v i := by
  obtain ⟨r1, r2, r3, r4, r5, r6, r7, r8, r9, r10⟩ := R
  have z0 : Int32.toInt 0 = 0 := rfl
  have z64 : Int32.toInt 64 = 64 := rfl
  have hv1 := r4.1
  obtain ⟨w, q1, q2, _⟩ := clear_lp (upd v 0 0) (v 0) ((Int32.toInt 64 - Int32.toInt 0).toNat + 1) ql 0 (by decide) (by decide)
  have u : ∀ i : Nat, i ≠ 0 → upd v 0 0 i = v i := fun i hi => upd_ne v _ hi
  have u0 : upd v 0 0 0 = 0 := upd_same _ _ _
  have zl : ∀ j : Nat, j < 64 → pX0_zero loc 64 0 64 j &&& 255 = 0 := by
    intro j hj
    have hh := (holds_iff (n := 64) (x1 := 0) (x2 := 64) (by decide)).mpr ⟨by decide, by decide, by decide⟩
    rw [pX0_zero, if_neg hh, zero_lp (by decide) (by decide) (by decide) _ _ 0 (by decide) (by decide) j, if_pos (by omega)]
  have sh : pX3_shrinkTo pn 0 = 0 := by
    rw [pX3_shrinkTo, r3, pX3_hasUpper, if_neg (show ¬ (0 : Int32) < 0 by decide), if_neg (show ¬ v 0 < 0 by rw [Int32.lt_iff_toInt_lt]; omega), if_neg (show ¬ (1 : Int32) = 0 by decide)]
  rw [pX7_clear, pX8_clear, q1, sh]
  refine ⟨r3, ⟨r1, fun j hj => ?_, u0.symm, ?_, fun j hj => ?_, r6.trans (u 2 (by decide)).symm, r7.trans (u 1 (by decide)).symm, r8.trans (u 4 (by decide)).symm, r9.trans (u 6 (by decide)).symm, r10.trans (u 3 (by decide)).symm⟩, u⟩
  · dsimp only; rw [zl j hj, q2 j (by omega) hj]
  · rw [Tp]; dsimp only; rw [u0]; decide
  · dsimp only at hj; rw [u0] at hj; omega
