theorem lp38_eq (v qd qn : Nat → Int32) (x1 : Int32) : ∀ (n_ : Nat) (qe qf : Nat → Int32) (k3 : Int32), 0 ≤ k3.toInt → ((v 8).toInt - k3.toInt).toNat < n_ → ∃ QE QF : Nat → Int32, pX8_read_lp38 x1 n_ v qd qn qe qf k3 = (v 9 - x1, v, qd, qn, QE, QF) ∧ (∀ j : Nat, k3.toInt ≤ j → (j : Int) < (v 8).toInt → QE j = qd j ∧ QF j = qn j) ∧ ∀ j : Nat, (j : Int) < k3.toInt → QE j = qe j ∧ QF j = qf j := by
  intro n_
  induction n_ with
  | zero => intro qe qf k3 _ h; exact absurd h (Nat.not_lt_zero _)
  | succ n_ ih =>
    intro qe qf k3 h0 h1
    rw [pX8_read_lp38]
    by_cases c : v 8 ≤ k3
    · rw [if_pos c]
      rw [Int32.le_iff_toInt_le] at c
      exact ⟨qe, qf, rfl, fun j hj hj2 => by omega, fun _ _ => ⟨rfl, rfl⟩⟩
    · have ed := i32_add1 c
      have g3 := ms_up c h1
      have hc := nat_clamp h0
      rw [if_neg c]
      obtain ⟨QE, QF, q1, q2, q3⟩ := ih (upd qe k3.toNatClampNeg (qd k3.toNatClampNeg)) (upd qf k3.toNatClampNeg (qn k3.toNatClampNeg)) (k3 + 1) (by rw [ed]; omega) g3
      refine ⟨QE, QF, q1, fun j hj hj2 => ?_, fun j hj => ?_⟩
      · by_cases q : (j : Int) = k3.toInt
        · have := q3 j (by rw [ed]; omega)
          rw [upd_at, upd_at, if_pos (by omega), if_pos (by omega)] at this
          rw [show j = k3.toNatClampNeg by omega] at this ⊢
          exact this
        · exact q2 j (by rw [ed]; omega) hj2
      · have := q3 j (by rw [ed]; omega)
        rw [upd_at, upd_at, if_neg (by omega), if_neg (by omega)] at this
        exact this
/-- the row last read, as both sides hold it -/
def rdRel (wr : Int32) (T F N v qe qf : Nat → Int32) : Prop := wr = v 10 ∧ (¬ v 10 = 0 → T 0 = v 11 ∧ T 2 = v 12 ∧ (v 12).toInt ≤ 8 ∧ ∀ j : Nat, (j : Int) < (v 12).toInt → F j = qe j ∧ N j = qf j)
theorem rd_keep {wr : Int32} {T F N v w qe qf : Nat → Int32} (h : rdRel wr T F N v qe qf) (hw : ∀ i : Nat, i = 10 ∨ i = 11 ∨ i = 12 → w i = v i) : rdRel wr T F N w qe qf := by
  rw [rdRel, hw 10 (by decide), hw 11 (by decide), hw 12 (by decide)]
  exact h
/-- a read: what the class's form and the reference's registers tell after it -/
theorem read_eq {mem qm qd v : Nat → Int32} (h : RB 1024 mem qm) (hq : nnQ qd) (t f g qn qe qf : Nat → Int32) (x : Int32) : (pX1_decode t f g mem x).1 = 0 ∧ (∃ V QD QN QE QF : Nat → Int32, pX8_read v qm qd qn qe qf x = ((pX1_decode t f g mem x).2.1 3, V, QD, QN, QE, QF) ∧ nnQ QD ∧ (∀ i : Nat, i ≠ 7 → i ≠ 8 → i ≠ 9 → i ≠ 10 → i ≠ 11 → i ≠ 12 → V i = v i) ∧ rdRel 1 (pX1_decode t f g mem x).2.1 (pX1_decode t f g mem x).2.2.1 (pX1_decode t f g mem x).2.2.2 V QE QF) ∨ ¬ (pX1_decode t f g mem x).1 = 0 ∧ ∃ V QD QN : Nat → Int32, pX8_read v qm qd qn qe qf x = (-10 - (pX1_decode t f g mem x).1, V, QD, QN, qe, qf) ∧ nnQ QD ∧ ∀ i : Nat, i ≠ 7 → i ≠ 8 → i ≠ 9 → V i = v i := by
  have z0 : Int32.toInt 0 = 0 := rfl
  have d := decode_eq h t f g v qn x hq
  have k := ta_ok v qm qd qn x
  rw [pX8_read, mLet_eq]
  generalize pX1_decode t f g mem x = C at d ⊢
  generalize pX8_takeApart v qm qd qn x = X at d k ⊢
  obtain ⟨d1, d2⟩ := d
  obtain ⟨k1, k2, k3⟩ := k
  by_cases c : C.1 = 0
  · have c' : X.1 = 0 := d1.symm.trans c
    obtain ⟨t0, t2, t1, t3, hmd⟩ := d2 c
    obtain ⟨n1, n2⟩ := k3 c'
    have le8 : (X.2.1 8).toInt ≤ 8 := by
      rcases op_ok (X.2.1 7) with ⟨_, e2⟩ | ⟨_, o7, ⟨_, e2, _⟩ | ⟨_, e2, _⟩⟩
      · rw [n2, e2]; decide
      · rw [n2, e2]; omega
      · rw [n2, e2, ti_add (by have z1 : Int32.toInt 1 = 1 := rfl; omega) (by have z1 : Int32.toInt 1 = 1 := rfl; omega)]
        have z1 : Int32.toInt 1 = 1 := rfl
        omega
    have W : ∀ i : Nat, i ≠ 10 → i ≠ 11 → i ≠ 12 → upd (upd (upd X.2.1 10 1) 11 (X.2.1 7)) 12 (X.2.1 8) i = X.2.1 i := fun i a b c => (upd_ne _ _ c).trans ((upd_ne _ _ b).trans (upd_ne _ _ a))
    have W12 : upd (upd (upd X.2.1 10 1) 11 (X.2.1 7)) 12 (X.2.1 8) 12 = X.2.1 8 := upd_same _ _ _
    have W11 : upd (upd (upd X.2.1 10 1) 11 (X.2.1 7)) 12 (X.2.1 8) 11 = X.2.1 7 := (upd_ne _ _ (by decide)).trans (upd_same _ _ _)
    have W10 : upd (upd (upd X.2.1 10 1) 11 (X.2.1 7)) 12 (X.2.1 8) 10 = 1 := (upd_ne _ _ (by decide)).trans ((upd_ne _ _ (by decide)).trans (upd_same _ _ _))
    have W8 := W 8 (by decide) (by decide) (by decide)
    obtain ⟨QE, QF, q1, q2, _⟩ := lp38_eq (upd (upd (upd X.2.1 10 1) 11 (X.2.1 7)) 12 (X.2.1 8)) X.2.2.1 X.2.2.2 x ((Int32.toInt (X.2.1 8) - Int32.toInt 0).toNat + 1) qe qf 0 (by decide) (by rw [W8]; omega)
    refine Or.inl ⟨c, upd (upd (upd X.2.1 10 1) 11 (X.2.1 7)) 12 (X.2.1 8), X.2.2.1, X.2.2.2, QE, QF, ?_, k2 hq, fun i a1 a2 a3 a4 a5 a6 => (W i a4 a5 a6).trans (k1 i a1 a2 a3), W10.symm, fun _ => ⟨?_, ?_, ?_, fun j hj => ?_⟩⟩
    · rw [if_pos c', q1, W 9 (by decide) (by decide) (by decide), t3]
    · rw [W11]; exact t0
    · rw [W12]; exact t2
    · rw [W12]; exact le8
    · rw [W12] at hj
      have := q2 j (by omega) (by rw [W8]; exact hj)
      obtain ⟨m1, m2, _⟩ := hmd j hj
      exact ⟨m1.trans this.1.symm, m2.trans this.2.symm⟩
  · have c' : ¬ X.1 = 0 := fun q => c (d1.trans q)
    refine Or.inr ⟨c, X.2.1, X.2.2.1, X.2.2.2, ?_, k2 hq, k1⟩
    rw [if_neg c', d1]
theorem told_row {wr : Int32} {T F N v qe qf : Nat → Int32} (h : rdRel wr T F N v qe qf) (x : Int32) : pX7_row_0 wr T F N x = pX8_row v qe qf x := by
  have z0 : Int32.toInt 0 = 0 := rfl
  have z1 : Int32.toInt 1 = 1 := rfl
  have z2 : Int32.toInt 2 = 2 := rfl
  have z10 : Int32.toInt 10 = 10 := rfl
  have z20 : Int32.toInt 20 = 20 := rfl
  obtain ⟨h1, h2⟩ := h
  rw [pX7_row_0, pX8_row, h1]
  by_cases c0 : x < 0
  · rw [if_pos c0, if_pos c0]
  rw [if_neg c0, if_neg c0]
  by_cases w : v 10 = 0
  · rw [if_pos w, if_pos w]
  obtain ⟨t0, t2, t8, tj⟩ := h2 w
  rw [if_neg w, if_neg w, t0, t2]
  by_cases c1 : x ≤ 1
  · rw [if_pos c1, if_pos c1]
    have n2 : ¬ 2 ≤ x := by
      rw [Int32.le_iff_toInt_le] at c1 ⊢; omega
    rw [if_neg n2]
    by_cases e0 : x = 0
    · rw [if_pos e0, if_pos e0]
    · rw [if_neg e0, if_neg e0]
      have e1 : x = 1 := Int32.toInt_inj.mp (by
        rw [Int32.le_iff_toInt_le] at c1
        rw [Int32.lt_iff_toInt_lt] at c0
        have : ¬ x.toInt = 0 := fun q => e0 (Int32.toInt_inj.mp (q.trans z0.symm))
        omega)
      rw [if_pos e1]
  · rw [if_neg c1, if_neg c1]
    by_cases c2 : 10 ≤ x
    · have c2' := c2
      rw [Int32.le_iff_toInt_le] at c2'
      have n2 : 2 ≤ x := by rw [Int32.le_iff_toInt_le]; omega
      have n0 : ¬ x = 0 := fun q => by rw [q] at c2'; omega
      have n1 : ¬ x = 1 := fun q => by rw [q] at c2'; omega
      rw [if_pos c2, if_pos c2, if_pos n2, if_neg n0, if_neg n1]
      by_cases c3 : 20 ≤ x
      · have c3' := c3
        rw [Int32.le_iff_toInt_le] at c3'
        have hx := Int32.toInt_lt x
        have es : (x - 20).toInt = x.toInt - 20 := by rw [ti_sub (by omega) (by omega), z20]
        rw [if_pos c3, if_pos c3]
        by_cases c4 : x - 20 < v 12
        · have c4' := c4
          rw [Int32.lt_iff_toInt_lt] at c4'
          have hc := nat_clamp (x := x - 20) (by omega)
          rw [if_pos c4, if_pos c4, numberOf_in (by omega) (by omega), (tj _ (by omega)).2]
        · rw [if_neg c4, if_neg c4]
      · have c3' := c3
        rw [Int32.le_iff_toInt_le] at c3'
        have es : (x - 10).toInt = x.toInt - 10 := by rw [ti_sub (by omega) (by omega), z10]
        rw [if_neg c3, if_neg c3]
        by_cases c4 : x - 10 < v 12
        · have c4' := c4
          rw [Int32.lt_iff_toInt_lt] at c4'
          have hc := nat_clamp (x := x - 10) (by omega)
          rw [if_pos c4, if_pos c4, modeOf_in (by omega) (by omega), (tj _ (by omega)).1]
        · rw [if_neg c4, if_neg c4]
    · rw [if_neg c2, if_neg c2]
