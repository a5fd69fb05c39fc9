theorem clears_lp {x1 x2 : Int32} (h0 : 0 ≤ x2.toInt) (h2 : x2.toInt + x1.toInt ≤ 1024) : ∀ (n_ : Nat) (qm : Nat → Int32) (k3 : Int32), 0 ≤ k3.toInt → (x1.toInt - k3.toInt).toNat < n_ → (pX8_clears_lp40 x1 x2 n_ qm k3).1 = 0 ∧ ∀ j : Nat, (pX8_clears_lp40 x1 x2 n_ qm k3).2 j = if x2.toInt + k3.toInt ≤ j ∧ (j : Int) < x2.toInt + x1.toInt then 0 else qm j := by
  intro n_
  induction n_ with
  | zero => intro qm k3 _ h; exact absurd h (Nat.not_lt_zero _)
  | succ n_ ih =>
    intro qm k3 h3 h4
    rw [pX8_clears_lp40]
    by_cases c : x1 ≤ k3
    · rw [if_pos c]
      rw [Int32.le_iff_toInt_le] at c
      exact ⟨rfl, fun j => by rw [if_neg (by omega)]⟩
    · rw [if_neg c]
      have ed := i32_add1 c
      have g3 := ms_up c h4
      rw [Int32.le_iff_toInt_le] at c
      obtain ⟨q1, q2⟩ := ih (upd qm (x2 + k3).toNatClampNeg 0) (k3 + 1) (by rw [ed]; omega) g3
      refine ⟨q1, fun j => ?_⟩
      have ea : (x2 + k3).toInt = x2.toInt + k3.toInt := ti_add (by omega) (by omega)
      have hc : ((x2 + k3).toNatClampNeg : Int) = x2.toInt + k3.toInt := by rw [nat_clamp (by omega), ea]
      rw [q2 j, ed]
      by_cases r : x2.toInt + k3.toInt ≤ j ∧ (j : Int) < x2.toInt + x1.toInt
      · rw [if_pos r]
        by_cases q : (j : Int) = x2.toInt + k3.toInt
        · rw [if_neg (by omega), upd_at, if_pos (by omega)]
        · rw [if_pos (by omega)]
      · rw [if_neg r, if_neg (by omega), upd_at, if_neg (by omega)]
theorem zero_clears {mem qm : Nat → Int32} (h : RB 1024 mem qm) {x1 x2 : Int32} (h0 : 0 ≤ x2.toInt) (h1 : 0 ≤ x1.toInt) (h2 : x2.toInt + x1.toInt ≤ 1024) : RB 1024 (pX0_zero mem 1024 x2 x1) (pX8_clears_lp40 x1 x2 ((Int32.toInt x1 - Int32.toInt 0).toNat + 1) qm 0).2 := by
  intro j hj
  have z : Int32.toInt 0 = 0 := rfl
  have hh := (holds_iff (n := 1024) (x1 := x2) (x2 := x1) (by decide)).mpr ⟨h0, h1, h2⟩
  have e1 := (clears_lp h0 h2 ((Int32.toInt x1 - Int32.toInt 0).toNat + 1) qm 0 (by omega) (by omega)).2 j
  have e2 := zero_lp (N := 1024) (by decide) h0 h2 ((Int32.toInt x1 - Int32.toInt 0).toNat + 1) mem 0 (by omega) (by omega) j
  rw [e1, pX0_zero, if_neg hh, e2]
  by_cases r : x2.toInt + Int32.toInt 0 ≤ j ∧ (j : Int) < x2.toInt + x1.toInt
  · rw [if_pos r, if_pos r]
  · rw [if_neg r, if_neg r]; exact h j hj
theorem copies_80 {x1 x3 : Int32} (h0 : 0 ≤ x3.toInt) (h2 : x3.toInt + x1.toInt ≤ 1024) : ∀ (n_ : Nat) (qm qi : Nat → Int32) (k4 : Int32), 0 ≤ k4.toInt → (x1.toInt - k4.toInt).toNat < n_ → ∃ w : Nat → Int32, pX8_copies_lp80 x1 x3 n_ qm qi k4 = (0, w, qi) ∧ ∀ j : Nat, w j = if x3.toInt + k4.toInt ≤ j ∧ (j : Int) < x3.toInt + x1.toInt then qi (j - x3.toInt.toNat) else qm j := by
  intro n_
  induction n_ with
  | zero => intro qm qi k4 _ h; exact absurd h (Nat.not_lt_zero _)
  | succ n_ ih =>
    intro qm qi k4 h3 h4
    rw [pX8_copies_lp80]
    by_cases c : x1 ≤ k4
    · rw [if_pos c]
      rw [Int32.le_iff_toInt_le] at c
      exact ⟨qm, rfl, fun j => by rw [if_neg (by omega)]⟩
    · rw [if_neg c]
      have ed := i32_add1 c
      have g3 := ms_up c h4
      rw [Int32.le_iff_toInt_le] at c
      obtain ⟨w, q1, q2⟩ := ih (upd qm (x3 + k4).toNatClampNeg (qi k4.toNatClampNeg)) qi (k4 + 1) (by rw [ed]; omega) g3
      refine ⟨w, q1, fun j => ?_⟩
      have ea : (x3 + k4).toInt = x3.toInt + k4.toInt := ti_add (by omega) (by omega)
      have hc : ((x3 + k4).toNatClampNeg : Int) = x3.toInt + k4.toInt := by rw [nat_clamp (by omega), ea]
      have hk := nat_clamp h3
      rw [q2 j, ed]
      by_cases r : x3.toInt + k4.toInt ≤ j ∧ (j : Int) < x3.toInt + x1.toInt
      · rw [if_pos r]
        by_cases q : (j : Int) = x3.toInt + k4.toInt
        · rw [if_neg (by omega), upd_at, if_pos (by omega), show k4.toNatClampNeg = j - x3.toInt.toNat by omega]
        · rw [if_pos (by omega)]
      · rw [if_neg r, if_neg (by omega), upd_at, if_neg (by omega)]
theorem copies_49 {x1 x2 x3 : Int32} (h0 : 0 ≤ x3.toInt) (h2 : x3.toInt + x1.toInt ≤ 1024) (h5 : 0 ≤ x2.toInt) (h6 : x2.toInt + x1.toInt ≤ 1024) : ∀ (n_ : Nat) (qm qi : Nat → Int32) (k4 : Int32), 0 ≤ k4.toInt → (x1.toInt - k4.toInt).toNat < n_ → (∀ i : Nat, (i : Int) < k4.toInt → qi i = qm (x2.toInt.toNat + i)) → ∃ w z : Nat → Int32, pX8_copies_lp49 x1 x2 x3 n_ qm qi k4 = (0, w, z) ∧ ∀ j : Nat, w j = if x3.toInt ≤ j ∧ (j : Int) < x3.toInt + x1.toInt then qm (x2.toInt.toNat + (j - x3.toInt.toNat)) else qm j := by
  intro n_
  have z : Int32.toInt 0 = 0 := rfl
  induction n_ with
  | zero => intro qm qi k4 _ h; exact absurd h (Nat.not_lt_zero _)
  | succ n_ ih =>
    intro qm qi k4 h3 h4 h7
    rw [pX8_copies_lp49]
    by_cases c : x1 ≤ k4
    · rw [if_pos c]
      rw [Int32.le_iff_toInt_le] at c
      obtain ⟨w, q1, q2⟩ := copies_80 h0 h2 ((Int32.toInt x1 - Int32.toInt 0).toNat + 1) qm qi 0 (by omega) (by omega)
      refine ⟨w, qi, q1, fun j => ?_⟩
      rw [q2 j, z]
      by_cases r : x3.toInt ≤ j ∧ (j : Int) < x3.toInt + x1.toInt
      · rw [if_pos r, if_pos (by omega), h7 _ (by omega)]
      · rw [if_neg r, if_neg (by omega)]
    · rw [if_neg c]
      have ed := i32_add1 c
      have g3 := ms_up c h4
      rw [Int32.le_iff_toInt_le] at c
      have ea : (x2 + k4).toInt = x2.toInt + k4.toInt := ti_add (by omega) (by omega)
      have hc : ((x2 + k4).toNatClampNeg : Int) = x2.toInt + k4.toInt := by rw [nat_clamp (by omega), ea]
      have hk := nat_clamp h3
      refine ih qm _ (k4 + 1) (by rw [ed]; omega) g3 (fun i hi => ?_)
      rw [ed] at hi
      rw [upd_at]
      by_cases q : i = k4.toNatClampNeg
      · rw [if_pos q, show (x2 + k4).toNatClampNeg = x2.toInt.toNat + i by omega]
      · rw [if_neg q]; exact h7 i (by omega)
theorem move_copies {mem qm qi : Nat → Int32} (h : RB 1024 mem qm) {x1 x2 x3 : Int32} (h1 : 0 ≤ x1.toInt) (h0 : 0 ≤ x3.toInt) (h2 : x3.toInt + x1.toInt ≤ 1024) (h5 : 0 ≤ x2.toInt) (h6 : x2.toInt + x1.toInt ≤ 1024) : ∃ w z : Nat → Int32, pX8_copies_lp49 x1 x2 x3 ((Int32.toInt x1 - Int32.toInt 0).toNat + 1) qm qi 0 = (0, w, z) ∧ RB 1024 (pX0_move mem 1024 x2 x3 x1) w := by
  have z : Int32.toInt 0 = 0 := rfl
  obtain ⟨w, y, e, hw⟩ := copies_49 h0 h2 h5 h6 ((Int32.toInt x1 - Int32.toInt 0).toNat + 1) qm qi 0 (by omega) (by omega) (fun i hi => by omega)
  refine ⟨w, y, e, fun j hj => ?_⟩
  have g1 := (holds_iff (n := 1024) (x1 := x2) (x2 := x1) (by decide)).mpr ⟨h5, h1, h6⟩
  have g2 := (holds_iff (n := 1024) (x1 := x3) (x2 := x1) (by decide)).mpr ⟨h0, h1, h2⟩
  have k1 := nat_clamp h1
  have k2 := nat_clamp h5
  have k3 := nat_clamp h0
  rw [hw j, pX0_move, if_neg g1, if_neg g2]
  unfold va_cpy
  by_cases r : x3.toInt ≤ j ∧ (j : Int) < x3.toInt + x1.toInt
  · rw [if_pos r, if_pos (by omega), h _ (by omega), show x2.toNatClampNeg + (j - x3.toNatClampNeg) = x2.toInt.toNat + (j - x3.toInt.toNat) by omega]
  · rw [if_neg r, if_neg (by omega)]; exact h j hj
