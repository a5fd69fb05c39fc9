/-! the two sides' bytes -/
def RB (N : Nat) (mem qm : Nat → Int32) : Prop := ∀ j : Nat, j < N → qm j = mem j &&& 255
theorem byteAt_eq {N : Nat} (hN : N ≤ 1024) {mem qm : Nat → Int32} (h : RB N mem qm) {x : Int32} (h0 : 0 ≤ x.toInt) (h1 : x.toInt < N) : pX0_byteAt mem N x = qm x.toNatClampNeg := by
  have e : (Int32.ofNat N).toInt = (N : Int) := nI_toInt (by omega)
  have z : Int32.toInt 0 = 0 := rfl
  have c1 : ¬ x < 0 := by rw [Int32.lt_iff_toInt_lt]; omega
  have c2 : ¬ Int32.ofNat N ≤ x := by rw [Int32.le_iff_toInt_le]; omega
  have hc := nat_clamp h0
  rw [pX0_byteAt, if_neg c1, if_neg c2, h _ (by omega)]
theorem byteAt_out {N : Nat} (hN : N ≤ 1024) (mem : Nat → Int32) {x : Int32} (h : x.toInt < 0 ∨ (N : Int) ≤ x.toInt) : pX0_byteAt mem N x = 0 := by
  have e : (Int32.ofNat N).toInt = (N : Int) := nI_toInt (by omega)
  have z : Int32.toInt 0 = 0 := rfl
  rw [pX0_byteAt]
  by_cases c1 : x < 0
  · rw [if_pos c1]
  rw [if_neg c1]
  rw [Int32.lt_iff_toInt_lt] at c1
  rw [if_pos (by rw [Int32.le_iff_toInt_le]; omega)]
theorem number_lp_eq {mem qm : Nat → Int32} (h : RB 1024 mem qm) {x1 x2 : Int32} (hi : 0 ≤ x1.toInt ∧ x1.toInt + x2.toInt ≤ 1024) : ∀ (n_ : Nat) (k3 k4 : Int32), 0 ≤ k4.toInt → pX0_number_lp5 mem 1024 x1 x2 n_ k3 k4 = pX8_numberAt_lp5 qm x1 x2 n_ k3 k4 := by
  intro n_
  induction n_ with
  | zero => intro k3 k4 _; rfl
  | succ n_ ih =>
    intro k3 k4 hk
    rw [pX0_number_lp5, pX8_numberAt_lp5]
    by_cases c : x2 ≤ k4
    · rw [if_pos c, if_pos c]
    · rw [if_neg c, if_neg c]
      have c' := c
      rw [Int32.le_iff_toInt_le] at c'
      have e1 : (x1 + k4).toInt = x1.toInt + k4.toInt := ti_add (by omega) (by omega)
      have e2 : (k4 + 1).toInt = k4.toInt + 1 := i32_add1 c
      rw [byteAt_eq (by decide) h (by omega) (by omega)]
      exact ih _ _ (by omega)
theorem number_eq {mem qm : Nat → Int32} (h : RB 1024 mem qm) {x1 x2 : Int32} (hi : 0 ≤ x1.toInt ∧ x1.toInt + x2.toInt ≤ 1024) : pX0_number mem 1024 x1 x2 = pX8_numberAt qm x1 x2 := number_lp_eq h hi _ _ _ (by decide)
theorem local_lp_eq {mem qm : Nat → Int32} (h : RB 64 mem qm) {x1 x2 : Int32} (hi : 0 ≤ x1.toInt ∧ x1.toInt + x2.toInt ≤ 64) : ∀ (n_ : Nat) (k3 k4 : Int32), 0 ≤ k4.toInt → pX0_number_lp5 mem 64 x1 x2 n_ k3 k4 = pX8_localAt_lp5 qm x1 x2 n_ k3 k4 := by
  intro n_
  induction n_ with
  | zero => intro k3 k4 _; rfl
  | succ n_ ih =>
    intro k3 k4 hk
    rw [pX0_number_lp5, pX8_localAt_lp5]
    by_cases c : x2 ≤ k4
    · rw [if_pos c, if_pos c]
    · rw [if_neg c, if_neg c]
      have c' := c
      rw [Int32.le_iff_toInt_le] at c'
      have e1 : (x1 + k4).toInt = x1.toInt + k4.toInt := ti_add (by omega) (by omega)
      have e2 : (k4 + 1).toInt = k4.toInt + 1 := i32_add1 c
      rw [byteAt_eq (by decide) h (by omega) (by omega)]
      exact ih _ _ (by omega)
theorem local_eq {mem qm : Nat → Int32} (h : RB 64 mem qm) {x1 x2 : Int32} (hi : 0 ≤ x1.toInt ∧ x1.toInt + x2.toInt ≤ 64) : pX0_number mem 64 x1 x2 = pX8_localAt qm x1 x2 := local_lp_eq h hi _ _ _ (by decide)
theorem isIn_iff {a n : Int32} (hn : -1048576 ≤ n.toInt) : ¬ pX8_isIn a n = 0 ↔ 0 ≤ a.toInt ∧ a.toInt + n.toInt ≤ 1024 := by
  refine ⟨isIn_spec hn, fun h => ?_⟩
  have z : Int32.toInt 1024 = 1024 := rfl
  have z0 : Int32.toInt 0 = 0 := rfl
  have hl := i32_le n
  have e := ti_sub (a := 1024) (b := n) (by omega) (by omega)
  have c1 : ¬ a < 0 := by rw [Int32.lt_iff_toInt_lt]; omega
  have c2 : ¬ 1024 - n < a := by rw [Int32.lt_iff_toInt_lt]; omega
  unfold pX8_isIn
  rw [if_neg c1]
  first | rw [if_neg c2] | (rw [if_pos (by rw [Int32.le_iff_toInt_le]; omega)])
  decide
theorem holds_isIn {a n : Int32} (hn : 0 ≤ n.toInt) : pX0_holds 1024 a n = 0 ↔ pX8_isIn a n = 0 := by
  have h1 := holds_iff (n := 1024) (x1 := a) (x2 := n) (by decide)
  have h2 := isIn_iff (a := a) (n := n) (by omega)
  constructor
  · intro h
    refine Decidable.byContradiction fun q => ?_
    have := h2.mp q
    exact absurd h (h1.mpr ⟨this.1, hn, this.2⟩)
  · intro h
    refine Decidable.byContradiction fun q => ?_
    have := h1.mp q
    exact absurd h (h2.mpr ⟨this.1, this.2.2⟩)
