theorem lay_lp {x1 x2 : Int32} (x3 : Int64) (h0 : 0 ≤ x1.toInt) (h1 : 0 ≤ x2.toInt) (h2 : x1.toInt + x2.toInt ≤ 1024) : ∀ (n_ : Nat) (qm : Nat → Int32) (k5 : Int32), 0 ≤ k5.toInt → (x2.toInt - k5.toInt).toNat < n_ → (pX8_lay_lp29 x1 x2 x3 n_ qm k5).1 = 1 ∧ ∀ j : Nat, (pX8_lay_lp29 x1 x2 x3 n_ qm k5).2 j = if x1.toInt + k5.toInt ≤ j ∧ (j : Int) < x1.toInt + x2.toInt then Int64.toInt32 ((x3 >>> ((nI (8 * (x1.toInt + x2.toInt - 1 - j).toNat)).toInt64 &&& 63)) &&& 255) else qm j := by
  intro n_
  induction n_ with
  | zero => intro qm k5 _ h; exact absurd h (Nat.not_lt_zero _)
  | succ n_ ih =>
    intro qm k5 h3 h4
    rw [pX8_lay_lp29]
    by_cases c : x2 ≤ k5
    · rw [if_pos c]
      rw [Int32.le_iff_toInt_le] at c
      exact ⟨rfl, fun j => by rw [if_neg (by omega)]⟩
    · rw [if_neg c]
      have ed := i32_add1 c
      have g3 := ms_up c h4
      rw [Int32.le_iff_toInt_le] at c
      obtain ⟨q1, q2⟩ := ih (upd qm (x1 + k5).toNatClampNeg (Int64.toInt32 ((x3 >>> ((Int32.toInt64 (8 * ((x2 - 1) - k5))) &&& 63)) &&& 255))) (k5 + 1) (by rw [ed]; omega) g3
      refine ⟨q1, fun j => ?_⟩
      have ea : (x1 + k5).toInt = x1.toInt + k5.toInt := ti_add (by omega) (by omega)
      have hc : ((x1 + k5).toNatClampNeg : Int) = x1.toInt + k5.toInt := by rw [nat_clamp (by omega), ea]
      rw [q2 j, ed]
      by_cases r : x1.toInt + k5.toInt ≤ j ∧ (j : Int) < x1.toInt + x2.toInt
      · rw [if_pos r]
        by_cases q : (j : Int) = x1.toInt + k5.toInt
        · rw [if_neg (by omega), upd_at, if_pos (by omega), eight h1 (by omega) h3 (by omega), show x2.toInt - 1 - k5.toInt = x1.toInt + x2.toInt - 1 - (j : Int) by omega]
        · rw [if_pos (by omega)]
      · rw [if_neg r, if_neg (by omega), upd_at, if_neg (by omega)]
theorem put_lay {mem qm : Nat → Int32} (h : RB 1024 mem qm) {x1 x2 : Int32} (x3 : Int64) (h0 : 0 ≤ x1.toInt) (h1 : 0 ≤ x2.toInt) (h4 : x2.toInt ≤ 8) (h2 : x1.toInt + x2.toInt ≤ 1024) : RB 1024 (pX0_put mem 1024 x1 x2 x3) (pX8_lay_lp29 x1 x2 x3 ((Int32.toInt x2 - Int32.toInt 0).toNat + 1) qm 0).2 := by
  intro j hj
  have z : Int32.toInt 0 = 0 := rfl
  rw [(lay_lp x3 h0 h1 h2 _ qm 0 (by omega) (by omega)).2 j, put_is (by decide) _ h0 h1 h2 j, z]
  by_cases r : x1.toInt ≤ j ∧ (j : Int) < x1.toInt + x2.toInt
  · rw [if_pos r, if_pos (by omega), low_of_long (by omega)]
  · rw [if_neg r, if_neg (by omega)]
    exact h j hj
theorem store_lpl {x2 : Int32} (x3 : Int32) {k5 : Int32} (h0 : 0 ≤ k5.toInt) (h1 : 0 ≤ x2.toInt) (h2 : k5.toInt + x2.toInt ≤ 64) : ∀ (n_ : Nat) (v qm ql qs : Nat → Int32) (k6 : Int32), 0 ≤ k6.toInt → (x2.toInt - k6.toInt).toNat < n_ → ∃ w : Nat → Int32, pX8_store_lp101 x2 x3 n_ v qm ql qs k5 k6 = (0, v, qm, w, qs) ∧ ∀ j : Nat, w j = if k5.toInt + k6.toInt ≤ j ∧ (j : Int) < k5.toInt + x2.toInt then (x3 >>> (nI (8 * (k5.toInt + x2.toInt - 1 - j).toNat) &&& 31)) &&& 255 else ql j := by
  intro n_
  induction n_ with
  | zero => intro v qm ql qs k6 _ h; exact absurd h (Nat.not_lt_zero _)
  | succ n_ ih =>
    intro v qm ql qs k6 h3 h4
    rw [pX8_store_lp101]
    by_cases c : x2 ≤ k6
    · rw [if_pos c]
      rw [Int32.le_iff_toInt_le] at c
      exact ⟨ql, rfl, fun j => by rw [if_neg (by omega)]⟩
    · rw [if_neg c]
      have ed := i32_add1 c
      have g3 := ms_up c h4
      rw [Int32.le_iff_toInt_le] at c
      obtain ⟨w, q1, q2⟩ := ih v qm (upd ql (k5 + k6).toNatClampNeg ((x3 >>> ((8 * ((x2 - 1) - k6)) &&& 31)) &&& 255)) qs (k6 + 1) (by rw [ed]; omega) g3
      refine ⟨w, q1, fun j => ?_⟩
      have ea : (k5 + k6).toInt = k5.toInt + k6.toInt := ti_add (by omega) (by omega)
      have hc : ((k5 + k6).toNatClampNeg : Int) = k5.toInt + k6.toInt := by rw [nat_clamp (by omega), ea]
      rw [q2 j, ed]
      by_cases r : k5.toInt + k6.toInt ≤ j ∧ (j : Int) < k5.toInt + x2.toInt
      · rw [if_pos r]
        by_cases q : (j : Int) = k5.toInt + k6.toInt
        · rw [if_neg (by omega), upd_at, if_pos (by omega), eight h1 (by omega) h3 (by omega), show x2.toInt - 1 - k6.toInt = k5.toInt + x2.toInt - 1 - (j : Int) by omega]
        · rw [if_pos (by omega)]
      · rw [if_neg r, if_neg (by omega), upd_at, if_neg (by omega)]
theorem put_store {loc ql : Nat → Int32} (h : RB 64 loc ql) (v qm qs : Nat → Int32) {x1 x2 : Int32} (x3 : Int32) (h0 : 0 ≤ x1.toInt) (h1 : 0 ≤ x2.toInt) (h4 : x2.toInt ≤ 4) (h2 : x1.toInt + x2.toInt ≤ 64) : ∃ w : Nat → Int32, pX8_store_lp101 x2 x3 ((Int32.toInt x2 - Int32.toInt 0).toNat + 1) v qm ql qs x1 0 = (0, v, qm, w, qs) ∧ RB 64 (pX0_put loc 64 x1 x2 x3.toInt64) w := by
  have z : Int32.toInt 0 = 0 := rfl
  obtain ⟨w, e, hw⟩ := store_lpl x3 h0 h1 h2 ((Int32.toInt x2 - Int32.toInt 0).toNat + 1) v qm ql qs 0 (by omega) (by omega)
  refine ⟨w, e, fun j hj => ?_⟩
  rw [hw j, put_is (by decide) _ h0 h1 h2 j, z]
  by_cases r : x1.toInt ≤ j ∧ (j : Int) < x1.toInt + x2.toInt
  · rw [if_pos r, if_pos (by omega), low_of_int (by omega)]
  · rw [if_neg r, if_neg (by omega)]
    exact h j hj
theorem putByte_is {N : Nat} (hN : N ≤ 1024) {f : Nat → Int32} {x1 : Int32} (x2 : Int32) (h0 : 0 ≤ x1.toInt) (h1 : x1.toInt < N) (j : Nat) : pX0_putByte f N x1 x2 j = if (j : Int) = x1.toInt then vp_nar .byte ((Int32.toInt8 x2).toInt32) else f j := by
  have e : (Int32.ofNat N).toInt = (N : Int) := nI_toInt (by omega)
  have z : Int32.toInt 0 = 0 := rfl
  have hc := nat_clamp h0
  rw [pX0_putByte, if_neg (by rw [Int32.lt_iff_toInt_lt]; omega), if_neg (by rw [Int32.le_iff_toInt_le]; omega), upd_at]
  by_cases q : (j : Int) = x1.toInt
  · rw [if_pos (by omega), if_pos q]
  · rw [if_neg (by omega), if_neg q]
theorem zero_lp {N : Nat} (hN : N ≤ 1024) {x1 x2 : Int32} (h0 : 0 ≤ x1.toInt) (h2 : x1.toInt + x2.toInt ≤ N) : ∀ (n_ : Nat) (f : Nat → Int32) (k3 : Int32), 0 ≤ k3.toInt → (x2.toInt - k3.toInt).toNat < n_ → ∀ j : Nat, pX0_zero_lp11 N x1 x2 n_ f k3 j &&& 255 = if x1.toInt + k3.toInt ≤ j ∧ (j : Int) < x1.toInt + x2.toInt then 0 else f j &&& 255 := by
  intro n_
  induction n_ with
  | zero => intro f k3 _ h; exact absurd h (Nat.not_lt_zero _)
  | succ n_ ih =>
    intro f k3 h3 h4 j
    rw [pX0_zero_lp11]
    by_cases c : x2 ≤ k3
    · rw [if_pos c]
      rw [Int32.le_iff_toInt_le] at c
      rw [if_neg (by omega)]
    · rw [if_neg c]
      have ed := i32_add1 c
      have g3 := ms_up c h4
      rw [Int32.le_iff_toInt_le] at c
      have ea : (x1 + k3).toInt = x1.toInt + k3.toInt := ti_add (by omega) (by omega)
      have hh := ih (pX0_putByte f N (x1 + k3) 0) (k3 + 1) (by rw [ed]; omega) g3 j
      rw [ed] at hh
      refine Eq.trans hh ?_
      rw [putByte_is hN 0 (by rw [ea]; omega) (by rw [ea]; omega) j, ea]
      by_cases r : x1.toInt + k3.toInt ≤ j ∧ (j : Int) < x1.toInt + x2.toInt
      · rw [if_pos r]
        by_cases q : (j : Int) = x1.toInt + k3.toInt
        · rw [if_neg (by omega), if_pos q]; decide
        · rw [if_pos (by omega)]
      · rw [if_neg r, if_neg (by omega), if_neg (by omega)]
