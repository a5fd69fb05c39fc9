/-! what the stores of both sides leave -/
theorem upd_at {f : Nat → Int32} {k j : Nat} {x : Int32} : upd f k x j = if j = k then x else f j := rfl
theorem nar255 (x : Int32) : vp_nar .byte (x.toInt8.toInt32) &&& 255 = x &&& 255 := by
  rw [vp_nar_byte, bp_b, bp_b]
theorem put_lp {N : Nat} (hN : N ≤ 1024) {x1 : Int32} (h0 : 0 ≤ x1.toInt) : ∀ (n_ : Nat) (f : Nat → Int32) (j5 : Int64) (k7 : Int32), -1 ≤ k7.toInt → x1.toInt + k7.toInt < N → (k7.toInt + 1).toNat < n_ → ∀ j : Nat, pX0_put_lp8 N x1 n_ f j5 k7 j &&& 255 = if x1.toInt ≤ j ∧ (j : Int) ≤ x1.toInt + k7.toInt then (sh8n (x1.toInt + k7.toInt - j).toNat j5).toInt32 &&& 255 else f j &&& 255 := by
  intro n_
  have z : Int32.toInt 0 = 0 := rfl
  have zm : Int32.toInt (-1) = -1 := rfl
  have e : (Int32.ofNat N).toInt = (N : Int) := nI_toInt (by omega)
  induction n_ with
  | zero => intro f j5 k7 _ _ h; exact absurd h (Nat.not_lt_zero _)
  | succ n_ ih =>
    intro f j5 k7 h1 h2 h3 j
    rw [pX0_put_lp8]
    by_cases c : k7 < 0
    · rw [if_pos c]
      rw [Int32.lt_iff_toInt_lt] at c
      rw [if_neg (by omega)]
    · rw [if_neg c]
      have c0 := c
      rw [Int32.lt_iff_toInt_lt] at c
      have ea : (x1 + k7).toInt = x1.toInt + k7.toInt := ti_add (by omega) (by omega)
      have ed : (k7 + (-1)).toInt = k7.toInt - 1 := by rw [ti_add (by omega) (by omega)]; omega
      rw [if_neg (by rw [Int32.lt_iff_toInt_lt]; omega), if_neg (by rw [Int32.le_iff_toInt_le]; omega)]
      have hc : ((x1 + k7).toNatClampNeg : Int) = x1.toInt + k7.toInt := by rw [nat_clamp (by omega), ea]
      have g1 : -1 ≤ (k7 + (-1)).toInt := by rw [ed]; omega
      have g2 : x1.toInt + (k7 + (-1)).toInt < N := by rw [ed]; omega
      have g3 : ((k7 + (-1)).toInt + 1).toNat < n_ := ms_dn c0 h3
      have hh := ih (upd f (x1 + k7).toNatClampNeg (vp_nar .byte ((Int32.toInt8 (Int64.toInt32 j5)).toInt32))) (sh8 j5) (k7 + (-1)) g1 g2 g3 j
      rw [ed] at hh
      refine Eq.trans hh ?_
      by_cases r : x1.toInt ≤ j ∧ (j : Int) ≤ x1.toInt + k7.toInt
      · rw [if_pos r]
        by_cases q : (j : Int) = x1.toInt + k7.toInt
        · rw [if_neg (by omega), upd_at, if_pos (by omega), nar255, show (x1.toInt + k7.toInt - j).toNat = 0 by omega]
          rfl
        · rw [if_pos (by omega), show (x1.toInt + k7.toInt - j).toNat = (x1.toInt + (k7.toInt - 1) - j).toNat + 1 by omega]
          rfl
      · rw [if_neg r, if_neg (by omega), upd_at, if_neg (by omega)]
theorem put_is {N : Nat} (hN : N ≤ 1024) {f : Nat → Int32} {x1 x2 : Int32} (L : Int64) (h0 : 0 ≤ x1.toInt) (h1 : 0 ≤ x2.toInt) (h2 : x1.toInt + x2.toInt ≤ N) (j : Nat) : pX0_put f N x1 x2 L j &&& 255 = if x1.toInt ≤ j ∧ (j : Int) < x1.toInt + x2.toInt then (sh8n (x1.toInt + x2.toInt - 1 - j).toNat L).toInt32 &&& 255 else f j &&& 255 := by
  have z : Int32.toInt 1 = 1 := rfl
  have e : (x2 - 1).toInt = x2.toInt - 1 := by rw [ti_sub (by omega) (by omega)]; omega
  unfold pX0_put
  rw [put_lp hN h0 _ _ _ _ (by omega) (by omega) (Nat.lt_succ_self _) j, e]
  by_cases r : x1.toInt ≤ j ∧ (j : Int) < x1.toInt + x2.toInt
  · rw [if_pos r, if_pos (by omega), show x1.toInt + (x2.toInt - 1) - (j : Int) = x1.toInt + x2.toInt - 1 - j by omega]
  · rw [if_neg r, if_neg (by omega)]
theorem eight {x2 k : Int32} (h1 : 0 ≤ x2.toInt) (h2 : x2.toInt ≤ 1024) (h3 : 0 ≤ k.toInt) (h4 : k.toInt < x2.toInt) : (8 : Int32) * ((x2 - 1) - k) = nI (8 * (x2.toInt - 1 - k.toInt).toNat) := by
  have z : Int32.toInt 1 = 1 := rfl
  have z8 : Int32.toInt 8 = 8 := rfl
  have e1 : (x2 - 1).toInt = x2.toInt - 1 := by rw [ti_sub (by omega) (by omega)]; omega
  have e2 : ((x2 - 1) - k).toInt = x2.toInt - 1 - k.toInt := by rw [ti_sub (by omega) (by omega)]; omega
  apply Int32.toInt_inj.mp
  rw [ti_mul (by rw [z8, e2]; omega) (by rw [z8, e2]; omega), nI_toInt (by omega), z8, e2]
  omega
theorem lays_lp {x1 x2 : Int32} (x3 : Int32) (h0 : 0 ≤ x1.toInt) (h1 : 0 ≤ x2.toInt) (h2 : x1.toInt + x2.toInt ≤ 1024) : ∀ (n_ : Nat) (qm : Nat → Int32) (k4 : Int32), 0 ≤ k4.toInt → (x2.toInt - k4.toInt).toNat < n_ → (pX8_lays_lp24 x1 x2 x3 n_ qm k4).1 = 0 ∧ ∀ j : Nat, (pX8_lays_lp24 x1 x2 x3 n_ qm k4).2 j = if x1.toInt + k4.toInt ≤ j ∧ (j : Int) < x1.toInt + x2.toInt then (x3 >>> (nI (8 * (x1.toInt + x2.toInt - 1 - j).toNat) &&& 31)) &&& 255 else qm j := by
  intro n_
  induction n_ with
  | zero => intro qm k4 _ h; exact absurd h (Nat.not_lt_zero _)
  | succ n_ ih =>
    intro qm k4 h3 h4
    rw [pX8_lays_lp24]
    by_cases c : x2 ≤ k4
    · rw [if_pos c]
      rw [Int32.le_iff_toInt_le] at c
      exact ⟨rfl, fun j => by rw [if_neg (by omega)]⟩
    · rw [if_neg c]
      have ed := i32_add1 c
      rw [Int32.le_iff_toInt_le] at c
      obtain ⟨q1, q2⟩ := ih (upd qm (x1 + k4).toNatClampNeg ((x3 >>> ((8 * ((x2 - 1) - k4)) &&& 31)) &&& 255)) (k4 + 1) (by omega) (by omega)
      refine ⟨q1, fun j => ?_⟩
      have ea : (x1 + k4).toInt = x1.toInt + k4.toInt := ti_add (by omega) (by omega)
      have hc : ((x1 + k4).toNatClampNeg : Int) = x1.toInt + k4.toInt := by rw [nat_clamp (by omega), ea]
      rw [q2 j, ed]
      by_cases r : x1.toInt + k4.toInt ≤ j ∧ (j : Int) < x1.toInt + x2.toInt
      · rw [if_pos r]
        by_cases q : (j : Int) = x1.toInt + k4.toInt
        · rw [if_neg (by omega), upd_at, if_pos (by omega), eight h1 (by omega) h3 (by omega), show x2.toInt - 1 - k4.toInt = x1.toInt + x2.toInt - 1 - (j : Int) by omega]
        · rw [if_pos (by omega)]
      · rw [if_neg r, if_neg (by omega), upd_at, if_neg (by omega)]
/-- a store of up to four bytes: both sides' memories stay alike -/
theorem put_lays {mem qm : Nat → Int32} (h : RB 1024 mem qm) {x1 x2 : Int32} (x3 : Int32) (h0 : 0 ≤ x1.toInt) (h1 : 0 ≤ x2.toInt) (h4 : x2.toInt ≤ 4) (h2 : x1.toInt + x2.toInt ≤ 1024) : RB 1024 (pX0_put mem 1024 x1 x2 x3.toInt64) (pX8_lays_lp24 x1 x2 x3 ((Int32.toInt x2 - Int32.toInt 0).toNat + 1) qm 0).2 := by
  intro j hj
  have z : Int32.toInt 0 = 0 := rfl
  rw [(lays_lp x3 h0 h1 h2 _ qm 0 (by omega) (by omega)).2 j, put_is (by decide) _ h0 h1 h2 j, z]
  by_cases r : x1.toInt ≤ j ∧ (j : Int) < x1.toInt + x2.toInt
  · rw [if_pos r, if_pos (by omega), low_of_int (by omega)]
  · rw [if_neg r, if_neg (by omega)]
    exact h j hj
