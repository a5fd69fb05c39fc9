/-! the numbers of a row -/
def nvAt (qm : Nat → Int32) (pl mode : Int32) : Int32 := if 4 ≤ mode then pX8_numberAt qm pl (pX8_wants mode) else if pX8_wants mode = 1 then (Int32.toInt8 (pX8_numberAt qm pl (pX8_wants mode))).toInt32 else if pX8_wants mode = 2 then (Int32.toInt16 (pX8_numberAt qm pl (pX8_wants mode))).toInt32 else pX8_numberAt qm pl (pX8_wants mode)
theorem width_wants : ∀ b, b < 16 → pX1_numberWidth (nI b) = pX8_wants (nI b) := by decide +kernel
theorem pl_of {k : Int32} {b : Int} (h : k.toInt = b) : k = Int32.ofInt b := by rw [← h, Int32.ofInt_toInt]
theorem nums_ref {qm v qd : Nat → Int32} {base : Int} (hq : ∀ j : Nat, 0 ≤ (qd j).toInt) (hm : 0 ≤ (v 8).toInt ∧ (v 8).toInt ≤ 8) (h0 : 0 ≤ base) (ht : base + wsum qd (v 8).toInt.toNat ≤ 1024) : ∀ (n_ : Nat) (qn : Nat → Int32) (k4 k7 : Int32), 0 ≤ k7.toInt → k7.toInt ≤ (v 8).toInt → ((v 8).toInt - k7.toInt).toNat < n_ → k4.toInt = base + wsum qd k7.toInt.toNat →
    ∃ (q : Nat → Int32) (e : Int32), e.toInt = base + wsum qd (v 8).toInt.toNat ∧ (∀ j : Nat, q j = if k7.toInt ≤ j ∧ (j : Int) < (v 8).toInt then nvAt qm (Int32.ofInt (base + wsum qd j)) (qd j) else qn j) ∧ pX8_takeApart_lp232 qm n_ v qd qn k4 k7 = pX8_takeApart_lp349 ((Int32.toInt (v 8) - Int32.toInt 0).toNat + 1) v qd q e (pX8_storeOf (v 7)) 0 := by
  intro n_
  induction n_ with
  | zero => intro qn k4 k7 _ _ h; exact absurd h (Nat.not_lt_zero _)
  | succ n_ ih =>
    intro qn k4 k7 h1 h2 h3 h4
    rw [pX8_takeApart_lp232]
    by_cases c : v 8 ≤ k7
    · rw [if_pos c]
      rw [Int32.le_iff_toInt_le] at c
      have ek : k7.toInt = (v 8).toInt := by omega
      exact ⟨qn, k4, by rw [h4, ek], fun j => by rw [if_neg (by omega)], rfl⟩
    · rw [if_neg c, mLet_eq]
      have ed := i32_add1 c
      have g3 := ms_up c h3
      rw [Int32.le_iff_toInt_le] at c
      have hcl := nat_clamp h1
      have hk : k7.toNatClampNeg = k7.toInt.toNat := by omega
      have hs := wsum_nx (qd := qd) (k := k7) rfl h1 (by omega)
      have hw := wants_bd (hq k7.toNatClampNeg)
      have hb := wsum_bd hq k7.toInt.toNat
      have hmo := wsum_mono hq (i := (k7 + 1).toInt.toNat) (j := (v 8).toInt.toNat) (by rw [ed]; omega)
      have g4 : (k4 + pX8_wants (qd k7.toNatClampNeg)).toInt = base + wsum qd (k7 + 1).toInt.toNat := by
        rw [ti_add (by omega) (by omega), hs, h4]; omega
      have gp := pl_of h4
      have fin : ∀ X : Int32, X = nvAt qm (Int32.ofInt (base + wsum qd k7.toInt.toNat)) (qd k7.toNatClampNeg) → ∃ (q : Nat → Int32) (e : Int32), e.toInt = base + wsum qd (v 8).toInt.toNat ∧ (∀ j : Nat, q j = if k7.toInt ≤ j ∧ (j : Int) < (v 8).toInt then nvAt qm (Int32.ofInt (base + wsum qd j)) (qd j) else qn j) ∧ pX8_takeApart_lp232 qm n_ v qd (upd qn k7.toNatClampNeg X) (k4 + pX8_wants (qd k7.toNatClampNeg)) (k7 + 1) = pX8_takeApart_lp349 ((Int32.toInt (v 8) - Int32.toInt 0).toNat + 1) v qd q e (pX8_storeOf (v 7)) 0 := by
        intro X hX
        obtain ⟨q, e, e1, e2, e3⟩ := ih (upd qn k7.toNatClampNeg X) (k4 + pX8_wants (qd k7.toNatClampNeg)) (k7 + 1) (by rw [ed]; omega) (by rw [ed]; omega) g3 g4
        refine ⟨q, e, e1, fun j => ?_, e3⟩
        rw [e2 j, ed, upd_at]
        by_cases r : k7.toInt ≤ j ∧ (j : Int) < (v 8).toInt
        · rw [if_pos r]
          by_cases s : j = k7.toNatClampNeg
          · rw [if_neg (by omega), if_pos s, hX, ← hk, ← s]
          · rw [if_pos (by omega)]
        · rw [if_neg r, if_neg (by omega), if_neg (by omega)]
      rw [gp] at fin ⊢
      by_cases c4 : 4 ≤ qd k7.toNatClampNeg
      · rw [if_pos c4]; exact fin _ (by rw [nvAt, if_pos c4])
      rw [if_neg c4]
      by_cases c5 : pX8_wants (qd k7.toNatClampNeg) = 1
      · rw [if_pos c5]; exact fin _ (by rw [nvAt, if_neg c4, if_pos c5])
      rw [if_neg c5]
      by_cases c6 : pX8_wants (qd k7.toNatClampNeg) = 2
      · rw [if_pos c6]; exact fin _ (by rw [nvAt, if_neg c4, if_neg c5, if_pos c6])
      rw [if_neg c6]; exact fin _ (by rw [nvAt, if_neg c4, if_neg c5, if_neg c6])
