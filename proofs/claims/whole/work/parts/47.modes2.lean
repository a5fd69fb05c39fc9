theorem ref_mo {mem qm : Nat → Int32} (h : RB 1024 mem qm) {x k : Int32} (hx : 0 ≤ x.toInt) (h0 : 0 ≤ k.toInt) (hb : x.toInt + k.toInt / 2 < 1024) : ((qm (x + k / 2).toNatClampNeg) >>> (((4 : Int32) * (k - k / 2 * 2)) &&& 31)) &&& 15 = moAt qm x k.toNatClampNeg := by
  have z0 : Int32.toInt 0 = 0 := rfl
  have z1 : Int32.toInt 1 = 1 := rfl
  have hk := i32_le k
  obtain ⟨hd, hr⟩ := half_rem h0
  have ea : (x + k / 2).toInt = x.toInt + k.toInt / 2 := by rw [ti_add (by rw [hd]; omega) (by rw [hd]; omega), hd]
  have hcl := nat_clamp h0
  have hca : (x + k / 2).toNatClampNeg = x.toInt.toNat + k.toNatClampNeg / 2 := by
    have q := nat_clamp (x := x + k / 2) (by rw [ea]; omega)
    rw [ea] at q
    omega
  rw [hca]
  obtain ⟨b, hb2, e⟩ := rb_byte h (j := x.toInt.toNat + k.toNatClampNeg / 2) (by omega)
  unfold moAt
  rw [e]
  by_cases c : k.toNatClampNeg % 2 = 0
  · rw [if_pos c, show k - k / 2 * 2 = 0 from Int32.toInt_inj.mp (by rw [hr, z0]; omega)]
    exact mo_even b hb2
  · rw [if_neg c, show k - k / 2 * 2 = 1 from Int32.toInt_inj.mp (by rw [hr, z1]; omega)]
    exact mo_odd b hb2
theorem wsum_congr {f g : Nat → Int32} : ∀ n : Nat, (∀ j : Nat, j < n → f j = g j) → wsum f n = wsum g n := by
  intro n
  induction n with
  | zero => intro _; rfl
  | succ n ih =>
    intro h
    show wsum f n + (pX8_wants (f n)).toInt = wsum g n + (pX8_wants (g n)).toInt
    rw [ih (fun j hj => h j (by omega)), h n (by omega)]
/-- the reference's first loop, run to its end -/
theorem ta153_run {mem qm : Nat → Int32} (h : RB 1024 mem qm) {v qn : Nat → Int32} {k4 k5 : Int32} (hx : 0 ≤ k4.toInt) (ht : 0 ≤ (v 8).toInt ∧ (v 8).toInt ≤ 8) (h5 : k5.toInt = ((v 8).toInt + 1) / 2) (hb : k4.toInt + k5.toInt ≤ 1024) : ∀ (n_ : Nat) (qd : Nat → Int32) (k6 k7 : Int32), 0 ≤ k7.toInt → k7.toInt ≤ (v 8).toInt → ((v 8).toInt - k7.toInt).toNat < n_ → (∀ j : Nat, 0 ≤ (qd j).toInt) → (∀ j : Nat, (j : Int) < k7.toInt → qd j = moAt qm k4 j) → k6.toInt = k4.toInt + k5.toInt + wsum qd k7.toInt.toNat →
    ∃ q : Nat → Int32, (∀ j : Nat, q j = if (j : Int) < (v 8).toInt then moAt qm k4 j else qd j) ∧ (∀ j : Nat, 0 ≤ (q j).toInt) ∧ pX8_takeApart_lp153 qm n_ v qd qn k4 k5 k6 k7 = if k4.toInt + k5.toInt + wsum q (v 8).toInt.toNat ≤ 1024 then pX8_takeApart_lp232 qm ((Int32.toInt (v 8) - Int32.toInt 0).toNat + 1) v q qn (k4 + k5) 0 else (1, v, q, qn) := by
  intro n_
  have z : Int32.toInt 1024 = 1024 := rfl
  induction n_ with
  | zero => intro qd k6 k7 _ _ h; exact absurd h (Nat.not_lt_zero _)
  | succ n_ ih =>
    intro qd k6 k7 h0 h1 h2 hq hm h6
    rw [pX8_takeApart_lp153]
    by_cases c : v 8 ≤ k7
    · rw [if_pos c]
      rw [Int32.le_iff_toInt_le] at c
      have ek : k7.toInt = (v 8).toInt := by omega
      rw [ek] at h6 hm
      refine ⟨qd, fun j => ?_, hq, ?_⟩
      · by_cases r : (j : Int) < (v 8).toInt
        · rw [if_pos r]; exact hm j r
        · rw [if_neg r]
      · by_cases c6 : k6 ≤ 1024
        · rw [if_pos c6]
          rw [Int32.le_iff_toInt_le] at c6
          rw [if_pos (by omega)]
        · rw [if_neg c6]
          rw [Int32.le_iff_toInt_le] at c6
          rw [if_neg (by omega)]
    · rw [if_neg c, mLet_eq]
      have ed := i32_add1 c
      have g3 := ms_up c h2
      rw [Int32.le_iff_toInt_le] at c
      have hcl := nat_clamp h0
      have em := ref_mo h (x := k4) (k := k7) hx h0 (by omega)
      have hs := wsum_step (qd := qd) (k := k7) (X := ((qm (k4 + k7 / 2).toNatClampNeg) >>> (((4 : Int32) * (k7 - k7 / 2 * 2)) &&& 31)) &&& 15) rfl h0 (by omega)
      have hw := wants_bd (nn_upd (f := qd) (k := k7.toNatClampNeg) (x := ((qm (k4 + k7 / 2).toNatClampNeg) >>> (((4 : Int32) * (k7 - k7 / 2 * 2)) &&& 31)) &&& 15) hq (and15 _) k7.toNatClampNeg)
      have hwb := wsum_bd hq k7.toInt.toNat
      obtain ⟨q, q1, q2, q3⟩ := ih (upd qd k7.toNatClampNeg (((qm (k4 + k7 / 2).toNatClampNeg) >>> (((4 : Int32) * (k7 - k7 / 2 * 2)) &&& 31)) &&& 15)) (k6 + pX8_wants ((upd qd k7.toNatClampNeg (((qm (k4 + k7 / 2).toNatClampNeg) >>> (((4 : Int32) * (k7 - k7 / 2 * 2)) &&& 31)) &&& 15)) k7.toNatClampNeg)) (k7 + 1) (by rw [ed]; omega) (by rw [ed]; omega) g3 (nn_upd hq (and15 _)) (fun j hj => by
          rw [ed] at hj
          rw [upd_at]
          by_cases r : j = k7.toNatClampNeg
          · rw [if_pos r, em, r]
          · rw [if_neg r]; exact hm j (by omega)) (by
          rw [ti_add (by omega) (by omega), hs, h6]
          omega)
      refine ⟨q, fun j => ?_, q2, q3⟩
      rw [q1 j]
      by_cases r : (j : Int) < (v 8).toInt
      · rw [if_pos r, if_pos r]
      · rw [if_neg r, if_neg r, upd_at, if_neg (by omega)]
