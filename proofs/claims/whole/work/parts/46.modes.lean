/-! the modes of a row -/
def moAt (qm : Nat → Int32) (x : Int32) (j : Nat) : Int32 := if j % 2 = 0 then qm (x.toInt.toNat + j / 2) &&& 15 else qm (x.toInt.toNat + j / 2) >>> ((4 : Int32) &&& 31)
theorem mo_even : ∀ b, b < 256 → (nI b >>> (((4 : Int32) * 0) &&& 31)) &&& 15 = nI b &&& 15 := by decide +kernel
theorem mo_odd : ∀ b, b < 256 → (nI b >>> (((4 : Int32) * 1) &&& 31)) &&& 15 = nI b >>> ((4 : Int32) &&& 31) := by decide +kernel
theorem mo_bd : ∀ b, b < 256 → 0 ≤ (nI b &&& 15).toInt ∧ (nI b &&& 15).toInt ≤ 15 ∧ 0 ≤ (nI b >>> ((4 : Int32) &&& 31)).toInt ∧ (nI b >>> ((4 : Int32) &&& 31)).toInt ≤ 15 := by decide +kernel
theorem rb_byte {N : Nat} {mem qm : Nat → Int32} (h : RB N mem qm) {j : Nat} (hj : j < N) : ∃ b : Nat, b < 256 ∧ qm j = nI b := by
  obtain ⟨b, hb, e⟩ := pk_andE (mem j) (m := 255) 8 (by decide)
  exact ⟨b, by omega, by rw [h j hj, e]⟩
theorem moAt_bd {mem qm : Nat → Int32} (h : RB 1024 mem qm) {x : Int32} {j : Nat} (hj : x.toInt.toNat + j / 2 < 1024) : 0 ≤ (moAt qm x j).toInt ∧ (moAt qm x j).toInt ≤ 15 := by
  obtain ⟨b, hb, e⟩ := rb_byte h hj
  have q := mo_bd b hb
  unfold moAt
  rw [e]
  by_cases c : j % 2 = 0
  · rw [if_pos c]; exact ⟨q.1, q.2.1⟩
  · rw [if_neg c]; exact ⟨q.2.2.1, q.2.2.2⟩
theorem half_rem {k : Int32} (h0 : 0 ≤ k.toInt) : (k / 2).toInt = k.toInt / 2 ∧ (k - k / 2 * 2).toInt = k.toInt % 2 := by
  have z : Int32.toInt 2 = 2 := rfl
  exact ⟨ti_div h0 rfl (by decide), by have q := (ti_rem (a := k) (b := 2) h0 (by decide)).1; rw [q, z]⟩
theorem modes_lp {mem qm : Nat → Int32} (h : RB 1024 mem qm) {t : Nat → Int32} {x2 : Int32} (hx : 0 ≤ x2.toInt) (ht : 0 ≤ (t 2).toInt ∧ (t 2).toInt ≤ 8) (hb : x2.toInt + ((t 2).toInt + 1) / 2 ≤ 1024) : ∀ (n_ : Nat) (f : Nat → Int32) (k3 : Int32), 0 ≤ k3.toInt → ((t 2).toInt - k3.toInt).toNat < n_ → ∀ j : Nat, pX1_decodeModes_lp2 t mem x2 n_ f k3 j = if k3.toInt ≤ j ∧ (j : Int) < (t 2).toInt then moAt qm x2 j else f j := by
  intro n_
  have z8 : Int32.toInt 8 = 8 := rfl
  have z0 : Int32.toInt 0 = 0 := rfl
  induction n_ with
  | zero => intro f k3 _ h; exact absurd h (Nat.not_lt_zero _)
  | succ n_ ih =>
    intro f k3 h3 h4 j
    rw [pX1_decodeModes_lp2]
    by_cases c : t 2 ≤ k3
    · rw [if_pos c]
      rw [Int32.le_iff_toInt_le] at c
      rw [if_neg (by omega)]
    · rw [if_neg c]
      have ed := i32_add1 c
      have g3 := ms_up c h4
      rw [Int32.le_iff_toInt_le] at c
      have c8 : ¬ 8 ≤ k3 := by rw [Int32.le_iff_toInt_le]; omega
      obtain ⟨hd, hr⟩ := half_rem h3
      have ea : (x2 + k3 / 2).toInt = x2.toInt + k3.toInt / 2 := by rw [ti_add (by rw [hd]; omega) (by rw [hd]; omega), hd]
      have hcl := nat_clamp h3
      have hca : (x2 + k3 / 2).toNatClampNeg = x2.toInt.toNat + k3.toNatClampNeg / 2 := by
        have q := nat_clamp (x := x2 + k3 / 2) (by rw [ea]; omega)
        rw [ea] at q
        omega
      rw [if_neg c8, mLet_eq, byteAt_eq (by decide) h (by rw [ea]; omega) (by rw [ea]; omega), hca]
      have hg : 0 ≤ (k3 + 1).toInt := by rw [ed]; omega
      by_cases cr : (k3 - k3 / 2 * 2) = 0
      · rw [if_pos cr]
        have er := congrArg Int32.toInt cr
        rw [hr, z0] at er
        rw [ih _ (k3 + 1) hg g3 j, ed, upd_at]
        by_cases r : k3.toInt ≤ j ∧ (j : Int) < (t 2).toInt
        · rw [if_pos r]
          by_cases q : j = k3.toNatClampNeg
          · rw [if_neg (by omega), if_pos q, moAt, if_pos (by omega), q]
          · rw [if_pos (by omega)]
        · rw [if_neg r, if_neg (by omega), if_neg (by omega)]
      · rw [if_neg cr]
        have er : ¬ k3.toInt % 2 = 0 := fun q => cr (Int32.toInt_inj.mp (by rw [hr, z0]; exact q))
        rw [ih _ (k3 + 1) hg g3 j, ed, upd_at]
        by_cases r : k3.toInt ≤ j ∧ (j : Int) < (t 2).toInt
        · rw [if_pos r]
          by_cases q : j = k3.toNatClampNeg
          · rw [if_neg (by omega), if_pos q, moAt, if_neg (by omega), q]
          · rw [if_pos (by omega)]
        · rw [if_neg r, if_neg (by omega), if_neg (by omega)]
