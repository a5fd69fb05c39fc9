theorem fit_eq {v qd q t f : Nat → Int32} {e s : Int32} (hm : 0 ≤ (v 8).toInt ∧ (v 8).toInt ≤ 8) (h8 : t 2 = v 8) (hf : ∀ j : Nat, (j : Int) < (v 8).toInt → f j = qd j) (hrel : ∀ k : Int32, 0 ≤ k.toInt → k.toInt < (v 8).toInt → (¬ k < t 1 ↔ k = s)) : ∀ (n_ : Nat) (k : Int32), 0 ≤ k.toInt → ((v 8).toInt - k.toInt).toNat < n_ → (pX1_modesAreFit_lp2 t f n_ k = 0 ∧ pX8_takeApart_lp349 n_ v qd q e s k = (2, v, qd, q)) ∨ (pX1_modesAreFit_lp2 t f n_ k = 1 ∧ pX8_takeApart_lp349 n_ v qd q e s k = (0, upd v 9 e, qd, q)) := by
  intro n_
  induction n_ with
  | zero => intro k _ h; exact absurd h (Nat.not_lt_zero _)
  | succ n_ ih =>
    intro k h0 h1
    rw [pX1_modesAreFit_lp2, pX8_takeApart_lp349, h8]
    by_cases c : v 8 ≤ k
    · rw [if_pos c, if_pos c]; exact Or.inr ⟨rfl, rfl⟩
    · rw [if_neg c, if_neg c]
      have ed := i32_add1 c
      have g3 := ms_up c h1
      rw [Int32.le_iff_toInt_le] at c
      have hcl := nat_clamp h0
      have em : pX1_modeOf f k = qd k.toNatClampNeg := by rw [modeOf_in h0 (by omega), hf _ (by omega)]
      have hr := hrel k h0 (by omega)
      have hn := ih (k + 1) (by rw [ed]; omega) g3
      rw [em]
      by_cases c1 : k < t 1
      · have hs : ¬ k = s := fun q => (hr.mpr q) c1
        rw [if_pos c1]
        by_cases c4 : qd k.toNatClampNeg = 4
        · rw [if_pos c4, if_pos c4]; exact Or.inl ⟨rfl, rfl⟩
        rw [if_neg c4, if_neg c4]
        by_cases c5 : qd k.toNatClampNeg = 12
        · rw [if_pos c5, if_pos c5]; exact Or.inl ⟨rfl, rfl⟩
        rw [if_neg c5, if_neg c5, if_neg hs]; exact hn
      · have hs : k = s := hr.mp c1
        rw [if_neg c1]
        by_cases c4 : qd k.toNatClampNeg = 4
        · rw [if_pos c4, if_pos c4]; exact Or.inl ⟨rfl, rfl⟩
        rw [if_neg c4, if_neg c4]
        by_cases c5 : qd k.toNatClampNeg = 12
        · rw [if_pos c5, if_pos c5]; exact Or.inl ⟨rfl, rfl⟩
        rw [if_neg c5, if_neg c5, if_pos hs]
        by_cases c6 : qd k.toNatClampNeg < 1
        · rw [if_pos c6, if_pos c6]; exact hn
        rw [if_neg c6, if_neg c6]
        by_cases c7 : 3 < qd k.toNatClampNeg
        · rw [if_pos c7, if_pos c7]; exact hn
        rw [if_neg c7, if_neg c7]; exact Or.inl ⟨rfl, rfl⟩
/-- what reading a row leaves on both sides: the fault, and without one the row -/
def dRel (x : Int32) (c : Int32 × (Nat → Int32) × (Nat → Int32) × (Nat → Int32)) (r : Int32 × (Nat → Int32) × (Nat → Int32) × (Nat → Int32)) : Prop :=
  c.1 = r.1 ∧ (c.1 = 0 → c.2.1 0 = r.2.1 7 ∧ c.2.1 2 = r.2.1 8 ∧ c.2.1 1 = pX6_loadsOf (r.2.1 7) ∧ c.2.1 3 = r.2.1 9 - x ∧ (∀ j : Nat, (j : Int) < (r.2.1 8).toInt → c.2.2.1 j = r.2.2.1 j ∧ c.2.2.2 j = r.2.2.2 j ∧ 0 ≤ (r.2.2.1 j).toInt ∧ (r.2.2.1 j).toInt ≤ 15 ∧ ¬ r.2.2.1 j = 4 ∧ ¬ r.2.2.1 j = 12))
theorem fit_modes {t f : Nat → Int32} (hm : (t 2).toInt ≤ 8) : ∀ (n_ : Nat) (k : Int32), 0 ≤ k.toInt → ((t 2).toInt - k.toInt).toNat < n_ → pX1_modesAreFit_lp2 t f n_ k = 1 → ∀ j : Nat, k.toInt ≤ j → (j : Int) < (t 2).toInt → ¬ f j = 4 ∧ ¬ f j = 12 := by
  intro n_
  induction n_ with
  | zero => intro k _ h; exact absurd h (Nat.not_lt_zero _)
  | succ n_ ih =>
    intro k h0 h1 h2 j hj hj2
    rw [pX1_modesAreFit_lp2] at h2
    by_cases c : t 2 ≤ k
    · rw [Int32.le_iff_toInt_le] at c; omega
    · rw [if_neg c] at h2
      have ed := i32_add1 c
      have g3 := ms_up c h1
      rw [Int32.le_iff_toInt_le] at c
      have hcl := nat_clamp h0
      rw [modeOf_in h0 (by omega)] at h2
      have hn := ih (k + 1) (by rw [ed]; omega) g3
      have z01 : ¬ (0 : Int32) = 1 := by decide
      have key : (¬ f k.toNatClampNeg = 4 ∧ ¬ f k.toNatClampNeg = 12) ∧ pX1_modesAreFit_lp2 t f n_ (k + 1) = 1 := by
        by_cases c1 : k < t 1
        · rw [if_pos c1] at h2
          by_cases c4 : f k.toNatClampNeg = 4
          · rw [if_pos c4] at h2; exact absurd h2 z01
          rw [if_neg c4] at h2
          by_cases c5 : f k.toNatClampNeg = 12
          · rw [if_pos c5] at h2; exact absurd h2 z01
          rw [if_neg c5] at h2; exact ⟨⟨c4, c5⟩, h2⟩
        · rw [if_neg c1] at h2
          by_cases c4 : f k.toNatClampNeg = 4
          · rw [if_pos c4] at h2; exact absurd h2 z01
          rw [if_neg c4] at h2
          by_cases c5 : f k.toNatClampNeg = 12
          · rw [if_pos c5] at h2; exact absurd h2 z01
          rw [if_neg c5] at h2
          by_cases c6 : f k.toNatClampNeg < 1
          · rw [if_pos c6] at h2; exact ⟨⟨c4, c5⟩, h2⟩
          rw [if_neg c6] at h2
          by_cases c7 : 3 < f k.toNatClampNeg
          · rw [if_pos c7] at h2; exact ⟨⟨c4, c5⟩, h2⟩
          rw [if_neg c7] at h2; exact absurd h2 z01
      by_cases r : j = k.toNatClampNeg
      · rw [r]; exact key.1
      · exact hn key.2 j (by rw [ed]; omega) hj2
