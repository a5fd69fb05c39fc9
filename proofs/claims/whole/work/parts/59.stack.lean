theorem rem_pos {a b : Int32} (h1 : 0 < b.toInt) : (a - a / b * b).toInt = a.toInt.tmod b.toInt := by
  have q := Int.mul_tdiv_add_tmod a.toInt b.toInt
  have q2 := Int.tmod_lt_of_pos a.toInt h1
  have q3 := Int.lt_tmod_of_pos a.toInt h1
  have q4 := Int32.toInt_lt b
  have q5 := Int32.le_toInt b
  rw [Int32.toInt_sub, Int32.toInt_mul, Int32.toInt_div, Int.sub_bmod_bmod, Int.sub_bmod, Int.bmod_mul_bmod, ← Int.sub_bmod, Int.mul_comm]
  have e : a.toInt - b.toInt * a.toInt.tdiv b.toInt = a.toInt.tmod b.toInt := by omega
  rw [e, Int.bmod_eq_of_le (by omega) (by omega)]
theorem rem2 {a b : Int32} (h0 : 0 ≤ a.toInt) (h1 : 0 < b.toInt) (h2 : a.toInt < 2 * b.toInt) : (a - a / b * b).toInt = if a.toInt < b.toInt then a.toInt else a.toInt - b.toInt := by
  rw [rem_pos h1, Int.tmod_eq_emod_of_nonneg h0]
  by_cases c : a.toInt < b.toInt
  · rw [if_pos c, Int.emod_eq_of_lt h0 c]
  · rw [if_neg c]
    exact ((Int.ediv_emod_unique (a := a.toInt) (r := a.toInt - b.toInt) (q := 1) h1).mpr ⟨by omega, by omega, by omega⟩).2
theorem tmod_le {a b : Int} (h : a ≤ 0) : a.tmod b ≤ 0 := by
  have q := Int.tmod_nonneg b (show 0 ≤ -a by omega)
  rw [Int.neg_tmod] at q
  omega
theorem xor_sign {a b : Int32} (h1 : 0 < b.toInt) : 0 ≤ (a ^^^ b) ↔ 0 ≤ a.toInt := by
  have z0 : Int32.toInt 0 = 0 := rfl
  have e := neg_bit (a ^^^ b)
  rw [b_xor, neg_bit, neg_bit, decide_eq_false (show ¬ b.toInt < 0 by omega), Bool.xor_false] at e
  rw [Int32.le_iff_toInt_le, z0]
  by_cases c : a.toInt < 0
  · rw [decide_eq_true c] at e
    have := of_decide_eq_true e.symm
    omega
  · rw [decide_eq_false c] at e
    have := of_decide_eq_false e.symm
    omega
theorem fm_eq {a b : Int32} (h1 : 0 < b.toInt) : pJ9_floorMod_7cf53 a b = (if 0 ≤ a - a / b * b then a - a / b * b else (a - a / b * b) + b) ∧ 0 ≤ (pJ9_floorMod_7cf53 a b).toInt ∧ (pJ9_floorMod_7cf53 a b).toInt < b.toInt := by
  have z0 : Int32.toInt 0 = 0 := rfl
  have r := rem_pos (a := a) h1
  have q2 := Int.tmod_lt_of_pos a.toInt h1
  have q3 := Int.lt_tmod_of_pos a.toInt h1
  rw [pJ9_floorMod_7cf53]
  generalize a - a / b * b = d at r
  by_cases c : 0 ≤ (a ^^^ b)
  · have c' := (xor_sign h1).mp c
    have q := Int.tmod_nonneg b.toInt c'
    rw [if_pos c, if_pos (show 0 ≤ d by rw [Int32.le_iff_toInt_le]; omega)]
    exact ⟨rfl, by omega, by omega⟩
  · have c' : ¬ 0 ≤ a.toInt := fun q => c ((xor_sign h1).mpr q)
    have q := tmod_le (b := b.toInt) (show a.toInt ≤ 0 by omega)
    rw [if_neg c]
    by_cases d0 : d = 0
    · have e0 : d.toInt = 0 := by rw [d0]; rfl
      rw [if_pos d0, if_pos (show 0 ≤ d by rw [Int32.le_iff_toInt_le]; omega)]
      exact ⟨rfl, by omega, by omega⟩
    · have e0 : ¬ d.toInt = 0 := fun q => d0 (Int32.toInt_inj.mp (q.trans z0.symm))
      have hb := Int32.toInt_lt b
      have ea : (d + b).toInt = d.toInt + b.toInt := ti_add (by omega) (by omega)
      rw [if_neg d0, if_neg (show ¬ 0 ≤ d by rw [Int32.le_iff_toInt_le]; omega)]
      exact ⟨rfl, by omega, by omega⟩
theorem setCell_in {f : Nat → Int32} {k x : Int32} (h0 : 0 ≤ k.toInt) (h1 : k.toInt < 40) : pX3_setCell f k x = upd f k.toNatClampNeg x := by
  have z0 : Int32.toInt 0 = 0 := rfl
  have z8 : Int32.toInt 40 = 40 := rfl
  rw [pX3_setCell, if_neg (by rw [Int32.lt_iff_toInt_lt]; omega), if_neg (by rw [Int32.le_iff_toInt_le]; omega)]
def sr (d m i : Nat) : Nat := if d ≤ i then i - d else i + m - d
theorem turn30 {x1 k3 : Int32} (k4 : Int32) (f : Nat → Int32) (h0 : 0 ≤ k3.toInt) (h1 : k3.toInt + x1.toInt ≤ 40) : ∀ (n_ : Nat) (g : Nat → Int32) (k5 : Int32), 0 ≤ k5.toInt → (x1.toInt - k5.toInt).toNat < n_ → (∀ i : Nat, (i : Int) < k5.toInt → (i : Int) < x1.toInt → g i = f (k3.toInt.toNat + i)) → ∃ G : Nat → Int32, pX3_turnUpper_lp30 x1 n_ f g k3 k4 k5 = pX3_turnUpper_lp70 x1 ((Int32.toInt x1 - Int32.toInt 0).toNat + 1) f G k3 k4 0 ∧ ∀ i : Nat, (i : Int) < x1.toInt → G i = f (k3.toInt.toNat + i) := by
  have z8 : Int32.toInt 40 = 40 := rfl
  intro n_
  induction n_ with
  | zero => intro g k5 _ h; exact absurd h (Nat.not_lt_zero _)
  | succ n_ ih =>
    intro g k5 h3 h4 h5
    rw [pX3_turnUpper_lp30]
    by_cases c : x1 ≤ k5
    · rw [if_pos c]
      rw [Int32.le_iff_toInt_le] at c
      exact ⟨g, rfl, fun i hi => h5 i (by omega) hi⟩
    · have ed := i32_add1 c
      have g3 := ms_up c h4
      rw [if_neg c]
      rw [Int32.le_iff_toInt_le] at c
      rw [if_neg (show ¬ 40 ≤ k5 by rw [Int32.le_iff_toInt_le]; omega)]
      have ea : (k3 + k5).toInt = k3.toInt + k5.toInt := ti_add (by omega) (by omega)
      have hc := nat_clamp (x := k3 + k5) (by omega)
      have hk := nat_clamp h3
      refine ih _ (k5 + 1) (by rw [ed]; omega) g3 (fun i hi hx => ?_)
      rw [ed] at hi
      by_cases q : (i : Int) = k5.toInt
      · rw [upd_at, if_pos (by omega), cell_in (by omega) (by omega)]
        exact congrArg f (by omega)
      · rw [upd_at, if_neg (by omega)]
        exact h5 i (by omega) hx
theorem turn70 {x1 k3 k4 : Int32} (G : Nat → Int32) (h0 : 0 ≤ k3.toInt) (h1 : k3.toInt + x1.toInt ≤ 40) (hd : 0 ≤ k4.toInt ∧ k4.toInt < x1.toInt) : ∀ (n_ : Nat) (f : Nat → Int32) (k5 : Int32), 0 ≤ k5.toInt → (x1.toInt - k5.toInt).toNat < n_ → ∀ j : Nat, (pX3_turnUpper_lp70 x1 n_ f G k3 k4 k5).1 j = if k3.toInt ≤ j ∧ (j : Int) < k3.toInt + x1.toInt ∧ k5.toInt ≤ (sr k4.toInt.toNat x1.toInt.toNat (j - k3.toInt.toNat) : Nat) then G (sr k4.toInt.toNat x1.toInt.toNat (j - k3.toInt.toNat)) else f j := by
  have z8 : Int32.toInt 40 = 40 := rfl
  intro n_
  induction n_ with
  | zero => intro f k5 _ h; exact absurd h (Nat.not_lt_zero _)
  | succ n_ ih =>
    intro f k5 h3 h4 j
    rw [pX3_turnUpper_lp70]
    by_cases c : x1 ≤ k5
    · rw [if_pos c]
      rw [Int32.le_iff_toInt_le] at c
      refine (if_neg fun q => ?_).symm
      obtain ⟨q1, q2, q3⟩ := q
      rw [sr] at q3
      by_cases r : k4.toInt.toNat ≤ j - k3.toInt.toNat
      · rw [if_pos r] at q3; omega
      · rw [if_neg r] at q3; omega
    · have ed := i32_add1 c
      have g3 := ms_up c h4
      rw [if_neg c]
      rw [Int32.le_iff_toInt_le] at c
      rw [if_neg (show ¬ 40 ≤ k5 by rw [Int32.le_iff_toInt_le]; omega), mLet_eq]
      have ea : (k5 + k4).toInt = k5.toInt + k4.toInt := ti_add (by omega) (by omega)
      have er := rem2 (a := k5 + k4) (b := x1) (by omega) (by omega) (by omega)
      generalize (k5 + k4) - (k5 + k4) / x1 * x1 = r at er
      have hr : 0 ≤ r.toInt ∧ r.toInt < x1.toInt := by
        by_cases u : (k5 + k4).toInt < x1.toInt
        · rw [if_pos u] at er; omega
        · rw [if_neg u] at er; omega
      have eb : (k3 + r).toInt = k3.toInt + r.toInt := ti_add (by omega) (by omega)
      have hc := nat_clamp (x := k3 + r) (by omega)
      have hk := nat_clamp h3
      rw [ih _ (k5 + 1) (by rw [ed]; omega) g3 j, ed, setCell_in (by omega) (by omega)]
      have key : k3.toInt ≤ j ∧ (j : Int) < k3.toInt + x1.toInt → ((sr k4.toInt.toNat x1.toInt.toNat (j - k3.toInt.toNat) : Nat) = k5.toInt.toNat ↔ (j : Int) = (k3 + r).toInt) := by
        intro q
        rw [sr]
        by_cases u : (k5 + k4).toInt < x1.toInt
        · rw [if_pos u] at er
          by_cases w : k4.toInt.toNat ≤ j - k3.toInt.toNat
          · rw [if_pos w]; omega
          · rw [if_neg w]; omega
        · rw [if_neg u] at er
          by_cases w : k4.toInt.toNat ≤ j - k3.toInt.toNat
          · rw [if_pos w]; omega
          · rw [if_neg w]; omega
      generalize sr k4.toInt.toNat x1.toInt.toNat (j - k3.toInt.toNat) = s at key
      by_cases w : k3.toInt ≤ j ∧ (j : Int) < k3.toInt + x1.toInt
      · have key := key w
        by_cases y : s = k5.toInt.toNat
        · have hj := key.mp y
          rw [if_neg (by omega), if_pos ⟨w.1, w.2, by omega⟩, upd_at, if_pos (by omega)]
          exact congrArg G (by omega)
        · have hj : ¬ (j : Int) = (k3 + r).toInt := fun q => y (key.mpr q)
          by_cases y2 : k5.toInt ≤ (s : Int)
          · rw [if_pos ⟨w.1, w.2, by omega⟩, if_pos ⟨w.1, w.2, y2⟩]
          · rw [if_neg (by omega), if_neg (by omega), upd_at, if_neg (by omega)]
      · rw [if_neg (by omega), if_neg (by omega), upd_at, if_neg (by omega)]
theorem turn91 {x1 k4 : Int32} (qt : Nat → Int32) (h0 : 0 ≤ k4.toInt) (h1 : k4.toInt + x1.toInt ≤ 40) : ∀ (n_ : Nat) (qs : Nat → Int32) (k5 : Int32), 0 ≤ k5.toInt → (x1.toInt - k5.toInt).toNat < n_ → ∃ w : Nat → Int32, pX8_turns_lp91 x1 n_ qs qt k4 k5 = (0, w, qt) ∧ ∀ j : Nat, w j = if k4.toInt + k5.toInt ≤ j ∧ (j : Int) < k4.toInt + x1.toInt then qt (j - k4.toInt.toNat) else qs j := by
  intro n_
  induction n_ with
  | zero => intro qs k5 _ h; exact absurd h (Nat.not_lt_zero _)
  | succ n_ ih =>
    intro qs k5 h3 h4
    rw [pX8_turns_lp91]
    by_cases c : x1 ≤ k5
    · rw [if_pos c]
      rw [Int32.le_iff_toInt_le] at c
      exact ⟨qs, rfl, fun j => by rw [if_neg (by omega)]⟩
    · have ed := i32_add1 c
      have g3 := ms_up c h4
      rw [if_neg c]
      rw [Int32.le_iff_toInt_le] at c
      have ea : (k4 + k5).toInt = k4.toInt + k5.toInt := ti_add (by omega) (by omega)
      have hc := nat_clamp (x := k4 + k5) (by omega)
      have hk := nat_clamp h3
      obtain ⟨w, q1, q2⟩ := ih (upd qs (k4 + k5).toNatClampNeg (qt k5.toNatClampNeg)) (k5 + 1) (by rw [ed]; omega) g3
      refine ⟨w, q1, fun j => ?_⟩
      rw [q2 j, ed]
      by_cases r : k4.toInt + k5.toInt ≤ j ∧ (j : Int) < k4.toInt + x1.toInt
      · rw [if_pos r]
        by_cases q : (j : Int) = k4.toInt + k5.toInt
        · rw [if_neg (by omega), upd_at, if_pos (by omega)]
          exact congrArg qt (by omega)
        · rw [if_pos (by omega)]
      · rw [if_neg r, if_neg (by omega), upd_at, if_neg (by omega)]
theorem turn47 {x1 k3 k4 : Int32} (qs : Nat → Int32) (h0 : 0 ≤ k4.toInt) (h1 : k4.toInt + x1.toInt ≤ 40) (hd : 0 ≤ k3.toInt ∧ k3.toInt < x1.toInt) : ∀ (n_ : Nat) (qt : Nat → Int32) (k5 : Int32), 0 ≤ k5.toInt → (x1.toInt - k5.toInt).toNat < n_ → (∀ i : Nat, x1.toInt - 1 - k5.toInt < i → (i : Int) < x1.toInt → qt i = qs (k4.toInt.toNat + sr k3.toInt.toNat x1.toInt.toNat i)) → ∃ T : Nat → Int32, pX8_turns_lp47 x1 n_ qs qt k3 k4 k5 = pX8_turns_lp91 x1 ((Int32.toInt x1 - Int32.toInt 0).toNat + 1) qs T k4 0 ∧ ∀ i : Nat, (i : Int) < x1.toInt → T i = qs (k4.toInt.toNat + sr k3.toInt.toNat x1.toInt.toNat i) := by
  have z1 : Int32.toInt 1 = 1 := rfl
  intro n_
  induction n_ with
  | zero => intro qt k5 _ h; exact absurd h (Nat.not_lt_zero _)
  | succ n_ ih =>
    intro qt k5 h3 h4 h5
    rw [pX8_turns_lp47]
    by_cases c : x1 ≤ k5
    · rw [if_pos c]
      rw [Int32.le_iff_toInt_le] at c
      exact ⟨qt, rfl, fun i hi => h5 i (by omega) hi⟩
    · have ed := i32_add1 c
      have g3 := ms_up c h4
      rw [if_neg c]
      rw [Int32.le_iff_toInt_le] at c
      have ea : (k5 + k3).toInt = k5.toInt + k3.toInt := ti_add (by omega) (by omega)
      have er := rem2 (a := k5 + k3) (b := x1) (by omega) (by omega) (by omega)
      generalize (k5 + k3) - (k5 + k3) / x1 * x1 = r at er
      have hr : 0 ≤ r.toInt ∧ r.toInt < x1.toInt := by
        by_cases u : (k5 + k3).toInt < x1.toInt
        · rw [if_pos u] at er; omega
        · rw [if_neg u] at er; omega
      have e1 : (x1 - 1).toInt = x1.toInt - 1 := by rw [ti_sub (by omega) (by omega), z1]
      have e2 : (x1 - 1 - k5).toInt = x1.toInt - 1 - k5.toInt := by rw [ti_sub (by omega) (by omega), e1]
      have e3 : (k4 + x1).toInt = k4.toInt + x1.toInt := ti_add (by omega) (by omega)
      have e4 : (k4 + x1 - 1).toInt = k4.toInt + x1.toInt - 1 := by rw [ti_sub (by omega) (by omega), e3, z1]
      have e5 : (k4 + x1 - 1 - r).toInt = k4.toInt + x1.toInt - 1 - r.toInt := by rw [ti_sub (by omega) (by omega), e4]
      have hc := nat_clamp (x := x1 - 1 - k5) (by omega)
      have hc2 := nat_clamp (x := k4 + x1 - 1 - r) (by omega)
      refine ih _ (k5 + 1) (by rw [ed]; omega) g3 (fun i hi hx => ?_)
      rw [ed] at hi
      by_cases q : (i : Int) = x1.toInt - 1 - k5.toInt
      · rw [upd_at, if_pos (by omega)]
        refine congrArg qs ?_
        rw [sr]
        by_cases u : (k5 + k3).toInt < x1.toInt
        · rw [if_pos u] at er
          rw [if_pos (by omega)]; omega
        · rw [if_neg u] at er
          rw [if_neg (by omega)]; omega
      · rw [upd_at, if_neg (by omega)]
        exact h5 i (by omega) hx
theorem turn_eq {pf qs : Nat → Int32} (pg : Nat → Int32) {v : Nat → Int32} (qt : Nat → Int32) {x1 x2 : Int32} (hv : Tp v) (h0 : 0 < x1.toInt) (h1 : x1.toInt ≤ (v 0).toInt) (hs : ∀ j : Nat, (j : Int) < (v 0).toInt → pf j = qs j) : ∃ w z : Nat → Int32, pX8_turns v qs qt x1 x2 = (0, w, z) ∧ ∀ j : Nat, (j : Int) < (v 0).toInt → (pX3_turnUpper pf pg (v 0) x1 x2).1 j = w j := by
  have z0 : Int32.toInt 0 = 0 := rfl
  have hv1 := hv.1
  have hv2 := hv.2
  obtain ⟨e1, e2, e3⟩ := fm_eq (a := x2) h0
  have eb : (v 0 - x1).toInt = (v 0).toInt - x1.toInt := ti_sub (by omega) (by omega)
  rw [pX8_turns, if_neg (show ¬ x1 < 0 by rw [Int32.lt_iff_toInt_lt]; omega), if_pos (show x1 ≤ v 0 by rw [Int32.le_iff_toInt_le]; omega), if_neg (show ¬ x1 ≤ 0 by rw [Int32.le_iff_toInt_le]; omega)]
  have er : (if 0 ≤ (x2 - x2 / x1 * x1) then (pX8_turns_lp47 x1 ((Int32.toInt x1 - Int32.toInt 0).toNat + 1) qs qt (x2 - x2 / x1 * x1) ((v 0) - x1) 0) else (pX8_turns_lp47 x1 ((Int32.toInt x1 - Int32.toInt 0).toNat + 1) qs qt ((x2 - x2 / x1 * x1) + x1) ((v 0) - x1) 0)) = pX8_turns_lp47 x1 ((Int32.toInt x1 - Int32.toInt 0).toNat + 1) qs qt (pJ9_floorMod_7cf53 x2 x1) ((v 0) - x1) 0 := by
    rw [e1]
    by_cases c : 0 ≤ (x2 - x2 / x1 * x1)
    · rw [if_pos c, if_pos c]
    · rw [if_neg c, if_neg c]
  rw [er, pX3_turnUpper, if_neg (show ¬ x1 ≤ 0 by rw [Int32.le_iff_toInt_le]; omega), if_pos (show x1 ≤ v 0 by rw [Int32.le_iff_toInt_le]; omega)]
  generalize pJ9_floorMod_7cf53 x2 x1 = d at e2 e3
  obtain ⟨G, q1, q2⟩ := turn30 (x1 := x1) (k3 := v 0 - x1) d pf (by omega) (by omega) ((Int32.toInt x1 - Int32.toInt 0).toNat + 1) pg 0 (by decide) (by omega) (fun i hi => by omega)
  obtain ⟨T, q3, q4⟩ := turn47 (x1 := x1) (k3 := d) (k4 := v 0 - x1) qs (by omega) (by omega) ⟨e2, e3⟩ ((Int32.toInt x1 - Int32.toInt 0).toNat + 1) qt 0 (by decide) (by omega) (fun i hi hx => by omega)
  obtain ⟨w, q5, q6⟩ := turn91 (x1 := x1) (k4 := v 0 - x1) T (by omega) (by omega) ((Int32.toInt x1 - Int32.toInt 0).toNat + 1) qs 0 (by decide) (by omega)
  have q7 := turn70 (x1 := x1) (k3 := v 0 - x1) (k4 := d) G (by omega) (by omega) ⟨e2, e3⟩ ((Int32.toInt x1 - Int32.toInt 0).toNat + 1) pf 0 (by decide) (by omega)
  refine ⟨w, T, by rw [q3, q5], fun j hj => ?_⟩
  rw [q1, q7 j, q6 j, z0]
  by_cases r : (v 0 - x1).toInt ≤ j
  · have hsr : sr d.toInt.toNat x1.toInt.toNat (j - (v 0 - x1).toInt.toNat) < x1.toInt.toNat := by
      rw [sr]
      by_cases u : d.toInt.toNat ≤ j - (v 0 - x1).toInt.toNat
      · rw [if_pos u]; omega
      · rw [if_neg u]; omega
    rw [if_pos ⟨r, by omega, by omega⟩, if_pos (by omega), q4 _ (by omega)]
    generalize sr d.toInt.toNat x1.toInt.toNat (j - (v 0 - x1).toInt.toNat) = s at hsr
    rw [q2 s (by omega), hs _ (by omega)]
  · rw [if_neg (by omega), if_neg (by omega), hs j hj]
theorem rep_lp {x1 k2 : Int32} {v : Nat → Int32} (qt : Nat → Int32) (hv : Tp v) (h0 : 0 ≤ x1.toInt) (h1 : x1.toInt ≤ (v 0).toInt) (h2 : (v 0).toInt + x1.toInt ≤ 40) (hk : k2 = v 0 - x1) : ∀ (n_ : Nat) (f qs : Nat → Int32) (n k3 : Int32), 0 ≤ k3.toInt → k3.toInt ≤ x1.toInt → (x1.toInt - k3.toInt).toNat < n_ → n.toInt = (v 0).toInt + k3.toInt → (∀ j : Nat, (j : Int) < (v 0).toInt + k3.toInt → f j = qs j) → ∃ F Q : Nat → Int32, pX3_repeatUpper_lp9 x1 n_ f n k2 k3 = (F, v 0 + x1) ∧ pX8_onStack_lp173 x1 n_ v qs qt k3 = (0, upd v 0 (v 0 + x1), Q, qt) ∧ ∀ j : Nat, (j : Int) < (v 0).toInt + x1.toInt → F j = Q j := by
  have z1 : Int32.toInt 1 = 1 := rfl
  have z40 : Int32.toInt 40 = 40 := rfl
  have hv1 := hv.1
  have eb : (v 0 - x1).toInt = (v 0).toInt - x1.toInt := ti_sub (by omega) (by omega)
  have es : (v 0 + x1).toInt = (v 0).toInt + x1.toInt := ti_add (by omega) (by omega)
  intro n_
  induction n_ with
  | zero => intro f qs n k3 _ _ h; exact absurd h (Nat.not_lt_zero _)
  | succ n_ ih =>
    intro f qs n k3 h3 h3' h4 hn hf
    rw [pX3_repeatUpper_lp9, pX8_onStack_lp173]
    by_cases c : x1 ≤ k3
    · rw [if_pos c, if_pos c]
      rw [Int32.le_iff_toInt_le] at c
      have en : n = v 0 + x1 := Int32.toInt_inj.mp (by rw [es]; omega)
      exact ⟨f, qs, by rw [en], rfl, fun j hj => hf j (by omega)⟩
    · have ed := i32_add1 c
      have g3 := ms_up c h4
      rw [if_neg c, if_neg c, mLet_eq, pX3_add, pX3_isFull]
      rw [Int32.le_iff_toInt_le] at c
      have ea : (k2 + k3).toInt = (v 0).toInt - x1.toInt + k3.toInt := by rw [hk, ti_add (by omega) (by omega), eb]
      have ea' : (v 0 + k3).toInt = (v 0).toInt + k3.toInt := ti_add (by omega) (by omega)
      have en1 : (n + 1).toInt = n.toInt + 1 := by rw [ti_add (by omega) (by omega), z1]
      have hc := nat_clamp (x := k2 + k3) (by omega)
      have hc2 := nat_clamp (x := v 0 + k3) (by omega)
      have hc3 := nat_clamp (x := n) (by omega)
      rw [if_pos (show n < 40 by rw [Int32.lt_iff_toInt_lt]; omega), if_pos (show (0 : Int32) = 0 from rfl), setCell_in (by omega) (by omega), cell_in (by omega) (by omega)]
      refine ih _ _ (n + 1) (k3 + 1) (by rw [ed]; omega) (by rw [ed]; omega) g3 (by rw [ed]; omega) (fun j hj => ?_)
      rw [ed] at hj
      dsimp only
      rw [upd_at, upd_at, ← hk]
      by_cases q : (j : Int) = (v 0).toInt + k3.toInt
      · rw [if_pos (by omega), if_pos (by omega)]; exact hf _ (by omega)
      · rw [if_neg (by omega), if_neg (by omega)]; exact hf _ (by omega)
theorem do_82 {T0 : Int} {g mem pf qm qs v ld qo : Nat → Int32} (H : PH T0 g mem pf qm qs v) (t pg z key qt qi qy : Nat → Int32) (hL : LD 82 ld qo) (e : v 7 = 82) : pRel T0 g pf v 82 (pX2_perform g mem pf pg (v 0) t z key ld 82) (pX8_does v qm qs qo qt qi qy) := by
  have z0 : Int32.toInt 0 = 0 := rfl
  have z1 : Int32.toInt 1 = 1 := rfl
  have z2 : Int32.toInt 2 = 2 := rfl
  rw [pX8_does, e, if_neg (by decide), if_pos (by decide), if_neg (by decide), if_pos (by decide), if_neg (by decide), if_pos (by decide), if_neg (by decide), if_neg (by decide), mLet_eq, pX8_onStack, e, if_neg (by decide), if_neg (by decide), if_pos (by decide)]
  rw [pX2_perform, if_neg (by decide), if_neg (by decide), if_neg (by decide), if_neg (by decide), if_pos (by decide), mLet_eq, pX2_onPile, if_neg (by decide), if_neg (by decide), if_pos (by decide), mLet_eq, pX2_swapPile, pX3_hasUpper, if_neg (show ¬ (2 : Int32) < 0 by decide)]
  have hv1 := H.2.2.2.2.2.2.2.2.1.1
  have hv2 := H.2.2.2.2.2.2.2.2.1.2
  have hT := H.2.2.2.2.2.2.2.2.2.1
  have hs := H.2.2.2.2.2.2.2.2.2.2
  by_cases d : 2 ≤ v 0
  · have d' := d
    rw [Int32.le_iff_toInt_le] at d'
    have e1 : (v 0 - 1).toInt = (v 0).toInt - 1 := by rw [ti_sub (by omega) (by omega), z1]
    have e2 : (v 0 - 2).toInt = (v 0).toInt - 2 := by rw [ti_sub (by omega) (by omega), z2]
    have c1 := nat_clamp (x := v 0 - 1) (by omega)
    have c2 := nat_clamp (x := v 0 - 2) (by omega)
    rw [if_pos d, if_neg (Int32.not_lt.mpr d), if_neg (show ¬ (1 : Int32) = 0 by decide), pX3_swapUpper, mLet_eq, mLet_eq, setCell_in (by omega) (by omega), setCell_in (by omega) (by omega), cell_in (by omega) (by omega), cell_in (by omega) (by omega), hs _ (by omega), hs _ (by omega)]
    refine p_stk H (by decide) (fun _ _ => rfl) rfl H.2.2.2.2.2.2.2.2.1 (fun j hj => ?_) pg z key qt qi qy
    dsimp only
    rw [upd_at, upd_at, upd_at, upd_at, hs j (by omega)]
  · rw [if_neg d, if_pos (Int32.not_le.mp d), if_pos (show (0 : Int32) = 0 from rfl)]; exact p_flt H 4 (by decide) pg z key qt qi qy
theorem do_83 {T0 : Int} {g mem pf qm qs v ld qo : Nat → Int32} (H : PH T0 g mem pf qm qs v) (t pg z key qt qi qy : Nat → Int32) (hL : LD 83 ld qo) (e : v 7 = 83) : pRel T0 g pf v 83 (pX2_perform g mem pf pg (v 0) t z key ld 83) (pX8_does v qm qs qo qt qi qy) := by
  have l0 := (ld_at hL (k := 0) (by decide +kernel) (by decide +kernel) (by decide +kernel)).1
  have l1 := (ld_at hL (k := 1) (by decide +kernel) (by decide +kernel) (by decide +kernel)).1
  have z0 : Int32.toInt 0 = 0 := rfl
  have z40 : Int32.toInt 40 = 40 := rfl
  have hV := H.2.2.2.2.2.2.2.2.1
  have hv1 := H.2.2.2.2.2.2.2.2.1.1
  have hv2 := H.2.2.2.2.2.2.2.2.1.2
  have hT := H.2.2.2.2.2.2.2.2.2.1
  have hs := H.2.2.2.2.2.2.2.2.2.2
  rw [pX8_does, e, if_neg (by decide), if_pos (by decide), if_neg (by decide), if_pos (by decide), if_neg (by decide), if_pos (by decide), if_neg (by decide), if_neg (by decide), mLet_eq, pX8_onStack, e, if_neg (by decide), if_neg (by decide), if_neg (by decide), if_pos (by decide), mLet_eq]
  rw [pX2_perform, if_neg (by decide), if_neg (by decide), if_neg (by decide), if_neg (by decide), if_pos (by decide), mLet_eq, pX2_onPile, if_neg (by decide), if_neg (by decide), if_neg (by decide), if_pos (by decide), mLet_eq, pX2_turnPile, pX3_hasUpper, l0, l1]
  generalize qo (Int32.toNatClampNeg 0) = x
  generalize qo (Int32.toNatClampNeg 1) = y
  by_cases c : x < 0
  · rw [if_pos c, if_pos (show (0 : Int32) = 0 from rfl), pX8_turns, if_pos c]; exact p_flt H 4 (by decide) pg z key qt qi qy
  · rw [if_neg c]
    by_cases d : v 0 < x
    · rw [if_pos d, if_pos (show (0 : Int32) = 0 from rfl), pX8_turns, if_neg c, if_neg (Int32.not_le.mpr d)]; exact p_flt H 4 (by decide) pg z key qt qi qy
    · rw [if_neg d, if_neg (show ¬ (1 : Int32) = 0 by decide), mLet_eq]
      have c' := c
      have d' := d
      rw [Int32.lt_iff_toInt_lt] at c' d'
      by_cases f : x ≤ 0
      · rw [pX8_turns, if_neg c, if_pos (Int32.not_lt.mp d), if_pos f, pX3_turnUpper, if_pos f]
        exact p_stk H (by decide) (fun _ _ => rfl) rfl hV (fun j hj => hs j (by omega)) pg z key qt qi qy
      · rw [Int32.le_iff_toInt_le] at f
        obtain ⟨w, z', q1, q2⟩ := turn_eq pg qt (x1 := x) (x2 := y) hV (by omega) (by omega) (fun j hj => hs j (by omega))
        rw [q1]
        exact p_stk H (by decide) (fun _ _ => rfl) rfl hV q2 _ z key z' qi qy
theorem do_84 {T0 : Int} {g mem pf qm qs v ld qo : Nat → Int32} (H : PH T0 g mem pf qm qs v) (t pg z key qt qi qy : Nat → Int32) (hL : LD 84 ld qo) (e : v 7 = 84) : pRel T0 g pf v 84 (pX2_perform g mem pf pg (v 0) t z key ld 84) (pX8_does v qm qs qo qt qi qy) := by
  have l0 := (ld_at hL (k := 0) (by decide +kernel) (by decide +kernel) (by decide +kernel)).1
  have z0 : Int32.toInt 0 = 0 := rfl
  have z40 : Int32.toInt 40 = 40 := rfl
  have hV := H.2.2.2.2.2.2.2.2.1
  have hv1 := H.2.2.2.2.2.2.2.2.1.1
  have hv2 := H.2.2.2.2.2.2.2.2.1.2
  have hT := H.2.2.2.2.2.2.2.2.2.1
  have hs := H.2.2.2.2.2.2.2.2.2.2
  rw [pX8_does, e, if_neg (by decide), if_pos (by decide), if_neg (by decide), if_pos (by decide), if_neg (by decide), if_pos (by decide), if_neg (by decide), if_neg (by decide), mLet_eq, pX8_onStack, e, if_neg (by decide), if_neg (by decide), if_neg (by decide), if_neg (by decide)]
  rw [pX2_perform, if_neg (by decide), if_neg (by decide), if_neg (by decide), if_neg (by decide), if_pos (by decide), mLet_eq, pX2_onPile, if_neg (by decide), if_neg (by decide), if_neg (by decide), if_neg (by decide), mLet_eq, pX2_repeatPile, pX3_hasUpper, l0]
  generalize qo (Int32.toNatClampNeg 0) = x
  by_cases c : x < 0
  · rw [if_pos c, if_pos c, if_pos (show (0 : Int32) = 0 from rfl)]; exact p_flt H 4 (by decide) pg z key qt qi qy
  · rw [if_neg c, if_neg c]
    by_cases d : v 0 < x
    · rw [if_pos d, if_pos (show (0 : Int32) = 0 from rfl), if_neg (Int32.not_le.mpr d)]; exact p_flt H 4 (by decide) pg z key qt qi qy
    · rw [if_neg d, if_neg (show ¬ (1 : Int32) = 0 by decide), if_pos (Int32.not_lt.mp d)]
      have c' := c
      have d' := d
      rw [Int32.lt_iff_toInt_lt] at c' d'
      have ea : (v 0 + x).toInt = (v 0).toInt + x.toInt := ti_add (by omega) (by omega)
      have eb : (40 - v 0).toInt = 40 - (v 0).toInt := by rw [ti_sub (by omega) (by omega), z40]
      by_cases f : v 0 + x ≤ 40
      · have f' := f
        rw [Int32.le_iff_toInt_le] at f'
        rw [if_pos f, if_pos (show x ≤ 40 - v 0 by rw [Int32.le_iff_toInt_le]; omega), mLet_eq, pX3_repeatUpper]
        obtain ⟨F, Q, q1, q2, q3⟩ := rep_lp (x1 := x) (k2 := v 0 - x) qt hV (by omega) (by omega) (by omega) rfl ((Int32.toInt x - Int32.toInt 0).toNat + 1) pf qs (v 0) 0 (by decide) (by omega) (by omega) (by omega) (fun j hj => hs j (by omega))
        rw [q1, q2]
        have e0 : upd v 0 (v 0 + x) 0 = v 0 + x := upd_same _ _ _
        refine p_stk H (by decide) (fun i hi => upd_ne v _ hi) e0.symm ?_ (fun j hj => q3 j (by rw [e0] at hj; omega)) pg z key qt qi qy
        rw [Tp, e0]; omega
      · have f' := f
        rw [Int32.le_iff_toInt_le] at f'
        rw [if_neg f, if_neg (show ¬ x ≤ 40 - v 0 by rw [Int32.le_iff_toInt_le]; omega)]; exact p_flt H 5 (by decide) pg z key qt qi qy
