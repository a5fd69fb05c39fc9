theorem modeOf_in {f : Nat → Int32} {k : Int32} (h0 : 0 ≤ k.toInt) (h1 : k.toInt < 8) : pX1_modeOf f k = f k.toNatClampNeg := by
  have z8 : Int32.toInt 8 = 8 := rfl
  have z0 : Int32.toInt 0 = 0 := rfl
  rw [pX1_modeOf, if_neg (by rw [Int32.lt_iff_toInt_lt]; omega), if_neg (by rw [Int32.le_iff_toInt_le]; omega)]
theorem numberOf_in {f : Nat → Int32} {k : Int32} (h0 : 0 ≤ k.toInt) (h1 : k.toInt < 8) : pX1_numberOf f k = f k.toNatClampNeg := by
  have z8 : Int32.toInt 8 = 8 := rfl
  have z0 : Int32.toInt 0 = 0 := rfl
  rw [pX1_numberOf, if_neg (by rw [Int32.lt_iff_toInt_lt]; omega), if_neg (by rw [Int32.le_iff_toInt_le]; omega)]
theorem wid_in {x : Int32} (h0 : 0 ≤ x.toInt) (h1 : x.toInt ≤ 15) : pX1_numberWidth x = pX8_wants x := by
  have e : x = nI x.toInt.toNat := Int32.toInt_inj.mp (by rw [nI_toInt (by omega)]; omega)
  rw [e]
  exact width_wants _ (by omega)
theorem nums_cls {mem qm t f qd : Nat → Int32} (h : RB 1024 mem qm) {base : Int} (hq : ∀ j : Nat, 0 ≤ (qd j).toInt) (hm : 0 ≤ (t 2).toInt ∧ (t 2).toInt ≤ 8) (hf : ∀ j : Nat, (j : Int) < (t 2).toInt → f j = qd j ∧ (qd j).toInt ≤ 15) (h0 : 0 ≤ base) (hb0 : base ≤ 1024) : ∀ (n_ : Nat) (g : Nat → Int32) (k3 k4 : Int32), 0 ≤ k4.toInt → k4.toInt ≤ (t 2).toInt → ((t 2).toInt - k4.toInt).toNat < n_ → k3.toInt = base + wsum qd k4.toInt.toNat → k3.toInt ≤ 1024 →
    ∃ (q : Nat → Int32) (e : Int32), pX1_decodeNumbers_lp5 t f mem n_ g k3 k4 = (e, q) ∧ (base + wsum qd (t 2).toInt.toNat ≤ 1024 → e.toInt = base + wsum qd (t 2).toInt.toNat ∧ (∀ j : Nat, q j = if k4.toInt ≤ j ∧ (j : Int) < (t 2).toInt then nvAt qm (Int32.ofInt (base + wsum qd j)) (qd j) else g j)) ∧ (¬ base + wsum qd (t 2).toInt.toNat ≤ 1024 → e = -1) := by
  intro n_
  have z8 : Int32.toInt 8 = 8 := rfl
  induction n_ with
  | zero => intro g k3 k4 _ _ h; exact absurd h (Nat.not_lt_zero _)
  | succ n_ ih =>
    intro g k3 k4 h1 h2 h3 h4 h5
    rw [pX1_decodeNumbers_lp5]
    by_cases c : t 2 ≤ k4
    · rw [if_pos c]
      rw [Int32.le_iff_toInt_le] at c
      have ek : k4.toInt = (t 2).toInt := by omega
      refine ⟨g, k3, rfl, fun _ => ⟨by rw [h4, ek], fun j => by rw [if_neg (by omega)]⟩, fun hh => ?_⟩
      rw [ek] at h4
      exact absurd (by omega) hh
    · rw [if_neg c]
      have ed := i32_add1 c
      have g3 := ms_up c h3
      rw [Int32.le_iff_toInt_le] at c
      have c8 : ¬ 8 ≤ k4 := by rw [Int32.le_iff_toInt_le]; omega
      have hcl := nat_clamp h1
      have hk : k4.toNatClampNeg = k4.toInt.toNat := by omega
      obtain ⟨hf1, hf2⟩ := hf k4.toNatClampNeg (by omega)
      have hs := wsum_nx (qd := qd) (k := k4) rfl h1 (by omega)
      have hw := wants_bd (hq k4.toNatClampNeg)
      have hb := wsum_bd hq k4.toInt.toNat
      have hmo := wsum_mono hq (i := (k4 + 1).toInt.toNat) (j := (t 2).toInt.toNat) (by rw [ed]; omega)
      have ewd : pX1_numberWidth (pX1_modeOf f k4) = pX8_wants (qd k4.toNatClampNeg) := by
        rw [modeOf_in h1 (by omega), hf1, wid_in (hq _) hf2]
      have emo : pX1_modeOf f k4 = qd k4.toNatClampNeg := by rw [modeOf_in h1 (by omega), hf1]
      rw [if_neg c8, mLet_eq, ewd, emo]
      have hho := holds_iff (n := 1024) (x1 := k3) (x2 := pX8_wants (qd k4.toNatClampNeg)) (by decide)
      by_cases ch : pX0_holds 1024 k3 (pX8_wants (qd k4.toNatClampNeg)) = 0
      · rw [if_pos ch]
        have hn : ¬ (0 ≤ k3.toInt ∧ 0 ≤ (pX8_wants (qd k4.toNatClampNeg)).toInt ∧ k3.toInt + (pX8_wants (qd k4.toNatClampNeg)).toInt ≤ 1024) := fun q => (hho.mpr q) ch
        refine ⟨g, -1, rfl, fun hh => ?_, fun _ => rfl⟩
        exfalso
        apply hn
        refine ⟨by omega, hw.1, by omega⟩
      · rw [if_neg ch]
        obtain ⟨i1, i2, i3⟩ := hho.mp ch
        have g4 : (k3 + pX8_wants (qd k4.toNatClampNeg)).toInt = base + wsum qd (k4 + 1).toInt.toNat := by
          rw [ti_add (by omega) (by omega), hs, h4]; omega
        have g5 : (k3 + pX8_wants (qd k4.toNatClampNeg)).toInt ≤ 1024 := by rw [ti_add (by omega) (by omega)]; omega
        have gp := pl_of h4
        have en : pX0_number mem 1024 k3 (pX8_wants (qd k4.toNatClampNeg)) = pX8_numberAt qm k3 (pX8_wants (qd k4.toNatClampNeg)) := number_eq h ⟨i1, i3⟩
        have fin : ∀ X : Int32, X = nvAt qm k3 (qd k4.toNatClampNeg) → ∃ (q : Nat → Int32) (e : Int32), pX1_decodeNumbers_lp5 t f mem n_ (upd g k4.toNatClampNeg X) (k3 + pX8_wants (qd k4.toNatClampNeg)) (k4 + 1) = (e, q) ∧ (base + wsum qd (t 2).toInt.toNat ≤ 1024 → e.toInt = base + wsum qd (t 2).toInt.toNat ∧ (∀ j : Nat, q j = if k4.toInt ≤ j ∧ (j : Int) < (t 2).toInt then nvAt qm (Int32.ofInt (base + wsum qd j)) (qd j) else g j)) ∧ (¬ base + wsum qd (t 2).toInt.toNat ≤ 1024 → e = -1) := by
          intro X hX
          obtain ⟨q, e, e1, e2, e3⟩ := ih (upd g k4.toNatClampNeg X) (k3 + pX8_wants (qd k4.toNatClampNeg)) (k4 + 1) (by rw [ed]; omega) (by rw [ed]; omega) g3 g4 g5
          refine ⟨q, e, e1, fun hh => ⟨(e2 hh).1, fun j => ?_⟩, e3⟩
          rw [(e2 hh).2 j, ed, upd_at]
          by_cases r : k4.toInt ≤ j ∧ (j : Int) < (t 2).toInt
          · rw [if_pos r]
            by_cases s : j = k4.toNatClampNeg
            · rw [if_neg (by omega), if_pos s, hX, gp, ← hk, ← s]
            · rw [if_pos (by omega)]
          · rw [if_neg r, if_neg (by omega), if_neg (by omega)]
        rw [en]
        by_cases c4 : 4 ≤ qd k4.toNatClampNeg
        · rw [if_pos c4]; exact fin _ (by rw [nvAt, if_pos c4])
        rw [if_neg c4, mLet_eq]
        exact fin _ (by rw [nvAt, if_neg c4, pX1_signed])
