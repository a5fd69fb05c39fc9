theorem div_m1 (a : Int32) : a / (-1) = -a := by
  apply Int32.toInt_inj.mp
  rw [Int32.toInt_div, show Int32.toInt (-1) = -1 from rfl, Int.tdiv_neg, Int.tdiv_one, Int32.toInt_neg]
theorem rem_m1 (a : Int32) : a - a / (-1) * (-1) = 0 := by
  rw [div_m1, Int32.mul_neg, Int32.mul_one, Int32.neg_neg, Int32.sub_self]
theorem neg_bit (a : Int32) : bt a 31 = decide (a.toInt < 0) := by
  unfold bt
  have e := BitVec.msb_eq_getLsbD_last a.toBitVec
  have e2 := BitVec.msb_eq_toInt (x := a.toBitVec)
  rw [show (31 : Nat) = 32 - 1 from rfl, ← e, e2]
  rfl
theorem shr31 (a : Int32) : a >>> ((31 : Int32) &&& 31) = if 0 ≤ a then 0 else -1 := by
  have z0 : Int32.toInt 0 = 0 := rfl
  have key : ∀ i, i < 32 → bt (a >>> ((31 : Int32) &&& 31)) i = bt a 31 := by
    intro i hi
    have e := b_sshr 31 (by decide) a hi
    rw [show nI 31 = (31 : Int32) by decide] at e
    rw [e]
    by_cases c : 31 + i < 32
    · rw [if_pos c, show 31 + i = 31 by omega]
    · rw [if_neg c]
  refine b_ext fun i hi => ?_
  rw [key i hi, neg_bit]
  by_cases c : 0 ≤ a
  · rw [if_pos c, b_0, decide_eq_false]
    rw [Int32.le_iff_toInt_le] at c; omega
  · rw [if_neg c, b_m1 i hi, decide_eq_true]
    rw [Int32.le_iff_toInt_le] at c; omega
theorem b_min : ∀ i, i < 32 → bt (-2147483648) i = decide (i = 31) := by decide +kernel
theorem or_add {x y : Int32} (h : x &&& y = 0) : x + y = x ||| y := by
  apply Int32.toBitVec_inj.mp
  rw [Int32.toBitVec_add, Int32.toBitVec_or]
  refine BitVec.add_eq_or_of_and_eq_zero _ _ ?_
  have e := congrArg Int32.toBitVec h
  rw [Int32.toBitVec_and] at e
  exact e
theorem xor_min (x : Int32) : x + (-2147483648) = x ^^^ (-2147483648) := by
  have hc : ∀ y : Int32, bt y 31 = false → y + (-2147483648) = y ^^^ (-2147483648) := by
    intro y hy
    have hz : y &&& (-2147483648) = 0 := by
      refine b_ext fun i hi => ?_
      rw [b_and, b_min i hi, b_0]
      by_cases c : i = 31
      · rw [c, hy, Bool.false_and]
      · rw [decide_eq_false c, Bool.and_false]
    rw [or_add hz]
    refine b_ext fun i hi => ?_
    rw [b_or, b_xor, b_min i hi]
    by_cases c : i = 31
    · rw [c, hy]; rfl
    · rw [decide_eq_false c, Bool.or_false, Bool.xor_false]
  cases hx : bt x 31 with
  | false => exact hc x hx
  | true =>
    have hy : bt (x ^^^ (-2147483648)) 31 = false := by rw [b_xor, hx, b_min 31 (by decide)]; rfl
    have e := hc _ hy
    rw [Int32.xor_assoc, Int32.xor_self, Int32.xor_zero] at e
    have e2 : x + (-2147483648) = (x ^^^ (-2147483648)) + (-2147483648) + (-2147483648) := by rw [e]
    rw [e2, Int32.add_assoc, show ((-2147483648 : Int32) + (-2147483648)) = 0 by decide, Int32.add_zero]
theorem cu_is (a b : Int32) : pJ6_compareUnsigned_7cf53 a b = if (b ^^^ (-2147483648)) ≤ (a ^^^ (-2147483648)) then (if (a ^^^ (-2147483648)) = (b ^^^ (-2147483648)) then 0 else 1) else -1 := by
  rw [pJ6_compareUnsigned_7cf53, mLet_eq, pJ6_compare_7cf53, xor_min, xor_min]
theorem so_42 (a b : Int32) : (if 0 ≤ pJ6_compareUnsigned_7cf53 a b then (0 : Int32) else 1) = if (b ^^^ (-2147483648)) ≤ (a ^^^ (-2147483648)) then 0 else 1 := by
  rw [cu_is]
  generalize a ^^^ (-2147483648) = x
  generalize b ^^^ (-2147483648) = y
  by_cases c : y ≤ x
  · rw [if_pos c, if_pos c]
    by_cases d : x = y
    · rw [if_pos d]; rfl
    · rw [if_neg d]; rfl
  · rw [if_neg c, if_neg c]; rfl
theorem so_43 (a b : Int32) : (if pJ6_compareUnsigned_7cf53 a b < 0 then (0 : Int32) else 1) = if (a ^^^ (-2147483648)) < (b ^^^ (-2147483648)) then 0 else 1 := by
  rw [cu_is]
  generalize a ^^^ (-2147483648) = x
  generalize b ^^^ (-2147483648) = y
  by_cases c : y ≤ x
  · rw [if_pos c, if_neg (Int32.not_lt.mpr c)]
    by_cases d : x = y
    · rw [if_pos d]; rfl
    · rw [if_neg d]; rfl
  · rw [if_neg c, if_pos (Int32.not_le.mp c)]; rfl
theorem so_44 (a b : Int32) : (if pJ6_compareUnsigned_7cf53 a b ≤ 0 then (0 : Int32) else 1) = if (a ^^^ (-2147483648)) ≤ (b ^^^ (-2147483648)) then 0 else 1 := by
  rw [cu_is]
  generalize a ^^^ (-2147483648) = x
  generalize b ^^^ (-2147483648) = y
  by_cases c : y ≤ x
  · rw [if_pos c]
    by_cases d : x = y
    · rw [if_pos d, if_pos (show x ≤ y by rw [d]; exact Int32.le_refl y)]; rfl
    · rw [if_neg d, if_neg (fun q => d (Int32.le_antisymm q c))]; rfl
  · rw [if_neg c, if_pos (Int32.le_of_lt (Int32.not_le.mp c))]; rfl
theorem so_45 (a b : Int32) : (if 0 < pJ6_compareUnsigned_7cf53 a b then (0 : Int32) else 1) = if (b ^^^ (-2147483648)) < (a ^^^ (-2147483648)) then 0 else 1 := by
  rw [cu_is]
  generalize a ^^^ (-2147483648) = x
  generalize b ^^^ (-2147483648) = y
  by_cases c : y ≤ x
  · rw [if_pos c]
    by_cases d : x = y
    · rw [if_pos d, if_neg (show ¬ y < x by rw [d]; exact fun q => Int32.lt_irrefl q)]; rfl
    · rw [if_neg d, if_pos (Int32.not_le.mp (fun q => d (Int32.le_antisymm q c)))]; rfl
  · rw [if_neg c, if_neg (fun q => c (Int32.le_of_lt q))]; rfl
theorem lw_w {o : Int32} (h : pX6_widthOf o = 4) (a : Int32) : lw (pX6_widthOf o) a := by rw [h]; exact lw_four a
