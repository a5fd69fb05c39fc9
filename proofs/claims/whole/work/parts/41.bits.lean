def bt (x : Int32) (i : Nat) : Bool := x.toBitVec.getLsbD i
theorem b_ext {x y : Int32} (h : ∀ i, i < 32 → bt x i = bt y i) : x = y := Int32.toBitVec_inj.mp (BitVec.eq_of_getLsbD_eq (fun i hi => h i hi))
theorem b_or (x y : Int32) (i : Nat) : bt (x ||| y) i = (bt x i || bt y i) := by unfold bt; rw [Int32.toBitVec_or, BitVec.getLsbD_or]
theorem b_and (x y : Int32) (i : Nat) : bt (x &&& y) i = (bt x i && bt y i) := by unfold bt; rw [Int32.toBitVec_and, BitVec.getLsbD_and]
theorem b_xor (x y : Int32) (i : Nat) : bt (x ^^^ y) i = (bt x i ^^ bt y i) := by unfold bt; rw [Int32.toBitVec_xor, BitVec.getLsbD_xor]
theorem b_big {x : Int32} {i : Nat} (h : 32 ≤ i) : bt x i = false := BitVec.getLsbD_of_ge _ _ h
theorem b_255 (i : Nat) : bt 255 i = decide (i < 8) := by
  rcases Nat.lt_or_ge i 32 with h | h
  · exact (by decide +kernel : ∀ i, i < 32 → bt 255 i = decide (i < 8)) i h
  · rw [b_big h, decide_eq_false (by omega)]
theorem b_65535 (i : Nat) : bt 65535 i = decide (i < 16) := by
  rcases Nat.lt_or_ge i 32 with h | h
  · exact (by decide +kernel : ∀ i, i < 32 → bt 65535 i = decide (i < 16)) i h
  · rw [b_big h, decide_eq_false (by omega)]
theorem b_m1 : ∀ i, i < 32 → bt (-1) i = true := by decide +kernel
theorem b_0 (i : Nat) : bt 0 i = false := BitVec.getLsbD_zero
theorem s_l : ∀ n, n < 32 → ((nI n &&& 31).toBitVec.smod 32).toNat = n := by decide +kernel
theorem s_u : ∀ n, n < 32 → (((nI n).toUInt32 &&& Int32.toUInt32 31).toBitVec % 32).toNat = n := by decide +kernel
theorem b_shl (n : Nat) (hn : n < 32) (x : Int32) {i : Nat} (hi : i < 32) : bt (x <<< (nI n &&& 31)) i = (decide (n ≤ i) && bt x (i - n)) := by
  unfold bt
  rw [Int32.toBitVec_shiftLeft]
  show (x.toBitVec <<< ((nI n &&& 31).toBitVec.smod 32).toNat).getLsbD i = _
  rw [s_l n hn, BitVec.getLsbD_shiftLeft]
  rcases Nat.lt_or_ge i n with h | h
  · simp [h, Nat.not_le.mpr h]
  · simp [hi, h, Nat.not_lt.mpr h]
theorem b_ushr (n : Nat) (hn : n < 32) (x : Int32) (i : Nat) : bt ((x.toUInt32 >>> ((nI n).toUInt32 &&& Int32.toUInt32 31)).toInt32) i = bt x (n + i) := by
  show (x.toUInt32 >>> ((nI n).toUInt32 &&& Int32.toUInt32 31)).toBitVec.getLsbD i = x.toUInt32.toBitVec.getLsbD (n + i)
  rw [UInt32.toBitVec_shiftRight]
  show (x.toUInt32.toBitVec >>> (((nI n).toUInt32 &&& Int32.toUInt32 31).toBitVec % 32).toNat).getLsbD i = _
  rw [s_u n hn, BitVec.getLsbD_ushiftRight]
theorem b_sshr (n : Nat) (hn : n < 32) (x : Int32) {i : Nat} (hi : i < 32) : bt (x >>> (nI n &&& 31)) i = if n + i < 32 then bt x (n + i) else bt x 31 := by
  unfold bt
  rw [Int32.toBitVec_shiftRight]
  show (x.toBitVec.sshiftRight ((nI n &&& 31).toBitVec.smod 32).toNat).getLsbD i = _
  rw [s_l n hn, BitVec.getLsbD_sshiftRight, BitVec.msb_eq_getLsbD_last]
  simp [hi]
theorem bp_b (x : Int32) : x.toInt8.toInt32 &&& 255 = x &&& 255 := by
  apply Int32.toBitVec_inj.mp
  rw [Int32.toBitVec_and, Int32.toBitVec_and, Int8.toBitVec_toInt32, Int32.toBitVec_toInt8]
  apply BitVec.eq_of_getLsbD_eq
  intro i hi
  rw [BitVec.getLsbD_and, BitVec.getLsbD_and]
  have hm : ∀ i < 32, 8 ≤ i → (255 : Int32).toBitVec.getLsbD i = false := by decide
  rcases Nat.lt_or_ge i 8 with z | z
  · rw [BitVec.getLsbD_signExtend, BitVec.getLsbD_signExtend, if_pos z, if_pos hi]
    simp only [z, hi, decide_true, Bool.true_and]
  · rw [hm i hi z]; simp
/-! a long moved down by eight bits, n times -/
def sh8 (L : Int64) : Int64 := (L.toUInt64 >>> ((Int32.toInt64 8).toUInt64 &&& Int64.toUInt64 63)).toInt64
def sh8n : Nat → Int64 → Int64
  | 0, L => L
  | n + 1, L => sh8n n (sh8 L)
theorem sh8_bit (L : Int64) (i : Nat) : (sh8 L).toBitVec.getLsbD i = L.toBitVec.getLsbD (8 + i) := by
  show (L.toUInt64 >>> ((Int32.toInt64 8).toUInt64 &&& Int64.toUInt64 63)).toBitVec.getLsbD i = _
  rw [UInt64.toBitVec_shiftRight]
  show (L.toBitVec >>> (((Int32.toInt64 8).toUInt64 &&& Int64.toUInt64 63).toBitVec % 64).toNat).getLsbD i = _
  rw [show (((Int32.toInt64 8).toUInt64 &&& Int64.toUInt64 63).toBitVec % 64).toNat = 8 by decide +kernel, BitVec.getLsbD_ushiftRight]
theorem sh8n_bit : ∀ (n : Nat) (L : Int64) (i : Nat), (sh8n n L).toBitVec.getLsbD i = L.toBitVec.getLsbD (8 * n + i) := by
  intro n
  induction n with
  | zero => intro L i; show L.toBitVec.getLsbD i = _; rw [Nat.mul_zero, Nat.zero_add]
  | succ n ih =>
    intro L i
    show (sh8n n (sh8 L)).toBitVec.getLsbD i = _
    rw [ih, sh8_bit]
    congr 1
    omega
theorem low_bit (L : Int64) (i : Nat) : bt (L.toInt32 &&& 255) i = (decide (i < 8) && L.toBitVec.getLsbD i) := by
  rw [b_and, b_255, Bool.and_comm]
  rcases Nat.lt_or_ge i 8 with h | h
  · have e : bt L.toInt32 i = L.toBitVec.getLsbD i := by
      unfold bt
      rw [Int64.toBitVec_toInt32, BitVec.getLsbD_signExtend]
      simp [show i < 32 by omega, show i < 64 by omega]
    rw [e]
  · rw [decide_eq_false (Nat.not_lt.mpr h)]; rfl
theorem low_of_int {n : Nat} (hn : n < 4) (x : Int32) : (sh8n n x.toInt64).toInt32 &&& 255 = (x >>> (nI (8 * n) &&& 31)) &&& 255 := by
  refine b_ext fun i hi => ?_
  rw [low_bit, sh8n_bit, b_and, b_255, Bool.and_comm]
  rcases Nat.lt_or_ge i 8 with h | h
  · rw [b_sshr (8 * n) (by omega) x hi, if_pos (by omega)]
    congr 1
    unfold bt
    rw [Int32.toBitVec_toInt64, BitVec.getLsbD_signExtend]
    simp [show 8 * n + i < 64 by omega, show 8 * n + i < 32 by omega]
  · rw [decide_eq_false (Nat.not_lt.mpr h), Bool.and_false, Bool.and_false]
theorem s64 : ∀ n, n < 64 → (((nI n).toInt64 &&& 63).toBitVec.smod 64).toNat = n := by decide +kernel
theorem low_of_long {n : Nat} (hn : n < 8) (L : Int64) : (sh8n n L).toInt32 &&& 255 = ((L >>> ((nI (8 * n)).toInt64 &&& 63)) &&& 255).toInt32 := by
  refine b_ext fun i hi => ?_
  rw [low_bit, sh8n_bit]
  have e : bt ((L >>> ((nI (8 * n)).toInt64 &&& 63)) &&& 255).toInt32 i = ((L >>> ((nI (8 * n)).toInt64 &&& 63)) &&& 255).toBitVec.getLsbD i := by
    unfold bt
    rw [Int64.toBitVec_toInt32, BitVec.getLsbD_signExtend]
    simp [show i < 32 by omega, show i < 64 by omega]
  have hm : ∀ i, i < 32 → (255 : Int64).toBitVec.getLsbD i = decide (i < 8) := by decide +kernel
  rw [e, Int64.toBitVec_and, BitVec.getLsbD_and, hm i hi, Int64.toBitVec_shiftRight, Bool.and_comm]
  show _ = ((L.toBitVec.sshiftRight (((nI (8 * n)).toInt64 &&& 63).toBitVec.smod 64).toNat).getLsbD i && _)
  rw [s64 (8 * n) (by omega), BitVec.getLsbD_sshiftRight]
  rcases Nat.lt_or_ge i 8 with h | h
  · simp [show i < 64 by omega, show 8 * n + i < 64 by omega, h]
  · simp [Nat.not_lt.mpr h]
