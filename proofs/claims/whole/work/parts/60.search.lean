theorem low_rng (x : Int32) : 0 ≤ (x &&& 255).toInt ∧ (x &&& 255).toInt ≤ 255 := by
  have n : ((x &&& 255).toBitVec).toNat ≤ 255 := by rw [Int32.toBitVec_and, BitVec.toNat_and]; exact Nat.and_le_right
  have e : (x &&& 255).toInt = ((x &&& 255).toBitVec.toNat : Int) := BitVec.toInt_eq_toNat_of_lt (by omega)
  omega
theorem byteAt_rng (f : Nat → Int32) (n : Nat) (x : Int32) : 0 ≤ (pX0_byteAt f n x).toInt ∧ (pX0_byteAt f n x).toInt ≤ 255 := by
  rw [pX0_byteAt]
  by_cases c : x < 0
  · rw [if_pos c]; decide
  · rw [if_neg c]
    by_cases d : Int32.ofNat n ≤ x
    · rw [if_pos d]; decide
    · rw [if_neg d]; exact low_rng _
/-- the key: what both sides hold of it -/
def KR (s : Int32) (key Y : Nat → Int32) : Prop := ∀ k : Int32, 0 ≤ k.toInt → k.toInt < s.toInt → pX0_byteAt key 64 k = Y k.toNatClampNeg
theorem byte_at {N : Nat} (hN : N ≤ 1024) (f : Nat → Int32) {x : Int32} (h0 : 0 ≤ x.toInt) (h1 : x.toInt < N) : pX0_byteAt f N x = f x.toNatClampNeg &&& 255 := byteAt_eq (qm := fun j => f j &&& 255) hN (fun _ _ => rfl) h0 h1
theorem keyq_lp {qm : Nat → Int32} {x1 x2 x3 : Int32} (h2 : x2.toInt ≤ 64) : ∀ (n_ : Nat) (v qy : Nat → Int32) (k5 : Int32), 0 ≤ k5.toInt → (x2.toInt - k5.toInt).toNat < n_ → ∃ Y : Nat → Int32, pX8_keys_lp75 qm x1 x2 x3 n_ v qy k5 = (0, v, Y) ∧ (∀ k : Int32, 0 ≤ k.toInt → k.toInt < k5.toInt → Y k.toNatClampNeg = qy k.toNatClampNeg) ∧ ∀ k : Int32, k5.toInt ≤ k.toInt → k.toInt < x2.toInt → Y k.toNatClampNeg = if x3 = 0 then (x1 >>> ((8 * ((x2 - 1) - k)) &&& 31)) &&& 255 else qm (x1 + k).toNatClampNeg := by
  intro n_
  induction n_ with
  | zero => intro v qy k5 _ h; exact absurd h (Nat.not_lt_zero _)
  | succ n_ ih =>
    intro v qy k5 h3 h4
    rw [pX8_keys_lp75]
    by_cases c : x2 ≤ k5
    · rw [if_pos c]
      rw [Int32.le_iff_toInt_le] at c
      exact ⟨qy, rfl, fun _ _ _ => rfl, fun k h h' => by omega⟩
    · have ed := i32_add1 c
      have g3 := ms_up c h4
      have hk := nat_clamp h3
      rw [if_neg c]
      rw [Int32.le_iff_toInt_le] at c
      have key : ∀ b : Int32, (if x3 = 0 then (x1 >>> ((8 * ((x2 - 1) - k5)) &&& 31)) &&& 255 else qm (x1 + k5).toNatClampNeg) = b → ∃ Y : Nat → Int32, pX8_keys_lp75 qm x1 x2 x3 n_ v (upd qy k5.toNatClampNeg b) (k5 + 1) = (0, v, Y) ∧ (∀ k : Int32, 0 ≤ k.toInt → k.toInt < k5.toInt → Y k.toNatClampNeg = qy k.toNatClampNeg) ∧ ∀ k : Int32, k5.toInt ≤ k.toInt → k.toInt < x2.toInt → Y k.toNatClampNeg = if x3 = 0 then (x1 >>> ((8 * ((x2 - 1) - k)) &&& 31)) &&& 255 else qm (x1 + k).toNatClampNeg := by
        intro b hb
        obtain ⟨Y, q1, q2, q3⟩ := ih v (upd qy k5.toNatClampNeg b) (k5 + 1) (by rw [ed]; omega) g3
        refine ⟨Y, q1, fun k h h' => ?_, fun k h h' => ?_⟩
        · have hk2 := nat_clamp h
          rw [q2 k h (by rw [ed]; omega), upd_at, if_neg (by omega)]
        · by_cases q : k.toInt = k5.toInt
          · have hkk : k = k5 := Int32.toInt_inj.mp q
            rw [hkk, q2 k5 h3 (by rw [ed]; omega), upd_at, if_pos rfl, hb]
          · exact q3 k (by rw [ed]; omega) h'
      by_cases d : x3 = 0
      · rw [if_pos d]; exact key _ (if_pos d)
      · rw [if_neg d]; exact key _ (if_neg d)
theorem take_lp {z mem : Nat → Int32} {x1 : Int32} (h2 : (z 0).toInt ≤ 64) : ∀ (n_ : Nat) (key : Nat → Int32) (k2 : Int32), 0 ≤ k2.toInt → ((z 0).toInt - k2.toInt).toNat < n_ → ∃ K : Nat → Int32, pX5_takeKeyAt_lp39 z mem x1 n_ key k2 = (0, K) ∧ (∀ k : Int32, 0 ≤ k.toInt → k.toInt < k2.toInt → K k.toNatClampNeg = key k.toNatClampNeg) ∧ ∀ k : Int32, k2.toInt ≤ k.toInt → k.toInt < (z 0).toInt → K k.toNatClampNeg &&& 255 = pX0_byteAt mem 1024 (x1 + k) &&& 255 := by
  have z64 : Int32.toInt (Int32.ofNat 64) = 64 := rfl
  have z0 : Int32.toInt 0 = 0 := rfl
  intro n_
  induction n_ with
  | zero => intro key k2 _ h; exact absurd h (Nat.not_lt_zero _)
  | succ n_ ih =>
    intro key k2 h3 h4
    rw [pX5_takeKeyAt_lp39]
    by_cases c : z 0 ≤ k2
    · rw [if_pos c]
      rw [Int32.le_iff_toInt_le] at c
      exact ⟨key, rfl, fun _ _ _ => rfl, fun k h h' => by omega⟩
    · have ed := i32_add1 c
      have g3 := ms_up c h4
      have hk := nat_clamp h3
      rw [if_neg c, mLet_eq]
      rw [Int32.le_iff_toInt_le] at c
      rw [pX0_putByte, if_neg (show ¬ k2 < 0 by rw [Int32.lt_iff_toInt_lt]; omega), if_neg (show ¬ Int32.ofNat 64 ≤ k2 by rw [Int32.le_iff_toInt_le]; omega)]
      obtain ⟨K, q1, q2, q3⟩ := ih (upd key k2.toNatClampNeg (vp_nar .byte ((pX0_byteAt mem 1024 (x1 + k2)).toInt8.toInt32))) (k2 + 1) (by rw [ed]; omega) g3
      refine ⟨K, q1, fun k h h' => ?_, fun k h h' => ?_⟩
      · have hk2 := nat_clamp h
        rw [q2 k h (by rw [ed]; omega), upd_at, if_neg (by omega)]
      · by_cases q : k.toInt = k2.toInt
        · have hkk : k = k2 := Int32.toInt_inj.mp q
          rw [hkk, q2 k2 h3 (by rw [ed]; omega), upd_at, if_pos rfl, nar255]
        · exact q3 k (by rw [ed]; omega) h'
theorem low_low (x : Int32) : (x &&& 255) &&& 255 = x &&& 255 := by
  refine b_ext fun i hi => ?_
  rw [b_and, b_and, Bool.and_assoc, Bool.and_self]
/-- what a key taken leaves -/
def kRel (v : Nat → Int32) (s : Int32) (c : Int32 × (Nat → Int32)) (r : Int32 × (Nat → Int32) × (Nat → Int32)) : Prop := c.1 = r.1 ∧ (r.1 = 0 → r.2.1 = upd v 16 s ∧ 1 ≤ s.toInt ∧ s.toInt ≤ 64 ∧ KR s c.2 r.2.2) ∧ (¬ r.1 = 0 → r.2.1 = v)
theorem key_of {mem qm : Nat → Int32} (v qy key z : Nat → Int32) {x s : Int32} (hz : z 0 = s) : kRel v s (pX5_takeKeyOf z key x) (pX8_keys v qm qy x s 0) := by
  have z0 : Int32.toInt 0 = 0 := rfl
  have go : 1 ≤ s.toInt → s.toInt ≤ 4 → kRel v s (0, pX0_put key 64 0 s (Int32.toInt64 x)) (pX8_keys_lp75 qm x s 0 ((Int32.toInt s - Int32.toInt 0).toNat + 1) (upd v 16 s) qy 0) := by
    intro h1 h4
    obtain ⟨Y, q1, q2, q3⟩ := keyq_lp (qm := qm) (x1 := x) (x2 := s) (x3 := 0) (by omega) ((Int32.toInt s - Int32.toInt 0).toNat + 1) (upd v 16 s) qy 0 (by decide) (by omega)
    rw [q1]
    refine ⟨rfl, fun _ => ⟨rfl, h1, by omega, fun k h h' => ?_⟩, fun q => absurd rfl q⟩
    have hk := nat_clamp h
    dsimp only
    rw [q3 k (by omega) h', if_pos rfl, byte_at (by decide) _ h (by omega), put_is (by decide) _ (by decide) (by omega) (by omega), if_pos (by omega), low_of_int (by omega), eight (by omega) (by omega) h h', show (Int32.toInt 0 + s.toInt - 1 - (k.toNatClampNeg : Int)).toNat = (s.toInt - 1 - k.toInt).toNat by omega]
  rw [pX5_takeKeyOf, pX8_keys, if_pos rfl, hz]
  by_cases c1 : s = 1
  · rw [if_pos c1, if_pos c1, mLet_eq]; exact go (by rw [c1]; decide) (by rw [c1]; decide)
  rw [if_neg c1, if_neg c1]
  by_cases c2 : s = 2
  · rw [if_pos c2, if_pos c2, mLet_eq]; exact go (by rw [c2]; decide) (by rw [c2]; decide)
  rw [if_neg c2, if_neg c2]
  by_cases c4 : s = 4
  · rw [if_pos c4, if_pos c4, mLet_eq]; exact go (by rw [c4]; decide) (by rw [c4]; decide)
  rw [if_neg c4, if_neg c4]
  exact ⟨rfl, fun q => absurd (show (9 : Int32) = 0 from q) (by decide), fun _ => rfl⟩
theorem key_at {mem qm : Nat → Int32} (h : RB 1024 mem qm) (v qy key z : Nat → Int32) {x s : Int32} (hz : z 0 = s) : kRel v s (pX5_takeKeyAt z mem key x) (pX8_keys v qm qy x s 1) := by
  have z0 : Int32.toInt 0 = 0 := rfl
  have z1 : Int32.toInt 1 = 1 := rfl
  have z64 : Int32.toInt 64 = 64 := rfl
  rw [pX8_keys, if_neg (show ¬ (1 : Int32) = 0 by decide), pX5_takeKeyAt, hz]
  by_cases c1 : s < 1
  · rw [if_pos c1, if_pos c1]; exact ⟨rfl, fun q => absurd (show (9 : Int32) = 0 from q) (by decide), fun _ => rfl⟩
  rw [if_neg c1, if_neg c1]
  by_cases c2 : 64 < s
  · rw [if_pos c2, if_neg (Int32.not_le.mpr c2)]; exact ⟨rfl, fun q => absurd (show (9 : Int32) = 0 from q) (by decide), fun _ => rfl⟩
  rw [if_neg c2, if_pos (Int32.not_lt.mp c2)]
  rw [Int32.lt_iff_toInt_lt] at c1 c2
  by_cases c3 : pX8_isIn x s = 0
  · rw [if_pos c3, if_pos ((holds_isIn (by omega)).mpr c3)]; exact ⟨rfl, fun q => absurd (show (1 : Int32) = 0 from q) (by decide), fun _ => rfl⟩
  rw [if_neg c3, if_neg (fun q => c3 ((holds_isIn (by omega)).mp q))]
  have i := (isIn_iff (by omega)).mp c3
  obtain ⟨Y, q1, q2, q3⟩ := keyq_lp (qm := qm) (x1 := x) (x2 := s) (x3 := 1) (by omega) ((Int32.toInt s - Int32.toInt 0).toNat + 1) (upd v 16 s) qy 0 (by decide) (by omega)
  obtain ⟨K, r1, r2, r3⟩ := take_lp (z := z) (mem := mem) (x1 := x) (by rw [hz]; omega) ((Int32.toInt s - Int32.toInt 0).toNat + 1) key 0 (by decide) (by rw [hz]; omega)
  rw [q1, r1]
  refine ⟨rfl, fun _ => ⟨rfl, by omega, by omega, fun k hk hk' => ?_⟩, fun q => absurd rfl q⟩
  have hc := nat_clamp hk
  have ea : (x + k).toInt = x.toInt + k.toInt := ti_add (by omega) (by omega)
  dsimp only
  rw [q3 k (by omega) hk', if_neg (by decide), byte_at (by decide) _ hk (by omega), r3 k (by omega) (by rw [hz]; omega), byte_at (by decide) _ (by omega) (by omega), low_low]
  have hc2 := nat_clamp (x := x + k) (by omega)
  exact (h _ (by omega)).symm
/-- a comparison: what both sides answer -/
def cRel (c b : Int32) : Prop := (c = 0 ∧ b = 1) ∨ (0 < c.toInt ∧ b = 2) ∨ (c.toInt < 0 ∧ b = 0)
theorem cmp_lp {mem qm z w K Y : Nat → Int32} {p : Int32} (h : RB 1024 mem qm) (hz : z 0 = w 16) (hK : KR (w 16) K Y) (hp : 0 ≤ p.toInt ∧ p.toInt + (w 16).toInt ≤ 1024) : ∀ (n_ : Nat) (k : Int32), 0 ≤ k.toInt → ((w 16).toInt - k.toInt).toNat < n_ → cRel (pX5_compare_lp8 z mem K n_ p k) (pX8_beside_lp2 w qm Y p n_ k) := by
  have z0 : Int32.toInt 0 = 0 := rfl
  intro n_
  induction n_ with
  | zero => intro k _ h; exact absurd h (Nat.not_lt_zero _)
  | succ n_ ih =>
    intro k h3 h4
    rw [pX5_compare_lp8, pX8_beside_lp2, hz]
    by_cases c : w 16 ≤ k
    · rw [if_pos c, if_pos c]; exact Or.inl ⟨rfl, rfl⟩
    · have ed := i32_add1 c
      have g3 := ms_up c h4
      rw [if_neg c, if_neg c]
      rw [Int32.le_iff_toInt_le] at c
      have ea : (p + k).toInt = p.toInt + k.toInt := ti_add (by omega) (by omega)
      have r1 := byteAt_rng mem 1024 (p + k)
      have r2 := byteAt_rng K 64 k
      have ek := hK k h3 (by omega)
      rw [byteAt_eq (by decide) h (by omega) (by omega)] at r1 ⊢
      rw [ek] at r2 ⊢
      generalize qm (p + k).toNatClampNeg = a at r1
      generalize Y k.toNatClampNeg = b at r2
      have es : (a - b).toInt = a.toInt - b.toInt := ti_sub (by omega) (by omega)
      by_cases d : a = b
      · rw [if_pos d, if_pos (show a - b = 0 by rw [d, Int32.sub_self])]
        exact ih (k + 1) (by rw [ed]; omega) g3
      · have d' : ¬ a.toInt = b.toInt := fun q => d (Int32.toInt_inj.mp q)
        rw [if_neg d, if_neg (show ¬ a - b = 0 by intro q; have := congrArg Int32.toInt q; omega)]
        by_cases f : b ≤ a
        · rw [if_pos f]
          rw [Int32.le_iff_toInt_le] at f
          exact Or.inr (Or.inl ⟨by omega, rfl⟩)
        · rw [if_neg f]
          rw [Int32.le_iff_toInt_le] at f
          exact Or.inr (Or.inr ⟨by omega, rfl⟩)
theorem not_lp {qm w : Nat → Int32} {p : Int32} : ∀ (n_ : Nat) (k : Int32), pX8_isNought_lp4 w qm p n_ 0 k = 0 := by
  intro n_
  induction n_ with
  | zero => intro k; rfl
  | succ n_ ih =>
    intro k
    rw [pX8_isNought_lp4]
    by_cases c : w 16 ≤ k
    · rw [if_pos c]
    · rw [if_neg c]
      by_cases d : qm (p + k).toNatClampNeg = 0
      · rw [if_pos d]; exact ih (k + 1)
      · rw [if_neg d]; exact ih (k + 1)
theorem blank_lp {mem qm z w : Nat → Int32} {p : Int32} (h : RB 1024 mem qm) (hz : z 0 = w 16) (hp : 0 ≤ p.toInt ∧ p.toInt + (w 16).toInt ≤ 1024) : ∀ (n_ : Nat) (k : Int32), 0 ≤ k.toInt → ((w 16).toInt - k.toInt).toNat < n_ → pX5_isBlank_lp8 z mem n_ p k = pX8_isNought_lp4 w qm p n_ 1 k := by
  have z0 : Int32.toInt 0 = 0 := rfl
  intro n_
  induction n_ with
  | zero => intro k _ h; exact absurd h (Nat.not_lt_zero _)
  | succ n_ ih =>
    intro k h3 h4
    rw [pX5_isBlank_lp8, pX8_isNought_lp4, hz]
    by_cases c : w 16 ≤ k
    · rw [if_pos c, if_pos c]
    · have ed := i32_add1 c
      have g3 := ms_up c h4
      rw [if_neg c, if_neg c]
      rw [Int32.le_iff_toInt_le] at c
      have ea : (p + k).toInt = p.toInt + k.toInt := ti_add (by omega) (by omega)
      rw [byteAt_eq (by decide) h (by omega) (by omega)]
      by_cases d : qm (p + k).toNatClampNeg = 0
      · rw [if_pos d, if_pos d]; exact ih (k + 1) (by rw [ed]; omega) g3
      · rw [if_neg d, if_neg d]; exact (not_lp n_ (k + 1)).symm
/-- what a search leaves: z the class's, u the reference's answer -/
def uRel (z : Nat → Int32) (c : Int32 × (Nat → Int32)) (u : Int32) : Prop := (u = -9 ∧ c.2 = upd z 6 1) ∨ (u = -2 ∧ c = (pX5_missing z, z)) ∨ (0 ≤ u.toInt ∧ c = (pX5_found z u, z))
theorem there {z w qo : Nat → Int32} {x1 x2 k : Int32} (hz : z 0 = w 16) (hs : 0 ≤ (w 16).toInt) (h1 : z 1 = x1) (h2 : z 2 = x2) (h4 : z 4 = qo (Int32.toNatClampNeg 5)) : pX5_keyPlaceOf z k = (x1 + (k * x2)) + qo (Int32.toNatClampNeg 5) ∧ (pX0_holds 1024 (pX5_keyPlaceOf z k) (z 0) = 0 ↔ pX8_isIn ((x1 + (k * x2)) + qo (Int32.toNatClampNeg 5)) (w 16) = 0) := by
  have e : pX5_keyPlaceOf z k = (x1 + (k * x2)) + qo (Int32.toNatClampNeg 5) := by rw [pX5_keyPlaceOf, h1, h2, h4]
  rw [e, hz]
  exact ⟨rfl, holds_isIn hs⟩
theorem isThere_0 {z : Nat → Int32} {k : Int32} (h : pX0_holds 1024 (pX5_keyPlaceOf z k) (z 0) = 0) : pX5_isThere z k = (0, upd z 6 1) := by
  rw [pX5_isThere, mLet_eq, if_pos h, h]
theorem isThere_1 {z : Nat → Int32} {k : Int32} (h : ¬ pX0_holds 1024 (pX5_keyPlaceOf z k) (z 0) = 0) : ∃ u : Int32, ¬ u = 0 ∧ pX5_isThere z k = (u, z) := by
  rw [pX5_isThere, mLet_eq, if_neg h]
  exact ⟨_, h, rfl⟩
theorem one_lp {mem qm z w K Y qo : Nat → Int32} {x1 x2 x3 x4 : Int32} (h : RB 1024 mem qm) (hz : z 0 = w 16) (hs : 0 ≤ (w 16).toInt) (hK : KR (w 16) K Y) (h1 : z 1 = x1) (h2 : z 2 = x2) (h3 : z 3 = x3) (h4 : z 4 = qo (Int32.toNatClampNeg 5)) (h6 : z 6 = 0) (hx : pX5_isEnded z = 0 ↔ x4 = 0) : ∀ (n_ : Nat) (k : Int32), 0 ≤ k.toInt → (x3.toInt - k.toInt).toNat < n_ → uRel z (pX5_oneByOne_lp2 mem K n_ z k) (pX8_oneByOne_lp3 w qm qo Y x1 x2 x3 x4 n_ k) := by
  have z0 : Int32.toInt 0 = 0 := rfl
  intro n_
  induction n_ with
  | zero => intro k _ h; exact absurd h (Nat.not_lt_zero _)
  | succ n_ ih =>
    intro k hk hn
    rw [pX8_oneByOne_lp3, pX5_oneByOne_lp2, h3]
    by_cases c : x3 ≤ k
    · rw [if_pos c, if_pos c]; exact Or.inr (Or.inl ⟨rfl, rfl⟩)
    · have ed := i32_add1 c
      have g3 := ms_up c hn
      have nx := ih (k + 1) (by rw [ed]; omega) g3
      obtain ⟨t1, t2⟩ := there (qo := qo) (k := k) hz hs h1 h2 h4
      rw [if_neg c, if_neg c, if_pos h6, mLet_eq, mLet_eq]
      by_cases d : pX8_isIn ((x1 + (k * x2)) + qo (Int32.toNatClampNeg 5)) (w 16) = 0
      · rw [if_pos d, isThere_0 (t2.mpr d), if_pos (nought_eq _)]; exact Or.inl ⟨rfl, rfl⟩
      · obtain ⟨u, hu, eu⟩ := isThere_1 (fun q => d (t2.mp q))
        have i := (isIn_iff (by omega)).mp d
        have cr : cRel (pX5_compare z mem K k) (pX8_beside w qm Y ((x1 + (k * x2)) + qo (Int32.toNatClampNeg 5))) := by
          rw [pX5_compare, t1, pX8_beside, hz]
          exact cmp_lp h hz hK i _ 0 (by decide) (by omega)
        have br : pX5_isBlank z mem k = pX8_isNought w qm ((x1 + (k * x2)) + qo (Int32.toNatClampNeg 5)) := by
          rw [pX5_isBlank, t1, pX8_isNought, hz]
          exact blank_lp h hz i _ 0 (by decide) (by omega)
        rw [if_neg d, eu, if_neg (show ¬ (u, z).1 = 0 from hu)]
        dsimp only
        rw [br]
        generalize pX5_compare z mem K k = a at cr
        generalize pX8_beside w qm Y ((x1 + (k * x2)) + qo (Int32.toNatClampNeg 5)) = b at cr
        by_cases f : a = 0
        · have fb : b = 1 := by
            obtain q | q | q := cr
            · exact q.2
            · rw [f] at q; omega
            · rw [f] at q; omega
          rw [if_pos f, if_pos fb]; exact Or.inr (Or.inr ⟨hk, rfl⟩)
        · have fb : ¬ b = 1 := by
            obtain q | q | q := cr
            · exact absurd q.1 f
            · rw [q.2]; decide
            · rw [q.2]; decide
          rw [if_neg f, if_neg fb]
          by_cases l : x4 = 0
          · rw [if_pos l, if_pos (hx.mpr l)]; exact nx
          · rw [if_neg l, if_neg (fun q => l (hx.mp q)), mLet_eq]
            by_cases m : pX8_isNought w qm ((x1 + (k * x2)) + qo (Int32.toNatClampNeg 5)) = 0
            · rw [if_pos m, if_pos m]; exact nx
            · rw [if_neg m, if_neg m]; exact Or.inr (Or.inl ⟨rfl, rfl⟩)
def hB : Nat → Int
  | 0 => 1024
  | k + 1 => hB k / 2
theorem hB_0 : ∀ k : Nat, hB (k + 11) = 0 := by
  intro k
  induction k with
  | zero => decide
  | succ k ih => rw [show k + 1 + 11 = (k + 11) + 1 by omega, hB, ih]; decide
theorem half {a : Int32} (h : 0 ≤ a.toInt) : (a / 2).toInt = a.toInt / 2 := by
  have q := Int32.toInt_lt a
  rw [Int32.toInt_div, show Int32.toInt 2 = 2 from rfl, Int.tdiv_eq_ediv_of_nonneg h, Int.bmod_eq_of_le (by omega) (by omega)]
theorem half_lp {mem qm z w K Y qo : Nat → Int32} {x1 x2 : Int32} (h : RB 1024 mem qm) (hz : z 0 = w 16) (hs : 0 ≤ (w 16).toInt) (hK : KR (w 16) K Y) (h1 : z 1 = x1) (h2 : z 2 = x2) (h4 : z 4 = qo (Int32.toNatClampNeg 5)) (h6 : z 6 = 0) : ∀ (m_ n_ : Nat) (k1 k2 k3 : Int32), 0 ≤ k1.toInt → k2.toInt ≤ 1024 → 0 ≤ k3.toInt → k2.toInt - k1.toInt ≤ hB k3.toInt.toNat → (k2.toInt - k1.toInt).toNat < m_ → 32 - k3.toInt < n_ → 0 < n_ → uRel z (pX5_byHalves_lp9 mem K n_ z k1 k2 k3) (pX8_byHalves_lp6 w qm qo Y x1 x2 m_ k1 k2) := by
  have z0 : Int32.toInt 0 = 0 := rfl
  have z1 : Int32.toInt 1 = 1 := rfl
  have z32 : Int32.toInt 32 = 32 := rfl
  intro m_
  induction m_ with
  | zero => intro n_ k1 k2 k3 _ _ _ _ h; exact absurd h (Nat.not_lt_zero _)
  | succ m_ ih =>
    intro n_ k1 k2 k3 q1 q2 q3 q4 q5 q6 q7
    cases n_ with
    | zero => exact absurd q7 (Nat.not_lt_zero _)
    | succ n_ =>
    rw [pX8_byHalves_lp6, pX5_byHalves_lp9]
    by_cases c : k2 ≤ k1
    · rw [if_pos c, if_pos c]
      by_cases c3 : 32 ≤ k3
      · rw [if_pos c3]; exact Or.inr (Or.inl ⟨rfl, rfl⟩)
      · rw [if_neg c3]; exact Or.inr (Or.inl ⟨rfl, rfl⟩)
    · have c' := c
      rw [Int32.le_iff_toInt_le] at c'
      have k11 : k3.toInt.toNat < 11 := by
        refine Nat.lt_of_not_le fun q => ?_
        have e := hB_0 (k3.toInt.toNat - 11)
        rw [show k3.toInt.toNat - 11 + 11 = k3.toInt.toNat by omega] at e
        omega
      have ek : (k3 + 1).toInt = k3.toInt + 1 := by rw [ti_add (by omega) (by omega), z1]
      have eN : (k3.toInt + 1).toNat = k3.toInt.toNat + 1 := by omega
      have eB : hB (k3.toInt + 1).toNat = hB k3.toInt.toNat / 2 := by rw [eN, hB]
      have ea : (k1 + k2).toInt = k1.toInt + k2.toInt := ti_add (by omega) (by omega)
      have eh : ((k1 + k2) / 2).toInt = (k1.toInt + k2.toInt) / 2 := by rw [half (by omega), ea]
      rw [if_neg c, if_neg (show ¬ 32 ≤ k3 by rw [Int32.le_iff_toInt_le]; omega), if_neg c, if_pos h6, mLet_eq, mLet_eq]
      generalize (k1 + k2) / 2 = k at eh
      have ed : (k + 1).toInt = k.toInt + 1 := by rw [ti_add (by omega) (by omega), z1]
      have n1 := ih n_ k1 k (k3 + 1) (by omega) (by omega) (by omega) (by rw [ek, eB]; omega) (by omega) (by rw [ek]; omega) (by omega)
      have n2 := ih n_ (k + 1) k2 (k3 + 1) (by omega) (by omega) (by omega) (by rw [ek, eB, ed]; omega) (by rw [ed]; omega) (by rw [ek]; omega) (by omega)
      obtain ⟨t1, t2⟩ := there (qo := qo) (k := k) hz hs h1 h2 h4
      by_cases d : pX8_isIn ((x1 + (k * x2)) + qo (Int32.toNatClampNeg 5)) (w 16) = 0
      · rw [if_pos d, isThere_0 (t2.mpr d), if_pos (nought_eq _)]; exact Or.inl ⟨rfl, rfl⟩
      · obtain ⟨u, hu, eu⟩ := isThere_1 (fun q => d (t2.mp q))
        have i := (isIn_iff (by omega)).mp d
        have cr : cRel (pX5_compare z mem K k) (pX8_beside w qm Y ((x1 + (k * x2)) + qo (Int32.toNatClampNeg 5))) := by
          rw [pX5_compare, t1, pX8_beside, hz]
          exact cmp_lp h hz hK i _ 0 (by decide) (by omega)
        rw [if_neg d, eu, if_neg (show ¬ (u, z).1 = 0 from hu)]
        dsimp only
        rw [mLet_eq, mLet_eq]
        generalize pX5_compare z mem K k = a at cr
        generalize pX8_beside w qm Y ((x1 + (k * x2)) + qo (Int32.toNatClampNeg 5)) = b at cr
        obtain q | q | q := cr
        · rw [if_pos q.1, if_pos q.2]; exact Or.inr (Or.inr ⟨by omega, rfl⟩)
        · rw [if_neg (show ¬ a = 0 by intro r; rw [r] at q; omega), if_pos (show 0 ≤ a by rw [Int32.le_iff_toInt_le]; omega), if_neg (show ¬ b = 1 by rw [q.2]; decide), if_neg (show ¬ b = 0 by rw [q.2]; decide)]; exact n1
        · rw [if_neg (show ¬ a = 0 by intro r; rw [r] at q; omega), if_neg (show ¬ 0 ≤ a by rw [Int32.le_iff_toInt_le]; omega), if_neg (show ¬ b = 1 by rw [q.2]; decide), if_pos q.2]; exact n2
