def pX0_holds (n : Nat) (x1 : Int32) (x2 : Int32) : Int32 := (if x1 < 0 then (0) else (if x2 < 0 then (0) else (if (Int32.ofNat n) < x2 then (0) else (if ((Int32.ofNat n) - x2) < x1 then (0) else (1)))))
theorem okX0_holds : mOk yX0_holds cX0_holds 3 (some .boolean) 2 := ⟨gm_133, gm_2, by decide +kernel⟩
theorem zX0_holds (n : Nat) (x1 x2 : Int32) : narrow .boolean (.int (pX0_holds n x1 x2)) = .int (pX0_holds n x1 x2) := by
  unfold pX0_holds
  (repeat' split) <;> rfl
theorem holds_iff {n : Nat} {x1 x2 : Int32} (hn : n ≤ 1024) : ¬ pX0_holds n x1 x2 = 0 ↔ 0 ≤ x1.toInt ∧ 0 ≤ x2.toInt ∧ x1.toInt + x2.toInt ≤ n := by
  have e : (Int32.ofNat n).toInt = (n : Int) := nI_toInt (by omega)
  have z : (0 : Int32).toInt = 0 := rfl
  unfold pX0_holds
  by_cases h1 : x1 < 0
  · rw [if_pos h1]; rw [Int32.lt_iff_toInt_lt] at h1
    exact ⟨fun h => absurd rfl h, fun h => by omega⟩
  rw [if_neg h1]
  by_cases h2 : x2 < 0
  · rw [if_pos h2]; rw [Int32.lt_iff_toInt_lt] at h2
    exact ⟨fun h => absurd rfl h, fun h => by omega⟩
  rw [if_neg h2]
  rw [Int32.lt_iff_toInt_lt] at h1 h2
  by_cases h3 : Int32.ofNat n < x2
  · rw [if_pos h3]; rw [Int32.lt_iff_toInt_lt] at h3
    exact ⟨fun h => absurd rfl h, fun h => by omega⟩
  rw [if_neg h3]
  rw [Int32.lt_iff_toInt_lt] at h3
  have es : (Int32.ofNat n - x2).toInt = n - x2.toInt := by
    rw [Int32.toInt_sub, e]
    exact Int.bmod_eq_of_le (by omega) (by omega)
  by_cases h4 : Int32.ofNat n - x2 < x1
  · rw [if_pos h4]; rw [Int32.lt_iff_toInt_lt, es] at h4
    exact ⟨fun h => absurd rfl h, fun h => by omega⟩
  rw [if_neg h4]
  rw [Int32.lt_iff_toInt_lt, es] at h4
  exact ⟨fun _ => by omega, fun _ => by decide⟩
theorem nat_clamp {x : Int32} (h : 0 ≤ x.toInt) : (x.toNatClampNeg : Int) = x.toInt := by
  rw [Int32.toNatClampNeg]; omega
theorem holds_copy {n : Nat} {x1 x2 : Int32} (hn : n ≤ 1024) (h : ¬ pX0_holds n x1 x2 = 0) : ¬ x1 < 0 ∧ ¬ x2 < 0 ∧ x1.toNatClampNeg + x2.toNatClampNeg ≤ n := by
  obtain ⟨h1, h2, h3⟩ := (holds_iff hn).mp h
  have e1 := nat_clamp h1
  have e2 := nat_clamp h2
  rw [Int32.lt_iff_toInt_lt, Int32.lt_iff_toInt_lt, show (0 : Int32).toInt = 0 from rfl]
  omega

set_option maxRecDepth 100000 in
set_option maxHeartbeats 4000000 in
theorem kX0_holds (l : Launch) (D : va_G) (cB cI : ClassId) (a b : Nat) (n : Nat) (f : Nat → Int32) (x1 : Int32) (x2 : Int32) (hn : n ≤ 1024) : mM l D cB cI yX0_holds cX0_holds 3 (some .boolean) { frames := 0, cells := 0, slots := 0, locals := 0 } [.ref a, .int x1, .int x2] (wB cB cI a b n f) (some (pX0_holds n x1 x2)) (wB cB cI a b n f) := by
  refine m_start (by decide +kernel) (Nat.le_of_ble_eq_true rfl) ?_
  intro p e s m below meth c A ls X hr hk V hl
  have X : mCx p s m _ c cX0_holds 3 RX0 D cB cI := X
  have hx := X.1.1
  have hb := X.1.2.1
  have hl : lv_has ls 3 [(0, .ref a), (1, .int x1), (2, .int x2)] := hl
  refine lv_iload_n hx hb dX0_holds_0 rfl (lv_at hl 1 rfl) ?_
  refine lv_if_lt (tgt := 32) hx hb dX0_holds_1 (by decide) (fun c_1 => ?_) (fun c_1 => ?_)
  · refine lv_iconst (v := 0) hx hb dX0_holds_32 (by decide) ?_
    have e9 : pX0_holds n x1 x2 = (0) := by rw [pX0_holds, if_pos c_1]
    exact m_zret X hr hk V rfl (by rw [e9]) rfl dX0_holds_33
  · refine lv_iload_n hx hb dX0_holds_4 rfl (lv_at hl 2 rfl) ?_
    refine lv_if_lt (tgt := 32) hx hb dX0_holds_5 (by decide) (fun c_5 => ?_) (fun c_5 => ?_)
    · refine lv_iconst (v := 0) hx hb dX0_holds_32 (by decide) ?_
      have e9 : pX0_holds n x1 x2 = (0) := by rw [pX0_holds, if_neg c_1, if_pos c_5]
      exact m_zret X hr hk V rfl (by rw [e9]) rfl dX0_holds_33
    · refine lv_iload_n hx hb dX0_holds_8 rfl (lv_at hl 2 rfl) ?_
      refine lv_aload_n hx hb dX0_holds_9 rfl (lv_at hl 0 rfl) ?_
      refine m_get X V 0 0 0 rfl gin_0 rfl (by decide) rfl gm_29 (v := .ref b) rfl dX0_holds_10 ?_
      refine m_blen X V 1 (v := (Int32.ofNat n)) rfl rfl dX0_holds_13 ?_
      refine lv_icmp_gt (tgt := 32) hx hb dX0_holds_14 (by decide) (fun c_14 => ?_) (fun c_14 => ?_)
      · refine lv_iconst (v := 0) hx hb dX0_holds_32 (by decide) ?_
        have e9 : pX0_holds n x1 x2 = (0) := by rw [pX0_holds, if_neg c_1, if_neg c_5, if_pos c_14]
        exact m_zret X hr hk V rfl (by rw [e9]) rfl dX0_holds_33
      · refine lv_iload_n hx hb dX0_holds_17 rfl (lv_at hl 1 rfl) ?_
        refine lv_aload_n hx hb dX0_holds_18 rfl (lv_at hl 0 rfl) ?_
        refine m_get X V 0 0 0 rfl gin_0 rfl (by decide) rfl gm_29 (v := .ref b) rfl dX0_holds_19 ?_
        refine m_blen X V 1 (v := (Int32.ofNat n)) rfl rfl dX0_holds_22 ?_
        refine lv_iload_n hx hb dX0_holds_23 rfl (lv_at hl 2 rfl) ?_
        refine lv_isub hx hb dX0_holds_24 ?_
        refine lv_icmp_gt (tgt := 32) hx hb dX0_holds_25 (by decide) (fun c_25 => ?_) (fun c_25 => ?_)
        · refine lv_iconst (v := 0) hx hb dX0_holds_32 (by decide) ?_
          have e9 : pX0_holds n x1 x2 = (0) := by rw [pX0_holds, if_neg c_1, if_neg c_5, if_neg c_14, if_pos c_25]
          exact m_zret X hr hk V rfl (by rw [e9]) rfl dX0_holds_33
        · refine lv_iconst (v := 1) hx hb dX0_holds_28 (by decide) ?_
          refine lv_goto (tgt := 33) hx hb dX0_holds_29 (by decide) ?_
          have e9 : pX0_holds n x1 x2 = (1) := by rw [pX0_holds, if_neg c_1, if_neg c_5, if_neg c_14, if_neg c_25]
          exact m_zret X hr hk V rfl (by rw [e9]) rfl dX0_holds_33
def pX0_byteAt (f : Nat → Int32) (n : Nat) (x1 : Int32) : Int32 := (if x1 < 0 then (0) else (if (Int32.ofNat n) ≤ x1 then (0) else (((f (Int32.toNatClampNeg x1)) &&& 255))))
theorem okX0_byteAt : mOk yX0_byteAt cX0_byteAt 2 (some .int) 1 := ⟨gm_178, gm_2, by decide +kernel⟩
set_option maxRecDepth 100000 in
set_option maxHeartbeats 4000000 in
theorem kX0_byteAt (l : Launch) (D : va_G) (cB cI : ClassId) (a b : Nat) (n : Nat) (f : Nat → Int32) (x1 : Int32) (hn : n ≤ 1024) : mM l D cB cI yX0_byteAt cX0_byteAt 2 (some .int) { frames := 0, cells := 0, slots := 0, locals := 0 } [.ref a, .int x1] (wB cB cI a b n f) (some (pX0_byteAt f n x1)) (wB cB cI a b n f) := by
  refine m_start (by decide +kernel) (Nat.le_of_ble_eq_true rfl) ?_
  intro p e s m below meth c A ls X hr hk V hl
  have X : mCx p s m _ c cX0_byteAt 2 RX0 D cB cI := X
  have hx := X.1.1
  have hb := X.1.2.1
  have hl : lv_has ls 2 [(0, .ref a), (1, .int x1)] := hl
  refine lv_iload_n hx hb dX0_byteAt_0 rfl (lv_at hl 1 rfl) ?_
  refine lv_if_lt (tgt := 26) hx hb dX0_byteAt_1 (by decide) (fun c_1 => ?_) (fun c_1 => ?_)
  · refine lv_iconst (v := 0) hx hb dX0_byteAt_26 (by decide) ?_
    have e9 : pX0_byteAt f n x1 = (0) := by rw [pX0_byteAt, if_pos c_1]
    exact m_iret X hr hk V (by rw [e9]) rfl dX0_byteAt_27
  · refine lv_iload_n hx hb dX0_byteAt_4 rfl (lv_at hl 1 rfl) ?_
    refine lv_aload_n hx hb dX0_byteAt_5 rfl (lv_at hl 0 rfl) ?_
    refine m_get X V 0 0 0 rfl gin_0 rfl (by decide) rfl gm_29 (v := .ref b) rfl dX0_byteAt_6 ?_
    refine m_blen X V 1 (v := (Int32.ofNat n)) rfl rfl dX0_byteAt_9 ?_
    refine lv_icmp_ge (tgt := 26) hx hb dX0_byteAt_10 (by decide) (fun c_10 => ?_) (fun c_10 => ?_)
    · refine lv_iconst (v := 0) hx hb dX0_byteAt_26 (by decide) ?_
      have e9 : pX0_byteAt f n x1 = (0) := by rw [pX0_byteAt, if_neg c_1, if_pos c_10]
      exact m_iret X hr hk V (by rw [e9]) rfl dX0_byteAt_27
    · refine lv_aload_n hx hb dX0_byteAt_13 rfl (lv_at hl 0 rfl) ?_
      refine m_get X V 0 0 0 rfl gin_0 rfl (by decide) rfl gm_29 (v := .ref b) rfl dX0_byteAt_14 ?_
      refine lv_iload_n hx hb dX0_byteAt_17 rfl (lv_at hl 1 rfl) ?_
      refine m_bald X V 1 rfl (vi_a (n := n) (Nat.lt_of_le_of_lt hn (by decide)) c_1 c_10) dX0_byteAt_18 ?_
      refine lv_sipush (v := 255) hx hb dX0_byteAt_19 (by decide) ?_
      refine lv_iand hx hb dX0_byteAt_22 ?_
      refine lv_goto (tgt := 27) hx hb dX0_byteAt_23 (by decide) ?_
      have e9 : pX0_byteAt f n x1 = (((f (Int32.toNatClampNeg x1)) &&& 255)) := by rw [pX0_byteAt, if_neg c_1, if_neg c_10]
      exact m_iret X hr hk V (by rw [e9]) rfl dX0_byteAt_27
def pX0_putByte (f : Nat → Int32) (n : Nat) (x1 : Int32) (x2 : Int32) : (Nat → Int32) := (if x1 < 0 then (f) else (if (Int32.ofNat n) ≤ x1 then (f) else ((upd f (Int32.toNatClampNeg x1) (vp_nar .byte ((Int32.toInt8 x2).toInt32))))))
theorem okX0_putByte : mOk yX0_putByte cX0_putByte 3 none 2 := ⟨gm_170, gm_2, by decide +kernel⟩
set_option maxRecDepth 100000 in
set_option maxHeartbeats 4000000 in
theorem kX0_putByte (l : Launch) (D : va_G) (cB cI : ClassId) (a b : Nat) (n : Nat) (f : Nat → Int32) (x1 : Int32) (x2 : Int32) (hn : n ≤ 1024) : mM l D cB cI yX0_putByte cX0_putByte 3 none { frames := 0, cells := 0, slots := 0, locals := 0 } [.ref a, .int x1, .int x2] (wB cB cI a b n f) none (wB cB cI a b n (pX0_putByte f n x1 x2)) := by
  refine m_start (by decide +kernel) (Nat.le_of_ble_eq_true rfl) ?_
  intro p e s m below meth c A ls X hr hk V hl
  have X : mCx p s m _ c cX0_putByte 3 RX0 D cB cI := X
  have hx := X.1.1
  have hb := X.1.2.1
  have hl : lv_has ls 3 [(0, .ref a), (1, .int x1), (2, .int x2)] := hl
  refine lv_iload_n hx hb dX0_putByte_0 rfl (lv_at hl 1 rfl) ?_
  refine lv_if_lt (tgt := 21) hx hb dX0_putByte_1 (by decide) (fun c_1 => ?_) (fun c_1 => ?_)
  · have e9 : pX0_putByte f n x1 x2 = (f) := by rw [pX0_putByte, if_pos c_1]
    exact m_vret X hr hk V rfl (by rw [e9]) dX0_putByte_21
  · refine lv_iload_n hx hb dX0_putByte_4 rfl (lv_at hl 1 rfl) ?_
    refine lv_aload_n hx hb dX0_putByte_5 rfl (lv_at hl 0 rfl) ?_
    refine m_get X V 0 0 0 rfl gin_0 rfl (by decide) rfl gm_29 (v := .ref b) rfl dX0_putByte_6 ?_
    refine m_blen X V 1 (v := (Int32.ofNat n)) rfl rfl dX0_putByte_9 ?_
    refine lv_icmp_ge (tgt := 21) hx hb dX0_putByte_10 (by decide) (fun c_10 => ?_) (fun c_10 => ?_)
    · have e9 : pX0_putByte f n x1 x2 = (f) := by rw [pX0_putByte, if_neg c_1, if_pos c_10]
      exact m_vret X hr hk V rfl (by rw [e9]) dX0_putByte_21
    · refine lv_aload_n hx hb dX0_putByte_13 rfl (lv_at hl 0 rfl) ?_
      refine m_get X V 0 0 0 rfl gin_0 rfl (by decide) rfl gm_29 (v := .ref b) rfl dX0_putByte_14 ?_
      refine lv_iload_n hx hb dX0_putByte_17 rfl (lv_at hl 1 rfl) ?_
      refine lv_iload_n hx hb dX0_putByte_18 rfl (lv_at hl 2 rfl) ?_
      refine lv_i2b hx hb dX0_putByte_19 rfl ?_
      refine m_bast X V (ws' := (wB cB cI a b n (upd f (Int32.toNatClampNeg x1) (vp_nar .byte ((Int32.toInt8 x2).toInt32))))) 1 rfl (vi_a (n := n) (Nat.lt_of_le_of_lt hn (by decide)) c_1 c_10) dX0_putByte_20 rfl (fun H locs V => ?_)
      have e9 : pX0_putByte f n x1 x2 = ((upd f (Int32.toNatClampNeg x1) (vp_nar .byte ((Int32.toInt8 x2).toInt32)))) := by rw [pX0_putByte, if_neg c_1, if_neg c_10]
      exact m_vret X hr hk V rfl (by rw [e9]) dX0_putByte_21
def pX0_number_lp5 (f : Nat → Int32) (n : Nat) (x1 : Int32) (x2 : Int32) : Nat → (Int32) → (Int32) → Int32
  | 0, k3, k4 => (0)
  | n_ + 1, k3, k4 => (if x2 ≤ k4 then (k3) else (pX0_number_lp5 f n x1 x2 n_ ((k3 <<< (8 &&& 31)) ||| (pX0_byteAt f n (x1 + k4))) (k4 + 1)))
def pX0_number (f : Nat → Int32) (n : Nat) (x1 : Int32) (x2 : Int32) : Int32 := (pX0_number_lp5 f n x1 x2 ((Int32.toInt x2 - Int32.toInt 0).toNat + 1) 0 0)
theorem okX0_number : mOk yX0_number cX0_number 5 (some .int) 2 := ⟨gm_183, gm_2, by decide +kernel⟩
set_option maxRecDepth 100000 in
set_option maxHeartbeats 4000000 in
theorem lpX0_number_5 {p : Program} {e : Env} {s : State} {m : MethodId} {args : Array Value} {below : List Frame} {meth : Method} {c : Code} {A : Nat → Prop} {l : Launch} {D : va_G} {cB cI : ClassId} {a b : Nat} {f : Nat → Int32} {n : Nat} {x1 : Int32} {x2 : Int32} (X : mCx p s m args c cX0_number 5 RX0 D cB cI) (hr : meth.sig.returnType = (some .int)) (hk : meth.locks = false) (hn : n ≤ 1024) : ∀ (n_ : Nat) (k3 : Int32) (k4 : Int32) (H : Heap) (locs : List Loc) (ls : Array Slot), (Int32.toInt x2 - Int32.toInt k4).toNat < n_ → mWd D A s (wB cB cI a b n f) H locs → lv_has ls 5 [(0, .ref a), (1, .int x1), (2, .int x2), (3, .int k3), (4, .int k4)] → W p l e { frames := 1, cells := 0, slots := 0, locals := 21 } s m args below meth c H locs 0 0 (MQ below (mQ D A (wB cB cI a b n f) (some (pX0_number_lp5 f n x1 x2 n_ k3 k4))) args s 0 0 A) (F0 m 5 ls []) := by
  have hx := X.1.1
  have hb := X.1.2.1
  intro n_
  induction n_ with
  | zero =>
    intro k3 k4 H locs ls  hm V hl
    exact absurd hm (Nat.not_lt_zero _)
  | succ n_ ih =>
    intro k3 k4 H locs ls  hm V hl
    refine lv_iload hx hb dX0_number_5 (lv_at hl 4 rfl) ?_
    refine lv_iload_n hx hb dX0_number_7 rfl (lv_at hl 2 rfl) ?_
    refine lv_icmp_ge (tgt := 31) hx hb dX0_number_8 (by decide) (fun c_8 => ?_) (fun c_8 => ?_)
    · refine lv_iload_n hx hb dX0_number_31 rfl (lv_at hl 3 rfl) ?_
      have e9 : pX0_number_lp5 f n x1 x2 (n_ + 1) k3 k4 = (k3) := by rw [pX0_number_lp5, if_pos c_8]
      exact m_iret X hr hk V (by rw [e9]) rfl dX0_number_32
    · refine lv_iload_n hx hb dX0_number_11 rfl (lv_at hl 3 rfl) ?_
      refine lv_bipush (v := 8) hx hb dX0_number_12 (by decide) ?_
      refine lv_ishl hx hb dX0_number_14 ?_
      refine lv_aload_n hx hb dX0_number_15 rfl (lv_at hl 0 rfl) ?_
      refine lv_iload_n hx hb dX0_number_16 rfl (lv_at hl 1 rfl) ?_
      refine lv_iload hx hb dX0_number_17 (lv_at hl 4 rfl) ?_
      refine lv_iadd hx hb dX0_number_19 ?_
      refine m_VA X V (w1 := (wB cB cI a b n f)) (rest := [.int (k3 <<< (8 &&& 31))]) (st1 := [.int (pX0_byteAt f n (x1 + k4)), .int (k3 <<< (8 &&& 31))]) (kX0_byteAt l D cB cI a b n f (x1 + k4) hn) okX0_byteAt gm_177 gm_640 gm_184 ⟨⟨rfl, rfl⟩, ⟨by decide, by decide⟩, Nat.zero_le _, Nat.zero_le _⟩ rfl rfl (wB_fst _ _ _ _ _ _) (wB_fst _ _ _ _ _ _) rfl hl.1 (Nat.le_of_ble_eq_true rfl) dX0_number_20 rfl rfl (fun H locs V => ?_)
      refine lv_ior hx hb dX0_number_23 ?_
      refine lv_istore_n (lv' := [(3, .int ((k3 <<< (8 &&& 31)) ||| (pX0_byteAt f n (x1 + k4)))), (0, .ref a), (1, .int x1), (2, .int x2), (4, .int k4)]) hx hb dX0_number_24 rfl hl (by decide) rfl (fun ls hl => ?_)
      refine lv_iinc (v := (k4 + 1)) (lv' := [(4, .int (k4 + 1)), (3, .int ((k3 <<< (8 &&& 31)) ||| (pX0_byteAt f n (x1 + k4)))), (0, .ref a), (1, .int x1), (2, .int x2)]) hx hb dX0_number_25 hl (k := 4) rfl rfl (by decide) rfl (fun ls hl => ?_)
      refine lv_goto (tgt := 5) hx hb dX0_number_28 (by decide) ?_
      rw [show pX0_number_lp5 f n x1 x2 (n_ + 1) k3 k4 = pX0_number_lp5 f n x1 x2 n_ ((k3 <<< (8 &&& 31)) ||| (pX0_byteAt f n (x1 + k4))) (k4 + 1) from by rw [pX0_number_lp5, if_neg c_8]]
      exact ih ((k3 <<< (8 &&& 31)) ||| (pX0_byteAt f n (x1 + k4))) (k4 + 1) _ _ _  (ms_up c_8 hm) V (lv_sub hl [2, 3, 4, 1, 0] rfl)
set_option maxRecDepth 100000 in
set_option maxHeartbeats 4000000 in
theorem kX0_number (l : Launch) (D : va_G) (cB cI : ClassId) (a b : Nat) (n : Nat) (f : Nat → Int32) (x1 : Int32) (x2 : Int32) (hn : n ≤ 1024) : mM l D cB cI yX0_number cX0_number 5 (some .int) { frames := 1, cells := 0, slots := 0, locals := 21 } [.ref a, .int x1, .int x2] (wB cB cI a b n f) (some (pX0_number f n x1 x2)) (wB cB cI a b n f) := by
  refine m_start (by decide +kernel) (Nat.le_of_ble_eq_true rfl) ?_
  intro p e s m below meth c A ls X hr hk V hl
  have X : mCx p s m _ c cX0_number 5 RX0 D cB cI := X
  have hx := X.1.1
  have hb := X.1.2.1
  have hl : lv_has ls 5 [(0, .ref a), (1, .int x1), (2, .int x2)] := hl
  refine lv_iconst (v := 0) hx hb dX0_number_0 (by decide) ?_
  refine lv_istore_n (lv' := [(3, .int 0), (0, .ref a), (1, .int x1), (2, .int x2)]) hx hb dX0_number_1 rfl hl (by decide) rfl (fun ls hl => ?_)
  refine lv_iconst (v := 0) hx hb dX0_number_2 (by decide) ?_
  refine lv_istore (lv' := [(4, .int 0), (3, .int 0), (0, .ref a), (1, .int x1), (2, .int x2)]) hx hb dX0_number_3 hl (by decide) rfl (fun ls hl => ?_)
  rw [show pX0_number f n x1 x2 = (pX0_number_lp5 f n x1 x2 ((Int32.toInt x2 - Int32.toInt 0).toNat + 1) 0 0) from by rw [pX0_number]]
  exact lpX0_number_5 X hr hk hn ((Int32.toInt x2 - Int32.toInt 0).toNat + 1) 0 0 _ _ _  (Nat.lt_succ_self _) V (lv_sub hl [2, 3, 4, 1, 0] rfl)
def pX0_put_lp8 (n : Nat) (x1 : Int32) : Nat → (Nat → Int32) → (Int64) → (Int32) → (Nat → Int32)
  | 0, f, j5, k7 => (f)
  | n_ + 1, f, j5, k7 => (if k7 < 0 then (f) else (if (x1 + k7) < 0 then (pX0_put_lp8 n x1 n_ f ((j5.toUInt64 >>> ((Int32.toInt64 8).toUInt64 &&& Int64.toUInt64 63)).toInt64) (k7 + (-1))) else (if (Int32.ofNat n) ≤ (x1 + k7) then (pX0_put_lp8 n x1 n_ f ((j5.toUInt64 >>> ((Int32.toInt64 8).toUInt64 &&& Int64.toUInt64 63)).toInt64) (k7 + (-1))) else (pX0_put_lp8 n x1 n_ (upd f (Int32.toNatClampNeg (x1 + k7)) (vp_nar .byte ((Int32.toInt8 (Int64.toInt32 j5)).toInt32))) ((j5.toUInt64 >>> ((Int32.toInt64 8).toUInt64 &&& Int64.toUInt64 63)).toInt64) (k7 + (-1))))))
def pX0_put (f : Nat → Int32) (n : Nat) (x1 : Int32) (x2 : Int32) (x3 : Int64) : (Nat → Int32) := (pX0_put_lp8 n x1 ((Int32.toInt (x2 - 1) + 1).toNat + 1) f x3 (x2 - 1))
theorem okX0_put : mOk yX0_put cX0_put 9 none 3 := ⟨gm_135, gm_2, by decide +kernel⟩
set_option maxRecDepth 100000 in
set_option maxHeartbeats 4000000 in
theorem lpX0_put_8 {p : Program} {e : Env} {s : State} {m : MethodId} {args : Array Value} {below : List Frame} {meth : Method} {c : Code} {A : Nat → Prop} {l : Launch} {D : va_G} {cB cI : ClassId} {a b : Nat} {n : Nat} {x1 : Int32} (X : mCx p s m args c cX0_put 9 RX0 D cB cI) (hr : meth.sig.returnType = none) (hk : meth.locks = false) (hn : n ≤ 1024) : ∀ (n_ : Nat) (f : Nat → Int32) (j5 : Int64) (k7 : Int32) (H : Heap) (locs : List Loc) (ls : Array Slot), (Int32.toInt k7 + 1).toNat < n_ → mWd D A s (wB cB cI a b n f) H locs → lv_has ls 9 [(0, .ref a), (1, .int x1), (5, .long j5), (7, .int k7)] → W p l e { frames := 0, cells := 0, slots := 0, locals := 0 } s m args below meth c H locs 0 0 (MQ below (mQ D A (wB cB cI a b n (pX0_put_lp8 n x1 n_ f j5 k7)) none) args s 0 0 A) (F0 m 8 ls []) := by
  have hx := X.1.1
  have hb := X.1.2.1
  intro n_
  induction n_ with
  | zero =>
    intro f j5 k7 H locs ls  hm V hl
    exact absurd hm (Nat.not_lt_zero _)
  | succ n_ ih =>
    intro f j5 k7 H locs ls  hm V hl
    refine lv_iload hx hb dX0_put_8 (lv_at hl 3 rfl) ?_
    refine lv_if_lt (tgt := 58) hx hb dX0_put_10 (by decide) (fun c_10 => ?_) (fun c_10 => ?_)
    · have e9 : pX0_put_lp8 n x1 (n_ + 1) f j5 k7 = (f) := by rw [pX0_put_lp8, if_pos c_10]
      exact m_vret X hr hk V rfl (by rw [e9]) dX0_put_58
    · refine lv_iload_n hx hb dX0_put_13 rfl (lv_at hl 1 rfl) ?_
      refine lv_iload hx hb dX0_put_14 (lv_at hl 3 rfl) ?_
      refine lv_iadd hx hb dX0_put_16 ?_
      refine lv_istore (lv' := [(8, .int (x1 + k7)), (0, .ref a), (1, .int x1), (5, .long j5), (7, .int k7)]) hx hb dX0_put_17 hl (by decide) rfl (fun ls hl => ?_)
      refine lv_iload hx hb dX0_put_19 (lv_at hl 0 rfl) ?_
      refine lv_if_lt (tgt := 45) hx hb dX0_put_21 (by decide) (fun c_21 => ?_) (fun c_21 => ?_)
      · refine lv_lload hx hb dX0_put_45 (lv_at hl 3 rfl) ?_
        refine lv_bipush (v := 8) hx hb dX0_put_47 (by decide) ?_
        refine lv_lushr hx hb dX0_put_49 rfl ?_
        refine lv_lstore (lv' := [(5, .long ((j5.toUInt64 >>> ((Int32.toInt64 8).toUInt64 &&& Int64.toUInt64 63)).toInt64)), (8, .int (x1 + k7)), (0, .ref a), (1, .int x1), (7, .int k7)]) hx hb dX0_put_50 hl (by decide) rfl (fun ls hl => ?_)
        refine lv_iinc (v := (k7 + (-1))) (lv' := [(7, .int (k7 + (-1))), (5, .long ((j5.toUInt64 >>> ((Int32.toInt64 8).toUInt64 &&& Int64.toUInt64 63)).toInt64)), (8, .int (x1 + k7)), (0, .ref a), (1, .int x1)]) hx hb dX0_put_52 hl (k := 4) rfl rfl (by decide) rfl (fun ls hl => ?_)
        refine lv_goto (tgt := 8) hx hb dX0_put_55 (by decide) ?_
        rw [show pX0_put_lp8 n x1 (n_ + 1) f j5 k7 = pX0_put_lp8 n x1 n_ f ((j5.toUInt64 >>> ((Int32.toInt64 8).toUInt64 &&& Int64.toUInt64 63)).toInt64) (k7 + (-1)) from by rw [pX0_put_lp8, if_neg c_10, if_pos c_21]]
        exact ih f ((j5.toUInt64 >>> ((Int32.toInt64 8).toUInt64 &&& Int64.toUInt64 63)).toInt64) (k7 + (-1)) _ _ _  (ms_dn c_10 hm) V (lv_sub hl [3, 4, 1, 0] rfl)
      · refine lv_iload hx hb dX0_put_24 (lv_at hl 0 rfl) ?_
        refine lv_aload_n hx hb dX0_put_26 rfl (lv_at hl 1 rfl) ?_
        refine m_get X V 0 0 0 rfl gin_0 rfl (by decide) rfl gm_29 (v := .ref b) rfl dX0_put_27 ?_
        refine m_blen X V 1 (v := (Int32.ofNat n)) rfl rfl dX0_put_30 ?_
        refine lv_icmp_ge (tgt := 45) hx hb dX0_put_31 (by decide) (fun c_31 => ?_) (fun c_31 => ?_)
        · refine lv_lload hx hb dX0_put_45 (lv_at hl 3 rfl) ?_
          refine lv_bipush (v := 8) hx hb dX0_put_47 (by decide) ?_
          refine lv_lushr hx hb dX0_put_49 rfl ?_
          refine lv_lstore (lv' := [(5, .long ((j5.toUInt64 >>> ((Int32.toInt64 8).toUInt64 &&& Int64.toUInt64 63)).toInt64)), (8, .int (x1 + k7)), (0, .ref a), (1, .int x1), (7, .int k7)]) hx hb dX0_put_50 hl (by decide) rfl (fun ls hl => ?_)
          refine lv_iinc (v := (k7 + (-1))) (lv' := [(7, .int (k7 + (-1))), (5, .long ((j5.toUInt64 >>> ((Int32.toInt64 8).toUInt64 &&& Int64.toUInt64 63)).toInt64)), (8, .int (x1 + k7)), (0, .ref a), (1, .int x1)]) hx hb dX0_put_52 hl (k := 4) rfl rfl (by decide) rfl (fun ls hl => ?_)
          refine lv_goto (tgt := 8) hx hb dX0_put_55 (by decide) ?_
          rw [show pX0_put_lp8 n x1 (n_ + 1) f j5 k7 = pX0_put_lp8 n x1 n_ f ((j5.toUInt64 >>> ((Int32.toInt64 8).toUInt64 &&& Int64.toUInt64 63)).toInt64) (k7 + (-1)) from by rw [pX0_put_lp8, if_neg c_10, if_neg c_21, if_pos c_31]]
          exact ih f ((j5.toUInt64 >>> ((Int32.toInt64 8).toUInt64 &&& Int64.toUInt64 63)).toInt64) (k7 + (-1)) _ _ _  (ms_dn c_10 hm) V (lv_sub hl [3, 4, 1, 0] rfl)
        · refine lv_aload_n hx hb dX0_put_34 rfl (lv_at hl 1 rfl) ?_
          refine m_get X V 0 0 0 rfl gin_0 rfl (by decide) rfl gm_29 (v := .ref b) rfl dX0_put_35 ?_
          refine lv_iload hx hb dX0_put_38 (lv_at hl 0 rfl) ?_
          refine lv_lload hx hb dX0_put_40 (lv_at hl 3 rfl) ?_
          refine lv_l2i hx hb dX0_put_42 rfl ?_
          refine lv_i2b hx hb dX0_put_43 rfl ?_
          refine m_bast X V (ws' := (wB cB cI a b n (upd f (Int32.toNatClampNeg (x1 + k7)) (vp_nar .byte ((Int32.toInt8 (Int64.toInt32 j5)).toInt32))))) 1 rfl (vi_a (n := n) (Nat.lt_of_le_of_lt hn (by decide)) c_21 c_31) dX0_put_44 rfl (fun H locs V => ?_)
          refine lv_lload hx hb dX0_put_45 (lv_at hl 3 rfl) ?_
          refine lv_bipush (v := 8) hx hb dX0_put_47 (by decide) ?_
          refine lv_lushr hx hb dX0_put_49 rfl ?_
          refine lv_lstore (lv' := [(5, .long ((j5.toUInt64 >>> ((Int32.toInt64 8).toUInt64 &&& Int64.toUInt64 63)).toInt64)), (8, .int (x1 + k7)), (0, .ref a), (1, .int x1), (7, .int k7)]) hx hb dX0_put_50 hl (by decide) rfl (fun ls hl => ?_)
          refine lv_iinc (v := (k7 + (-1))) (lv' := [(7, .int (k7 + (-1))), (5, .long ((j5.toUInt64 >>> ((Int32.toInt64 8).toUInt64 &&& Int64.toUInt64 63)).toInt64)), (8, .int (x1 + k7)), (0, .ref a), (1, .int x1)]) hx hb dX0_put_52 hl (k := 4) rfl rfl (by decide) rfl (fun ls hl => ?_)
          refine lv_goto (tgt := 8) hx hb dX0_put_55 (by decide) ?_
          rw [show pX0_put_lp8 n x1 (n_ + 1) f j5 k7 = pX0_put_lp8 n x1 n_ (upd f (Int32.toNatClampNeg (x1 + k7)) (vp_nar .byte ((Int32.toInt8 (Int64.toInt32 j5)).toInt32))) ((j5.toUInt64 >>> ((Int32.toInt64 8).toUInt64 &&& Int64.toUInt64 63)).toInt64) (k7 + (-1)) from by rw [pX0_put_lp8, if_neg c_10, if_neg c_21, if_neg c_31]]
          exact ih (upd f (Int32.toNatClampNeg (x1 + k7)) (vp_nar .byte ((Int32.toInt8 (Int64.toInt32 j5)).toInt32))) ((j5.toUInt64 >>> ((Int32.toInt64 8).toUInt64 &&& Int64.toUInt64 63)).toInt64) (k7 + (-1)) _ _ _  (ms_dn c_10 hm) V (lv_sub hl [3, 4, 1, 0] rfl)
set_option maxRecDepth 100000 in
set_option maxHeartbeats 4000000 in
theorem kX0_put (l : Launch) (D : va_G) (cB cI : ClassId) (a b : Nat) (n : Nat) (f : Nat → Int32) (x1 : Int32) (x2 : Int32) (x3 : Int64) (hn : n ≤ 1024) : mM l D cB cI yX0_put cX0_put 9 none { frames := 0, cells := 0, slots := 0, locals := 0 } [.ref a, .int x1, .int x2, .long x3] (wB cB cI a b n f) none (wB cB cI a b n (pX0_put f n x1 x2 x3)) := by
  refine m_start (by decide +kernel) (Nat.le_of_ble_eq_true rfl) ?_
  intro p e s m below meth c A ls X hr hk V hl
  have X : mCx p s m _ c cX0_put 9 RX0 D cB cI := X
  have hx := X.1.1
  have hb := X.1.2.1
  have hl : lv_has ls 9 [(0, .ref a), (1, .int x1), (2, .int x2), (3, .long x3)] := hl
  refine lv_lload_n hx hb dX0_put_0 rfl (lv_at hl 3 rfl) ?_
  refine lv_lstore (lv' := [(5, .long x3), (0, .ref a), (1, .int x1), (2, .int x2), (3, .long x3)]) hx hb dX0_put_1 hl (by decide) rfl (fun ls hl => ?_)
  refine lv_iload_n hx hb dX0_put_3 rfl (lv_at hl 3 rfl) ?_
  refine lv_iconst (v := 1) hx hb dX0_put_4 (by decide) ?_
  refine lv_isub hx hb dX0_put_5 ?_
  refine lv_istore (lv' := [(7, .int (x2 - 1)), (5, .long x3), (0, .ref a), (1, .int x1), (2, .int x2), (3, .long x3)]) hx hb dX0_put_6 hl (by decide) rfl (fun ls hl => ?_)
  rw [show pX0_put f n x1 x2 x3 = (pX0_put_lp8 n x1 ((Int32.toInt (x2 - 1) + 1).toNat + 1) f x3 (x2 - 1)) from by rw [pX0_put]]
  exact lpX0_put_8 X hr hk hn ((Int32.toInt (x2 - 1) + 1).toNat + 1) f x3 (x2 - 1) _ _ _  (Nat.lt_succ_self _) V (lv_sub hl [2, 3, 1, 0] rfl)
def pX0_zero_lp11 (n : Nat) (x1 : Int32) (x2 : Int32) : Nat → (Nat → Int32) → (Int32) → (Nat → Int32)
  | 0, f, k3 => (f)
  | n_ + 1, f, k3 => (if x2 ≤ k3 then (f) else (pX0_zero_lp11 n x1 x2 n_ (pX0_putByte f n (x1 + k3) 0) (k3 + 1)))
def pX0_zero (f : Nat → Int32) (n : Nat) (x1 : Int32) (x2 : Int32) : (Nat → Int32) := (if (pX0_holds n x1 x2) = 0 then (f) else (pX0_zero_lp11 n x1 x2 ((Int32.toInt x2 - Int32.toInt 0).toNat + 1) f 0))
theorem okX0_zero : mOk yX0_zero cX0_zero 4 none 2 := ⟨gm_166, gm_2, by decide +kernel⟩
set_option maxRecDepth 100000 in
set_option maxHeartbeats 4000000 in
theorem lpX0_zero_11 {p : Program} {e : Env} {s : State} {m : MethodId} {args : Array Value} {below : List Frame} {meth : Method} {c : Code} {A : Nat → Prop} {l : Launch} {D : va_G} {cB cI : ClassId} {a b : Nat} {n : Nat} {x1 : Int32} {x2 : Int32} (X : mCx p s m args c cX0_zero 4 RX0 D cB cI) (hr : meth.sig.returnType = none) (hk : meth.locks = false) (hn : n ≤ 1024) : ∀ (n_ : Nat) (f : Nat → Int32) (k3 : Int32) (H : Heap) (locs : List Loc) (ls : Array Slot), (Int32.toInt x2 - Int32.toInt k3).toNat < n_ → mWd D A s (wB cB cI a b n f) H locs → lv_has ls 4 [(0, .ref a), (1, .int x1), (2, .int x2), (3, .int k3)] → W p l e { frames := 1, cells := 0, slots := 0, locals := 22 } s m args below meth c H locs 0 0 (MQ below (mQ D A (wB cB cI a b n (pX0_zero_lp11 n x1 x2 n_ f k3)) none) args s 0 0 A) (F0 m 11 ls []) := by
  have hx := X.1.1
  have hb := X.1.2.1
  intro n_
  induction n_ with
  | zero =>
    intro f k3 H locs ls  hm V hl
    exact absurd hm (Nat.not_lt_zero _)
  | succ n_ ih =>
    intro f k3 H locs ls  hm V hl
    refine lv_iload_n hx hb dX0_zero_11 rfl (lv_at hl 3 rfl) ?_
    refine lv_iload_n hx hb dX0_zero_12 rfl (lv_at hl 2 rfl) ?_
    refine lv_icmp_ge (tgt := 30) hx hb dX0_zero_13 (by decide) (fun c_13 => ?_) (fun c_13 => ?_)
    · have e9 : pX0_zero_lp11 n x1 x2 (n_ + 1) f k3 = (f) := by rw [pX0_zero_lp11, if_pos c_13]
      exact m_vret X hr hk V rfl (by rw [e9]) dX0_zero_30
    · refine lv_aload_n hx hb dX0_zero_16 rfl (lv_at hl 0 rfl) ?_
      refine lv_iload_n hx hb dX0_zero_17 rfl (lv_at hl 1 rfl) ?_
      refine lv_iload_n hx hb dX0_zero_18 rfl (lv_at hl 3 rfl) ?_
      refine lv_iadd hx hb dX0_zero_19 ?_
      refine lv_iconst (v := 0) hx hb dX0_zero_20 (by decide) ?_
      refine m_VA X V (w1 := (wB cB cI a b n (pX0_putByte f n (x1 + k3) 0))) (rest := []) (st1 := []) (kX0_putByte l D cB cI a b n f (x1 + k3) 0 hn) okX0_putByte gm_169 gm_638 gm_168 ⟨⟨rfl, rfl⟩, ⟨by decide, by decide⟩, Nat.zero_le _, Nat.zero_le _⟩ rfl rfl (wB_fst _ _ _ _ _ _) (wB_fst _ _ _ _ _ _) rfl hl.1 (Nat.le_of_ble_eq_true rfl) dX0_zero_21 rfl rfl (fun H locs V => ?_)
      refine lv_iinc (v := (k3 + 1)) (lv' := [(3, .int (k3 + 1)), (0, .ref a), (1, .int x1), (2, .int x2)]) hx hb dX0_zero_24 hl (k := 3) rfl rfl (by decide) rfl (fun ls hl => ?_)
      refine lv_goto (tgt := 11) hx hb dX0_zero_27 (by decide) ?_
      rw [show pX0_zero_lp11 n x1 x2 (n_ + 1) f k3 = pX0_zero_lp11 n x1 x2 n_ (pX0_putByte f n (x1 + k3) 0) (k3 + 1) from by rw [pX0_zero_lp11, if_neg c_13]]
      exact ih (pX0_putByte f n (x1 + k3) 0) (k3 + 1) _ _ _  (ms_up c_13 hm) V (lv_sub hl [1, 2, 3, 0] rfl)
set_option maxRecDepth 100000 in
set_option maxHeartbeats 4000000 in
theorem kX0_zero (l : Launch) (D : va_G) (cB cI : ClassId) (a b : Nat) (n : Nat) (f : Nat → Int32) (x1 : Int32) (x2 : Int32) (hn : n ≤ 1024) : mM l D cB cI yX0_zero cX0_zero 4 none { frames := 1, cells := 0, slots := 0, locals := 22 } [.ref a, .int x1, .int x2] (wB cB cI a b n f) none (wB cB cI a b n (pX0_zero f n x1 x2)) := by
  refine m_start (by decide +kernel) (Nat.le_of_ble_eq_true rfl) ?_
  intro p e s m below meth c A ls X hr hk V hl
  have X : mCx p s m _ c cX0_zero 4 RX0 D cB cI := X
  have hx := X.1.1
  have hb := X.1.2.1
  have hl : lv_has ls 4 [(0, .ref a), (1, .int x1), (2, .int x2)] := hl
  refine lv_aload_n hx hb dX0_zero_0 rfl (lv_at hl 0 rfl) ?_
  refine lv_iload_n hx hb dX0_zero_1 rfl (lv_at hl 1 rfl) ?_
  refine lv_iload_n hx hb dX0_zero_2 rfl (lv_at hl 2 rfl) ?_
  refine m_VA X V (w1 := (wB cB cI a b n f)) (rest := []) (st1 := [.int (pX0_holds n x1 x2)]) (kX0_holds l D cB cI a b n f x1 x2 hn) okX0_holds gm_132 gm_630 gm_167 ⟨⟨rfl, rfl⟩, ⟨by decide, by decide⟩, Nat.zero_le _, Nat.zero_le _⟩ rfl rfl (wB_fst _ _ _ _ _ _) (wB_fst _ _ _ _ _ _) rfl hl.1 (Nat.le_of_ble_eq_true rfl) dX0_zero_3 rfl rfl (fun H locs V => ?_)
  refine lv_if_eq (tgt := 30) hx hb dX0_zero_6 (by decide) (fun c_6 => ?_) (fun c_6 => ?_)
  · have e9 : pX0_zero f n x1 x2 = (f) := by rw [pX0_zero, if_pos c_6]
    exact m_vret X hr hk V rfl (by rw [e9]) dX0_zero_30
  · refine lv_iconst (v := 0) hx hb dX0_zero_9 (by decide) ?_
    refine lv_istore_n (lv' := [(3, .int 0), (0, .ref a), (1, .int x1), (2, .int x2)]) hx hb dX0_zero_10 rfl hl (by decide) rfl (fun ls hl => ?_)
    rw [show pX0_zero f n x1 x2 = (pX0_zero_lp11 n x1 x2 ((Int32.toInt x2 - Int32.toInt 0).toNat + 1) f 0) from by rw [pX0_zero, if_neg c_6]]
    exact lpX0_zero_11 X hr hk hn ((Int32.toInt x2 - Int32.toInt 0).toNat + 1) f 0 _ _ _  (Nat.lt_succ_self _) V (lv_sub hl [1, 2, 3, 0] rfl)
def pX0_move (f : Nat → Int32) (n : Nat) (x1 : Int32) (x2 : Int32) (x3 : Int32) : (Nat → Int32) := (if (pX0_holds n x1 x3) = 0 then (f) else (if (pX0_holds n x2 x3) = 0 then (f) else ((va_cpy f f (Int32.toNatClampNeg x1) (Int32.toNatClampNeg x2) (Int32.toNatClampNeg x3)))))
theorem okX0_move : mOk yX0_move cX0_move 4 none 3 := ⟨gm_382, gm_2, by decide +kernel⟩
set_option maxRecDepth 100000 in
set_option maxHeartbeats 4000000 in
theorem kX0_move (l : Launch) (D : va_G) (cB cI : ClassId) (a b : Nat) (n : Nat) (f : Nat → Int32) (x1 : Int32) (x2 : Int32) (x3 : Int32) (hn : n ≤ 1024) (hf : sb_Fit f) : mM l D cB cI yX0_move cX0_move 4 none { frames := 1, cells := 0, slots := 0, locals := 60 } [.ref a, .int x1, .int x2, .int x3] (wB cB cI a b n f) none (wB cB cI a b n (pX0_move f n x1 x2 x3)) := by
  refine m_start (by decide +kernel) (Nat.le_of_ble_eq_true rfl) ?_
  intro p e s m below meth c A ls X hr hk V hl
  have X : mCx p s m _ c cX0_move 4 RX0 D cB cI := X
  have hx := X.1.1
  have hb := X.1.2.1
  have hl : lv_has ls 4 [(0, .ref a), (1, .int x1), (2, .int x2), (3, .int x3)] := hl
  refine lv_aload_n hx hb dX0_move_0 rfl (lv_at hl 0 rfl) ?_
  refine lv_iload_n hx hb dX0_move_1 rfl (lv_at hl 1 rfl) ?_
  refine lv_iload_n hx hb dX0_move_2 rfl (lv_at hl 3 rfl) ?_
  refine m_VA X V (w1 := (wB cB cI a b n f)) (rest := []) (st1 := [.int (pX0_holds n x1 x3)]) (kX0_holds l D cB cI a b n f x1 x3 hn) okX0_holds gm_132 gm_630 gm_167 ⟨⟨rfl, rfl⟩, ⟨by decide, by decide⟩, Nat.zero_le _, Nat.zero_le _⟩ rfl rfl (wB_fst _ _ _ _ _ _) (wB_fst _ _ _ _ _ _) rfl hl.1 (Nat.le_of_ble_eq_true rfl) dX0_move_3 rfl rfl (fun H locs V => ?_)
  refine lv_if_eq (tgt := 32) hx hb dX0_move_6 (by decide) (fun c_6 => ?_) (fun c_6 => ?_)
  · have e9 : pX0_move f n x1 x2 x3 = (f) := by rw [pX0_move, if_pos c_6]
    exact m_vret X hr hk V rfl (by rw [e9]) dX0_move_32
  · refine lv_aload_n hx hb dX0_move_9 rfl (lv_at hl 0 rfl) ?_
    refine lv_iload_n hx hb dX0_move_10 rfl (lv_at hl 2 rfl) ?_
    refine lv_iload_n hx hb dX0_move_11 rfl (lv_at hl 3 rfl) ?_
    refine m_VA X V (w1 := (wB cB cI a b n f)) (rest := []) (st1 := [.int (pX0_holds n x2 x3)]) (kX0_holds l D cB cI a b n f x2 x3 hn) okX0_holds gm_132 gm_630 gm_167 ⟨⟨rfl, rfl⟩, ⟨by decide, by decide⟩, Nat.zero_le _, Nat.zero_le _⟩ rfl rfl (wB_fst _ _ _ _ _ _) (wB_fst _ _ _ _ _ _) rfl hl.1 (Nat.le_of_ble_eq_true rfl) dX0_move_12 rfl rfl (fun H locs V => ?_)
    refine lv_if_eq (tgt := 32) hx hb dX0_move_15 (by decide) (fun c_15 => ?_) (fun c_15 => ?_)
    · have e9 : pX0_move f n x1 x2 x3 = (f) := by rw [pX0_move, if_neg c_6, if_pos c_15]
      exact m_vret X hr hk V rfl (by rw [e9]) dX0_move_32
    · refine lv_aload_n hx hb dX0_move_18 rfl (lv_at hl 0 rfl) ?_
      refine m_get X V 0 0 0 rfl gin_0 rfl (by decide) rfl gm_29 (v := .ref b) rfl dX0_move_19 ?_
      refine lv_iload_n hx hb dX0_move_22 rfl (lv_at hl 1 rfl) ?_
      refine lv_aload_n hx hb dX0_move_23 rfl (lv_at hl 0 rfl) ?_
      refine m_get X V 0 0 0 rfl gin_0 rfl (by decide) rfl gm_29 (v := .ref b) rfl dX0_move_24 ?_
      refine lv_iload_n hx hb dX0_move_27 rfl (lv_at hl 2 rfl) ?_
      refine lv_iload_n hx hb dX0_move_28 rfl (lv_at hl 3 rfl) ?_
      refine va_copyi hx hb (X.1.2.2.1.trans hl.1.symm) X.1.2.2.2.1 (X.1.2.2.2.2 _ gm_383) (X.1.2.2.2.2 _ gm_385) (X.1.2.2.2.2 _ gm_384) (X.1.2.2.2.2 _ gm_12) X.2.2 V.1 V.2.1 V.2.2.1 1 1 0 0 rfl rfl rfl rfl rfl (holds_copy hn c_6).1 (holds_copy hn c_15).1 (holds_copy hn c_6).2.1 (holds_copy hn c_6).2.2 (holds_copy hn c_15).2.2 (fun i _ => hf _) (by decide) (by decide) dX0_move_29 (fun H locs h1 h2 h3 => ?_)
      have V : mWd D A s (wB cB cI a b n (va_cpy f f (Int32.toNatClampNeg x1) (Int32.toNatClampNeg x2) (Int32.toNatClampNeg x3))) H locs := ⟨h1, h2, h3, V.2.2.2⟩
      have e9 : pX0_move f n x1 x2 x3 = ((va_cpy f f (Int32.toNatClampNeg x1) (Int32.toNatClampNeg x2) (Int32.toNatClampNeg x3))) := by rw [pX0_move, if_neg c_6, if_neg c_15]
      exact m_vret X hr hk V rfl (by rw [e9]) dX0_move_32
