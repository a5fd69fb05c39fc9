def pX1_modeOf (f : Nat → Int32) (x1 : Int32) : Int32 := (if x1 < 0 then (0) else (if 8 ≤ x1 then (0) else ((f (Int32.toNatClampNeg x1)))))
theorem okX1_modeOf : mOk yX1_modeOf cX1_modeOf 2 (some .int) 1 := ⟨gm_201, gm_7, by decide +kernel⟩
set_option maxRecDepth 100000 in
set_option maxHeartbeats 4000000 in
theorem kX1_modeOf (l : Launch) (D : va_G) (cB cI : ClassId) (a b d : Nat) (t : Nat → Int32) (f : Nat → Int32) (g : Nat → Int32) (x1 : Int32) : mM l D cB cI yX1_modeOf cX1_modeOf 2 (some .int) { frames := 0, cells := 0, slots := 0, locals := 0 } [.ref a, .int x1] (wF cB cI a b d t f g) (some (pX1_modeOf f x1)) (wF cB cI a b d t f g) := by
  refine m_start (by decide +kernel) (Nat.le_of_ble_eq_true rfl) ?_
  intro p e s m below meth c A ls X hr hk V hl
  have X : mCx p s m _ c cX1_modeOf 2 RX1 D cB cI := X
  have hx := X.1.1
  have hb := X.1.2.1
  have hl : lv_has ls 2 [(0, .ref a), (1, .int x1)] := hl
  refine lv_iload_n hx hb dX1_modeOf_0 rfl (lv_at hl 1 rfl) ?_
  refine lv_if_lt (tgt := 22) hx hb dX1_modeOf_1 (by decide) (fun c_1 => ?_) (fun c_1 => ?_)
  · refine lv_iconst (v := 0) hx hb dX1_modeOf_22 (by decide) ?_
    have e9 : pX1_modeOf f x1 = (0) := by rw [pX1_modeOf, if_pos c_1]
    exact m_iret X hr hk V (by rw [e9]) rfl dX1_modeOf_23
  · refine lv_iload_n hx hb dX1_modeOf_4 rfl (lv_at hl 1 rfl) ?_
    refine lv_aload_n hx hb dX1_modeOf_5 rfl (lv_at hl 0 rfl) ?_
    refine m_get X V 1 0 0 rfl gin_1 rfl (by decide) rfl gm_79 (v := .ref b) rfl dX1_modeOf_6 ?_
    refine m_ilen X V 1 (v := 8) rfl (by decide) dX1_modeOf_9 ?_
    refine lv_icmp_ge (tgt := 22) hx hb dX1_modeOf_10 (by decide) (fun c_10 => ?_) (fun c_10 => ?_)
    · refine lv_iconst (v := 0) hx hb dX1_modeOf_22 (by decide) ?_
      have e9 : pX1_modeOf f x1 = (0) := by rw [pX1_modeOf, if_neg c_1, if_pos c_10]
      exact m_iret X hr hk V (by rw [e9]) rfl dX1_modeOf_23
    · refine lv_aload_n hx hb dX1_modeOf_13 rfl (lv_at hl 0 rfl) ?_
      refine m_get X V 1 0 0 rfl gin_1 rfl (by decide) rfl gm_79 (v := .ref b) rfl dX1_modeOf_14 ?_
      refine lv_iload_n hx hb dX1_modeOf_17 rfl (lv_at hl 1 rfl) ?_
      refine m_iald X V 1 rfl (vi_a (n := 8) (by decide) c_1 c_10) dX1_modeOf_18 ?_
      refine lv_goto (tgt := 23) hx hb dX1_modeOf_19 (by decide) ?_
      have e9 : pX1_modeOf f x1 = ((f (Int32.toNatClampNeg x1))) := by rw [pX1_modeOf, if_neg c_1, if_neg c_10]
      exact m_iret X hr hk V (by rw [e9]) rfl dX1_modeOf_23
def pX1_numberOf (g : Nat → Int32) (x1 : Int32) : Int32 := (if x1 < 0 then (0) else (if 8 ≤ x1 then (0) else ((g (Int32.toNatClampNeg x1)))))
theorem okX1_numberOf : mOk yX1_numberOf cX1_numberOf 2 (some .int) 1 := ⟨gm_216, gm_7, by decide +kernel⟩
set_option maxRecDepth 100000 in
set_option maxHeartbeats 4000000 in
theorem kX1_numberOf (l : Launch) (D : va_G) (cB cI : ClassId) (a b d : Nat) (t : Nat → Int32) (f : Nat → Int32) (g : Nat → Int32) (x1 : Int32) : mM l D cB cI yX1_numberOf cX1_numberOf 2 (some .int) { frames := 0, cells := 0, slots := 0, locals := 0 } [.ref a, .int x1] (wF cB cI a b d t f g) (some (pX1_numberOf g x1)) (wF cB cI a b d t f g) := by
  refine m_start (by decide +kernel) (Nat.le_of_ble_eq_true rfl) ?_
  intro p e s m below meth c A ls X hr hk V hl
  have X : mCx p s m _ c cX1_numberOf 2 RX1 D cB cI := X
  have hx := X.1.1
  have hb := X.1.2.1
  have hl : lv_has ls 2 [(0, .ref a), (1, .int x1)] := hl
  refine lv_iload_n hx hb dX1_numberOf_0 rfl (lv_at hl 1 rfl) ?_
  refine lv_if_lt (tgt := 22) hx hb dX1_numberOf_1 (by decide) (fun c_1 => ?_) (fun c_1 => ?_)
  · refine lv_iconst (v := 0) hx hb dX1_numberOf_22 (by decide) ?_
    have e9 : pX1_numberOf g x1 = (0) := by rw [pX1_numberOf, if_pos c_1]
    exact m_iret X hr hk V (by rw [e9]) rfl dX1_numberOf_23
  · refine lv_iload_n hx hb dX1_numberOf_4 rfl (lv_at hl 1 rfl) ?_
    refine lv_aload_n hx hb dX1_numberOf_5 rfl (lv_at hl 0 rfl) ?_
    refine m_get X V 1 0 1 rfl gin_1 rfl (by decide) rfl gm_80 (v := .ref d) rfl dX1_numberOf_6 ?_
    refine m_ilen X V 2 (v := 8) rfl (by decide) dX1_numberOf_9 ?_
    refine lv_icmp_ge (tgt := 22) hx hb dX1_numberOf_10 (by decide) (fun c_10 => ?_) (fun c_10 => ?_)
    · refine lv_iconst (v := 0) hx hb dX1_numberOf_22 (by decide) ?_
      have e9 : pX1_numberOf g x1 = (0) := by rw [pX1_numberOf, if_neg c_1, if_pos c_10]
      exact m_iret X hr hk V (by rw [e9]) rfl dX1_numberOf_23
    · refine lv_aload_n hx hb dX1_numberOf_13 rfl (lv_at hl 0 rfl) ?_
      refine m_get X V 1 0 1 rfl gin_1 rfl (by decide) rfl gm_80 (v := .ref d) rfl dX1_numberOf_14 ?_
      refine lv_iload_n hx hb dX1_numberOf_17 rfl (lv_at hl 1 rfl) ?_
      refine m_iald X V 2 rfl (vi_a (n := 8) (by decide) c_1 c_10) dX1_numberOf_18 ?_
      refine lv_goto (tgt := 23) hx hb dX1_numberOf_19 (by decide) ?_
      have e9 : pX1_numberOf g x1 = ((g (Int32.toNatClampNeg x1))) := by rw [pX1_numberOf, if_neg c_1, if_neg c_10]
      exact m_iret X hr hk V (by rw [e9]) rfl dX1_numberOf_23
def pX1_operationWidth (x0 : Int32) : Int32 := (if 128 ≤ x0 then (if 192 ≤ x0 then (4) else (2)) else (1))
theorem okX1_operationWidth : mOk yX1_operationWidth cX1_operationWidth 1 (some .int) 1 := ⟨gm_181, gm_7, by decide +kernel⟩
set_option maxRecDepth 100000 in
set_option maxHeartbeats 4000000 in
theorem kX1_operationWidth (l : Launch) (D : va_G) (cB cI : ClassId) (x0 : Int32) : mM l D cB cI yX1_operationWidth cX1_operationWidth 1 (some .int) { frames := 0, cells := 0, slots := 0, locals := 0 } [.int x0] [] (some (pX1_operationWidth x0)) [] := by
  refine m_start (by decide +kernel) (Nat.le_of_ble_eq_true rfl) ?_
  intro p e s m below meth c A ls X hr hk V hl
  have X : mCx p s m _ c cX1_operationWidth 1 RX1 D cB cI := X
  have hx := X.1.1
  have hb := X.1.2.1
  have hl : lv_has ls 1 [(0, .int x0)] := hl
  refine lv_iload_n hx hb dX1_operationWidth_0 rfl (lv_at hl 0 rfl) ?_
  refine lv_sipush (v := 128) hx hb dX1_operationWidth_1 (by decide) ?_
  refine lv_icmp_ge (tgt := 9) hx hb dX1_operationWidth_4 (by decide) (fun c_4 => ?_) (fun c_4 => ?_)
  · refine lv_iload_n hx hb dX1_operationWidth_9 rfl (lv_at hl 0 rfl) ?_
    refine lv_sipush (v := 192) hx hb dX1_operationWidth_10 (by decide) ?_
    refine lv_icmp_ge (tgt := 20) hx hb dX1_operationWidth_13 (by decide) (fun c_13 => ?_) (fun c_13 => ?_)
    · refine lv_iconst (v := 4) hx hb dX1_operationWidth_20 (by decide) ?_
      have e9 : pX1_operationWidth x0 = (4) := by rw [pX1_operationWidth, if_pos c_4, if_pos c_13]
      exact m_iret X hr hk V (by rw [e9]) rfl dX1_operationWidth_21
    · refine lv_iconst (v := 2) hx hb dX1_operationWidth_16 (by decide) ?_
      refine lv_goto (tgt := 21) hx hb dX1_operationWidth_17 (by decide) ?_
      have e9 : pX1_operationWidth x0 = (2) := by rw [pX1_operationWidth, if_pos c_4, if_neg c_13]
      exact m_iret X hr hk V (by rw [e9]) rfl dX1_operationWidth_21
  · refine lv_iconst (v := 1) hx hb dX1_operationWidth_7 (by decide) ?_
    have e9 : pX1_operationWidth x0 = (1) := by rw [pX1_operationWidth, if_neg c_4]
    exact m_iret X hr hk V (by rw [e9]) rfl dX1_operationWidth_8
def pX1_operationOf (x0 : Int32) (x1 : Int32) : Int32 := (if x1 = 1 then (x0) else (if x1 = 2 then ((x0 &&& 16383)) else ((x0 &&& 268435455))))
theorem okX1_operationOf : mOk yX1_operationOf cX1_operationOf 2 (some .int) 2 := ⟨gm_187, gm_7, by decide +kernel⟩
set_option maxRecDepth 100000 in
set_option maxHeartbeats 4000000 in
theorem kX1_operationOf (l : Launch) (D : va_G) (cB cI : ClassId) (x0 : Int32) (x1 : Int32) : mM l D cB cI yX1_operationOf cX1_operationOf 2 (some .int) { frames := 0, cells := 0, slots := 0, locals := 0 } [.int x0, .int x1] [] (some (pX1_operationOf x0 x1)) [] := by
  refine m_start (by decide +kernel) (Nat.le_of_ble_eq_true rfl) ?_
  intro p e s m below meth c A ls X hr hk V hl
  have X : mCx p s m _ c cX1_operationOf 2 RX1 D cB cI := X
  have hx := X.1.1
  have hb := X.1.2.1
  have hl : lv_has ls 2 [(0, .int x0), (1, .int x1)] := hl
  refine lv_iload_n hx hb dX1_operationOf_0 rfl (lv_at hl 1 rfl) ?_
  refine lv_iconst (v := 1) hx hb dX1_operationOf_1 (by decide) ?_
  refine lv_icmp_ne (tgt := 7) hx hb dX1_operationOf_2 (by decide) (fun c_2 => ?_) (fun c_2 => ?_)
  · refine lv_iload_n hx hb dX1_operationOf_7 rfl (lv_at hl 1 rfl) ?_
    refine lv_iconst (v := 2) hx hb dX1_operationOf_8 (by decide) ?_
    refine lv_icmp_ne (tgt := 20) hx hb dX1_operationOf_9 (by decide) (fun c_9 => ?_) (fun c_9 => ?_)
    · refine lv_iload_n hx hb dX1_operationOf_20 rfl (lv_at hl 0 rfl) ?_
      refine lv_ldc hx hb X.1.2.2.2.1 (X.1.2.2.2.2 _ gm_188) dX1_operationOf_21 ?_
      refine lv_iand hx hb dX1_operationOf_23 ?_
      have e9 : pX1_operationOf x0 x1 = ((x0 &&& 268435455)) := by rw [pX1_operationOf, if_neg c_2, if_neg c_9]
      exact m_iret X hr hk V (by rw [e9]) rfl dX1_operationOf_24
    · refine lv_iload_n hx hb dX1_operationOf_12 rfl (lv_at hl 0 rfl) ?_
      refine lv_sipush (v := 16383) hx hb dX1_operationOf_13 (by decide) ?_
      refine lv_iand hx hb dX1_operationOf_16 ?_
      refine lv_goto (tgt := 24) hx hb dX1_operationOf_17 (by decide) ?_
      have e9 : pX1_operationOf x0 x1 = ((x0 &&& 16383)) := by rw [pX1_operationOf, if_neg c_2, if_pos c_9]
      exact m_iret X hr hk V (by rw [e9]) rfl dX1_operationOf_24
  · refine lv_iload_n hx hb dX1_operationOf_5 rfl (lv_at hl 0 rfl) ?_
    have e9 : pX1_operationOf x0 x1 = (x0) := by rw [pX1_operationOf, if_pos c_2]
    exact m_iret X hr hk V (by rw [e9]) rfl dX1_operationOf_6
def pX1_numberWidth (x0 : Int32) : Int32 := (if (x0 &&& 3) = 3 then (4) else ((x0 &&& 3)))
theorem okX1_numberWidth : mOk yX1_numberWidth cX1_numberWidth 2 (some .int) 1 := ⟨gm_204, gm_7, by decide +kernel⟩
set_option maxRecDepth 100000 in
set_option maxHeartbeats 4000000 in
theorem kX1_numberWidth (l : Launch) (D : va_G) (cB cI : ClassId) (x0 : Int32) : mM l D cB cI yX1_numberWidth cX1_numberWidth 2 (some .int) { frames := 0, cells := 0, slots := 0, locals := 0 } [.int x0] [] (some (pX1_numberWidth x0)) [] := by
  refine m_start (by decide +kernel) (Nat.le_of_ble_eq_true rfl) ?_
  intro p e s m below meth c A ls X hr hk V hl
  have X : mCx p s m _ c cX1_numberWidth 2 RX1 D cB cI := X
  have hx := X.1.1
  have hb := X.1.2.1
  have hl : lv_has ls 2 [(0, .int x0)] := hl
  refine lv_iload_n hx hb dX1_numberWidth_0 rfl (lv_at hl 0 rfl) ?_
  refine lv_iconst (v := 3) hx hb dX1_numberWidth_1 (by decide) ?_
  refine lv_iand hx hb dX1_numberWidth_2 ?_
  refine lv_istore_n (lv' := [(1, .int (x0 &&& 3)), (0, .int x0)]) hx hb dX1_numberWidth_3 rfl hl (by decide) rfl (fun ls hl => ?_)
  refine lv_iload_n hx hb dX1_numberWidth_4 rfl (lv_at hl 0 rfl) ?_
  refine lv_iconst (v := 3) hx hb dX1_numberWidth_5 (by decide) ?_
  refine lv_icmp_ne (tgt := 13) hx hb dX1_numberWidth_6 (by decide) (fun c_6 => ?_) (fun c_6 => ?_)
  · refine lv_iload_n hx hb dX1_numberWidth_13 rfl (lv_at hl 0 rfl) ?_
    have e9 : pX1_numberWidth x0 = ((x0 &&& 3)) := by rw [pX1_numberWidth, if_neg c_6]
    exact m_iret X hr hk V (by rw [e9]) rfl dX1_numberWidth_14
  · refine lv_iconst (v := 4) hx hb dX1_numberWidth_9 (by decide) ?_
    refine lv_goto (tgt := 14) hx hb dX1_numberWidth_10 (by decide) ?_
    have e9 : pX1_numberWidth x0 = (4) := by rw [pX1_numberWidth, if_pos c_6]
    exact m_iret X hr hk V (by rw [e9]) rfl dX1_numberWidth_14
def pX1_signed (x0 : Int32) (x1 : Int32) : Int32 := (if x1 = 1 then ((Int32.toInt8 x0).toInt32) else (if x1 = 2 then ((Int32.toInt16 x0).toInt32) else (x0)))
theorem okX1_signed : mOk yX1_signed cX1_signed 2 (some .int) 2 := ⟨gm_207, gm_7, by decide +kernel⟩
set_option maxRecDepth 100000 in
set_option maxHeartbeats 4000000 in
theorem kX1_signed (l : Launch) (D : va_G) (cB cI : ClassId) (x0 : Int32) (x1 : Int32) : mM l D cB cI yX1_signed cX1_signed 2 (some .int) { frames := 0, cells := 0, slots := 0, locals := 0 } [.int x0, .int x1] [] (some (pX1_signed x0 x1)) [] := by
  refine m_start (by decide +kernel) (Nat.le_of_ble_eq_true rfl) ?_
  intro p e s m below meth c A ls X hr hk V hl
  have X : mCx p s m _ c cX1_signed 2 RX1 D cB cI := X
  have hx := X.1.1
  have hb := X.1.2.1
  have hl : lv_has ls 2 [(0, .int x0), (1, .int x1)] := hl
  refine lv_iload_n hx hb dX1_signed_0 rfl (lv_at hl 1 rfl) ?_
  refine lv_iconst (v := 1) hx hb dX1_signed_1 (by decide) ?_
  refine lv_icmp_ne (tgt := 8) hx hb dX1_signed_2 (by decide) (fun c_2 => ?_) (fun c_2 => ?_)
  · refine lv_iload_n hx hb dX1_signed_8 rfl (lv_at hl 1 rfl) ?_
    refine lv_iconst (v := 2) hx hb dX1_signed_9 (by decide) ?_
    refine lv_icmp_ne (tgt := 18) hx hb dX1_signed_10 (by decide) (fun c_10 => ?_) (fun c_10 => ?_)
    · refine lv_iload_n hx hb dX1_signed_18 rfl (lv_at hl 0 rfl) ?_
      have e9 : pX1_signed x0 x1 = (x0) := by rw [pX1_signed, if_neg c_2, if_neg c_10]
      exact m_iret X hr hk V (by rw [e9]) rfl dX1_signed_19
    · refine lv_iload_n hx hb dX1_signed_13 rfl (lv_at hl 0 rfl) ?_
      refine lv_i2s hx hb dX1_signed_14 rfl ?_
      refine lv_goto (tgt := 19) hx hb dX1_signed_15 (by decide) ?_
      have e9 : pX1_signed x0 x1 = ((Int32.toInt16 x0).toInt32) := by rw [pX1_signed, if_neg c_2, if_pos c_10]
      exact m_iret X hr hk V (by rw [e9]) rfl dX1_signed_19
  · refine lv_iload_n hx hb dX1_signed_5 rfl (lv_at hl 0 rfl) ?_
    refine lv_i2b hx hb dX1_signed_6 rfl ?_
    have e9 : pX1_signed x0 x1 = ((Int32.toInt8 x0).toInt32) := by rw [pX1_signed, if_pos c_2]
    exact m_iret X hr hk V (by rw [e9]) rfl dX1_signed_7
def pX1_decodeModes_lp2 (t : Nat → Int32) (mem : Nat → Int32) (x2 : Int32) : Nat → (Nat → Int32) → (Int32) → (Nat → Int32)
  | 0, f, k3 => (f)
  | n_ + 1, f, k3 => (if (t 2) ≤ k3 then (f) else (if 8 ≤ k3 then (f) else (mLet (pX0_byteAt mem 1024 (x2 + (k3 / 2))) (fun (u25 : Int32) => (if (k3 - k3 / 2 * 2) = 0 then (pX1_decodeModes_lp2 t mem x2 n_ (upd f (Int32.toNatClampNeg k3) (u25 &&& 15)) (k3 + 1)) else (pX1_decodeModes_lp2 t mem x2 n_ (upd f (Int32.toNatClampNeg k3) (u25 >>> (4 &&& 31))) (k3 + 1)))))))
def pX1_decodeModes (t : Nat → Int32) (f : Nat → Int32) (mem : Nat → Int32) (x2 : Int32) : (Nat → Int32) := (pX1_decodeModes_lp2 t mem x2 ((Int32.toInt (t 2) - Int32.toInt 0).toNat + 1) f 0)
theorem okX1_decodeModes : mOk yX1_decodeModes cX1_decodeModes 5 none 2 := ⟨gm_195, gm_7, by decide +kernel⟩
set_option maxRecDepth 100000 in
set_option maxHeartbeats 4000000 in
theorem lpX1_decodeModes_2 {p : Program} {e : Env} {s : State} {m : MethodId} {args : Array Value} {below : List Frame} {meth : Method} {c : Code} {A : Nat → Prop} {l : Launch} {D : va_G} {cB cI : ClassId} {a b d h i : Nat} {t : Nat → Int32} {g : Nat → Int32} {mem : Nat → Int32} {x2 : Int32} (X : mCx p s m args c cX1_decodeModes 5 RX1 D cB cI) (hr : meth.sig.returnType = none) (hk : meth.locks = false) : ∀ (n_ : Nat) (f : Nat → Int32) (k3 : Int32) (H : Heap) (locs : List Loc) (ls : Array Slot), ¬ k3 < 0 → (Int32.toInt (t 2) - Int32.toInt k3).toNat < n_ → mWd D A s (wFB cB cI a b d h i t f g mem) H locs → lv_has ls 5 [(0, .ref a), (1, .ref h), (2, .int x2), (3, .int k3)] → W p l e { frames := 1, cells := 0, slots := 0, locals := 21 } s m args below meth c H locs 0 0 (MQ below (mQ D A (wFB cB cI a b d h i t (pX1_decodeModes_lp2 t mem x2 n_ f k3) g mem) none) args s 0 0 A) (F0 m 2 ls []) := by
  have hx := X.1.1
  have hb := X.1.2.1
  intro n_
  induction n_ with
  | zero =>
    intro f k3 H locs ls hk3 hm V hl
    exact absurd hm (Nat.not_lt_zero _)
  | succ n_ ih =>
    intro f k3 H locs ls hk3 hm V hl
    refine lv_iload_n hx hb dX1_decodeModes_2 rfl (lv_at hl 3 rfl) ?_
    refine lv_aload_n hx hb dX1_decodeModes_3 rfl (lv_at hl 0 rfl) ?_
    refine m_get X V 1 0 4 rfl gin_1 rfl (by decide) rfl gm_83 (v := .int (t 2)) rfl dX1_decodeModes_4 ?_
    refine lv_icmp_ge (tgt := 60) hx hb dX1_decodeModes_7 (by decide) (fun c_7 => ?_) (fun c_7 => ?_)
    · have e9 : pX1_decodeModes_lp2 t mem x2 (n_ + 1) f k3 = (f) := by rw [pX1_decodeModes_lp2, if_pos c_7]
      exact m_vret X hr hk V rfl (by rw [e9]) dX1_decodeModes_60
    · refine lv_iload_n hx hb dX1_decodeModes_10 rfl (lv_at hl 3 rfl) ?_
      refine lv_aload_n hx hb dX1_decodeModes_11 rfl (lv_at hl 0 rfl) ?_
      refine m_get X V 1 0 0 rfl gin_1 rfl (by decide) rfl gm_79 (v := .ref b) rfl dX1_decodeModes_12 ?_
      refine m_ilen X V 1 (v := 8) rfl (by decide) dX1_decodeModes_15 ?_
      refine lv_icmp_ge (tgt := 60) hx hb dX1_decodeModes_16 (by decide) (fun c_16 => ?_) (fun c_16 => ?_)
      · have e9 : pX1_decodeModes_lp2 t mem x2 (n_ + 1) f k3 = (f) := by rw [pX1_decodeModes_lp2, if_neg c_7, if_pos c_16]
        exact m_vret X hr hk V rfl (by rw [e9]) dX1_decodeModes_60
      · refine lv_aload_n hx hb dX1_decodeModes_19 rfl (lv_at hl 1 rfl) ?_
        refine lv_iload_n hx hb dX1_decodeModes_20 rfl (lv_at hl 2 rfl) ?_
        refine lv_iload_n hx hb dX1_decodeModes_21 rfl (lv_at hl 3 rfl) ?_
        refine lv_iconst (v := 2) hx hb dX1_decodeModes_22 (by decide) ?_
        refine lv_idiv hx hb dX1_decodeModes_23 (by decide) ?_
        refine lv_iadd hx hb dX1_decodeModes_24 ?_
        obtain ⟨u25, hu25⟩ : ∃ u, pX0_byteAt mem 1024 (x2 + (k3 / 2)) = u := ⟨_, rfl⟩
        have hM := kX0_byteAt l D cB cI h i 1024 mem (x2 + (k3 / 2)) (by decide)
        rw [hu25] at hM
        refine m_VN X V (ws' := (wFB cB cI a b d h i t f g mem)) (rest := []) (st1 := [.int u25]) hM okX0_byteAt gm_177 gm_640 nm_15 [3, 4] ⟨⟨rfl, rfl⟩, ⟨by decide, by decide⟩, Nat.zero_le _, Nat.zero_le _⟩ rfl rfl rfl rfl (wB_fst _ _ _ _ _ _) (wB_fst _ _ _ _ _ _) rfl rfl hl.1 (Nat.le_of_ble_eq_true rfl) dX1_decodeModes_25 rfl rfl (fun H locs V => ?_)
        refine lv_istore (lv' := [(4, .int u25), (0, .ref a), (1, .ref h), (2, .int x2), (3, .int k3)]) hx hb dX1_decodeModes_28 hl (by decide) rfl (fun ls hl => ?_)
        refine lv_aload_n hx hb dX1_decodeModes_30 rfl (lv_at hl 1 rfl) ?_
        refine m_get X V 1 0 0 rfl gin_1 rfl (by decide) rfl gm_79 (v := .ref b) rfl dX1_decodeModes_31 ?_
        refine lv_iload_n hx hb dX1_decodeModes_34 rfl (lv_at hl 4 rfl) ?_
        refine lv_iload_n hx hb dX1_decodeModes_35 rfl (lv_at hl 4 rfl) ?_
        refine lv_iconst (v := 2) hx hb dX1_decodeModes_36 (by decide) ?_
        refine lv_irem hx hb dX1_decodeModes_37 (by decide) ?_
        refine lv_if_ne (tgt := 49) hx hb dX1_decodeModes_38 (by decide) (fun c_38 => ?_) (fun c_38 => ?_)
        · refine lv_iload hx hb dX1_decodeModes_49 (lv_at hl 0 rfl) ?_
          refine lv_iconst (v := 4) hx hb dX1_decodeModes_51 (by decide) ?_
          refine lv_ishr hx hb dX1_decodeModes_52 ?_
          refine m_iast X V (ws' := (wFB cB cI a b d h i t (upd f (Int32.toNatClampNeg k3) (u25 >>> (4 &&& 31))) g mem)) 1 rfl (vi_a (n := 8) (by decide) hk3 c_16) dX1_decodeModes_53 rfl (fun H locs V => ?_)
          refine lv_iinc (v := (k3 + 1)) (lv' := [(3, .int (k3 + 1)), (4, .int u25), (0, .ref a), (1, .ref h), (2, .int x2)]) hx hb dX1_decodeModes_54 hl (k := 4) rfl rfl (by decide) rfl (fun ls hl => ?_)
          refine lv_goto (tgt := 2) hx hb dX1_decodeModes_57 (by decide) ?_
          rw [show pX1_decodeModes_lp2 t mem x2 (n_ + 1) f k3 = pX1_decodeModes_lp2 t mem x2 n_ (upd f (Int32.toNatClampNeg k3) (u25 >>> (4 &&& 31))) (k3 + 1) from by rw [pX1_decodeModes_lp2, if_neg c_7, if_neg c_16, hu25, mLet_eq, if_neg c_38]]
          exact ih (upd f (Int32.toNatClampNeg k3) (u25 >>> (4 &&& 31))) (k3 + 1) _ _ _ (nn_up hk3 c_7) (ms_up c_7 hm) V (lv_sub hl [2, 3, 4, 0] rfl)
        · refine lv_iload hx hb dX1_decodeModes_41 (lv_at hl 0 rfl) ?_
          refine lv_bipush (v := 15) hx hb dX1_decodeModes_43 (by decide) ?_
          refine lv_iand hx hb dX1_decodeModes_45 ?_
          refine lv_goto (tgt := 53) hx hb dX1_decodeModes_46 (by decide) ?_
          refine m_iast X V (ws' := (wFB cB cI a b d h i t (upd f (Int32.toNatClampNeg k3) (u25 &&& 15)) g mem)) 1 rfl (vi_a (n := 8) (by decide) hk3 c_16) dX1_decodeModes_53 rfl (fun H locs V => ?_)
          refine lv_iinc (v := (k3 + 1)) (lv' := [(3, .int (k3 + 1)), (4, .int u25), (0, .ref a), (1, .ref h), (2, .int x2)]) hx hb dX1_decodeModes_54 hl (k := 4) rfl rfl (by decide) rfl (fun ls hl => ?_)
          refine lv_goto (tgt := 2) hx hb dX1_decodeModes_57 (by decide) ?_
          rw [show pX1_decodeModes_lp2 t mem x2 (n_ + 1) f k3 = pX1_decodeModes_lp2 t mem x2 n_ (upd f (Int32.toNatClampNeg k3) (u25 &&& 15)) (k3 + 1) from by rw [pX1_decodeModes_lp2, if_neg c_7, if_neg c_16, hu25, mLet_eq, if_pos c_38]]
          exact ih (upd f (Int32.toNatClampNeg k3) (u25 &&& 15)) (k3 + 1) _ _ _ (nn_up hk3 c_7) (ms_up c_7 hm) V (lv_sub hl [2, 3, 4, 0] rfl)
set_option maxRecDepth 100000 in
set_option maxHeartbeats 4000000 in
theorem kX1_decodeModes (l : Launch) (D : va_G) (cB cI : ClassId) (a b d h i : Nat) (t : Nat → Int32) (f : Nat → Int32) (g : Nat → Int32) (mem : Nat → Int32) (x2 : Int32) : mM l D cB cI yX1_decodeModes cX1_decodeModes 5 none { frames := 1, cells := 0, slots := 0, locals := 21 } [.ref a, .ref h, .int x2] (wFB cB cI a b d h i t f g mem) none (wFB cB cI a b d h i t (pX1_decodeModes t f mem x2) g mem) := by
  refine m_start (by decide +kernel) (Nat.le_of_ble_eq_true rfl) ?_
  intro p e s m below meth c A ls X hr hk V hl
  have X : mCx p s m _ c cX1_decodeModes 5 RX1 D cB cI := X
  have hx := X.1.1
  have hb := X.1.2.1
  have hl : lv_has ls 5 [(0, .ref a), (1, .ref h), (2, .int x2)] := hl
  refine lv_iconst (v := 0) hx hb dX1_decodeModes_0 (by decide) ?_
  refine lv_istore_n (lv' := [(3, .int 0), (0, .ref a), (1, .ref h), (2, .int x2)]) hx hb dX1_decodeModes_1 rfl hl (by decide) rfl (fun ls hl => ?_)
  rw [show pX1_decodeModes t f mem x2 = (pX1_decodeModes_lp2 t mem x2 ((Int32.toInt (t 2) - Int32.toInt 0).toNat + 1) f 0) from by rw [pX1_decodeModes]]
  exact lpX1_decodeModes_2 X hr hk  ((Int32.toInt (t 2) - Int32.toInt 0).toNat + 1) f 0 _ _ _ (by decide) (Nat.lt_succ_self _) V (lv_sub hl [1, 2, 3, 0] rfl)
def pX1_decodeNumbers_lp5 (t : Nat → Int32) (f : Nat → Int32) (mem : Nat → Int32) : Nat → (Nat → Int32) → (Int32) → (Int32) → Int32 × (Nat → Int32)
  | 0, g, k3, k4 => (0, g)
  | n_ + 1, g, k3, k4 => (if (t 2) ≤ k4 then (k3, g) else (if 8 ≤ k4 then (k3, g) else (mLet (pX1_numberWidth (pX1_modeOf f k4)) (fun (u30 : Int32) => (if (pX0_holds 1024 k3 u30) = 0 then ((-1), g) else (if 4 ≤ (pX1_modeOf f k4) then (pX1_decodeNumbers_lp5 t f mem n_ (upd g (Int32.toNatClampNeg k4) (pX0_number mem 1024 k3 u30)) (k3 + u30) (k4 + 1)) else (mLet (pX1_signed (pX0_number mem 1024 k3 u30) u30) (fun (u76 : Int32) => (pX1_decodeNumbers_lp5 t f mem n_ (upd g (Int32.toNatClampNeg k4) u76) (k3 + u30) (k4 + 1))))))))))
def pX1_decodeNumbers (t : Nat → Int32) (f : Nat → Int32) (g : Nat → Int32) (mem : Nat → Int32) (x2 : Int32) : Int32 × (Nat → Int32) := (pX1_decodeNumbers_lp5 t f mem ((Int32.toInt (t 2) - Int32.toInt 0).toNat + 1) g x2 0)
theorem okX1_decodeNumbers : mOk yX1_decodeNumbers cX1_decodeNumbers 7 (some .int) 2 := ⟨gm_198, gm_7, by decide +kernel⟩
set_option maxRecDepth 100000 in
set_option maxHeartbeats 4000000 in
theorem lpX1_decodeNumbers_5 {p : Program} {e : Env} {s : State} {m : MethodId} {args : Array Value} {below : List Frame} {meth : Method} {c : Code} {A : Nat → Prop} {l : Launch} {D : va_G} {cB cI : ClassId} {a b d h i : Nat} {t : Nat → Int32} {f : Nat → Int32} {mem : Nat → Int32} (X : mCx p s m args c cX1_decodeNumbers 7 RX1 D cB cI) (hr : meth.sig.returnType = (some .int)) (hk : meth.locks = false) : ∀ (n_ : Nat) (g : Nat → Int32) (k3 : Int32) (k4 : Int32) (H : Heap) (locs : List Loc) (ls : Array Slot), ¬ k4 < 0 → (Int32.toInt (t 2) - Int32.toInt k4).toNat < n_ → mWd D A s (wFB cB cI a b d h i t f g mem) H locs → lv_has ls 7 [(0, .ref a), (1, .ref h), (3, .int k3), (4, .int k4)] → W p l e { frames := 2, cells := 0, slots := 0, locals := 45 } s m args below meth c H locs 0 0 (MQ below (mQ D A (wFB cB cI a b d h i t f ((pX1_decodeNumbers_lp5 t f mem n_ g k3 k4).2) mem) (some ((pX1_decodeNumbers_lp5 t f mem n_ g k3 k4).1))) args s 0 0 A) (F0 m 5 ls []) := by
  have hx := X.1.1
  have hb := X.1.2.1
  intro n_
  induction n_ with
  | zero =>
    intro g k3 k4 H locs ls hk4 hm V hl
    exact absurd hm (Nat.not_lt_zero _)
  | succ n_ ih =>
    intro g k3 k4 H locs ls hk4 hm V hl
    refine lv_iload hx hb dX1_decodeNumbers_5 (lv_at hl 3 rfl) ?_
    refine lv_aload_n hx hb dX1_decodeNumbers_7 rfl (lv_at hl 0 rfl) ?_
    refine m_get X V 1 0 4 rfl gin_1 rfl (by decide) rfl gm_83 (v := .int (t 2)) rfl dX1_decodeNumbers_8 ?_
    refine lv_icmp_ge (tgt := 96) hx hb dX1_decodeNumbers_11 (by decide) (fun c_11 => ?_) (fun c_11 => ?_)
    · refine lv_iload_n hx hb dX1_decodeNumbers_96 rfl (lv_at hl 2 rfl) ?_
      have e9 : pX1_decodeNumbers_lp5 t f mem (n_ + 1) g k3 k4 = (k3, g) := by rw [pX1_decodeNumbers_lp5, if_pos c_11]
      exact m_iret X hr hk V (by rw [e9]) (by rw [e9]) dX1_decodeNumbers_97
    · refine lv_iload hx hb dX1_decodeNumbers_14 (lv_at hl 3 rfl) ?_
      refine lv_aload_n hx hb dX1_decodeNumbers_16 rfl (lv_at hl 0 rfl) ?_
      refine m_get X V 1 0 1 rfl gin_1 rfl (by decide) rfl gm_80 (v := .ref d) rfl dX1_decodeNumbers_17 ?_
      refine m_ilen X V 2 (v := 8) rfl (by decide) dX1_decodeNumbers_20 ?_
      refine lv_icmp_ge (tgt := 96) hx hb dX1_decodeNumbers_21 (by decide) (fun c_21 => ?_) (fun c_21 => ?_)
      · refine lv_iload_n hx hb dX1_decodeNumbers_96 rfl (lv_at hl 2 rfl) ?_
        have e9 : pX1_decodeNumbers_lp5 t f mem (n_ + 1) g k3 k4 = (k3, g) := by rw [pX1_decodeNumbers_lp5, if_neg c_11, if_pos c_21]
        exact m_iret X hr hk V (by rw [e9]) (by rw [e9]) dX1_decodeNumbers_97
      · refine lv_aload_n hx hb dX1_decodeNumbers_24 rfl (lv_at hl 0 rfl) ?_
        refine lv_iload hx hb dX1_decodeNumbers_25 (lv_at hl 3 rfl) ?_
        refine m_V X V (ws' := (wFB cB cI a b d h i t f g mem)) (rest := []) (st1 := [.int (pX1_modeOf f k4)]) (kX1_modeOf l D cB cI a b d t f g k4) okX1_modeOf gm_200 gm_644 gm_199 [0, 1, 2] ⟨⟨rfl, rfl⟩, ⟨by decide, by decide⟩, Nat.zero_le _, Nat.zero_le _⟩ rfl rfl rfl rfl (wF_fst _ _ _ _ _ _ _ _) (wF_fst _ _ _ _ _ _ _ _) rfl rfl hl.1 (Nat.le_of_ble_eq_true rfl) dX1_decodeNumbers_27 rfl rfl (fun H locs V => ?_)
        obtain ⟨u30, hu30⟩ : ∃ u, pX1_numberWidth (pX1_modeOf f k4) = u := ⟨_, rfl⟩
        have hM := kX1_numberWidth l D cB cI (pX1_modeOf f k4)
        rw [hu30] at hM
        refine m_S X V (rest := []) (st1 := [.int u30]) hM okX1_numberWidth gm_203 gm_202 ⟨⟨rfl, rfl⟩, ⟨by decide, by decide⟩, Nat.zero_le _, Nat.zero_le _⟩ rfl hl.1 (Nat.le_of_ble_eq_true rfl) dX1_decodeNumbers_30 rfl rfl (fun H locs V => ?_)
        refine lv_istore (lv' := [(5, .int u30), (0, .ref a), (1, .ref h), (3, .int k3), (4, .int k4)]) hx hb dX1_decodeNumbers_33 hl (by decide) rfl (fun ls hl => ?_)
        refine lv_aload_n hx hb dX1_decodeNumbers_35 rfl (lv_at hl 2 rfl) ?_
        refine lv_iload_n hx hb dX1_decodeNumbers_36 rfl (lv_at hl 3 rfl) ?_
        refine lv_iload hx hb dX1_decodeNumbers_37 (lv_at hl 0 rfl) ?_
        refine m_VN X V (ws' := (wFB cB cI a b d h i t f g mem)) (rest := []) (st1 := [.int (pX0_holds 1024 k3 u30)]) (kX0_holds l D cB cI h i 1024 mem k3 u30 (by decide)) okX0_holds gm_132 gm_630 nm_16 [3, 4] ⟨⟨rfl, rfl⟩, ⟨by decide, by decide⟩, Nat.zero_le _, Nat.zero_le _⟩ rfl rfl rfl rfl (wB_fst _ _ _ _ _ _) (wB_fst _ _ _ _ _ _) rfl rfl hl.1 (Nat.le_of_ble_eq_true rfl) dX1_decodeNumbers_39 rfl rfl (fun H locs V => ?_)
        refine lv_if_ne (tgt := 47) hx hb dX1_decodeNumbers_42 (by decide) (fun c_42 => ?_) (fun c_42 => ?_)
        · refine lv_aload_n hx hb dX1_decodeNumbers_47 rfl (lv_at hl 2 rfl) ?_
          refine lv_iload_n hx hb dX1_decodeNumbers_48 rfl (lv_at hl 3 rfl) ?_
          refine lv_iload hx hb dX1_decodeNumbers_49 (lv_at hl 0 rfl) ?_
          refine m_VN X V (ws' := (wFB cB cI a b d h i t f g mem)) (rest := []) (st1 := [.int (pX0_number mem 1024 k3 u30)]) (kX0_number l D cB cI h i 1024 mem k3 u30 (by decide)) okX0_number gm_182 gm_641 nm_17 [3, 4] ⟨⟨rfl, rfl⟩, ⟨by decide, by decide⟩, Nat.zero_le _, Nat.zero_le _⟩ rfl rfl rfl rfl (wB_fst _ _ _ _ _ _) (wB_fst _ _ _ _ _ _) rfl rfl hl.1 (Nat.le_of_ble_eq_true rfl) dX1_decodeNumbers_51 rfl rfl (fun H locs V => ?_)
          refine lv_istore (lv' := [(6, .int (pX0_number mem 1024 k3 u30)), (5, .int u30), (0, .ref a), (1, .ref h), (3, .int k3), (4, .int k4)]) hx hb dX1_decodeNumbers_54 hl (by decide) rfl (fun ls hl => ?_)
          refine lv_aload_n hx hb dX1_decodeNumbers_56 rfl (lv_at hl 2 rfl) ?_
          refine m_get X V 1 0 1 rfl gin_1 rfl (by decide) rfl gm_80 (v := .ref d) rfl dX1_decodeNumbers_57 ?_
          refine lv_iload hx hb dX1_decodeNumbers_60 (lv_at hl 5 rfl) ?_
          refine lv_aload_n hx hb dX1_decodeNumbers_62 rfl (lv_at hl 2 rfl) ?_
          refine lv_iload hx hb dX1_decodeNumbers_63 (lv_at hl 5 rfl) ?_
          refine m_V X V (ws' := (wFB cB cI a b d h i t f g mem)) (rest := [.int k4, .ref d]) (st1 := [.int (pX1_modeOf f k4), .int k4, .ref d]) (kX1_modeOf l D cB cI a b d t f g k4) okX1_modeOf gm_200 gm_644 gm_199 [0, 1, 2] ⟨⟨rfl, rfl⟩, ⟨by decide, by decide⟩, Nat.zero_le _, Nat.zero_le _⟩ rfl rfl rfl rfl (wF_fst _ _ _ _ _ _ _ _) (wF_fst _ _ _ _ _ _ _ _) rfl rfl hl.1 (Nat.le_of_ble_eq_true rfl) dX1_decodeNumbers_65 rfl rfl (fun H locs V => ?_)
          refine lv_iconst (v := 4) hx hb dX1_decodeNumbers_68 (by decide) ?_
          refine lv_icmp_ge (tgt := 82) hx hb dX1_decodeNumbers_69 (by decide) (fun c_69 => ?_) (fun c_69 => ?_)
          · refine lv_iload hx hb dX1_decodeNumbers_82 (lv_at hl 0 rfl) ?_
            refine m_iast X V (ws' := (wFB cB cI a b d h i t f (upd g (Int32.toNatClampNeg k4) (pX0_number mem 1024 k3 u30)) mem)) 2 rfl (vi_a (n := 8) (by decide) hk4 c_21) dX1_decodeNumbers_84 rfl (fun H locs V => ?_)
            refine lv_iload_n hx hb dX1_decodeNumbers_85 rfl (lv_at hl 4 rfl) ?_
            refine lv_iload hx hb dX1_decodeNumbers_86 (lv_at hl 1 rfl) ?_
            refine lv_iadd hx hb dX1_decodeNumbers_88 ?_
            refine lv_istore_n (lv' := [(3, .int (k3 + u30)), (6, .int (pX0_number mem 1024 k3 u30)), (5, .int u30), (0, .ref a), (1, .ref h), (4, .int k4)]) hx hb dX1_decodeNumbers_89 rfl hl (by decide) rfl (fun ls hl => ?_)
            refine lv_iinc (v := (k4 + 1)) (lv' := [(4, .int (k4 + 1)), (3, .int (k3 + u30)), (6, .int (pX0_number mem 1024 k3 u30)), (5, .int u30), (0, .ref a), (1, .ref h)]) hx hb dX1_decodeNumbers_90 hl (k := 5) rfl rfl (by decide) rfl (fun ls hl => ?_)
            refine lv_goto (tgt := 5) hx hb dX1_decodeNumbers_93 (by decide) ?_
            rw [show pX1_decodeNumbers_lp5 t f mem (n_ + 1) g k3 k4 = pX1_decodeNumbers_lp5 t f mem n_ (upd g (Int32.toNatClampNeg k4) (pX0_number mem 1024 k3 u30)) (k3 + u30) (k4 + 1) from by rw [pX1_decodeNumbers_lp5, if_neg c_11, if_neg c_21, hu30, mLet_eq, if_neg c_42, if_pos c_69]]
            exact ih (upd g (Int32.toNatClampNeg k4) (pX0_number mem 1024 k3 u30)) (k3 + u30) (k4 + 1) _ _ _ (nn_up hk4 c_11) (ms_up c_11 hm) V (lv_sub hl [4, 5, 1, 0] rfl)
          · refine lv_iload hx hb dX1_decodeNumbers_72 (lv_at hl 0 rfl) ?_
            refine lv_iload hx hb dX1_decodeNumbers_74 (lv_at hl 1 rfl) ?_
            obtain ⟨u76, hu76⟩ : ∃ u, pX1_signed (pX0_number mem 1024 k3 u30) u30 = u := ⟨_, rfl⟩
            have hM := kX1_signed l D cB cI (pX0_number mem 1024 k3 u30) u30
            rw [hu76] at hM
            refine m_S X V (rest := [.int k4, .ref d]) (st1 := [.int u76, .int k4, .ref d]) hM okX1_signed gm_206 gm_205 ⟨⟨rfl, rfl⟩, ⟨by decide, by decide⟩, Nat.zero_le _, Nat.zero_le _⟩ rfl hl.1 (Nat.le_of_ble_eq_true rfl) dX1_decodeNumbers_76 rfl rfl (fun H locs V => ?_)
            refine lv_goto (tgt := 84) hx hb dX1_decodeNumbers_79 (by decide) ?_
            refine m_iast X V (ws' := (wFB cB cI a b d h i t f (upd g (Int32.toNatClampNeg k4) u76) mem)) 2 rfl (vi_a (n := 8) (by decide) hk4 c_21) dX1_decodeNumbers_84 rfl (fun H locs V => ?_)
            refine lv_iload_n hx hb dX1_decodeNumbers_85 rfl (lv_at hl 4 rfl) ?_
            refine lv_iload hx hb dX1_decodeNumbers_86 (lv_at hl 1 rfl) ?_
            refine lv_iadd hx hb dX1_decodeNumbers_88 ?_
            refine lv_istore_n (lv' := [(3, .int (k3 + u30)), (6, .int (pX0_number mem 1024 k3 u30)), (5, .int u30), (0, .ref a), (1, .ref h), (4, .int k4)]) hx hb dX1_decodeNumbers_89 rfl hl (by decide) rfl (fun ls hl => ?_)
            refine lv_iinc (v := (k4 + 1)) (lv' := [(4, .int (k4 + 1)), (3, .int (k3 + u30)), (6, .int (pX0_number mem 1024 k3 u30)), (5, .int u30), (0, .ref a), (1, .ref h)]) hx hb dX1_decodeNumbers_90 hl (k := 5) rfl rfl (by decide) rfl (fun ls hl => ?_)
            refine lv_goto (tgt := 5) hx hb dX1_decodeNumbers_93 (by decide) ?_
            rw [show pX1_decodeNumbers_lp5 t f mem (n_ + 1) g k3 k4 = pX1_decodeNumbers_lp5 t f mem n_ (upd g (Int32.toNatClampNeg k4) u76) (k3 + u30) (k4 + 1) from by rw [pX1_decodeNumbers_lp5, if_neg c_11, if_neg c_21, hu30, mLet_eq, if_neg c_42, if_neg c_69, hu76, mLet_eq]]
            exact ih (upd g (Int32.toNatClampNeg k4) u76) (k3 + u30) (k4 + 1) _ _ _ (nn_up hk4 c_11) (ms_up c_11 hm) V (lv_sub hl [4, 5, 1, 0] rfl)
        · refine lv_iconst (v := (-1)) hx hb dX1_decodeNumbers_45 (by decide) ?_
          have e9 : pX1_decodeNumbers_lp5 t f mem (n_ + 1) g k3 k4 = ((-1), g) := by rw [pX1_decodeNumbers_lp5, if_neg c_11, if_neg c_21, hu30, mLet_eq, if_pos c_42]
          exact m_iret X hr hk V (by rw [e9]) (by rw [e9]) dX1_decodeNumbers_46
set_option maxRecDepth 100000 in
set_option maxHeartbeats 4000000 in
theorem kX1_decodeNumbers (l : Launch) (D : va_G) (cB cI : ClassId) (a b d h i : Nat) (t : Nat → Int32) (f : Nat → Int32) (g : Nat → Int32) (mem : Nat → Int32) (x2 : Int32) : mM l D cB cI yX1_decodeNumbers cX1_decodeNumbers 7 (some .int) { frames := 2, cells := 0, slots := 0, locals := 45 } [.ref a, .ref h, .int x2] (wFB cB cI a b d h i t f g mem) (some ((pX1_decodeNumbers t f g mem x2).1)) (wFB cB cI a b d h i t f ((pX1_decodeNumbers t f g mem x2).2) mem) := by
  refine m_start (by decide +kernel) (Nat.le_of_ble_eq_true rfl) ?_
  intro p e s m below meth c A ls X hr hk V hl
  have X : mCx p s m _ c cX1_decodeNumbers 7 RX1 D cB cI := X
  have hx := X.1.1
  have hb := X.1.2.1
  have hl : lv_has ls 7 [(0, .ref a), (1, .ref h), (2, .int x2)] := hl
  refine lv_iload_n hx hb dX1_decodeNumbers_0 rfl (lv_at hl 2 rfl) ?_
  refine lv_istore_n (lv' := [(3, .int x2), (0, .ref a), (1, .ref h), (2, .int x2)]) hx hb dX1_decodeNumbers_1 rfl hl (by decide) rfl (fun ls hl => ?_)
  refine lv_iconst (v := 0) hx hb dX1_decodeNumbers_2 (by decide) ?_
  refine lv_istore (lv' := [(4, .int 0), (3, .int x2), (0, .ref a), (1, .ref h), (2, .int x2)]) hx hb dX1_decodeNumbers_3 hl (by decide) rfl (fun ls hl => ?_)
  rw [show pX1_decodeNumbers t f g mem x2 = (pX1_decodeNumbers_lp5 t f mem ((Int32.toInt (t 2) - Int32.toInt 0).toNat + 1) g x2 0) from by rw [pX1_decodeNumbers]]
  exact lpX1_decodeNumbers_5 X hr hk  ((Int32.toInt (t 2) - Int32.toInt 0).toNat + 1) g x2 0 _ _ _ (by decide) (Nat.lt_succ_self _) V (lv_sub hl [2, 3, 1, 0] rfl)
def pX1_modesAreFit_lp2 (t : Nat → Int32) (f : Nat → Int32) : Nat → (Int32) → Int32
  | 0, k1 => (0)
  | n_ + 1, k1 => (if (t 2) ≤ k1 then (1) else (if k1 < (t 1) then (if (pX1_modeOf f k1) = 4 then (0) else (if (pX1_modeOf f k1) = 12 then (0) else (pX1_modesAreFit_lp2 t f n_ (k1 + 1)))) else (if (pX1_modeOf f k1) = 4 then (0) else (if (pX1_modeOf f k1) = 12 then (0) else (if (pX1_modeOf f k1) < 1 then (pX1_modesAreFit_lp2 t f n_ (k1 + 1)) else (if 3 < (pX1_modeOf f k1) then (pX1_modesAreFit_lp2 t f n_ (k1 + 1)) else (0)))))))
def pX1_modesAreFit (t : Nat → Int32) (f : Nat → Int32) : Int32 := (pX1_modesAreFit_lp2 t f ((Int32.toInt (t 2) - Int32.toInt 0).toNat + 1) 0)
theorem okX1_modesAreFit : mOk yX1_modesAreFit cX1_modesAreFit 4 (some .boolean) 0 := ⟨gm_210, gm_7, by decide +kernel⟩
set_option maxRecDepth 100000 in
set_option maxHeartbeats 4000000 in
theorem lpX1_modesAreFit_2 {p : Program} {e : Env} {s : State} {m : MethodId} {args : Array Value} {below : List Frame} {meth : Method} {c : Code} {A : Nat → Prop} {l : Launch} {D : va_G} {cB cI : ClassId} {a b d : Nat} {t : Nat → Int32} {f : Nat → Int32} {g : Nat → Int32} (X : mCx p s m args c cX1_modesAreFit 4 RX1 D cB cI) (hr : meth.sig.returnType = (some .boolean)) (hk : meth.locks = false) : ∀ (n_ : Nat) (k1 : Int32) (H : Heap) (locs : List Loc) (ls : Array Slot), (Int32.toInt (t 2) - Int32.toInt k1).toNat < n_ → mWd D A s (wF cB cI a b d t f g) H locs → lv_has ls 4 [(0, .ref a), (1, .int k1)] → W p l e { frames := 1, cells := 0, slots := 0, locals := 21 } s m args below meth c H locs 0 0 (MQ below (mQ D A (wF cB cI a b d t f g) (some (pX1_modesAreFit_lp2 t f n_ k1))) args s 0 0 A) (F0 m 2 ls []) := by
  have hx := X.1.1
  have hb := X.1.2.1
  intro n_
  induction n_ with
  | zero =>
    intro k1 H locs ls  hm V hl
    exact absurd hm (Nat.not_lt_zero _)
  | succ n_ ih =>
    intro k1 H locs ls  hm V hl
    refine lv_iload_n hx hb dX1_modesAreFit_2 rfl (lv_at hl 1 rfl) ?_
    refine lv_aload_n hx hb dX1_modesAreFit_3 rfl (lv_at hl 0 rfl) ?_
    refine m_get X V 1 0 4 rfl gin_1 rfl (by decide) rfl gm_83 (v := .int (t 2)) rfl dX1_modesAreFit_4 ?_
    refine lv_icmp_ge (tgt := 63) hx hb dX1_modesAreFit_7 (by decide) (fun c_7 => ?_) (fun c_7 => ?_)
    · refine lv_iconst (v := 1) hx hb dX1_modesAreFit_63 (by decide) ?_
      have e9 : pX1_modesAreFit_lp2 t f (n_ + 1) k1 = (1) := by rw [pX1_modesAreFit_lp2, if_pos c_7]
      exact m_zret X hr hk V rfl (by rw [e9]) rfl dX1_modesAreFit_64
    · refine lv_aload_n hx hb dX1_modesAreFit_10 rfl (lv_at hl 0 rfl) ?_
      refine lv_iload_n hx hb dX1_modesAreFit_11 rfl (lv_at hl 1 rfl) ?_
      refine m_VA X V (w1 := (wF cB cI a b d t f g)) (rest := []) (st1 := [.int (pX1_modeOf f k1)]) (kX1_modeOf l D cB cI a b d t f g k1) okX1_modeOf gm_200 gm_644 gm_199 ⟨⟨rfl, rfl⟩, ⟨by decide, by decide⟩, Nat.zero_le _, Nat.zero_le _⟩ rfl rfl (wF_fst _ _ _ _ _ _ _ _) (wF_fst _ _ _ _ _ _ _ _) rfl hl.1 (Nat.le_of_ble_eq_true rfl) dX1_modesAreFit_12 rfl rfl (fun H locs V => ?_)
      refine lv_istore_n (lv' := [(2, .int (pX1_modeOf f k1)), (0, .ref a), (1, .int k1)]) hx hb dX1_modesAreFit_15 rfl hl (by decide) rfl (fun ls hl => ?_)
      refine lv_iload_n hx hb dX1_modesAreFit_16 rfl (lv_at hl 2 rfl) ?_
      refine lv_aload_n hx hb dX1_modesAreFit_17 rfl (lv_at hl 1 rfl) ?_
      refine m_get X V 1 0 3 rfl gin_1 rfl (by decide) rfl gm_82 (v := .int (t 1)) rfl dX1_modesAreFit_18 ?_
      refine lv_icmp_lt (tgt := 28) hx hb dX1_modesAreFit_21 (by decide) (fun c_21 => ?_) (fun c_21 => ?_)
      · refine lv_iconst (v := 0) hx hb dX1_modesAreFit_28 (by decide) ?_
        refine lv_istore_n (lv' := [(3, .int 0), (2, .int (pX1_modeOf f k1)), (0, .ref a), (1, .int k1)]) hx hb dX1_modesAreFit_29 rfl hl (by decide) rfl (fun ls hl => ?_)
        refine lv_iload_n hx hb dX1_modesAreFit_30 rfl (lv_at hl 1 rfl) ?_
        refine lv_iconst (v := 4) hx hb dX1_modesAreFit_31 (by decide) ?_
        refine lv_icmp_eq (tgt := 55) hx hb dX1_modesAreFit_32 (by decide) (fun c_32 => ?_) (fun c_32 => ?_)
        · refine lv_iconst (v := 0) hx hb dX1_modesAreFit_55 (by decide) ?_
          have e9 : pX1_modesAreFit_lp2 t f (n_ + 1) k1 = (0) := by rw [pX1_modesAreFit_lp2, if_neg c_7, if_pos c_21, if_pos c_32]
          exact m_zret X hr hk V rfl (by rw [e9]) rfl dX1_modesAreFit_56
        · refine lv_iload_n hx hb dX1_modesAreFit_35 rfl (lv_at hl 1 rfl) ?_
          refine lv_bipush (v := 12) hx hb dX1_modesAreFit_36 (by decide) ?_
          refine lv_icmp_eq (tgt := 55) hx hb dX1_modesAreFit_38 (by decide) (fun c_38 => ?_) (fun c_38 => ?_)
          · refine lv_iconst (v := 0) hx hb dX1_modesAreFit_55 (by decide) ?_
            have e9 : pX1_modesAreFit_lp2 t f (n_ + 1) k1 = (0) := by rw [pX1_modesAreFit_lp2, if_neg c_7, if_pos c_21, if_neg c_32, if_pos c_38]
            exact m_zret X hr hk V rfl (by rw [e9]) rfl dX1_modesAreFit_56
          · refine lv_iload_n hx hb dX1_modesAreFit_41 rfl (lv_at hl 0 rfl) ?_
            refine lv_if_eq (tgt := 57) hx hb dX1_modesAreFit_42 (by decide) (fun _ => ?_) (fun h => absurd h (by decide))
            refine lv_iinc (v := (k1 + 1)) (lv' := [(1, .int (k1 + 1)), (3, .int 0), (2, .int (pX1_modeOf f k1)), (0, .ref a)]) hx hb dX1_modesAreFit_57 hl (k := 3) rfl rfl (by decide) rfl (fun ls hl => ?_)
            refine lv_goto (tgt := 2) hx hb dX1_modesAreFit_60 (by decide) ?_
            rw [show pX1_modesAreFit_lp2 t f (n_ + 1) k1 = pX1_modesAreFit_lp2 t f n_ (k1 + 1) from by rw [pX1_modesAreFit_lp2, if_neg c_7, if_pos c_21, if_neg c_32, if_neg c_38]]
            exact ih (k1 + 1) _ _ _  (ms_up c_7 hm) V (lv_sub hl [3, 0] rfl)
      · refine lv_iconst (v := 1) hx hb dX1_modesAreFit_24 (by decide) ?_
        refine lv_goto (tgt := 29) hx hb dX1_modesAreFit_25 (by decide) ?_
        refine lv_istore_n (lv' := [(3, .int 1), (2, .int (pX1_modeOf f k1)), (0, .ref a), (1, .int k1)]) hx hb dX1_modesAreFit_29 rfl hl (by decide) rfl (fun ls hl => ?_)
        refine lv_iload_n hx hb dX1_modesAreFit_30 rfl (lv_at hl 1 rfl) ?_
        refine lv_iconst (v := 4) hx hb dX1_modesAreFit_31 (by decide) ?_
        refine lv_icmp_eq (tgt := 55) hx hb dX1_modesAreFit_32 (by decide) (fun c_32 => ?_) (fun c_32 => ?_)
        · refine lv_iconst (v := 0) hx hb dX1_modesAreFit_55 (by decide) ?_
          have e9 : pX1_modesAreFit_lp2 t f (n_ + 1) k1 = (0) := by rw [pX1_modesAreFit_lp2, if_neg c_7, if_neg c_21, if_pos c_32]
          exact m_zret X hr hk V rfl (by rw [e9]) rfl dX1_modesAreFit_56
        · refine lv_iload_n hx hb dX1_modesAreFit_35 rfl (lv_at hl 1 rfl) ?_
          refine lv_bipush (v := 12) hx hb dX1_modesAreFit_36 (by decide) ?_
          refine lv_icmp_eq (tgt := 55) hx hb dX1_modesAreFit_38 (by decide) (fun c_38 => ?_) (fun c_38 => ?_)
          · refine lv_iconst (v := 0) hx hb dX1_modesAreFit_55 (by decide) ?_
            have e9 : pX1_modesAreFit_lp2 t f (n_ + 1) k1 = (0) := by rw [pX1_modesAreFit_lp2, if_neg c_7, if_neg c_21, if_neg c_32, if_pos c_38]
            exact m_zret X hr hk V rfl (by rw [e9]) rfl dX1_modesAreFit_56
          · refine lv_iload_n hx hb dX1_modesAreFit_41 rfl (lv_at hl 0 rfl) ?_
            refine lv_if_eq (tgt := 57) hx hb dX1_modesAreFit_42 (by decide) (fun h => absurd h (by decide)) (fun _ => ?_)
            refine lv_iload_n hx hb dX1_modesAreFit_45 rfl (lv_at hl 1 rfl) ?_
            refine lv_iconst (v := 1) hx hb dX1_modesAreFit_46 (by decide) ?_
            refine lv_icmp_lt (tgt := 57) hx hb dX1_modesAreFit_47 (by decide) (fun c_47 => ?_) (fun c_47 => ?_)
            · refine lv_iinc (v := (k1 + 1)) (lv' := [(1, .int (k1 + 1)), (3, .int 1), (2, .int (pX1_modeOf f k1)), (0, .ref a)]) hx hb dX1_modesAreFit_57 hl (k := 3) rfl rfl (by decide) rfl (fun ls hl => ?_)
              refine lv_goto (tgt := 2) hx hb dX1_modesAreFit_60 (by decide) ?_
              rw [show pX1_modesAreFit_lp2 t f (n_ + 1) k1 = pX1_modesAreFit_lp2 t f n_ (k1 + 1) from by rw [pX1_modesAreFit_lp2, if_neg c_7, if_neg c_21, if_neg c_32, if_neg c_38, if_pos c_47]]
              exact ih (k1 + 1) _ _ _  (ms_up c_7 hm) V (lv_sub hl [3, 0] rfl)
            · refine lv_iload_n hx hb dX1_modesAreFit_50 rfl (lv_at hl 1 rfl) ?_
              refine lv_iconst (v := 3) hx hb dX1_modesAreFit_51 (by decide) ?_
              refine lv_icmp_gt (tgt := 57) hx hb dX1_modesAreFit_52 (by decide) (fun c_52 => ?_) (fun c_52 => ?_)
              · refine lv_iinc (v := (k1 + 1)) (lv' := [(1, .int (k1 + 1)), (3, .int 1), (2, .int (pX1_modeOf f k1)), (0, .ref a)]) hx hb dX1_modesAreFit_57 hl (k := 3) rfl rfl (by decide) rfl (fun ls hl => ?_)
                refine lv_goto (tgt := 2) hx hb dX1_modesAreFit_60 (by decide) ?_
                rw [show pX1_modesAreFit_lp2 t f (n_ + 1) k1 = pX1_modesAreFit_lp2 t f n_ (k1 + 1) from by rw [pX1_modesAreFit_lp2, if_neg c_7, if_neg c_21, if_neg c_32, if_neg c_38, if_neg c_47, if_pos c_52]]
                exact ih (k1 + 1) _ _ _  (ms_up c_7 hm) V (lv_sub hl [3, 0] rfl)
              · refine lv_iconst (v := 0) hx hb dX1_modesAreFit_55 (by decide) ?_
                have e9 : pX1_modesAreFit_lp2 t f (n_ + 1) k1 = (0) := by rw [pX1_modesAreFit_lp2, if_neg c_7, if_neg c_21, if_neg c_32, if_neg c_38, if_neg c_47, if_neg c_52]
                exact m_zret X hr hk V rfl (by rw [e9]) rfl dX1_modesAreFit_56
set_option maxRecDepth 100000 in
set_option maxHeartbeats 4000000 in
theorem kX1_modesAreFit (l : Launch) (D : va_G) (cB cI : ClassId) (a b d : Nat) (t : Nat → Int32) (f : Nat → Int32) (g : Nat → Int32) : mM l D cB cI yX1_modesAreFit cX1_modesAreFit 4 (some .boolean) { frames := 1, cells := 0, slots := 0, locals := 21 } [.ref a] (wF cB cI a b d t f g) (some (pX1_modesAreFit t f)) (wF cB cI a b d t f g) := by
  refine m_start (by decide +kernel) (Nat.le_of_ble_eq_true rfl) ?_
  intro p e s m below meth c A ls X hr hk V hl
  have X : mCx p s m _ c cX1_modesAreFit 4 RX1 D cB cI := X
  have hx := X.1.1
  have hb := X.1.2.1
  have hl : lv_has ls 4 [(0, .ref a)] := hl
  refine lv_iconst (v := 0) hx hb dX1_modesAreFit_0 (by decide) ?_
  refine lv_istore_n (lv' := [(1, .int 0), (0, .ref a)]) hx hb dX1_modesAreFit_1 rfl hl (by decide) rfl (fun ls hl => ?_)
  rw [show pX1_modesAreFit t f = (pX1_modesAreFit_lp2 t f ((Int32.toInt (t 2) - Int32.toInt 0).toNat + 1) 0) from by rw [pX1_modesAreFit]]
  exact lpX1_modesAreFit_2 X hr hk  ((Int32.toInt (t 2) - Int32.toInt 0).toNat + 1) 0 _ _ _  (Nat.lt_succ_self _) V (lv_sub hl [1, 0] rfl)
def pX1_decode (t : Nat → Int32) (f : Nat → Int32) (g : Nat → Int32) (mem : Nat → Int32) (x2 : Int32) : Int32 × (Nat → Int32) × (Nat → Int32) × (Nat → Int32) := (mLet (pX1_operationWidth (pX0_byteAt mem 1024 x2)) (fun (u5 : Int32) => (if (pX0_holds 1024 x2 u5) = 0 then (1, t, f, g) else (mLet (pX1_operationOf (pX0_number mem 1024 x2 u5) u5) (fun (u28 : Int32) => (if 0 ≤ (pX6_loadsOf u28) then (if (pX6_stores u28) = 0 then (mLet (pX0_holds 1024 (x2 + u5) (((pX6_loadsOf u28) + 1) / 2)) (fun (u97 : Int32) => (if u97 = 0 then (1, (upd (upd (upd t 0 u28) 1 (pX6_loadsOf u28)) 2 (pX6_loadsOf u28)), f, g) else (mLet (pX1_decodeModes (upd (upd (upd t 0 u28) 1 (pX6_loadsOf u28)) 2 (pX6_loadsOf u28)) f mem (x2 + u5)) (fun (u110 : (Nat → Int32)) => (mLet (pX1_decodeNumbers (upd (upd (upd t 0 u28) 1 (pX6_loadsOf u28)) 2 (pX6_loadsOf u28)) u110 g mem ((x2 + u5) + (((pX6_loadsOf u28) + 1) / 2))) (fun (u121 : Int32 × (Nat → Int32)) => (if 0 ≤ u121.1 then (mLet (pX1_modesAreFit (upd (upd (upd (upd t 0 u28) 1 (pX6_loadsOf u28)) 2 (pX6_loadsOf u28)) 3 (u121.1 - x2)) u110) (fun (u142 : Int32) => (if u142 = 0 then (2, (upd (upd (upd (upd t 0 u28) 1 (pX6_loadsOf u28)) 2 (pX6_loadsOf u28)) 3 (u121.1 - x2)), u110, u121.2) else (0, (upd (upd (upd (upd t 0 u28) 1 (pX6_loadsOf u28)) 2 (pX6_loadsOf u28)) 3 (u121.1 - x2)), u110, u121.2)))) else (1, (upd (upd (upd t 0 u28) 1 (pX6_loadsOf u28)) 2 (pX6_loadsOf u28)), u110, u121.2))))))))) else (mLet (pX0_holds 1024 (x2 + u5) ((((pX6_loadsOf u28) + 1) + 1) / 2)) (fun (u97 : Int32) => (if u97 = 0 then (1, (upd (upd (upd t 0 u28) 1 (pX6_loadsOf u28)) 2 ((pX6_loadsOf u28) + 1)), f, g) else (mLet (pX1_decodeModes (upd (upd (upd t 0 u28) 1 (pX6_loadsOf u28)) 2 ((pX6_loadsOf u28) + 1)) f mem (x2 + u5)) (fun (u110 : (Nat → Int32)) => (mLet (pX1_decodeNumbers (upd (upd (upd t 0 u28) 1 (pX6_loadsOf u28)) 2 ((pX6_loadsOf u28) + 1)) u110 g mem ((x2 + u5) + ((((pX6_loadsOf u28) + 1) + 1) / 2))) (fun (u121 : Int32 × (Nat → Int32)) => (if 0 ≤ u121.1 then (mLet (pX1_modesAreFit (upd (upd (upd (upd t 0 u28) 1 (pX6_loadsOf u28)) 2 ((pX6_loadsOf u28) + 1)) 3 (u121.1 - x2)) u110) (fun (u142 : Int32) => (if u142 = 0 then (2, (upd (upd (upd (upd t 0 u28) 1 (pX6_loadsOf u28)) 2 ((pX6_loadsOf u28) + 1)) 3 (u121.1 - x2)), u110, u121.2) else (0, (upd (upd (upd (upd t 0 u28) 1 (pX6_loadsOf u28)) 2 ((pX6_loadsOf u28) + 1)) 3 (u121.1 - x2)), u110, u121.2)))) else (1, (upd (upd (upd t 0 u28) 1 (pX6_loadsOf u28)) 2 ((pX6_loadsOf u28) + 1)), u110, u121.2)))))))))) else (3, (upd (upd t 0 u28) 1 (pX6_loadsOf u28)), f, g)))))))
theorem okX1_decode : mOk yX1_decode cX1_decode 6 (some .int) 2 := ⟨gm_176, gm_7, by decide +kernel⟩
set_option maxRecDepth 100000 in
set_option maxHeartbeats 4000000 in
theorem kX1_decode (l : Launch) (D : va_G) (cB cI : ClassId) (a b d h i : Nat) (t : Nat → Int32) (f : Nat → Int32) (g : Nat → Int32) (mem : Nat → Int32) (x2 : Int32) : mM l D cB cI yX1_decode cX1_decode 6 (some .int) { frames := 3, cells := 0, slots := 0, locals := 71 } [.ref a, .ref h, .int x2] (wFB cB cI a b d h i t f g mem) (some ((pX1_decode t f g mem x2).1)) (wFB cB cI a b d h i ((pX1_decode t f g mem x2).2.1) ((pX1_decode t f g mem x2).2.2.1) ((pX1_decode t f g mem x2).2.2.2) mem) := by
  refine m_start (by decide +kernel) (Nat.le_of_ble_eq_true rfl) ?_
  intro p e s m below meth c A ls X hr hk V hl
  have X : mCx p s m _ c cX1_decode 6 RX1 D cB cI := X
  have hx := X.1.1
  have hb := X.1.2.1
  have hl : lv_has ls 6 [(0, .ref a), (1, .ref h), (2, .int x2)] := hl
  refine lv_aload_n hx hb dX1_decode_0 rfl (lv_at hl 1 rfl) ?_
  refine lv_iload_n hx hb dX1_decode_1 rfl (lv_at hl 2 rfl) ?_
  refine m_VN X V (ws' := (wFB cB cI a b d h i t f g mem)) (rest := []) (st1 := [.int (pX0_byteAt mem 1024 x2)]) (kX0_byteAt l D cB cI h i 1024 mem x2 (by decide)) okX0_byteAt gm_177 gm_640 nm_15 [3, 4] ⟨⟨rfl, rfl⟩, ⟨by decide, by decide⟩, Nat.zero_le _, Nat.zero_le _⟩ rfl rfl rfl rfl (wB_fst _ _ _ _ _ _) (wB_fst _ _ _ _ _ _) rfl rfl hl.1 (Nat.le_of_ble_eq_true rfl) dX1_decode_2 rfl rfl (fun H locs V => ?_)
  obtain ⟨u5, hu5⟩ : ∃ u, pX1_operationWidth (pX0_byteAt mem 1024 x2) = u := ⟨_, rfl⟩
  have hM := kX1_operationWidth l D cB cI (pX0_byteAt mem 1024 x2)
  rw [hu5] at hM
  refine m_S X V (rest := []) (st1 := [.int u5]) hM okX1_operationWidth gm_180 gm_179 ⟨⟨rfl, rfl⟩, ⟨by decide, by decide⟩, Nat.zero_le _, Nat.zero_le _⟩ rfl hl.1 (Nat.le_of_ble_eq_true rfl) dX1_decode_5 rfl rfl (fun H locs V => ?_)
  refine lv_istore_n (lv' := [(3, .int u5), (0, .ref a), (1, .ref h), (2, .int x2)]) hx hb dX1_decode_8 rfl hl (by decide) rfl (fun ls hl => ?_)
  refine lv_aload_n hx hb dX1_decode_9 rfl (lv_at hl 2 rfl) ?_
  refine lv_iload_n hx hb dX1_decode_10 rfl (lv_at hl 3 rfl) ?_
  refine lv_iload_n hx hb dX1_decode_11 rfl (lv_at hl 0 rfl) ?_
  refine m_VN X V (ws' := (wFB cB cI a b d h i t f g mem)) (rest := []) (st1 := [.int (pX0_holds 1024 x2 u5)]) (kX0_holds l D cB cI h i 1024 mem x2 u5 (by decide)) okX0_holds gm_132 gm_630 nm_16 [3, 4] ⟨⟨rfl, rfl⟩, ⟨by decide, by decide⟩, Nat.zero_le _, Nat.zero_le _⟩ rfl rfl rfl rfl (wB_fst _ _ _ _ _ _) (wB_fst _ _ _ _ _ _) rfl rfl hl.1 (Nat.le_of_ble_eq_true rfl) dX1_decode_12 rfl rfl (fun H locs V => ?_)
  refine lv_if_ne (tgt := 20) hx hb dX1_decode_15 (by decide) (fun c_15 => ?_) (fun c_15 => ?_)
  · refine lv_aload_n hx hb dX1_decode_20 rfl (lv_at hl 1 rfl) ?_
    refine lv_aload_n hx hb dX1_decode_21 rfl (lv_at hl 2 rfl) ?_
    refine lv_iload_n hx hb dX1_decode_22 rfl (lv_at hl 3 rfl) ?_
    refine lv_iload_n hx hb dX1_decode_23 rfl (lv_at hl 0 rfl) ?_
    refine m_VN X V (ws' := (wFB cB cI a b d h i t f g mem)) (rest := [.ref a]) (st1 := [.int (pX0_number mem 1024 x2 u5), .ref a]) (kX0_number l D cB cI h i 1024 mem x2 u5 (by decide)) okX0_number gm_182 gm_641 nm_17 [3, 4] ⟨⟨rfl, rfl⟩, ⟨by decide, by decide⟩, Nat.zero_le _, Nat.zero_le _⟩ rfl rfl rfl rfl (wB_fst _ _ _ _ _ _) (wB_fst _ _ _ _ _ _) rfl rfl hl.1 (Nat.le_of_ble_eq_true rfl) dX1_decode_24 rfl rfl (fun H locs V => ?_)
    refine lv_iload_n hx hb dX1_decode_27 rfl (lv_at hl 0 rfl) ?_
    obtain ⟨u28, hu28⟩ : ∃ u, pX1_operationOf (pX0_number mem 1024 x2 u5) u5 = u := ⟨_, rfl⟩
    have hM := kX1_operationOf l D cB cI (pX0_number mem 1024 x2 u5) u5
    rw [hu28] at hM
    refine m_S X V (rest := [.ref a]) (st1 := [.int u28, .ref a]) hM okX1_operationOf gm_186 gm_185 ⟨⟨rfl, rfl⟩, ⟨by decide, by decide⟩, Nat.zero_le _, Nat.zero_le _⟩ rfl hl.1 (Nat.le_of_ble_eq_true rfl) dX1_decode_28 rfl rfl (fun H locs V => ?_)
    refine m_put X V (ws' := (wFB cB cI a b d h i (upd t 0 u28) f g mem)) 1 0 2 rfl gin_1 tyX1_ok nmX1 rfl (by decide) rfl gm_81 rfl rfl rfl (Nat.le_of_ble_eq_true rfl) dX1_decode_31 rfl (fun H locs V => ?_)
    refine lv_aload_n hx hb dX1_decode_34 rfl (lv_at hl 1 rfl) ?_
    refine lv_aload_n hx hb dX1_decode_35 rfl (lv_at hl 1 rfl) ?_
    refine m_get X V 1 0 2 rfl gin_1 rfl (by decide) rfl gm_81 (v := .int u28) rfl dX1_decode_36 ?_
    refine m_SN X V (rest := [.ref a]) (st1 := [.int (pX6_loadsOf u28), .ref a]) (kX6_loadsOf l D cB cI u28) okX6_loadsOf gm_189 nm_18 ⟨⟨rfl, rfl⟩, ⟨by decide, by decide⟩, Nat.zero_le _, Nat.zero_le _⟩ rfl hl.1 (Nat.le_of_ble_eq_true rfl) dX1_decode_39 rfl rfl (fun H locs V => ?_)
    refine m_put X V (ws' := (wFB cB cI a b d h i (upd (upd t 0 u28) 1 (pX6_loadsOf u28)) f g mem)) 1 0 3 rfl gin_1 tyX1_ok nmX1 rfl (by decide) rfl gm_82 rfl rfl rfl (Nat.le_of_ble_eq_true rfl) dX1_decode_42 rfl (fun H locs V => ?_)
    refine lv_aload_n hx hb dX1_decode_45 rfl (lv_at hl 1 rfl) ?_
    refine m_get X V 1 0 3 rfl gin_1 rfl (by decide) rfl gm_82 (v := .int (pX6_loadsOf u28)) rfl dX1_decode_46 ?_
    refine lv_if_ge (tgt := 54) hx hb dX1_decode_49 (by decide) (fun c_49 => ?_) (fun c_49 => ?_)
    · refine lv_aload_n hx hb dX1_decode_54 rfl (lv_at hl 1 rfl) ?_
      refine lv_aload_n hx hb dX1_decode_55 rfl (lv_at hl 1 rfl) ?_
      refine m_get X V 1 0 2 rfl gin_1 rfl (by decide) rfl gm_81 (v := .int u28) rfl dX1_decode_56 ?_
      refine m_SN X V (rest := [.ref a]) (st1 := [.int (pX6_stores u28), .ref a]) (kX6_stores l D cB cI u28) okX6_stores gm_191 nm_19 ⟨⟨rfl, rfl⟩, ⟨by decide, by decide⟩, Nat.zero_le _, Nat.zero_le _⟩ rfl hl.1 (Nat.le_of_ble_eq_true rfl) dX1_decode_59 rfl rfl (fun H locs V => ?_)
      refine lv_if_eq (tgt := 74) hx hb dX1_decode_62 (by decide) (fun c_62 => ?_) (fun c_62 => ?_)
      · refine lv_aload_n hx hb dX1_decode_74 rfl (lv_at hl 1 rfl) ?_
        refine m_get X V 1 0 3 rfl gin_1 rfl (by decide) rfl gm_82 (v := .int (pX6_loadsOf u28)) rfl dX1_decode_75 ?_
        refine m_put X V (ws' := (wFB cB cI a b d h i (upd (upd (upd t 0 u28) 1 (pX6_loadsOf u28)) 2 (pX6_loadsOf u28)) f g mem)) 1 0 4 rfl gin_1 tyX1_ok nmX1 rfl (by decide) rfl gm_83 rfl rfl rfl (Nat.le_of_ble_eq_true rfl) dX1_decode_78 rfl (fun H locs V => ?_)
        refine lv_aload_n hx hb dX1_decode_81 rfl (lv_at hl 1 rfl) ?_
        refine m_get X V 1 0 4 rfl gin_1 rfl (by decide) rfl gm_83 (v := .int (pX6_loadsOf u28)) rfl dX1_decode_82 ?_
        refine lv_iconst (v := 1) hx hb dX1_decode_85 (by decide) ?_
        refine lv_iadd hx hb dX1_decode_86 ?_
        refine lv_iconst (v := 2) hx hb dX1_decode_87 (by decide) ?_
        refine lv_idiv hx hb dX1_decode_88 (by decide) ?_
        refine lv_istore (lv' := [(4, .int (((pX6_loadsOf u28) + 1) / 2)), (3, .int u5), (0, .ref a), (1, .ref h), (2, .int x2)]) hx hb dX1_decode_89 hl (by decide) rfl (fun ls hl => ?_)
        refine lv_aload_n hx hb dX1_decode_91 rfl (lv_at hl 3 rfl) ?_
        refine lv_iload_n hx hb dX1_decode_92 rfl (lv_at hl 4 rfl) ?_
        refine lv_iload_n hx hb dX1_decode_93 rfl (lv_at hl 1 rfl) ?_
        refine lv_iadd hx hb dX1_decode_94 ?_
        refine lv_iload hx hb dX1_decode_95 (lv_at hl 0 rfl) ?_
        obtain ⟨u97, hu97⟩ : ∃ u, pX0_holds 1024 (x2 + u5) (((pX6_loadsOf u28) + 1) / 2) = u := ⟨_, rfl⟩
        have hM := kX0_holds l D cB cI h i 1024 mem (x2 + u5) (((pX6_loadsOf u28) + 1) / 2) (by decide)
        rw [hu97] at hM
        refine m_VN X V (ws' := (wFB cB cI a b d h i (upd (upd (upd t 0 u28) 1 (pX6_loadsOf u28)) 2 (pX6_loadsOf u28)) f g mem)) (rest := []) (st1 := [.int u97]) hM okX0_holds gm_132 gm_630 nm_16 [3, 4] ⟨⟨rfl, rfl⟩, ⟨by decide, by decide⟩, Nat.zero_le _, Nat.zero_le _⟩ rfl rfl rfl rfl (wB_fst _ _ _ _ _ _) (wB_fst _ _ _ _ _ _) rfl rfl hl.1 (Nat.le_of_ble_eq_true rfl) dX1_decode_97 rfl rfl (fun H locs V => ?_)
        refine lv_if_ne (tgt := 105) hx hb dX1_decode_100 (by decide) (fun c_100 => ?_) (fun c_100 => ?_)
        · refine lv_aload_n hx hb dX1_decode_105 rfl (lv_at hl 2 rfl) ?_
          refine lv_aload_n hx hb dX1_decode_106 rfl (lv_at hl 3 rfl) ?_
          refine lv_iload_n hx hb dX1_decode_107 rfl (lv_at hl 4 rfl) ?_
          refine lv_iload_n hx hb dX1_decode_108 rfl (lv_at hl 1 rfl) ?_
          refine lv_iadd hx hb dX1_decode_109 ?_
          obtain ⟨u110, hu110⟩ : ∃ u, pX1_decodeModes (upd (upd (upd t 0 u28) 1 (pX6_loadsOf u28)) 2 (pX6_loadsOf u28)) f mem (x2 + u5) = u := ⟨_, rfl⟩
          have hM := kX1_decodeModes l D cB cI a b d h i (upd (upd (upd t 0 u28) 1 (pX6_loadsOf u28)) 2 (pX6_loadsOf u28)) f g mem (x2 + u5)
          rw [hu110] at hM
          refine m_VA X V (w1 := (wFB cB cI a b d h i (upd (upd (upd t 0 u28) 1 (pX6_loadsOf u28)) 2 (pX6_loadsOf u28)) u110 g mem)) (rest := []) (st1 := []) hM okX1_decodeModes gm_194 gm_642 gm_193 ⟨⟨rfl, rfl⟩, ⟨by decide, by decide⟩, Nat.zero_le _, Nat.zero_le _⟩ rfl rfl (wFB_fst _ _ _ _ _ _ _ _ _ _ _) (wFB_fst _ _ _ _ _ _ _ _ _ _ _) rfl hl.1 (Nat.le_of_ble_eq_true rfl) dX1_decode_110 rfl rfl (fun H locs V => ?_)
          refine lv_aload_n hx hb dX1_decode_113 rfl (lv_at hl 2 rfl) ?_
          refine lv_aload_n hx hb dX1_decode_114 rfl (lv_at hl 3 rfl) ?_
          refine lv_iload_n hx hb dX1_decode_115 rfl (lv_at hl 4 rfl) ?_
          refine lv_iload_n hx hb dX1_decode_116 rfl (lv_at hl 1 rfl) ?_
          refine lv_iadd hx hb dX1_decode_117 ?_
          refine lv_iload hx hb dX1_decode_118 (lv_at hl 0 rfl) ?_
          refine lv_iadd hx hb dX1_decode_120 ?_
          obtain ⟨u121, hu121⟩ : ∃ u, pX1_decodeNumbers (upd (upd (upd t 0 u28) 1 (pX6_loadsOf u28)) 2 (pX6_loadsOf u28)) u110 g mem ((x2 + u5) + (((pX6_loadsOf u28) + 1) / 2)) = u := ⟨_, rfl⟩
          have hM := kX1_decodeNumbers l D cB cI a b d h i (upd (upd (upd t 0 u28) 1 (pX6_loadsOf u28)) 2 (pX6_loadsOf u28)) u110 g mem ((x2 + u5) + (((pX6_loadsOf u28) + 1) / 2))
          rw [hu121] at hM
          refine m_VA X V (w1 := (wFB cB cI a b d h i (upd (upd (upd t 0 u28) 1 (pX6_loadsOf u28)) 2 (pX6_loadsOf u28)) u110 u121.2 mem)) (rest := []) (st1 := [.int u121.1]) hM okX1_decodeNumbers gm_197 gm_643 gm_196 ⟨⟨rfl, rfl⟩, ⟨by decide, by decide⟩, Nat.zero_le _, Nat.zero_le _⟩ rfl rfl (wFB_fst _ _ _ _ _ _ _ _ _ _ _) (wFB_fst _ _ _ _ _ _ _ _ _ _ _) rfl hl.1 (Nat.le_of_ble_eq_true rfl) dX1_decode_121 rfl rfl (fun H locs V => ?_)
          refine lv_istore (lv' := [(5, .int u121.1), (4, .int (((pX6_loadsOf u28) + 1) / 2)), (3, .int u5), (0, .ref a), (1, .ref h), (2, .int x2)]) hx hb dX1_decode_124 hl (by decide) rfl (fun ls hl => ?_)
          refine lv_iload hx hb dX1_decode_126 (lv_at hl 0 rfl) ?_
          refine lv_if_ge (tgt := 133) hx hb dX1_decode_128 (by decide) (fun c_128 => ?_) (fun c_128 => ?_)
          · refine lv_aload_n hx hb dX1_decode_133 rfl (lv_at hl 3 rfl) ?_
            refine lv_iload hx hb dX1_decode_134 (lv_at hl 0 rfl) ?_
            refine lv_iload_n hx hb dX1_decode_136 rfl (lv_at hl 5 rfl) ?_
            refine lv_isub hx hb dX1_decode_137 ?_
            refine m_put X V (ws' := (wFB cB cI a b d h i (upd (upd (upd (upd t 0 u28) 1 (pX6_loadsOf u28)) 2 (pX6_loadsOf u28)) 3 (u121.1 - x2)) u110 u121.2 mem)) 1 0 5 rfl gin_1 tyX1_ok nmX1 rfl (by decide) rfl gm_84 rfl rfl rfl (Nat.le_of_ble_eq_true rfl) dX1_decode_138 rfl (fun H locs V => ?_)
            refine lv_aload_n hx hb dX1_decode_141 rfl (lv_at hl 3 rfl) ?_
            obtain ⟨u142, hu142⟩ : ∃ u, pX1_modesAreFit (upd (upd (upd (upd t 0 u28) 1 (pX6_loadsOf u28)) 2 (pX6_loadsOf u28)) 3 (u121.1 - x2)) u110 = u := ⟨_, rfl⟩
            have hM := kX1_modesAreFit l D cB cI a b d (upd (upd (upd (upd t 0 u28) 1 (pX6_loadsOf u28)) 2 (pX6_loadsOf u28)) 3 (u121.1 - x2)) u110 u121.2
            rw [hu142] at hM
            refine m_V X V (ws' := (wFB cB cI a b d h i (upd (upd (upd (upd t 0 u28) 1 (pX6_loadsOf u28)) 2 (pX6_loadsOf u28)) 3 (u121.1 - x2)) u110 u121.2 mem)) (rest := []) (st1 := [.int u142]) hM okX1_modesAreFit gm_209 gm_645 gm_208 [0, 1, 2] ⟨⟨rfl, rfl⟩, ⟨by decide, by decide⟩, Nat.zero_le _, Nat.zero_le _⟩ rfl rfl rfl rfl (wF_fst _ _ _ _ _ _ _ _) (wF_fst _ _ _ _ _ _ _ _) rfl rfl hl.1 (Nat.le_of_ble_eq_true rfl) dX1_decode_142 rfl rfl (fun H locs V => ?_)
            refine lv_if_eq (tgt := 152) hx hb dX1_decode_145 (by decide) (fun c_145 => ?_) (fun c_145 => ?_)
            · refine lv_iconst (v := 2) hx hb dX1_decode_152 (by decide) ?_
              have e9 : pX1_decode t f g mem x2 = (2, (upd (upd (upd (upd t 0 u28) 1 (pX6_loadsOf u28)) 2 (pX6_loadsOf u28)) 3 (u121.1 - x2)), u110, u121.2) := by rw [pX1_decode, hu5, mLet_eq, if_neg c_15, hu28, mLet_eq, if_pos c_49, if_pos c_62, hu97, mLet_eq, if_neg c_100, hu110, mLet_eq, hu121, mLet_eq, if_pos c_128, hu142, mLet_eq, if_pos c_145]
              exact m_iret X hr hk V (by rw [e9]) (by rw [e9]) dX1_decode_153
            · refine lv_iconst (v := 0) hx hb dX1_decode_148 (by decide) ?_
              refine lv_goto (tgt := 153) hx hb dX1_decode_149 (by decide) ?_
              have e9 : pX1_decode t f g mem x2 = (0, (upd (upd (upd (upd t 0 u28) 1 (pX6_loadsOf u28)) 2 (pX6_loadsOf u28)) 3 (u121.1 - x2)), u110, u121.2) := by rw [pX1_decode, hu5, mLet_eq, if_neg c_15, hu28, mLet_eq, if_pos c_49, if_pos c_62, hu97, mLet_eq, if_neg c_100, hu110, mLet_eq, hu121, mLet_eq, if_pos c_128, hu142, mLet_eq, if_neg c_145]
              exact m_iret X hr hk V (by rw [e9]) (by rw [e9]) dX1_decode_153
          · refine lv_iconst (v := 1) hx hb dX1_decode_131 (by decide) ?_
            have e9 : pX1_decode t f g mem x2 = (1, (upd (upd (upd t 0 u28) 1 (pX6_loadsOf u28)) 2 (pX6_loadsOf u28)), u110, u121.2) := by rw [pX1_decode, hu5, mLet_eq, if_neg c_15, hu28, mLet_eq, if_pos c_49, if_pos c_62, hu97, mLet_eq, if_neg c_100, hu110, mLet_eq, hu121, mLet_eq, if_neg c_128]
            exact m_iret X hr hk V (by rw [e9]) (by rw [e9]) dX1_decode_132
        · refine lv_iconst (v := 1) hx hb dX1_decode_103 (by decide) ?_
          have e9 : pX1_decode t f g mem x2 = (1, (upd (upd (upd t 0 u28) 1 (pX6_loadsOf u28)) 2 (pX6_loadsOf u28)), f, g) := by rw [pX1_decode, hu5, mLet_eq, if_neg c_15, hu28, mLet_eq, if_pos c_49, if_pos c_62, hu97, mLet_eq, if_pos c_100]
          exact m_iret X hr hk V (by rw [e9]) (by rw [e9]) dX1_decode_104
      · refine lv_aload_n hx hb dX1_decode_65 rfl (lv_at hl 1 rfl) ?_
        refine m_get X V 1 0 3 rfl gin_1 rfl (by decide) rfl gm_82 (v := .int (pX6_loadsOf u28)) rfl dX1_decode_66 ?_
        refine lv_iconst (v := 1) hx hb dX1_decode_69 (by decide) ?_
        refine lv_iadd hx hb dX1_decode_70 ?_
        refine lv_goto (tgt := 78) hx hb dX1_decode_71 (by decide) ?_
        refine m_put X V (ws' := (wFB cB cI a b d h i (upd (upd (upd t 0 u28) 1 (pX6_loadsOf u28)) 2 ((pX6_loadsOf u28) + 1)) f g mem)) 1 0 4 rfl gin_1 tyX1_ok nmX1 rfl (by decide) rfl gm_83 rfl rfl rfl (Nat.le_of_ble_eq_true rfl) dX1_decode_78 rfl (fun H locs V => ?_)
        refine lv_aload_n hx hb dX1_decode_81 rfl (lv_at hl 1 rfl) ?_
        refine m_get X V 1 0 4 rfl gin_1 rfl (by decide) rfl gm_83 (v := .int ((pX6_loadsOf u28) + 1)) rfl dX1_decode_82 ?_
        refine lv_iconst (v := 1) hx hb dX1_decode_85 (by decide) ?_
        refine lv_iadd hx hb dX1_decode_86 ?_
        refine lv_iconst (v := 2) hx hb dX1_decode_87 (by decide) ?_
        refine lv_idiv hx hb dX1_decode_88 (by decide) ?_
        refine lv_istore (lv' := [(4, .int ((((pX6_loadsOf u28) + 1) + 1) / 2)), (3, .int u5), (0, .ref a), (1, .ref h), (2, .int x2)]) hx hb dX1_decode_89 hl (by decide) rfl (fun ls hl => ?_)
        refine lv_aload_n hx hb dX1_decode_91 rfl (lv_at hl 3 rfl) ?_
        refine lv_iload_n hx hb dX1_decode_92 rfl (lv_at hl 4 rfl) ?_
        refine lv_iload_n hx hb dX1_decode_93 rfl (lv_at hl 1 rfl) ?_
        refine lv_iadd hx hb dX1_decode_94 ?_
        refine lv_iload hx hb dX1_decode_95 (lv_at hl 0 rfl) ?_
        obtain ⟨u97, hu97⟩ : ∃ u, pX0_holds 1024 (x2 + u5) ((((pX6_loadsOf u28) + 1) + 1) / 2) = u := ⟨_, rfl⟩
        have hM := kX0_holds l D cB cI h i 1024 mem (x2 + u5) ((((pX6_loadsOf u28) + 1) + 1) / 2) (by decide)
        rw [hu97] at hM
        refine m_VN X V (ws' := (wFB cB cI a b d h i (upd (upd (upd t 0 u28) 1 (pX6_loadsOf u28)) 2 ((pX6_loadsOf u28) + 1)) f g mem)) (rest := []) (st1 := [.int u97]) hM okX0_holds gm_132 gm_630 nm_16 [3, 4] ⟨⟨rfl, rfl⟩, ⟨by decide, by decide⟩, Nat.zero_le _, Nat.zero_le _⟩ rfl rfl rfl rfl (wB_fst _ _ _ _ _ _) (wB_fst _ _ _ _ _ _) rfl rfl hl.1 (Nat.le_of_ble_eq_true rfl) dX1_decode_97 rfl rfl (fun H locs V => ?_)
        refine lv_if_ne (tgt := 105) hx hb dX1_decode_100 (by decide) (fun c_100 => ?_) (fun c_100 => ?_)
        · refine lv_aload_n hx hb dX1_decode_105 rfl (lv_at hl 2 rfl) ?_
          refine lv_aload_n hx hb dX1_decode_106 rfl (lv_at hl 3 rfl) ?_
          refine lv_iload_n hx hb dX1_decode_107 rfl (lv_at hl 4 rfl) ?_
          refine lv_iload_n hx hb dX1_decode_108 rfl (lv_at hl 1 rfl) ?_
          refine lv_iadd hx hb dX1_decode_109 ?_
          obtain ⟨u110, hu110⟩ : ∃ u, pX1_decodeModes (upd (upd (upd t 0 u28) 1 (pX6_loadsOf u28)) 2 ((pX6_loadsOf u28) + 1)) f mem (x2 + u5) = u := ⟨_, rfl⟩
          have hM := kX1_decodeModes l D cB cI a b d h i (upd (upd (upd t 0 u28) 1 (pX6_loadsOf u28)) 2 ((pX6_loadsOf u28) + 1)) f g mem (x2 + u5)
          rw [hu110] at hM
          refine m_VA X V (w1 := (wFB cB cI a b d h i (upd (upd (upd t 0 u28) 1 (pX6_loadsOf u28)) 2 ((pX6_loadsOf u28) + 1)) u110 g mem)) (rest := []) (st1 := []) hM okX1_decodeModes gm_194 gm_642 gm_193 ⟨⟨rfl, rfl⟩, ⟨by decide, by decide⟩, Nat.zero_le _, Nat.zero_le _⟩ rfl rfl (wFB_fst _ _ _ _ _ _ _ _ _ _ _) (wFB_fst _ _ _ _ _ _ _ _ _ _ _) rfl hl.1 (Nat.le_of_ble_eq_true rfl) dX1_decode_110 rfl rfl (fun H locs V => ?_)
          refine lv_aload_n hx hb dX1_decode_113 rfl (lv_at hl 2 rfl) ?_
          refine lv_aload_n hx hb dX1_decode_114 rfl (lv_at hl 3 rfl) ?_
          refine lv_iload_n hx hb dX1_decode_115 rfl (lv_at hl 4 rfl) ?_
          refine lv_iload_n hx hb dX1_decode_116 rfl (lv_at hl 1 rfl) ?_
          refine lv_iadd hx hb dX1_decode_117 ?_
          refine lv_iload hx hb dX1_decode_118 (lv_at hl 0 rfl) ?_
          refine lv_iadd hx hb dX1_decode_120 ?_
          obtain ⟨u121, hu121⟩ : ∃ u, pX1_decodeNumbers (upd (upd (upd t 0 u28) 1 (pX6_loadsOf u28)) 2 ((pX6_loadsOf u28) + 1)) u110 g mem ((x2 + u5) + ((((pX6_loadsOf u28) + 1) + 1) / 2)) = u := ⟨_, rfl⟩
          have hM := kX1_decodeNumbers l D cB cI a b d h i (upd (upd (upd t 0 u28) 1 (pX6_loadsOf u28)) 2 ((pX6_loadsOf u28) + 1)) u110 g mem ((x2 + u5) + ((((pX6_loadsOf u28) + 1) + 1) / 2))
          rw [hu121] at hM
          refine m_VA X V (w1 := (wFB cB cI a b d h i (upd (upd (upd t 0 u28) 1 (pX6_loadsOf u28)) 2 ((pX6_loadsOf u28) + 1)) u110 u121.2 mem)) (rest := []) (st1 := [.int u121.1]) hM okX1_decodeNumbers gm_197 gm_643 gm_196 ⟨⟨rfl, rfl⟩, ⟨by decide, by decide⟩, Nat.zero_le _, Nat.zero_le _⟩ rfl rfl (wFB_fst _ _ _ _ _ _ _ _ _ _ _) (wFB_fst _ _ _ _ _ _ _ _ _ _ _) rfl hl.1 (Nat.le_of_ble_eq_true rfl) dX1_decode_121 rfl rfl (fun H locs V => ?_)
          refine lv_istore (lv' := [(5, .int u121.1), (4, .int ((((pX6_loadsOf u28) + 1) + 1) / 2)), (3, .int u5), (0, .ref a), (1, .ref h), (2, .int x2)]) hx hb dX1_decode_124 hl (by decide) rfl (fun ls hl => ?_)
          refine lv_iload hx hb dX1_decode_126 (lv_at hl 0 rfl) ?_
          refine lv_if_ge (tgt := 133) hx hb dX1_decode_128 (by decide) (fun c_128 => ?_) (fun c_128 => ?_)
          · refine lv_aload_n hx hb dX1_decode_133 rfl (lv_at hl 3 rfl) ?_
            refine lv_iload hx hb dX1_decode_134 (lv_at hl 0 rfl) ?_
            refine lv_iload_n hx hb dX1_decode_136 rfl (lv_at hl 5 rfl) ?_
            refine lv_isub hx hb dX1_decode_137 ?_
            refine m_put X V (ws' := (wFB cB cI a b d h i (upd (upd (upd (upd t 0 u28) 1 (pX6_loadsOf u28)) 2 ((pX6_loadsOf u28) + 1)) 3 (u121.1 - x2)) u110 u121.2 mem)) 1 0 5 rfl gin_1 tyX1_ok nmX1 rfl (by decide) rfl gm_84 rfl rfl rfl (Nat.le_of_ble_eq_true rfl) dX1_decode_138 rfl (fun H locs V => ?_)
            refine lv_aload_n hx hb dX1_decode_141 rfl (lv_at hl 3 rfl) ?_
            obtain ⟨u142, hu142⟩ : ∃ u, pX1_modesAreFit (upd (upd (upd (upd t 0 u28) 1 (pX6_loadsOf u28)) 2 ((pX6_loadsOf u28) + 1)) 3 (u121.1 - x2)) u110 = u := ⟨_, rfl⟩
            have hM := kX1_modesAreFit l D cB cI a b d (upd (upd (upd (upd t 0 u28) 1 (pX6_loadsOf u28)) 2 ((pX6_loadsOf u28) + 1)) 3 (u121.1 - x2)) u110 u121.2
            rw [hu142] at hM
            refine m_V X V (ws' := (wFB cB cI a b d h i (upd (upd (upd (upd t 0 u28) 1 (pX6_loadsOf u28)) 2 ((pX6_loadsOf u28) + 1)) 3 (u121.1 - x2)) u110 u121.2 mem)) (rest := []) (st1 := [.int u142]) hM okX1_modesAreFit gm_209 gm_645 gm_208 [0, 1, 2] ⟨⟨rfl, rfl⟩, ⟨by decide, by decide⟩, Nat.zero_le _, Nat.zero_le _⟩ rfl rfl rfl rfl (wF_fst _ _ _ _ _ _ _ _) (wF_fst _ _ _ _ _ _ _ _) rfl rfl hl.1 (Nat.le_of_ble_eq_true rfl) dX1_decode_142 rfl rfl (fun H locs V => ?_)
            refine lv_if_eq (tgt := 152) hx hb dX1_decode_145 (by decide) (fun c_145 => ?_) (fun c_145 => ?_)
            · refine lv_iconst (v := 2) hx hb dX1_decode_152 (by decide) ?_
              have e9 : pX1_decode t f g mem x2 = (2, (upd (upd (upd (upd t 0 u28) 1 (pX6_loadsOf u28)) 2 ((pX6_loadsOf u28) + 1)) 3 (u121.1 - x2)), u110, u121.2) := by rw [pX1_decode, hu5, mLet_eq, if_neg c_15, hu28, mLet_eq, if_pos c_49, if_neg c_62, hu97, mLet_eq, if_neg c_100, hu110, mLet_eq, hu121, mLet_eq, if_pos c_128, hu142, mLet_eq, if_pos c_145]
              exact m_iret X hr hk V (by rw [e9]) (by rw [e9]) dX1_decode_153
            · refine lv_iconst (v := 0) hx hb dX1_decode_148 (by decide) ?_
              refine lv_goto (tgt := 153) hx hb dX1_decode_149 (by decide) ?_
              have e9 : pX1_decode t f g mem x2 = (0, (upd (upd (upd (upd t 0 u28) 1 (pX6_loadsOf u28)) 2 ((pX6_loadsOf u28) + 1)) 3 (u121.1 - x2)), u110, u121.2) := by rw [pX1_decode, hu5, mLet_eq, if_neg c_15, hu28, mLet_eq, if_pos c_49, if_neg c_62, hu97, mLet_eq, if_neg c_100, hu110, mLet_eq, hu121, mLet_eq, if_pos c_128, hu142, mLet_eq, if_neg c_145]
              exact m_iret X hr hk V (by rw [e9]) (by rw [e9]) dX1_decode_153
          · refine lv_iconst (v := 1) hx hb dX1_decode_131 (by decide) ?_
            have e9 : pX1_decode t f g mem x2 = (1, (upd (upd (upd t 0 u28) 1 (pX6_loadsOf u28)) 2 ((pX6_loadsOf u28) + 1)), u110, u121.2) := by rw [pX1_decode, hu5, mLet_eq, if_neg c_15, hu28, mLet_eq, if_pos c_49, if_neg c_62, hu97, mLet_eq, if_neg c_100, hu110, mLet_eq, hu121, mLet_eq, if_neg c_128]
            exact m_iret X hr hk V (by rw [e9]) (by rw [e9]) dX1_decode_132
        · refine lv_iconst (v := 1) hx hb dX1_decode_103 (by decide) ?_
          have e9 : pX1_decode t f g mem x2 = (1, (upd (upd (upd t 0 u28) 1 (pX6_loadsOf u28)) 2 ((pX6_loadsOf u28) + 1)), f, g) := by rw [pX1_decode, hu5, mLet_eq, if_neg c_15, hu28, mLet_eq, if_pos c_49, if_neg c_62, hu97, mLet_eq, if_pos c_100]
          exact m_iret X hr hk V (by rw [e9]) (by rw [e9]) dX1_decode_104
    · refine lv_iconst (v := 3) hx hb dX1_decode_52 (by decide) ?_
      have e9 : pX1_decode t f g mem x2 = (3, (upd (upd t 0 u28) 1 (pX6_loadsOf u28)), f, g) := by rw [pX1_decode, hu5, mLet_eq, if_neg c_15, hu28, mLet_eq, if_neg c_49]
      exact m_iret X hr hk V (by rw [e9]) (by rw [e9]) dX1_decode_53
  · refine lv_iconst (v := 1) hx hb dX1_decode_18 (by decide) ?_
    have e9 : pX1_decode t f g mem x2 = (1, t, f, g) := by rw [pX1_decode, hu5, mLet_eq, if_pos c_15]
    exact m_iret X hr hk V (by rw [e9]) (by rw [e9]) dX1_decode_19
