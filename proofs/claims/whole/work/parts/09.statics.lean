def pJ6_compare_7cf53 (x0 : Int32) (x1 : Int32) : Int32 := (if x1 ≤ x0 then (if x0 = x1 then (0) else (1)) else ((-1)))
theorem okJ6_compare_7cf53 : mOk yJ6_compare_7cf53 cJ6_compare_7cf53 2 (some .int) 2 := ⟨gm_271, gm_11, by decide +kernel⟩
set_option maxRecDepth 100000 in
set_option maxHeartbeats 4000000 in
theorem kJ6_compare_7cf53 (l : Launch) (D : va_G) (cB cI : ClassId) (x0 : Int32) (x1 : Int32) : mM l D cB cI yJ6_compare_7cf53 cJ6_compare_7cf53 2 (some .int) { frames := 0, cells := 0, slots := 0, locals := 0 } [.int x0, .int x1] [] (some (pJ6_compare_7cf53 x0 x1)) [] := by
  refine m_start (by decide +kernel) (Nat.le_of_ble_eq_true rfl) ?_
  intro p e s m below meth c A ls X hr hk V hl
  have X : mCx p s m _ c cJ6_compare_7cf53 2 RJ6 D cB cI := X
  have hx := X.1.1
  have hb := X.1.2.1
  have hl : lv_has ls 2 [(0, .int x0), (1, .int x1)] := hl
  refine lv_iload_n hx hb dJ6_compare_7cf53_0 rfl (lv_at hl 0 rfl) ?_
  refine lv_iload_n hx hb dJ6_compare_7cf53_1 rfl (lv_at hl 1 rfl) ?_
  refine lv_icmp_ge (tgt := 9) hx hb dJ6_compare_7cf53_2 (by decide) (fun c_2 => ?_) (fun c_2 => ?_)
  · refine lv_iload_n hx hb dJ6_compare_7cf53_9 rfl (lv_at hl 0 rfl) ?_
    refine lv_iload_n hx hb dJ6_compare_7cf53_10 rfl (lv_at hl 1 rfl) ?_
    refine lv_icmp_ne (tgt := 18) hx hb dJ6_compare_7cf53_11 (by decide) (fun c_11 => ?_) (fun c_11 => ?_)
    · refine lv_iconst (v := 1) hx hb dJ6_compare_7cf53_18 (by decide) ?_
      have e9 : pJ6_compare_7cf53 x0 x1 = (1) := by rw [pJ6_compare_7cf53, if_pos c_2, if_neg c_11]
      exact m_iret X hr hk V (by rw [e9]) rfl dJ6_compare_7cf53_19
    · refine lv_iconst (v := 0) hx hb dJ6_compare_7cf53_14 (by decide) ?_
      refine lv_goto (tgt := 19) hx hb dJ6_compare_7cf53_15 (by decide) ?_
      have e9 : pJ6_compare_7cf53 x0 x1 = (0) := by rw [pJ6_compare_7cf53, if_pos c_2, if_pos c_11]
      exact m_iret X hr hk V (by rw [e9]) rfl dJ6_compare_7cf53_19
  · refine lv_iconst (v := (-1)) hx hb dJ6_compare_7cf53_5 (by decide) ?_
    refine lv_goto (tgt := 19) hx hb dJ6_compare_7cf53_6 (by decide) ?_
    have e9 : pJ6_compare_7cf53 x0 x1 = ((-1)) := by rw [pJ6_compare_7cf53, if_neg c_2]
    exact m_iret X hr hk V (by rw [e9]) rfl dJ6_compare_7cf53_19
def pJ6_compareUnsigned_7cf53 (x0 : Int32) (x1 : Int32) : Int32 := (mLet (pJ6_compare_7cf53 (x0 + (-2147483648)) (x1 + (-2147483648))) (fun (u8 : Int32) => (u8)))
theorem okJ6_compareUnsigned_7cf53 : mOk yJ6_compareUnsigned_7cf53 cJ6_compareUnsigned_7cf53 2 (some .int) 2 := ⟨gm_267, gm_11, by decide +kernel⟩
set_option maxRecDepth 100000 in
set_option maxHeartbeats 4000000 in
theorem kJ6_compareUnsigned_7cf53 (l : Launch) (D : va_G) (cB cI : ClassId) (x0 : Int32) (x1 : Int32) : mM l D cB cI yJ6_compareUnsigned_7cf53 cJ6_compareUnsigned_7cf53 2 (some .int) { frames := 1, cells := 0, slots := 0, locals := 21 } [.int x0, .int x1] [] (some (pJ6_compareUnsigned_7cf53 x0 x1)) [] := by
  refine m_start (by decide +kernel) (Nat.le_of_ble_eq_true rfl) ?_
  intro p e s m below meth c A ls X hr hk V hl
  have X : mCx p s m _ c cJ6_compareUnsigned_7cf53 2 RJ6 D cB cI := X
  have hx := X.1.1
  have hb := X.1.2.1
  have hl : lv_has ls 2 [(0, .int x0), (1, .int x1)] := hl
  refine lv_iload_n hx hb dJ6_compareUnsigned_7cf53_0 rfl (lv_at hl 0 rfl) ?_
  refine lv_ldc hx hb X.1.2.2.2.1 (X.1.2.2.2.2 _ gm_268) dJ6_compareUnsigned_7cf53_1 ?_
  refine lv_iadd hx hb dJ6_compareUnsigned_7cf53_3 ?_
  refine lv_iload_n hx hb dJ6_compareUnsigned_7cf53_4 rfl (lv_at hl 1 rfl) ?_
  refine lv_ldc hx hb X.1.2.2.2.1 (X.1.2.2.2.2 _ gm_268) dJ6_compareUnsigned_7cf53_5 ?_
  refine lv_iadd hx hb dJ6_compareUnsigned_7cf53_7 ?_
  obtain ⟨u8, hu8⟩ : ∃ u, pJ6_compare_7cf53 (x0 + (-2147483648)) (x1 + (-2147483648)) = u := ⟨_, rfl⟩
  have hM := kJ6_compare_7cf53 l D cB cI (x0 + (-2147483648)) (x1 + (-2147483648))
  rw [hu8] at hM
  refine m_S X V (rest := []) (st1 := [.int u8]) hM okJ6_compare_7cf53 gm_270 gm_269 ⟨⟨rfl, rfl⟩, ⟨by decide, by decide⟩, Nat.zero_le _, Nat.zero_le _⟩ rfl hl.1 (Nat.le_of_ble_eq_true rfl) dJ6_compareUnsigned_7cf53_8 rfl rfl (fun H locs V => ?_)
  have e9 : pJ6_compareUnsigned_7cf53 x0 x1 = (u8) := by rw [pJ6_compareUnsigned_7cf53, hu8, mLet_eq]
  exact m_iret X hr hk V (by rw [e9]) rfl dJ6_compareUnsigned_7cf53_11
def pJ9_floorMod_7cf53 (x0 : Int32) (x1 : Int32) : Int32 := (if 0 ≤ (x0 ^^^ x1) then ((x0 - x0 / x1 * x1)) else (if (x0 - x0 / x1 * x1) = 0 then ((x0 - x0 / x1 * x1)) else (((x0 - x0 / x1 * x1) + x1))))
theorem okJ9_floorMod_7cf53 : mOk yJ9_floorMod_7cf53 cJ9_floorMod_7cf53 3 (some .int) 2 := ⟨gm_319, gm_3, by decide +kernel⟩
set_option maxRecDepth 100000 in
set_option maxHeartbeats 4000000 in
theorem kJ9_floorMod_7cf53 (l : Launch) (D : va_G) (cB cI : ClassId) (x0 : Int32) (x1 : Int32) (hy : ¬ x1 = 0) : mM l D cB cI yJ9_floorMod_7cf53 cJ9_floorMod_7cf53 3 (some .int) { frames := 0, cells := 0, slots := 0, locals := 0 } [.int x0, .int x1] [] (some (pJ9_floorMod_7cf53 x0 x1)) [] := by
  refine m_start (by decide +kernel) (Nat.le_of_ble_eq_true rfl) ?_
  intro p e s m below meth c A ls X hr hk V hl
  have X : mCx p s m _ c cJ9_floorMod_7cf53 3 RJ9 D cB cI := X
  have hx := X.1.1
  have hb := X.1.2.1
  have hl : lv_has ls 3 [(0, .int x0), (1, .int x1)] := hl
  refine lv_iload_n hx hb dJ9_floorMod_7cf53_0 rfl (lv_at hl 0 rfl) ?_
  refine lv_iload_n hx hb dJ9_floorMod_7cf53_1 rfl (lv_at hl 1 rfl) ?_
  refine lv_irem hx hb dJ9_floorMod_7cf53_2 hy ?_
  refine lv_istore_n (lv' := [(2, .int (x0 - x0 / x1 * x1)), (0, .int x0), (1, .int x1)]) hx hb dJ9_floorMod_7cf53_3 rfl hl (by decide) rfl (fun ls hl => ?_)
  refine lv_iload_n hx hb dJ9_floorMod_7cf53_4 rfl (lv_at hl 1 rfl) ?_
  refine lv_iload_n hx hb dJ9_floorMod_7cf53_5 rfl (lv_at hl 2 rfl) ?_
  refine lv_ixor hx hb dJ9_floorMod_7cf53_6 ?_
  refine lv_if_ge (tgt := 18) hx hb dJ9_floorMod_7cf53_7 (by decide) (fun c_7 => ?_) (fun c_7 => ?_)
  · refine lv_iload_n hx hb dJ9_floorMod_7cf53_18 rfl (lv_at hl 0 rfl) ?_
    have e9 : pJ9_floorMod_7cf53 x0 x1 = ((x0 - x0 / x1 * x1)) := by rw [pJ9_floorMod_7cf53, if_pos c_7]
    exact m_iret X hr hk V (by rw [e9]) rfl dJ9_floorMod_7cf53_19
  · refine lv_iload_n hx hb dJ9_floorMod_7cf53_10 rfl (lv_at hl 0 rfl) ?_
    refine lv_if_eq (tgt := 18) hx hb dJ9_floorMod_7cf53_11 (by decide) (fun c_11 => ?_) (fun c_11 => ?_)
    · refine lv_iload_n hx hb dJ9_floorMod_7cf53_18 rfl (lv_at hl 0 rfl) ?_
      have e9 : pJ9_floorMod_7cf53 x0 x1 = ((x0 - x0 / x1 * x1)) := by rw [pJ9_floorMod_7cf53, if_neg c_7, if_pos c_11]
      exact m_iret X hr hk V (by rw [e9]) rfl dJ9_floorMod_7cf53_19
    · refine lv_iload_n hx hb dJ9_floorMod_7cf53_14 rfl (lv_at hl 0 rfl) ?_
      refine lv_iload_n hx hb dJ9_floorMod_7cf53_15 rfl (lv_at hl 2 rfl) ?_
      refine lv_iadd hx hb dJ9_floorMod_7cf53_16 ?_
      have e9 : pJ9_floorMod_7cf53 x0 x1 = (((x0 - x0 / x1 * x1) + x1)) := by rw [pJ9_floorMod_7cf53, if_neg c_7, if_neg c_11]
      exact m_iret X hr hk V (by rw [e9]) rfl dJ9_floorMod_7cf53_17
def pX4_isShift (x0 : Int32) : Int32 := (if x0 < 0 then (0) else (if 31 < x0 then (0) else (1)))
theorem okX4_isShift : mOk yX4_isShift cX4_isShift 1 (some .boolean) 1 := ⟨gm_262, gm_10, by decide +kernel⟩
set_option maxRecDepth 100000 in
set_option maxHeartbeats 4000000 in
theorem kX4_isShift (l : Launch) (D : va_G) (cB cI : ClassId) (x0 : Int32) : mM l D cB cI yX4_isShift cX4_isShift 1 (some .boolean) { frames := 0, cells := 0, slots := 0, locals := 0 } [.int x0] [] (some (pX4_isShift x0)) [] := by
  refine m_start (by decide +kernel) (Nat.le_of_ble_eq_true rfl) ?_
  intro p e s m below meth c A ls X hr hk V hl
  have X : mCx p s m _ c cX4_isShift 1 RX4 D cB cI := X
  have hx := X.1.1
  have hb := X.1.2.1
  have hl : lv_has ls 1 [(0, .int x0)] := hl
  refine lv_iload_n hx hb dX4_isShift_0 rfl (lv_at hl 0 rfl) ?_
  refine lv_if_lt (tgt := 14) hx hb dX4_isShift_1 (by decide) (fun c_1 => ?_) (fun c_1 => ?_)
  · refine lv_iconst (v := 0) hx hb dX4_isShift_14 (by decide) ?_
    have e9 : pX4_isShift x0 = (0) := by rw [pX4_isShift, if_pos c_1]
    exact m_zret X hr hk V rfl (by rw [e9]) rfl dX4_isShift_15
  · refine lv_iload_n hx hb dX4_isShift_4 rfl (lv_at hl 0 rfl) ?_
    refine lv_bipush (v := 31) hx hb dX4_isShift_5 (by decide) ?_
    refine lv_icmp_gt (tgt := 14) hx hb dX4_isShift_7 (by decide) (fun c_7 => ?_) (fun c_7 => ?_)
    · refine lv_iconst (v := 0) hx hb dX4_isShift_14 (by decide) ?_
      have e9 : pX4_isShift x0 = (0) := by rw [pX4_isShift, if_neg c_1, if_pos c_7]
      exact m_zret X hr hk V rfl (by rw [e9]) rfl dX4_isShift_15
    · refine lv_iconst (v := 1) hx hb dX4_isShift_10 (by decide) ?_
      refine lv_goto (tgt := 15) hx hb dX4_isShift_11 (by decide) ?_
      have e9 : pX4_isShift x0 = (1) := by rw [pX4_isShift, if_neg c_1, if_neg c_7]
      exact m_zret X hr hk V rfl (by rw [e9]) rfl dX4_isShift_15
def pX4_result (x0 : Int32) (x1 : Int32) (x2 : Int32) : Int32 := (if x0 = 16 then ((x1 + x2)) else (if x0 = 17 then ((x1 - x2)) else (if x0 = 18 then ((x1 * x2)) else (if x0 = 19 then (if x2 = 0 then (0) else ((x1 / x2))) else (if x0 = 20 then (if x2 = 0 then (0) else ((x1 - x1 / x2 * x2))) else (if x0 = 21 then ((-x1)) else (if x0 = 24 then ((x1 &&& x2)) else (if x0 = 25 then ((x1 ||| x2)) else (if x0 = 26 then ((x1 ^^^ x2)) else (if x0 = 27 then ((x1 ^^^ (-1))) else (if x0 = 28 then (if (pX4_isShift x2) = 0 then (0) else ((x1 <<< (x2 &&& 31)))) else (if x0 = 29 then (if (pX4_isShift x2) = 0 then ((x1 >>> (31 &&& 31))) else ((x1 >>> (x2 &&& 31)))) else (if x0 = 30 then (if (pX4_isShift x2) = 0 then (0) else ((x1.toUInt32 >>> (Int32.toUInt32 x2 &&& Int32.toUInt32 31)).toInt32)) else (if x0 = 68 then ((Int32.toInt16 x1).toInt32) else (if x0 = 69 then ((Int32.toInt8 x1).toInt32) else (x1))))))))))))))))
theorem okX4_result : mOk yX4_result cX4_result 3 (some .int) 3 := ⟨gm_259, gm_10, by decide +kernel⟩
set_option maxRecDepth 100000 in
set_option maxHeartbeats 4000000 in
theorem kX4_result (l : Launch) (D : va_G) (cB cI : ClassId) (x0 : Int32) (x1 : Int32) (x2 : Int32) : mM l D cB cI yX4_result cX4_result 3 (some .int) { frames := 1, cells := 0, slots := 0, locals := 20 } [.int x0, .int x1, .int x2] [] (some (pX4_result x0 x1 x2)) [] := by
  refine m_start (by decide +kernel) (Nat.le_of_ble_eq_true rfl) ?_
  intro p e s m below meth c A ls X hr hk V hl
  have X : mCx p s m _ c cX4_result 3 RX4 D cB cI := X
  have hx := X.1.1
  have hb := X.1.2.1
  have hl : lv_has ls 3 [(0, .int x0), (1, .int x1), (2, .int x2)] := hl
  refine lv_iload_n hx hb dX4_result_0 rfl (lv_at hl 0 rfl) ?_
  by_cases w_1_16 : x0 = 16
  · refine lv_tableIn (off := 231) (tgt := 232) hx hb dX4_result_1 (by rw [w_1_16]; decide) (by rw [w_1_16]; decide) (by rw [w_1_16]; rfl) (by decide) ?_
    refine lv_iload_n hx hb dX4_result_232 rfl (lv_at hl 1 rfl) ?_
    refine lv_iload_n hx hb dX4_result_233 rfl (lv_at hl 2 rfl) ?_
    refine lv_iadd hx hb dX4_result_234 ?_
    have e9 : pX4_result x0 x1 x2 = ((x1 + x2)) := by rw [pX4_result, if_pos w_1_16]
    exact m_iret X hr hk V (by rw [e9]) rfl dX4_result_235
  by_cases w_1_17 : x0 = 17
  · refine lv_tableIn (off := 235) (tgt := 236) hx hb dX4_result_1 (by rw [w_1_17]; decide) (by rw [w_1_17]; decide) (by rw [w_1_17]; rfl) (by decide) ?_
    refine lv_iload_n hx hb dX4_result_236 rfl (lv_at hl 1 rfl) ?_
    refine lv_iload_n hx hb dX4_result_237 rfl (lv_at hl 2 rfl) ?_
    refine lv_isub hx hb dX4_result_238 ?_
    have e9 : pX4_result x0 x1 x2 = ((x1 - x2)) := by rw [pX4_result, if_neg w_1_16, if_pos w_1_17]
    exact m_iret X hr hk V (by rw [e9]) rfl dX4_result_239
  by_cases w_1_18 : x0 = 18
  · refine lv_tableIn (off := 239) (tgt := 240) hx hb dX4_result_1 (by rw [w_1_18]; decide) (by rw [w_1_18]; decide) (by rw [w_1_18]; rfl) (by decide) ?_
    refine lv_iload_n hx hb dX4_result_240 rfl (lv_at hl 1 rfl) ?_
    refine lv_iload_n hx hb dX4_result_241 rfl (lv_at hl 2 rfl) ?_
    refine lv_imul hx hb dX4_result_242 ?_
    have e9 : pX4_result x0 x1 x2 = ((x1 * x2)) := by rw [pX4_result, if_neg w_1_16, if_neg w_1_17, if_pos w_1_18]
    exact m_iret X hr hk V (by rw [e9]) rfl dX4_result_243
  by_cases w_1_19 : x0 = 19
  · refine lv_tableIn (off := 243) (tgt := 244) hx hb dX4_result_1 (by rw [w_1_19]; decide) (by rw [w_1_19]; decide) (by rw [w_1_19]; rfl) (by decide) ?_
    refine lv_iload_n hx hb dX4_result_244 rfl (lv_at hl 2 rfl) ?_
    refine lv_if_ne (tgt := 252) hx hb dX4_result_245 (by decide) (fun c_245 => ?_) (fun c_245 => ?_)
    · refine lv_iload_n hx hb dX4_result_252 rfl (lv_at hl 1 rfl) ?_
      refine lv_iload_n hx hb dX4_result_253 rfl (lv_at hl 2 rfl) ?_
      refine lv_idiv hx hb dX4_result_254 c_245 ?_
      have e9 : pX4_result x0 x1 x2 = ((x1 / x2)) := by rw [pX4_result, if_neg w_1_16, if_neg w_1_17, if_neg w_1_18, if_pos w_1_19, if_neg c_245]
      exact m_iret X hr hk V (by rw [e9]) rfl dX4_result_255
    · refine lv_iconst (v := 0) hx hb dX4_result_248 (by decide) ?_
      refine lv_goto (tgt := 255) hx hb dX4_result_249 (by decide) ?_
      have e9 : pX4_result x0 x1 x2 = (0) := by rw [pX4_result, if_neg w_1_16, if_neg w_1_17, if_neg w_1_18, if_pos w_1_19, if_pos c_245]
      exact m_iret X hr hk V (by rw [e9]) rfl dX4_result_255
  by_cases w_1_20 : x0 = 20
  · refine lv_tableIn (off := 255) (tgt := 256) hx hb dX4_result_1 (by rw [w_1_20]; decide) (by rw [w_1_20]; decide) (by rw [w_1_20]; rfl) (by decide) ?_
    refine lv_iload_n hx hb dX4_result_256 rfl (lv_at hl 2 rfl) ?_
    refine lv_if_ne (tgt := 264) hx hb dX4_result_257 (by decide) (fun c_257 => ?_) (fun c_257 => ?_)
    · refine lv_iload_n hx hb dX4_result_264 rfl (lv_at hl 1 rfl) ?_
      refine lv_iload_n hx hb dX4_result_265 rfl (lv_at hl 2 rfl) ?_
      refine lv_irem hx hb dX4_result_266 c_257 ?_
      have e9 : pX4_result x0 x1 x2 = ((x1 - x1 / x2 * x2)) := by rw [pX4_result, if_neg w_1_16, if_neg w_1_17, if_neg w_1_18, if_neg w_1_19, if_pos w_1_20, if_neg c_257]
      exact m_iret X hr hk V (by rw [e9]) rfl dX4_result_267
    · refine lv_iconst (v := 0) hx hb dX4_result_260 (by decide) ?_
      refine lv_goto (tgt := 267) hx hb dX4_result_261 (by decide) ?_
      have e9 : pX4_result x0 x1 x2 = (0) := by rw [pX4_result, if_neg w_1_16, if_neg w_1_17, if_neg w_1_18, if_neg w_1_19, if_pos w_1_20, if_pos c_257]
      exact m_iret X hr hk V (by rw [e9]) rfl dX4_result_267
  by_cases w_1_21 : x0 = 21
  · refine lv_tableIn (off := 267) (tgt := 268) hx hb dX4_result_1 (by rw [w_1_21]; decide) (by rw [w_1_21]; decide) (by rw [w_1_21]; rfl) (by decide) ?_
    refine lv_iload_n hx hb dX4_result_268 rfl (lv_at hl 1 rfl) ?_
    refine lv_ineg hx hb dX4_result_269 ?_
    have e9 : pX4_result x0 x1 x2 = ((-x1)) := by rw [pX4_result, if_neg w_1_16, if_neg w_1_17, if_neg w_1_18, if_neg w_1_19, if_neg w_1_20, if_pos w_1_21]
    exact m_iret X hr hk V (by rw [e9]) rfl dX4_result_270
  by_cases w_1_24 : x0 = 24
  · refine lv_tableIn (off := 270) (tgt := 271) hx hb dX4_result_1 (by rw [w_1_24]; decide) (by rw [w_1_24]; decide) (by rw [w_1_24]; rfl) (by decide) ?_
    refine lv_iload_n hx hb dX4_result_271 rfl (lv_at hl 1 rfl) ?_
    refine lv_iload_n hx hb dX4_result_272 rfl (lv_at hl 2 rfl) ?_
    refine lv_iand hx hb dX4_result_273 ?_
    have e9 : pX4_result x0 x1 x2 = ((x1 &&& x2)) := by rw [pX4_result, if_neg w_1_16, if_neg w_1_17, if_neg w_1_18, if_neg w_1_19, if_neg w_1_20, if_neg w_1_21, if_pos w_1_24]
    exact m_iret X hr hk V (by rw [e9]) rfl dX4_result_274
  by_cases w_1_25 : x0 = 25
  · refine lv_tableIn (off := 274) (tgt := 275) hx hb dX4_result_1 (by rw [w_1_25]; decide) (by rw [w_1_25]; decide) (by rw [w_1_25]; rfl) (by decide) ?_
    refine lv_iload_n hx hb dX4_result_275 rfl (lv_at hl 1 rfl) ?_
    refine lv_iload_n hx hb dX4_result_276 rfl (lv_at hl 2 rfl) ?_
    refine lv_ior hx hb dX4_result_277 ?_
    have e9 : pX4_result x0 x1 x2 = ((x1 ||| x2)) := by rw [pX4_result, if_neg w_1_16, if_neg w_1_17, if_neg w_1_18, if_neg w_1_19, if_neg w_1_20, if_neg w_1_21, if_neg w_1_24, if_pos w_1_25]
    exact m_iret X hr hk V (by rw [e9]) rfl dX4_result_278
  by_cases w_1_26 : x0 = 26
  · refine lv_tableIn (off := 278) (tgt := 279) hx hb dX4_result_1 (by rw [w_1_26]; decide) (by rw [w_1_26]; decide) (by rw [w_1_26]; rfl) (by decide) ?_
    refine lv_iload_n hx hb dX4_result_279 rfl (lv_at hl 1 rfl) ?_
    refine lv_iload_n hx hb dX4_result_280 rfl (lv_at hl 2 rfl) ?_
    refine lv_ixor hx hb dX4_result_281 ?_
    have e9 : pX4_result x0 x1 x2 = ((x1 ^^^ x2)) := by rw [pX4_result, if_neg w_1_16, if_neg w_1_17, if_neg w_1_18, if_neg w_1_19, if_neg w_1_20, if_neg w_1_21, if_neg w_1_24, if_neg w_1_25, if_pos w_1_26]
    exact m_iret X hr hk V (by rw [e9]) rfl dX4_result_282
  by_cases w_1_27 : x0 = 27
  · refine lv_tableIn (off := 282) (tgt := 283) hx hb dX4_result_1 (by rw [w_1_27]; decide) (by rw [w_1_27]; decide) (by rw [w_1_27]; rfl) (by decide) ?_
    refine lv_iload_n hx hb dX4_result_283 rfl (lv_at hl 1 rfl) ?_
    refine lv_iconst (v := (-1)) hx hb dX4_result_284 (by decide) ?_
    refine lv_ixor hx hb dX4_result_285 ?_
    have e9 : pX4_result x0 x1 x2 = ((x1 ^^^ (-1))) := by rw [pX4_result, if_neg w_1_16, if_neg w_1_17, if_neg w_1_18, if_neg w_1_19, if_neg w_1_20, if_neg w_1_21, if_neg w_1_24, if_neg w_1_25, if_neg w_1_26, if_pos w_1_27]
    exact m_iret X hr hk V (by rw [e9]) rfl dX4_result_286
  by_cases w_1_28 : x0 = 28
  · refine lv_tableIn (off := 286) (tgt := 287) hx hb dX4_result_1 (by rw [w_1_28]; decide) (by rw [w_1_28]; decide) (by rw [w_1_28]; rfl) (by decide) ?_
    refine lv_iload_n hx hb dX4_result_287 rfl (lv_at hl 2 rfl) ?_
    refine m_S X V (rest := []) (st1 := [.int (pX4_isShift x2)]) (kX4_isShift l D cB cI x2) okX4_isShift gm_261 gm_260 ⟨⟨rfl, rfl⟩, ⟨by decide, by decide⟩, Nat.zero_le _, Nat.zero_le _⟩ rfl hl.1 (Nat.le_of_ble_eq_true rfl) dX4_result_288 rfl rfl (fun H locs V => ?_)
    refine lv_if_eq (tgt := 300) hx hb dX4_result_291 (by decide) (fun c_291 => ?_) (fun c_291 => ?_)
    · refine lv_iconst (v := 0) hx hb dX4_result_300 (by decide) ?_
      have e9 : pX4_result x0 x1 x2 = (0) := by rw [pX4_result, if_neg w_1_16, if_neg w_1_17, if_neg w_1_18, if_neg w_1_19, if_neg w_1_20, if_neg w_1_21, if_neg w_1_24, if_neg w_1_25, if_neg w_1_26, if_neg w_1_27, if_pos w_1_28, if_pos c_291]
      exact m_iret X hr hk V (by rw [e9]) rfl dX4_result_301
    · refine lv_iload_n hx hb dX4_result_294 rfl (lv_at hl 1 rfl) ?_
      refine lv_iload_n hx hb dX4_result_295 rfl (lv_at hl 2 rfl) ?_
      refine lv_ishl hx hb dX4_result_296 ?_
      refine lv_goto (tgt := 301) hx hb dX4_result_297 (by decide) ?_
      have e9 : pX4_result x0 x1 x2 = ((x1 <<< (x2 &&& 31))) := by rw [pX4_result, if_neg w_1_16, if_neg w_1_17, if_neg w_1_18, if_neg w_1_19, if_neg w_1_20, if_neg w_1_21, if_neg w_1_24, if_neg w_1_25, if_neg w_1_26, if_neg w_1_27, if_pos w_1_28, if_neg c_291]
      exact m_iret X hr hk V (by rw [e9]) rfl dX4_result_301
  by_cases w_1_29 : x0 = 29
  · refine lv_tableIn (off := 301) (tgt := 302) hx hb dX4_result_1 (by rw [w_1_29]; decide) (by rw [w_1_29]; decide) (by rw [w_1_29]; rfl) (by decide) ?_
    refine lv_iload_n hx hb dX4_result_302 rfl (lv_at hl 2 rfl) ?_
    refine m_S X V (rest := []) (st1 := [.int (pX4_isShift x2)]) (kX4_isShift l D cB cI x2) okX4_isShift gm_261 gm_260 ⟨⟨rfl, rfl⟩, ⟨by decide, by decide⟩, Nat.zero_le _, Nat.zero_le _⟩ rfl hl.1 (Nat.le_of_ble_eq_true rfl) dX4_result_303 rfl rfl (fun H locs V => ?_)
    refine lv_if_eq (tgt := 315) hx hb dX4_result_306 (by decide) (fun c_306 => ?_) (fun c_306 => ?_)
    · refine lv_iload_n hx hb dX4_result_315 rfl (lv_at hl 1 rfl) ?_
      refine lv_bipush (v := 31) hx hb dX4_result_316 (by decide) ?_
      refine lv_ishr hx hb dX4_result_318 ?_
      have e9 : pX4_result x0 x1 x2 = ((x1 >>> (31 &&& 31))) := by rw [pX4_result, if_neg w_1_16, if_neg w_1_17, if_neg w_1_18, if_neg w_1_19, if_neg w_1_20, if_neg w_1_21, if_neg w_1_24, if_neg w_1_25, if_neg w_1_26, if_neg w_1_27, if_neg w_1_28, if_pos w_1_29, if_pos c_306]
      exact m_iret X hr hk V (by rw [e9]) rfl dX4_result_319
    · refine lv_iload_n hx hb dX4_result_309 rfl (lv_at hl 1 rfl) ?_
      refine lv_iload_n hx hb dX4_result_310 rfl (lv_at hl 2 rfl) ?_
      refine lv_ishr hx hb dX4_result_311 ?_
      refine lv_goto (tgt := 319) hx hb dX4_result_312 (by decide) ?_
      have e9 : pX4_result x0 x1 x2 = ((x1 >>> (x2 &&& 31))) := by rw [pX4_result, if_neg w_1_16, if_neg w_1_17, if_neg w_1_18, if_neg w_1_19, if_neg w_1_20, if_neg w_1_21, if_neg w_1_24, if_neg w_1_25, if_neg w_1_26, if_neg w_1_27, if_neg w_1_28, if_pos w_1_29, if_neg c_306]
      exact m_iret X hr hk V (by rw [e9]) rfl dX4_result_319
  by_cases w_1_30 : x0 = 30
  · refine lv_tableIn (off := 319) (tgt := 320) hx hb dX4_result_1 (by rw [w_1_30]; decide) (by rw [w_1_30]; decide) (by rw [w_1_30]; rfl) (by decide) ?_
    refine lv_iload_n hx hb dX4_result_320 rfl (lv_at hl 2 rfl) ?_
    refine m_S X V (rest := []) (st1 := [.int (pX4_isShift x2)]) (kX4_isShift l D cB cI x2) okX4_isShift gm_261 gm_260 ⟨⟨rfl, rfl⟩, ⟨by decide, by decide⟩, Nat.zero_le _, Nat.zero_le _⟩ rfl hl.1 (Nat.le_of_ble_eq_true rfl) dX4_result_321 rfl rfl (fun H locs V => ?_)
    refine lv_if_eq (tgt := 333) hx hb dX4_result_324 (by decide) (fun c_324 => ?_) (fun c_324 => ?_)
    · refine lv_iconst (v := 0) hx hb dX4_result_333 (by decide) ?_
      have e9 : pX4_result x0 x1 x2 = (0) := by rw [pX4_result, if_neg w_1_16, if_neg w_1_17, if_neg w_1_18, if_neg w_1_19, if_neg w_1_20, if_neg w_1_21, if_neg w_1_24, if_neg w_1_25, if_neg w_1_26, if_neg w_1_27, if_neg w_1_28, if_neg w_1_29, if_pos w_1_30, if_pos c_324]
      exact m_iret X hr hk V (by rw [e9]) rfl dX4_result_334
    · refine lv_iload_n hx hb dX4_result_327 rfl (lv_at hl 1 rfl) ?_
      refine lv_iload_n hx hb dX4_result_328 rfl (lv_at hl 2 rfl) ?_
      refine lv_iushr hx hb dX4_result_329 rfl ?_
      refine lv_goto (tgt := 334) hx hb dX4_result_330 (by decide) ?_
      have e9 : pX4_result x0 x1 x2 = ((x1.toUInt32 >>> (Int32.toUInt32 x2 &&& Int32.toUInt32 31)).toInt32) := by rw [pX4_result, if_neg w_1_16, if_neg w_1_17, if_neg w_1_18, if_neg w_1_19, if_neg w_1_20, if_neg w_1_21, if_neg w_1_24, if_neg w_1_25, if_neg w_1_26, if_neg w_1_27, if_neg w_1_28, if_neg w_1_29, if_pos w_1_30, if_neg c_324]
      exact m_iret X hr hk V (by rw [e9]) rfl dX4_result_334
  by_cases w_1_68 : x0 = 68
  · refine lv_tableIn (off := 334) (tgt := 335) hx hb dX4_result_1 (by rw [w_1_68]; decide) (by rw [w_1_68]; decide) (by rw [w_1_68]; rfl) (by decide) ?_
    refine lv_iload_n hx hb dX4_result_335 rfl (lv_at hl 1 rfl) ?_
    refine lv_i2s hx hb dX4_result_336 rfl ?_
    have e9 : pX4_result x0 x1 x2 = ((Int32.toInt16 x1).toInt32) := by rw [pX4_result, if_neg w_1_16, if_neg w_1_17, if_neg w_1_18, if_neg w_1_19, if_neg w_1_20, if_neg w_1_21, if_neg w_1_24, if_neg w_1_25, if_neg w_1_26, if_neg w_1_27, if_neg w_1_28, if_neg w_1_29, if_neg w_1_30, if_pos w_1_68]
    exact m_iret X hr hk V (by rw [e9]) rfl dX4_result_337
  by_cases w_1_69 : x0 = 69
  · refine lv_tableIn (off := 337) (tgt := 338) hx hb dX4_result_1 (by rw [w_1_69]; decide) (by rw [w_1_69]; decide) (by rw [w_1_69]; rfl) (by decide) ?_
    refine lv_iload_n hx hb dX4_result_338 rfl (lv_at hl 1 rfl) ?_
    refine lv_i2b hx hb dX4_result_339 rfl ?_
    have e9 : pX4_result x0 x1 x2 = ((Int32.toInt8 x1).toInt32) := by rw [pX4_result, if_neg w_1_16, if_neg w_1_17, if_neg w_1_18, if_neg w_1_19, if_neg w_1_20, if_neg w_1_21, if_neg w_1_24, if_neg w_1_25, if_neg w_1_26, if_neg w_1_27, if_neg w_1_28, if_neg w_1_29, if_neg w_1_30, if_neg w_1_68, if_pos w_1_69]
    exact m_iret X hr hk V (by rw [e9]) rfl dX4_result_340
  have o_0 := lv_neT w_1_16 (a := 16) rfl
  have o_1 := lv_neT w_1_17 (a := 17) rfl
  have o_2 := lv_neT w_1_18 (a := 18) rfl
  have o_3 := lv_neT w_1_19 (a := 19) rfl
  have o_4 := lv_neT w_1_20 (a := 20) rfl
  have o_5 := lv_neT w_1_21 (a := 21) rfl
  have o_6 := lv_neT w_1_24 (a := 24) rfl
  have o_7 := lv_neT w_1_25 (a := 25) rfl
  have o_8 := lv_neT w_1_26 (a := 26) rfl
  have o_9 := lv_neT w_1_27 (a := 27) rfl
  have o_10 := lv_neT w_1_28 (a := 28) rfl
  have o_11 := lv_neT w_1_29 (a := 29) rfl
  have o_12 := lv_neT w_1_30 (a := 30) rfl
  have o_13 := lv_neT w_1_68 (a := 68) rfl
  have o_14 := lv_neT w_1_69 (a := 69) rfl
  refine m_tabD (x := x0) (tgt := 341) hx hb dX4_result_1 (by decide) (by decide) (fun off h1 h2 h3 => by (rcases (show Int32.toInt x0 = 22 ∨ Int32.toInt x0 = 23 ∨ Int32.toInt x0 = 31 ∨ Int32.toInt x0 = 32 ∨ Int32.toInt x0 = 33 ∨ Int32.toInt x0 = 34 ∨ Int32.toInt x0 = 35 ∨ Int32.toInt x0 = 36 ∨ Int32.toInt x0 = 37 ∨ Int32.toInt x0 = 38 ∨ Int32.toInt x0 = 39 ∨ Int32.toInt x0 = 40 ∨ Int32.toInt x0 = 41 ∨ Int32.toInt x0 = 42 ∨ Int32.toInt x0 = 43 ∨ Int32.toInt x0 = 44 ∨ Int32.toInt x0 = 45 ∨ Int32.toInt x0 = 46 ∨ Int32.toInt x0 = 47 ∨ Int32.toInt x0 = 48 ∨ Int32.toInt x0 = 49 ∨ Int32.toInt x0 = 50 ∨ Int32.toInt x0 = 51 ∨ Int32.toInt x0 = 52 ∨ Int32.toInt x0 = 53 ∨ Int32.toInt x0 = 54 ∨ Int32.toInt x0 = 55 ∨ Int32.toInt x0 = 56 ∨ Int32.toInt x0 = 57 ∨ Int32.toInt x0 = 58 ∨ Int32.toInt x0 = 59 ∨ Int32.toInt x0 = 60 ∨ Int32.toInt x0 = 61 ∨ Int32.toInt x0 = 62 ∨ Int32.toInt x0 = 63 ∨ Int32.toInt x0 = 64 ∨ Int32.toInt x0 = 65 ∨ Int32.toInt x0 = 66 ∨ Int32.toInt x0 = 67 by omega) with q | q | q | q | q | q | q | q | q | q | q | q | q | q | q | q | q | q | q | q | q | q | q | q | q | q | q | q | q | q | q | q | q | q | q | q | q | q | q <;> (rw [q] at h3; exact (Option.some.inj h3).symm))) ?_
  refine lv_iload_n hx hb dX4_result_341 rfl (lv_at hl 1 rfl) ?_
  have e9 : pX4_result x0 x1 x2 = (x1) := by rw [pX4_result, if_neg w_1_16, if_neg w_1_17, if_neg w_1_18, if_neg w_1_19, if_neg w_1_20, if_neg w_1_21, if_neg w_1_24, if_neg w_1_25, if_neg w_1_26, if_neg w_1_27, if_neg w_1_28, if_neg w_1_29, if_neg w_1_30, if_neg w_1_68, if_neg w_1_69]
  exact m_iret X hr hk V (by rw [e9]) rfl dX4_result_342
def pX4_branches (x0 : Int32) (x1 : Int32) (x2 : Int32) : Int32 := (if x0 = 32 then (1) else (if x0 = 34 then (if x1 = 0 then (1) else (0)) else (if x0 = 35 then (if x1 = 0 then (0) else (1)) else (if x0 = 36 then (if x1 = x2 then (1) else (0)) else (if x0 = 37 then (if x1 = x2 then (0) else (1)) else (if x0 = 38 then (if x2 ≤ x1 then (0) else (1)) else (if x0 = 39 then (if x1 < x2 then (0) else (1)) else (if x0 = 40 then (if x1 ≤ x2 then (0) else (1)) else (if x0 = 41 then (if x2 < x1 then (0) else (1)) else (if x0 = 42 then (mLet (pJ6_compareUnsigned_7cf53 x1 x2) (fun (u162 : Int32) => (if 0 ≤ u162 then (0) else (1)))) else (if x0 = 43 then (mLet (pJ6_compareUnsigned_7cf53 x1 x2) (fun (u176 : Int32) => (if u176 < 0 then (0) else (1)))) else (if x0 = 44 then (mLet (pJ6_compareUnsigned_7cf53 x1 x2) (fun (u190 : Int32) => (if u190 ≤ 0 then (0) else (1)))) else (if x0 = 45 then (mLet (pJ6_compareUnsigned_7cf53 x1 x2) (fun (u204 : Int32) => (if 0 < u204 then (0) else (1)))) else (0))))))))))))))
theorem okX4_branches : mOk yX4_branches cX4_branches 3 (some .boolean) 3 := ⟨gm_264, gm_10, by decide +kernel⟩
set_option maxRecDepth 100000 in
set_option maxHeartbeats 4000000 in
theorem kX4_branches (l : Launch) (D : va_G) (cB cI : ClassId) (x0 : Int32) (x1 : Int32) (x2 : Int32) : mM l D cB cI yX4_branches cX4_branches 3 (some .boolean) { frames := 2, cells := 0, slots := 0, locals := 42 } [.int x0, .int x1, .int x2] [] (some (pX4_branches x0 x1 x2)) [] := by
  refine m_start (by decide +kernel) (Nat.le_of_ble_eq_true rfl) ?_
  intro p e s m below meth c A ls X hr hk V hl
  have X : mCx p s m _ c cX4_branches 3 RX4 D cB cI := X
  have hx := X.1.1
  have hb := X.1.2.1
  have hl : lv_has ls 3 [(0, .int x0), (1, .int x1), (2, .int x2)] := hl
  refine lv_iload_n hx hb dX4_branches_0 rfl (lv_at hl 0 rfl) ?_
  by_cases w_1_32 : x0 = 32
  · refine lv_tableIn (off := 71) (tgt := 72) hx hb dX4_branches_1 (by rw [w_1_32]; decide) (by rw [w_1_32]; decide) (by rw [w_1_32]; rfl) (by decide) ?_
    refine lv_iconst (v := 1) hx hb dX4_branches_72 (by decide) ?_
    have e9 : pX4_branches x0 x1 x2 = (1) := by rw [pX4_branches, if_pos w_1_32]
    exact m_zret X hr hk V rfl (by rw [e9]) rfl dX4_branches_73
  by_cases w_1_34 : x0 = 34
  · refine lv_tableIn (off := 73) (tgt := 74) hx hb dX4_branches_1 (by rw [w_1_34]; decide) (by rw [w_1_34]; decide) (by rw [w_1_34]; rfl) (by decide) ?_
    refine lv_iload_n hx hb dX4_branches_74 rfl (lv_at hl 1 rfl) ?_
    refine lv_if_ne (tgt := 82) hx hb dX4_branches_75 (by decide) (fun c_75 => ?_) (fun c_75 => ?_)
    · refine lv_iconst (v := 0) hx hb dX4_branches_82 (by decide) ?_
      have e9 : pX4_branches x0 x1 x2 = (0) := by rw [pX4_branches, if_neg w_1_32, if_pos w_1_34, if_neg c_75]
      exact m_zret X hr hk V rfl (by rw [e9]) rfl dX4_branches_83
    · refine lv_iconst (v := 1) hx hb dX4_branches_78 (by decide) ?_
      refine lv_goto (tgt := 83) hx hb dX4_branches_79 (by decide) ?_
      have e9 : pX4_branches x0 x1 x2 = (1) := by rw [pX4_branches, if_neg w_1_32, if_pos w_1_34, if_pos c_75]
      exact m_zret X hr hk V rfl (by rw [e9]) rfl dX4_branches_83
  by_cases w_1_35 : x0 = 35
  · refine lv_tableIn (off := 83) (tgt := 84) hx hb dX4_branches_1 (by rw [w_1_35]; decide) (by rw [w_1_35]; decide) (by rw [w_1_35]; rfl) (by decide) ?_
    refine lv_iload_n hx hb dX4_branches_84 rfl (lv_at hl 1 rfl) ?_
    refine lv_if_eq (tgt := 92) hx hb dX4_branches_85 (by decide) (fun c_85 => ?_) (fun c_85 => ?_)
    · refine lv_iconst (v := 0) hx hb dX4_branches_92 (by decide) ?_
      have e9 : pX4_branches x0 x1 x2 = (0) := by rw [pX4_branches, if_neg w_1_32, if_neg w_1_34, if_pos w_1_35, if_pos c_85]
      exact m_zret X hr hk V rfl (by rw [e9]) rfl dX4_branches_93
    · refine lv_iconst (v := 1) hx hb dX4_branches_88 (by decide) ?_
      refine lv_goto (tgt := 93) hx hb dX4_branches_89 (by decide) ?_
      have e9 : pX4_branches x0 x1 x2 = (1) := by rw [pX4_branches, if_neg w_1_32, if_neg w_1_34, if_pos w_1_35, if_neg c_85]
      exact m_zret X hr hk V rfl (by rw [e9]) rfl dX4_branches_93
  by_cases w_1_36 : x0 = 36
  · refine lv_tableIn (off := 93) (tgt := 94) hx hb dX4_branches_1 (by rw [w_1_36]; decide) (by rw [w_1_36]; decide) (by rw [w_1_36]; rfl) (by decide) ?_
    refine lv_iload_n hx hb dX4_branches_94 rfl (lv_at hl 1 rfl) ?_
    refine lv_iload_n hx hb dX4_branches_95 rfl (lv_at hl 2 rfl) ?_
    refine lv_icmp_ne (tgt := 103) hx hb dX4_branches_96 (by decide) (fun c_96 => ?_) (fun c_96 => ?_)
    · refine lv_iconst (v := 0) hx hb dX4_branches_103 (by decide) ?_
      have e9 : pX4_branches x0 x1 x2 = (0) := by rw [pX4_branches, if_neg w_1_32, if_neg w_1_34, if_neg w_1_35, if_pos w_1_36, if_neg c_96]
      exact m_zret X hr hk V rfl (by rw [e9]) rfl dX4_branches_104
    · refine lv_iconst (v := 1) hx hb dX4_branches_99 (by decide) ?_
      refine lv_goto (tgt := 104) hx hb dX4_branches_100 (by decide) ?_
      have e9 : pX4_branches x0 x1 x2 = (1) := by rw [pX4_branches, if_neg w_1_32, if_neg w_1_34, if_neg w_1_35, if_pos w_1_36, if_pos c_96]
      exact m_zret X hr hk V rfl (by rw [e9]) rfl dX4_branches_104
  by_cases w_1_37 : x0 = 37
  · refine lv_tableIn (off := 104) (tgt := 105) hx hb dX4_branches_1 (by rw [w_1_37]; decide) (by rw [w_1_37]; decide) (by rw [w_1_37]; rfl) (by decide) ?_
    refine lv_iload_n hx hb dX4_branches_105 rfl (lv_at hl 1 rfl) ?_
    refine lv_iload_n hx hb dX4_branches_106 rfl (lv_at hl 2 rfl) ?_
    refine lv_icmp_eq (tgt := 114) hx hb dX4_branches_107 (by decide) (fun c_107 => ?_) (fun c_107 => ?_)
    · refine lv_iconst (v := 0) hx hb dX4_branches_114 (by decide) ?_
      have e9 : pX4_branches x0 x1 x2 = (0) := by rw [pX4_branches, if_neg w_1_32, if_neg w_1_34, if_neg w_1_35, if_neg w_1_36, if_pos w_1_37, if_pos c_107]
      exact m_zret X hr hk V rfl (by rw [e9]) rfl dX4_branches_115
    · refine lv_iconst (v := 1) hx hb dX4_branches_110 (by decide) ?_
      refine lv_goto (tgt := 115) hx hb dX4_branches_111 (by decide) ?_
      have e9 : pX4_branches x0 x1 x2 = (1) := by rw [pX4_branches, if_neg w_1_32, if_neg w_1_34, if_neg w_1_35, if_neg w_1_36, if_pos w_1_37, if_neg c_107]
      exact m_zret X hr hk V rfl (by rw [e9]) rfl dX4_branches_115
  by_cases w_1_38 : x0 = 38
  · refine lv_tableIn (off := 115) (tgt := 116) hx hb dX4_branches_1 (by rw [w_1_38]; decide) (by rw [w_1_38]; decide) (by rw [w_1_38]; rfl) (by decide) ?_
    refine lv_iload_n hx hb dX4_branches_116 rfl (lv_at hl 1 rfl) ?_
    refine lv_iload_n hx hb dX4_branches_117 rfl (lv_at hl 2 rfl) ?_
    refine lv_icmp_ge (tgt := 125) hx hb dX4_branches_118 (by decide) (fun c_118 => ?_) (fun c_118 => ?_)
    · refine lv_iconst (v := 0) hx hb dX4_branches_125 (by decide) ?_
      have e9 : pX4_branches x0 x1 x2 = (0) := by rw [pX4_branches, if_neg w_1_32, if_neg w_1_34, if_neg w_1_35, if_neg w_1_36, if_neg w_1_37, if_pos w_1_38, if_pos c_118]
      exact m_zret X hr hk V rfl (by rw [e9]) rfl dX4_branches_126
    · refine lv_iconst (v := 1) hx hb dX4_branches_121 (by decide) ?_
      refine lv_goto (tgt := 126) hx hb dX4_branches_122 (by decide) ?_
      have e9 : pX4_branches x0 x1 x2 = (1) := by rw [pX4_branches, if_neg w_1_32, if_neg w_1_34, if_neg w_1_35, if_neg w_1_36, if_neg w_1_37, if_pos w_1_38, if_neg c_118]
      exact m_zret X hr hk V rfl (by rw [e9]) rfl dX4_branches_126
  by_cases w_1_39 : x0 = 39
  · refine lv_tableIn (off := 126) (tgt := 127) hx hb dX4_branches_1 (by rw [w_1_39]; decide) (by rw [w_1_39]; decide) (by rw [w_1_39]; rfl) (by decide) ?_
    refine lv_iload_n hx hb dX4_branches_127 rfl (lv_at hl 1 rfl) ?_
    refine lv_iload_n hx hb dX4_branches_128 rfl (lv_at hl 2 rfl) ?_
    refine lv_icmp_lt (tgt := 136) hx hb dX4_branches_129 (by decide) (fun c_129 => ?_) (fun c_129 => ?_)
    · refine lv_iconst (v := 0) hx hb dX4_branches_136 (by decide) ?_
      have e9 : pX4_branches x0 x1 x2 = (0) := by rw [pX4_branches, if_neg w_1_32, if_neg w_1_34, if_neg w_1_35, if_neg w_1_36, if_neg w_1_37, if_neg w_1_38, if_pos w_1_39, if_pos c_129]
      exact m_zret X hr hk V rfl (by rw [e9]) rfl dX4_branches_137
    · refine lv_iconst (v := 1) hx hb dX4_branches_132 (by decide) ?_
      refine lv_goto (tgt := 137) hx hb dX4_branches_133 (by decide) ?_
      have e9 : pX4_branches x0 x1 x2 = (1) := by rw [pX4_branches, if_neg w_1_32, if_neg w_1_34, if_neg w_1_35, if_neg w_1_36, if_neg w_1_37, if_neg w_1_38, if_pos w_1_39, if_neg c_129]
      exact m_zret X hr hk V rfl (by rw [e9]) rfl dX4_branches_137
  by_cases w_1_40 : x0 = 40
  · refine lv_tableIn (off := 137) (tgt := 138) hx hb dX4_branches_1 (by rw [w_1_40]; decide) (by rw [w_1_40]; decide) (by rw [w_1_40]; rfl) (by decide) ?_
    refine lv_iload_n hx hb dX4_branches_138 rfl (lv_at hl 1 rfl) ?_
    refine lv_iload_n hx hb dX4_branches_139 rfl (lv_at hl 2 rfl) ?_
    refine lv_icmp_le (tgt := 147) hx hb dX4_branches_140 (by decide) (fun c_140 => ?_) (fun c_140 => ?_)
    · refine lv_iconst (v := 0) hx hb dX4_branches_147 (by decide) ?_
      have e9 : pX4_branches x0 x1 x2 = (0) := by rw [pX4_branches, if_neg w_1_32, if_neg w_1_34, if_neg w_1_35, if_neg w_1_36, if_neg w_1_37, if_neg w_1_38, if_neg w_1_39, if_pos w_1_40, if_pos c_140]
      exact m_zret X hr hk V rfl (by rw [e9]) rfl dX4_branches_148
    · refine lv_iconst (v := 1) hx hb dX4_branches_143 (by decide) ?_
      refine lv_goto (tgt := 148) hx hb dX4_branches_144 (by decide) ?_
      have e9 : pX4_branches x0 x1 x2 = (1) := by rw [pX4_branches, if_neg w_1_32, if_neg w_1_34, if_neg w_1_35, if_neg w_1_36, if_neg w_1_37, if_neg w_1_38, if_neg w_1_39, if_pos w_1_40, if_neg c_140]
      exact m_zret X hr hk V rfl (by rw [e9]) rfl dX4_branches_148
  by_cases w_1_41 : x0 = 41
  · refine lv_tableIn (off := 148) (tgt := 149) hx hb dX4_branches_1 (by rw [w_1_41]; decide) (by rw [w_1_41]; decide) (by rw [w_1_41]; rfl) (by decide) ?_
    refine lv_iload_n hx hb dX4_branches_149 rfl (lv_at hl 1 rfl) ?_
    refine lv_iload_n hx hb dX4_branches_150 rfl (lv_at hl 2 rfl) ?_
    refine lv_icmp_gt (tgt := 158) hx hb dX4_branches_151 (by decide) (fun c_151 => ?_) (fun c_151 => ?_)
    · refine lv_iconst (v := 0) hx hb dX4_branches_158 (by decide) ?_
      have e9 : pX4_branches x0 x1 x2 = (0) := by rw [pX4_branches, if_neg w_1_32, if_neg w_1_34, if_neg w_1_35, if_neg w_1_36, if_neg w_1_37, if_neg w_1_38, if_neg w_1_39, if_neg w_1_40, if_pos w_1_41, if_pos c_151]
      exact m_zret X hr hk V rfl (by rw [e9]) rfl dX4_branches_159
    · refine lv_iconst (v := 1) hx hb dX4_branches_154 (by decide) ?_
      refine lv_goto (tgt := 159) hx hb dX4_branches_155 (by decide) ?_
      have e9 : pX4_branches x0 x1 x2 = (1) := by rw [pX4_branches, if_neg w_1_32, if_neg w_1_34, if_neg w_1_35, if_neg w_1_36, if_neg w_1_37, if_neg w_1_38, if_neg w_1_39, if_neg w_1_40, if_pos w_1_41, if_neg c_151]
      exact m_zret X hr hk V rfl (by rw [e9]) rfl dX4_branches_159
  by_cases w_1_42 : x0 = 42
  · refine lv_tableIn (off := 159) (tgt := 160) hx hb dX4_branches_1 (by rw [w_1_42]; decide) (by rw [w_1_42]; decide) (by rw [w_1_42]; rfl) (by decide) ?_
    refine lv_iload_n hx hb dX4_branches_160 rfl (lv_at hl 1 rfl) ?_
    refine lv_iload_n hx hb dX4_branches_161 rfl (lv_at hl 2 rfl) ?_
    obtain ⟨u162, hu162⟩ : ∃ u, pJ6_compareUnsigned_7cf53 x1 x2 = u := ⟨_, rfl⟩
    have hM := kJ6_compareUnsigned_7cf53 l D cB cI x1 x2
    rw [hu162] at hM
    refine m_S X V (rest := []) (st1 := [.int u162]) hM okJ6_compareUnsigned_7cf53 gm_266 gm_265 ⟨⟨rfl, rfl⟩, ⟨by decide, by decide⟩, Nat.zero_le _, Nat.zero_le _⟩ rfl hl.1 (Nat.le_of_ble_eq_true rfl) dX4_branches_162 rfl rfl (fun H locs V => ?_)
    refine lv_if_ge (tgt := 172) hx hb dX4_branches_165 (by decide) (fun c_165 => ?_) (fun c_165 => ?_)
    · refine lv_iconst (v := 0) hx hb dX4_branches_172 (by decide) ?_
      have e9 : pX4_branches x0 x1 x2 = (0) := by rw [pX4_branches, if_neg w_1_32, if_neg w_1_34, if_neg w_1_35, if_neg w_1_36, if_neg w_1_37, if_neg w_1_38, if_neg w_1_39, if_neg w_1_40, if_neg w_1_41, if_pos w_1_42, hu162, mLet_eq, if_pos c_165]
      exact m_zret X hr hk V rfl (by rw [e9]) rfl dX4_branches_173
    · refine lv_iconst (v := 1) hx hb dX4_branches_168 (by decide) ?_
      refine lv_goto (tgt := 173) hx hb dX4_branches_169 (by decide) ?_
      have e9 : pX4_branches x0 x1 x2 = (1) := by rw [pX4_branches, if_neg w_1_32, if_neg w_1_34, if_neg w_1_35, if_neg w_1_36, if_neg w_1_37, if_neg w_1_38, if_neg w_1_39, if_neg w_1_40, if_neg w_1_41, if_pos w_1_42, hu162, mLet_eq, if_neg c_165]
      exact m_zret X hr hk V rfl (by rw [e9]) rfl dX4_branches_173
  by_cases w_1_43 : x0 = 43
  · refine lv_tableIn (off := 173) (tgt := 174) hx hb dX4_branches_1 (by rw [w_1_43]; decide) (by rw [w_1_43]; decide) (by rw [w_1_43]; rfl) (by decide) ?_
    refine lv_iload_n hx hb dX4_branches_174 rfl (lv_at hl 1 rfl) ?_
    refine lv_iload_n hx hb dX4_branches_175 rfl (lv_at hl 2 rfl) ?_
    obtain ⟨u176, hu176⟩ : ∃ u, pJ6_compareUnsigned_7cf53 x1 x2 = u := ⟨_, rfl⟩
    have hM := kJ6_compareUnsigned_7cf53 l D cB cI x1 x2
    rw [hu176] at hM
    refine m_S X V (rest := []) (st1 := [.int u176]) hM okJ6_compareUnsigned_7cf53 gm_266 gm_265 ⟨⟨rfl, rfl⟩, ⟨by decide, by decide⟩, Nat.zero_le _, Nat.zero_le _⟩ rfl hl.1 (Nat.le_of_ble_eq_true rfl) dX4_branches_176 rfl rfl (fun H locs V => ?_)
    refine lv_if_lt (tgt := 186) hx hb dX4_branches_179 (by decide) (fun c_179 => ?_) (fun c_179 => ?_)
    · refine lv_iconst (v := 0) hx hb dX4_branches_186 (by decide) ?_
      have e9 : pX4_branches x0 x1 x2 = (0) := by rw [pX4_branches, if_neg w_1_32, if_neg w_1_34, if_neg w_1_35, if_neg w_1_36, if_neg w_1_37, if_neg w_1_38, if_neg w_1_39, if_neg w_1_40, if_neg w_1_41, if_neg w_1_42, if_pos w_1_43, hu176, mLet_eq, if_pos c_179]
      exact m_zret X hr hk V rfl (by rw [e9]) rfl dX4_branches_187
    · refine lv_iconst (v := 1) hx hb dX4_branches_182 (by decide) ?_
      refine lv_goto (tgt := 187) hx hb dX4_branches_183 (by decide) ?_
      have e9 : pX4_branches x0 x1 x2 = (1) := by rw [pX4_branches, if_neg w_1_32, if_neg w_1_34, if_neg w_1_35, if_neg w_1_36, if_neg w_1_37, if_neg w_1_38, if_neg w_1_39, if_neg w_1_40, if_neg w_1_41, if_neg w_1_42, if_pos w_1_43, hu176, mLet_eq, if_neg c_179]
      exact m_zret X hr hk V rfl (by rw [e9]) rfl dX4_branches_187
  by_cases w_1_44 : x0 = 44
  · refine lv_tableIn (off := 187) (tgt := 188) hx hb dX4_branches_1 (by rw [w_1_44]; decide) (by rw [w_1_44]; decide) (by rw [w_1_44]; rfl) (by decide) ?_
    refine lv_iload_n hx hb dX4_branches_188 rfl (lv_at hl 1 rfl) ?_
    refine lv_iload_n hx hb dX4_branches_189 rfl (lv_at hl 2 rfl) ?_
    obtain ⟨u190, hu190⟩ : ∃ u, pJ6_compareUnsigned_7cf53 x1 x2 = u := ⟨_, rfl⟩
    have hM := kJ6_compareUnsigned_7cf53 l D cB cI x1 x2
    rw [hu190] at hM
    refine m_S X V (rest := []) (st1 := [.int u190]) hM okJ6_compareUnsigned_7cf53 gm_266 gm_265 ⟨⟨rfl, rfl⟩, ⟨by decide, by decide⟩, Nat.zero_le _, Nat.zero_le _⟩ rfl hl.1 (Nat.le_of_ble_eq_true rfl) dX4_branches_190 rfl rfl (fun H locs V => ?_)
    refine lv_if_le (tgt := 200) hx hb dX4_branches_193 (by decide) (fun c_193 => ?_) (fun c_193 => ?_)
    · refine lv_iconst (v := 0) hx hb dX4_branches_200 (by decide) ?_
      have e9 : pX4_branches x0 x1 x2 = (0) := by rw [pX4_branches, if_neg w_1_32, if_neg w_1_34, if_neg w_1_35, if_neg w_1_36, if_neg w_1_37, if_neg w_1_38, if_neg w_1_39, if_neg w_1_40, if_neg w_1_41, if_neg w_1_42, if_neg w_1_43, if_pos w_1_44, hu190, mLet_eq, if_pos c_193]
      exact m_zret X hr hk V rfl (by rw [e9]) rfl dX4_branches_201
    · refine lv_iconst (v := 1) hx hb dX4_branches_196 (by decide) ?_
      refine lv_goto (tgt := 201) hx hb dX4_branches_197 (by decide) ?_
      have e9 : pX4_branches x0 x1 x2 = (1) := by rw [pX4_branches, if_neg w_1_32, if_neg w_1_34, if_neg w_1_35, if_neg w_1_36, if_neg w_1_37, if_neg w_1_38, if_neg w_1_39, if_neg w_1_40, if_neg w_1_41, if_neg w_1_42, if_neg w_1_43, if_pos w_1_44, hu190, mLet_eq, if_neg c_193]
      exact m_zret X hr hk V rfl (by rw [e9]) rfl dX4_branches_201
  by_cases w_1_45 : x0 = 45
  · refine lv_tableIn (off := 201) (tgt := 202) hx hb dX4_branches_1 (by rw [w_1_45]; decide) (by rw [w_1_45]; decide) (by rw [w_1_45]; rfl) (by decide) ?_
    refine lv_iload_n hx hb dX4_branches_202 rfl (lv_at hl 1 rfl) ?_
    refine lv_iload_n hx hb dX4_branches_203 rfl (lv_at hl 2 rfl) ?_
    obtain ⟨u204, hu204⟩ : ∃ u, pJ6_compareUnsigned_7cf53 x1 x2 = u := ⟨_, rfl⟩
    have hM := kJ6_compareUnsigned_7cf53 l D cB cI x1 x2
    rw [hu204] at hM
    refine m_S X V (rest := []) (st1 := [.int u204]) hM okJ6_compareUnsigned_7cf53 gm_266 gm_265 ⟨⟨rfl, rfl⟩, ⟨by decide, by decide⟩, Nat.zero_le _, Nat.zero_le _⟩ rfl hl.1 (Nat.le_of_ble_eq_true rfl) dX4_branches_204 rfl rfl (fun H locs V => ?_)
    refine lv_if_gt (tgt := 214) hx hb dX4_branches_207 (by decide) (fun c_207 => ?_) (fun c_207 => ?_)
    · refine lv_iconst (v := 0) hx hb dX4_branches_214 (by decide) ?_
      have e9 : pX4_branches x0 x1 x2 = (0) := by rw [pX4_branches, if_neg w_1_32, if_neg w_1_34, if_neg w_1_35, if_neg w_1_36, if_neg w_1_37, if_neg w_1_38, if_neg w_1_39, if_neg w_1_40, if_neg w_1_41, if_neg w_1_42, if_neg w_1_43, if_neg w_1_44, if_pos w_1_45, hu204, mLet_eq, if_pos c_207]
      exact m_zret X hr hk V rfl (by rw [e9]) rfl dX4_branches_215
    · refine lv_iconst (v := 1) hx hb dX4_branches_210 (by decide) ?_
      refine lv_goto (tgt := 215) hx hb dX4_branches_211 (by decide) ?_
      have e9 : pX4_branches x0 x1 x2 = (1) := by rw [pX4_branches, if_neg w_1_32, if_neg w_1_34, if_neg w_1_35, if_neg w_1_36, if_neg w_1_37, if_neg w_1_38, if_neg w_1_39, if_neg w_1_40, if_neg w_1_41, if_neg w_1_42, if_neg w_1_43, if_neg w_1_44, if_pos w_1_45, hu204, mLet_eq, if_neg c_207]
      exact m_zret X hr hk V rfl (by rw [e9]) rfl dX4_branches_215
  have o_0 := lv_neT w_1_32 (a := 32) rfl
  have o_1 := lv_neT w_1_34 (a := 34) rfl
  have o_2 := lv_neT w_1_35 (a := 35) rfl
  have o_3 := lv_neT w_1_36 (a := 36) rfl
  have o_4 := lv_neT w_1_37 (a := 37) rfl
  have o_5 := lv_neT w_1_38 (a := 38) rfl
  have o_6 := lv_neT w_1_39 (a := 39) rfl
  have o_7 := lv_neT w_1_40 (a := 40) rfl
  have o_8 := lv_neT w_1_41 (a := 41) rfl
  have o_9 := lv_neT w_1_42 (a := 42) rfl
  have o_10 := lv_neT w_1_43 (a := 43) rfl
  have o_11 := lv_neT w_1_44 (a := 44) rfl
  have o_12 := lv_neT w_1_45 (a := 45) rfl
  refine m_tabD (x := x0) (tgt := 216) hx hb dX4_branches_1 (by decide) (by decide) (fun off h1 h2 h3 => by (rcases (show Int32.toInt x0 = 33 by omega) with q <;> (rw [q] at h3; exact (Option.some.inj h3).symm))) ?_
  refine lv_iconst (v := 0) hx hb dX4_branches_216 (by decide) ?_
  have e9 : pX4_branches x0 x1 x2 = (0) := by rw [pX4_branches, if_neg w_1_32, if_neg w_1_34, if_neg w_1_35, if_neg w_1_36, if_neg w_1_37, if_neg w_1_38, if_neg w_1_39, if_neg w_1_40, if_neg w_1_41, if_neg w_1_42, if_neg w_1_43, if_neg w_1_44, if_neg w_1_45]
  exact m_zret X hr hk V rfl (by rw [e9]) rfl dX4_branches_217
def pX4_ability (x0 : Int32) : Int32 := (if x0 = 0 then (196866) else (if x0 = 1 then (65793) else (if x0 = 2 then (1) else (if x0 = 3 then (1) else (if x0 = 5 then (1) else (if x0 = 6 then (1) else (0)))))))
theorem okX4_ability : mOk yX4_ability cX4_ability 1 (some .int) 1 := ⟨gm_327, gm_10, by decide +kernel⟩
set_option maxRecDepth 100000 in
set_option maxHeartbeats 4000000 in
theorem kX4_ability (l : Launch) (D : va_G) (cB cI : ClassId) (x0 : Int32) : mM l D cB cI yX4_ability cX4_ability 1 (some .int) { frames := 0, cells := 0, slots := 0, locals := 0 } [.int x0] [] (some (pX4_ability x0)) [] := by
  refine m_start (by decide +kernel) (Nat.le_of_ble_eq_true rfl) ?_
  intro p e s m below meth c A ls X hr hk V hl
  have X : mCx p s m _ c cX4_ability 1 RX4 D cB cI := X
  have hx := X.1.1
  have hb := X.1.2.1
  have hl : lv_has ls 1 [(0, .int x0)] := hl
  refine lv_iload_n hx hb dX4_ability_0 rfl (lv_at hl 0 rfl) ?_
  by_cases w_1_0 : x0 = 0
  · refine lv_tableIn (off := 43) (tgt := 44) hx hb dX4_ability_1 (by rw [w_1_0]; decide) (by rw [w_1_0]; decide) (by rw [w_1_0]; rfl) (by decide) ?_
    refine lv_ldc hx hb X.1.2.2.2.1 (X.1.2.2.2.2 _ gm_328) dX4_ability_44 ?_
    have e9 : pX4_ability x0 = (196866) := by rw [pX4_ability, if_pos w_1_0]
    exact m_iret X hr hk V (by rw [e9]) rfl dX4_ability_46
  by_cases w_1_1 : x0 = 1
  · refine lv_tableIn (off := 46) (tgt := 47) hx hb dX4_ability_1 (by rw [w_1_1]; decide) (by rw [w_1_1]; decide) (by rw [w_1_1]; rfl) (by decide) ?_
    refine lv_ldc hx hb X.1.2.2.2.1 (X.1.2.2.2.2 _ gm_329) dX4_ability_47 ?_
    have e9 : pX4_ability x0 = (65793) := by rw [pX4_ability, if_neg w_1_0, if_pos w_1_1]
    exact m_iret X hr hk V (by rw [e9]) rfl dX4_ability_49
  by_cases w_1_2 : x0 = 2
  · refine lv_tableIn (off := 49) (tgt := 50) hx hb dX4_ability_1 (by rw [w_1_2]; decide) (by rw [w_1_2]; decide) (by rw [w_1_2]; rfl) (by decide) ?_
    refine lv_iconst (v := 1) hx hb dX4_ability_50 (by decide) ?_
    have e9 : pX4_ability x0 = (1) := by rw [pX4_ability, if_neg w_1_0, if_neg w_1_1, if_pos w_1_2]
    exact m_iret X hr hk V (by rw [e9]) rfl dX4_ability_51
  by_cases w_1_3 : x0 = 3
  · refine lv_tableIn (off := 49) (tgt := 50) hx hb dX4_ability_1 (by rw [w_1_3]; decide) (by rw [w_1_3]; decide) (by rw [w_1_3]; rfl) (by decide) ?_
    refine lv_iconst (v := 1) hx hb dX4_ability_50 (by decide) ?_
    have e9 : pX4_ability x0 = (1) := by rw [pX4_ability, if_neg w_1_0, if_neg w_1_1, if_neg w_1_2, if_pos w_1_3]
    exact m_iret X hr hk V (by rw [e9]) rfl dX4_ability_51
  by_cases w_1_5 : x0 = 5
  · refine lv_tableIn (off := 49) (tgt := 50) hx hb dX4_ability_1 (by rw [w_1_5]; decide) (by rw [w_1_5]; decide) (by rw [w_1_5]; rfl) (by decide) ?_
    refine lv_iconst (v := 1) hx hb dX4_ability_50 (by decide) ?_
    have e9 : pX4_ability x0 = (1) := by rw [pX4_ability, if_neg w_1_0, if_neg w_1_1, if_neg w_1_2, if_neg w_1_3, if_pos w_1_5]
    exact m_iret X hr hk V (by rw [e9]) rfl dX4_ability_51
  by_cases w_1_6 : x0 = 6
  · refine lv_tableIn (off := 49) (tgt := 50) hx hb dX4_ability_1 (by rw [w_1_6]; decide) (by rw [w_1_6]; decide) (by rw [w_1_6]; rfl) (by decide) ?_
    refine lv_iconst (v := 1) hx hb dX4_ability_50 (by decide) ?_
    have e9 : pX4_ability x0 = (1) := by rw [pX4_ability, if_neg w_1_0, if_neg w_1_1, if_neg w_1_2, if_neg w_1_3, if_neg w_1_5, if_pos w_1_6]
    exact m_iret X hr hk V (by rw [e9]) rfl dX4_ability_51
  have o_0 := lv_neT w_1_0 (a := 0) rfl
  have o_1 := lv_neT w_1_1 (a := 1) rfl
  have o_2 := lv_neT w_1_2 (a := 2) rfl
  have o_3 := lv_neT w_1_3 (a := 3) rfl
  have o_4 := lv_neT w_1_5 (a := 5) rfl
  have o_5 := lv_neT w_1_6 (a := 6) rfl
  refine m_tabD (x := x0) (tgt := 52) hx hb dX4_ability_1 (by decide) (by decide) (fun off h1 h2 h3 => by (rcases (show Int32.toInt x0 = 4 by omega) with q <;> (rw [q] at h3; exact (Option.some.inj h3).symm))) ?_
  refine lv_iconst (v := 0) hx hb dX4_ability_52 (by decide) ?_
  have e9 : pX4_ability x0 = (0) := by rw [pX4_ability, if_neg w_1_0, if_neg w_1_1, if_neg w_1_2, if_neg w_1_3, if_neg w_1_5, if_neg w_1_6]
  exact m_iret X hr hk V (by rw [e9]) rfl dX4_ability_53
def pX6_loadsOf (x0 : Int32) : Int32 := (if x0 = 0 then (0) else (if x0 = 16 then (2) else (if x0 = 17 then (2) else (if x0 = 18 then (2) else (if x0 = 19 then (2) else (if x0 = 20 then (2) else (if x0 = 21 then (1) else (if x0 = 24 then (2) else (if x0 = 25 then (2) else (if x0 = 26 then (2) else (if x0 = 27 then (1) else (if x0 = 28 then (2) else (if x0 = 29 then (2) else (if x0 = 30 then (2) else (if x0 = 32 then (1) else (if x0 = 34 then (2) else (if x0 = 35 then (2) else (if x0 = 36 then (3) else (if x0 = 37 then (3) else (if x0 = 38 then (3) else (if x0 = 39 then (3) else (if x0 = 40 then (3) else (if x0 = 41 then (3) else (if x0 = 42 then (3) else (if x0 = 43 then (3) else (if x0 = 44 then (3) else (if x0 = 45 then (3) else (if x0 = 49 then (1) else (if x0 = 64 then (1) else (if x0 = 65 then (1) else (if x0 = 66 then (1) else (if x0 = 68 then (1) else (if x0 = 69 then (1) else (if x0 = 72 then (2) else (if x0 = 73 then (2) else (if x0 = 74 then (2) else (if x0 = 75 then (2) else (if x0 = 76 then (3) else (if x0 = 77 then (3) else (if x0 = 78 then (3) else (if x0 = 79 then (3) else (if x0 = 80 then (0) else (if x0 = 81 then (1) else (if x0 = 82 then (0) else (if x0 = 83 then (2) else (if x0 = 84 then (1) else (if x0 = 256 then (2) else (if x0 = 260 then (1) else (if x0 = 288 then (0) else (if x0 = 336 then (7) else (if x0 = 337 then (7) else (if x0 = 368 then (2) else (if x0 = 369 then (3) else ((-1)))))))))))))))))))))))))))))))))))))))))))))))))))))))
theorem okX6_loadsOf : mOk yX6_loadsOf cX6_loadsOf 1 (some .int) 1 := ⟨gm_190, gm_9, by decide +kernel⟩
set_option maxRecDepth 100000 in
set_option maxHeartbeats 4000000 in
theorem kX6_loadsOf (l : Launch) (D : va_G) (cB cI : ClassId) (x0 : Int32) : mM l D cB cI yX6_loadsOf cX6_loadsOf 1 (some .int) { frames := 0, cells := 0, slots := 0, locals := 0 } [.int x0] [] (some (pX6_loadsOf x0)) [] := by
  refine m_start (by decide +kernel) (Nat.le_of_ble_eq_true rfl) ?_
  intro p e s m below meth c A ls X hr hk V hl
  have X : mCx p s m _ c cX6_loadsOf 1 RX6 D cB cI := X
  have hx := X.1.1
  have hb := X.1.2.1
  have hl : lv_has ls 1 [(0, .int x0)] := hl
  refine lv_iload_n hx hb dX6_loadsOf_0 rfl (lv_at hl 0 rfl) ?_
  by_cases w_1_0 : x0 = 0
  · refine lv_lookup (off := 435) (tgt := 436) hx hb dX6_loadsOf_1 (by decide +kernel) (by rw [w_1_0]; rfl) (by decide) ?_
    refine lv_iconst (v := 0) hx hb dX6_loadsOf_436 (by decide) ?_
    have e9 : pX6_loadsOf x0 = (0) := by rw [pX6_loadsOf, if_pos w_1_0]
    exact m_iret X hr hk V (by rw [e9]) rfl dX6_loadsOf_437
  by_cases w_1_16 : x0 = 16
  · refine lv_lookup (off := 439) (tgt := 440) hx hb dX6_loadsOf_1 (by decide +kernel) (by rw [w_1_16]; rfl) (by decide) ?_
    refine lv_iconst (v := 2) hx hb dX6_loadsOf_440 (by decide) ?_
    have e9 : pX6_loadsOf x0 = (2) := by rw [pX6_loadsOf, if_neg w_1_0, if_pos w_1_16]
    exact m_iret X hr hk V (by rw [e9]) rfl dX6_loadsOf_441
  by_cases w_1_17 : x0 = 17
  · refine lv_lookup (off := 439) (tgt := 440) hx hb dX6_loadsOf_1 (by decide +kernel) (by rw [w_1_17]; rfl) (by decide) ?_
    refine lv_iconst (v := 2) hx hb dX6_loadsOf_440 (by decide) ?_
    have e9 : pX6_loadsOf x0 = (2) := by rw [pX6_loadsOf, if_neg w_1_0, if_neg w_1_16, if_pos w_1_17]
    exact m_iret X hr hk V (by rw [e9]) rfl dX6_loadsOf_441
  by_cases w_1_18 : x0 = 18
  · refine lv_lookup (off := 439) (tgt := 440) hx hb dX6_loadsOf_1 (by decide +kernel) (by rw [w_1_18]; rfl) (by decide) ?_
    refine lv_iconst (v := 2) hx hb dX6_loadsOf_440 (by decide) ?_
    have e9 : pX6_loadsOf x0 = (2) := by rw [pX6_loadsOf, if_neg w_1_0, if_neg w_1_16, if_neg w_1_17, if_pos w_1_18]
    exact m_iret X hr hk V (by rw [e9]) rfl dX6_loadsOf_441
  by_cases w_1_19 : x0 = 19
  · refine lv_lookup (off := 439) (tgt := 440) hx hb dX6_loadsOf_1 (by decide +kernel) (by rw [w_1_19]; rfl) (by decide) ?_
    refine lv_iconst (v := 2) hx hb dX6_loadsOf_440 (by decide) ?_
    have e9 : pX6_loadsOf x0 = (2) := by rw [pX6_loadsOf, if_neg w_1_0, if_neg w_1_16, if_neg w_1_17, if_neg w_1_18, if_pos w_1_19]
    exact m_iret X hr hk V (by rw [e9]) rfl dX6_loadsOf_441
  by_cases w_1_20 : x0 = 20
  · refine lv_lookup (off := 439) (tgt := 440) hx hb dX6_loadsOf_1 (by decide +kernel) (by rw [w_1_20]; rfl) (by decide) ?_
    refine lv_iconst (v := 2) hx hb dX6_loadsOf_440 (by decide) ?_
    have e9 : pX6_loadsOf x0 = (2) := by rw [pX6_loadsOf, if_neg w_1_0, if_neg w_1_16, if_neg w_1_17, if_neg w_1_18, if_neg w_1_19, if_pos w_1_20]
    exact m_iret X hr hk V (by rw [e9]) rfl dX6_loadsOf_441
  by_cases w_1_21 : x0 = 21
  · refine lv_lookup (off := 437) (tgt := 438) hx hb dX6_loadsOf_1 (by decide +kernel) (by rw [w_1_21]; rfl) (by decide) ?_
    refine lv_iconst (v := 1) hx hb dX6_loadsOf_438 (by decide) ?_
    have e9 : pX6_loadsOf x0 = (1) := by rw [pX6_loadsOf, if_neg w_1_0, if_neg w_1_16, if_neg w_1_17, if_neg w_1_18, if_neg w_1_19, if_neg w_1_20, if_pos w_1_21]
    exact m_iret X hr hk V (by rw [e9]) rfl dX6_loadsOf_439
  by_cases w_1_24 : x0 = 24
  · refine lv_lookup (off := 439) (tgt := 440) hx hb dX6_loadsOf_1 (by decide +kernel) (by rw [w_1_24]; rfl) (by decide) ?_
    refine lv_iconst (v := 2) hx hb dX6_loadsOf_440 (by decide) ?_
    have e9 : pX6_loadsOf x0 = (2) := by rw [pX6_loadsOf, if_neg w_1_0, if_neg w_1_16, if_neg w_1_17, if_neg w_1_18, if_neg w_1_19, if_neg w_1_20, if_neg w_1_21, if_pos w_1_24]
    exact m_iret X hr hk V (by rw [e9]) rfl dX6_loadsOf_441
  by_cases w_1_25 : x0 = 25
  · refine lv_lookup (off := 439) (tgt := 440) hx hb dX6_loadsOf_1 (by decide +kernel) (by rw [w_1_25]; rfl) (by decide) ?_
    refine lv_iconst (v := 2) hx hb dX6_loadsOf_440 (by decide) ?_
    have e9 : pX6_loadsOf x0 = (2) := by rw [pX6_loadsOf, if_neg w_1_0, if_neg w_1_16, if_neg w_1_17, if_neg w_1_18, if_neg w_1_19, if_neg w_1_20, if_neg w_1_21, if_neg w_1_24, if_pos w_1_25]
    exact m_iret X hr hk V (by rw [e9]) rfl dX6_loadsOf_441
  by_cases w_1_26 : x0 = 26
  · refine lv_lookup (off := 439) (tgt := 440) hx hb dX6_loadsOf_1 (by decide +kernel) (by rw [w_1_26]; rfl) (by decide) ?_
    refine lv_iconst (v := 2) hx hb dX6_loadsOf_440 (by decide) ?_
    have e9 : pX6_loadsOf x0 = (2) := by rw [pX6_loadsOf, if_neg w_1_0, if_neg w_1_16, if_neg w_1_17, if_neg w_1_18, if_neg w_1_19, if_neg w_1_20, if_neg w_1_21, if_neg w_1_24, if_neg w_1_25, if_pos w_1_26]
    exact m_iret X hr hk V (by rw [e9]) rfl dX6_loadsOf_441
  by_cases w_1_27 : x0 = 27
  · refine lv_lookup (off := 437) (tgt := 438) hx hb dX6_loadsOf_1 (by decide +kernel) (by rw [w_1_27]; rfl) (by decide) ?_
    refine lv_iconst (v := 1) hx hb dX6_loadsOf_438 (by decide) ?_
    have e9 : pX6_loadsOf x0 = (1) := by rw [pX6_loadsOf, if_neg w_1_0, if_neg w_1_16, if_neg w_1_17, if_neg w_1_18, if_neg w_1_19, if_neg w_1_20, if_neg w_1_21, if_neg w_1_24, if_neg w_1_25, if_neg w_1_26, if_pos w_1_27]
    exact m_iret X hr hk V (by rw [e9]) rfl dX6_loadsOf_439
  by_cases w_1_28 : x0 = 28
  · refine lv_lookup (off := 439) (tgt := 440) hx hb dX6_loadsOf_1 (by decide +kernel) (by rw [w_1_28]; rfl) (by decide) ?_
    refine lv_iconst (v := 2) hx hb dX6_loadsOf_440 (by decide) ?_
    have e9 : pX6_loadsOf x0 = (2) := by rw [pX6_loadsOf, if_neg w_1_0, if_neg w_1_16, if_neg w_1_17, if_neg w_1_18, if_neg w_1_19, if_neg w_1_20, if_neg w_1_21, if_neg w_1_24, if_neg w_1_25, if_neg w_1_26, if_neg w_1_27, if_pos w_1_28]
    exact m_iret X hr hk V (by rw [e9]) rfl dX6_loadsOf_441
  by_cases w_1_29 : x0 = 29
  · refine lv_lookup (off := 439) (tgt := 440) hx hb dX6_loadsOf_1 (by decide +kernel) (by rw [w_1_29]; rfl) (by decide) ?_
    refine lv_iconst (v := 2) hx hb dX6_loadsOf_440 (by decide) ?_
    have e9 : pX6_loadsOf x0 = (2) := by rw [pX6_loadsOf, if_neg w_1_0, if_neg w_1_16, if_neg w_1_17, if_neg w_1_18, if_neg w_1_19, if_neg w_1_20, if_neg w_1_21, if_neg w_1_24, if_neg w_1_25, if_neg w_1_26, if_neg w_1_27, if_neg w_1_28, if_pos w_1_29]
    exact m_iret X hr hk V (by rw [e9]) rfl dX6_loadsOf_441
  by_cases w_1_30 : x0 = 30
  · refine lv_lookup (off := 439) (tgt := 440) hx hb dX6_loadsOf_1 (by decide +kernel) (by rw [w_1_30]; rfl) (by decide) ?_
    refine lv_iconst (v := 2) hx hb dX6_loadsOf_440 (by decide) ?_
    have e9 : pX6_loadsOf x0 = (2) := by rw [pX6_loadsOf, if_neg w_1_0, if_neg w_1_16, if_neg w_1_17, if_neg w_1_18, if_neg w_1_19, if_neg w_1_20, if_neg w_1_21, if_neg w_1_24, if_neg w_1_25, if_neg w_1_26, if_neg w_1_27, if_neg w_1_28, if_neg w_1_29, if_pos w_1_30]
    exact m_iret X hr hk V (by rw [e9]) rfl dX6_loadsOf_441
  by_cases w_1_32 : x0 = 32
  · refine lv_lookup (off := 437) (tgt := 438) hx hb dX6_loadsOf_1 (by decide +kernel) (by rw [w_1_32]; rfl) (by decide) ?_
    refine lv_iconst (v := 1) hx hb dX6_loadsOf_438 (by decide) ?_
    have e9 : pX6_loadsOf x0 = (1) := by rw [pX6_loadsOf, if_neg w_1_0, if_neg w_1_16, if_neg w_1_17, if_neg w_1_18, if_neg w_1_19, if_neg w_1_20, if_neg w_1_21, if_neg w_1_24, if_neg w_1_25, if_neg w_1_26, if_neg w_1_27, if_neg w_1_28, if_neg w_1_29, if_neg w_1_30, if_pos w_1_32]
    exact m_iret X hr hk V (by rw [e9]) rfl dX6_loadsOf_439
  by_cases w_1_34 : x0 = 34
  · refine lv_lookup (off := 439) (tgt := 440) hx hb dX6_loadsOf_1 (by decide +kernel) (by rw [w_1_34]; rfl) (by decide) ?_
    refine lv_iconst (v := 2) hx hb dX6_loadsOf_440 (by decide) ?_
    have e9 : pX6_loadsOf x0 = (2) := by rw [pX6_loadsOf, if_neg w_1_0, if_neg w_1_16, if_neg w_1_17, if_neg w_1_18, if_neg w_1_19, if_neg w_1_20, if_neg w_1_21, if_neg w_1_24, if_neg w_1_25, if_neg w_1_26, if_neg w_1_27, if_neg w_1_28, if_neg w_1_29, if_neg w_1_30, if_neg w_1_32, if_pos w_1_34]
    exact m_iret X hr hk V (by rw [e9]) rfl dX6_loadsOf_441
  by_cases w_1_35 : x0 = 35
  · refine lv_lookup (off := 439) (tgt := 440) hx hb dX6_loadsOf_1 (by decide +kernel) (by rw [w_1_35]; rfl) (by decide) ?_
    refine lv_iconst (v := 2) hx hb dX6_loadsOf_440 (by decide) ?_
    have e9 : pX6_loadsOf x0 = (2) := by rw [pX6_loadsOf, if_neg w_1_0, if_neg w_1_16, if_neg w_1_17, if_neg w_1_18, if_neg w_1_19, if_neg w_1_20, if_neg w_1_21, if_neg w_1_24, if_neg w_1_25, if_neg w_1_26, if_neg w_1_27, if_neg w_1_28, if_neg w_1_29, if_neg w_1_30, if_neg w_1_32, if_neg w_1_34, if_pos w_1_35]
    exact m_iret X hr hk V (by rw [e9]) rfl dX6_loadsOf_441
  by_cases w_1_36 : x0 = 36
  · refine lv_lookup (off := 441) (tgt := 442) hx hb dX6_loadsOf_1 (by decide +kernel) (by rw [w_1_36]; rfl) (by decide) ?_
    refine lv_iconst (v := 3) hx hb dX6_loadsOf_442 (by decide) ?_
    have e9 : pX6_loadsOf x0 = (3) := by rw [pX6_loadsOf, if_neg w_1_0, if_neg w_1_16, if_neg w_1_17, if_neg w_1_18, if_neg w_1_19, if_neg w_1_20, if_neg w_1_21, if_neg w_1_24, if_neg w_1_25, if_neg w_1_26, if_neg w_1_27, if_neg w_1_28, if_neg w_1_29, if_neg w_1_30, if_neg w_1_32, if_neg w_1_34, if_neg w_1_35, if_pos w_1_36]
    exact m_iret X hr hk V (by rw [e9]) rfl dX6_loadsOf_443
  by_cases w_1_37 : x0 = 37
  · refine lv_lookup (off := 441) (tgt := 442) hx hb dX6_loadsOf_1 (by decide +kernel) (by rw [w_1_37]; rfl) (by decide) ?_
    refine lv_iconst (v := 3) hx hb dX6_loadsOf_442 (by decide) ?_
    have e9 : pX6_loadsOf x0 = (3) := by rw [pX6_loadsOf, if_neg w_1_0, if_neg w_1_16, if_neg w_1_17, if_neg w_1_18, if_neg w_1_19, if_neg w_1_20, if_neg w_1_21, if_neg w_1_24, if_neg w_1_25, if_neg w_1_26, if_neg w_1_27, if_neg w_1_28, if_neg w_1_29, if_neg w_1_30, if_neg w_1_32, if_neg w_1_34, if_neg w_1_35, if_neg w_1_36, if_pos w_1_37]
    exact m_iret X hr hk V (by rw [e9]) rfl dX6_loadsOf_443
  by_cases w_1_38 : x0 = 38
  · refine lv_lookup (off := 441) (tgt := 442) hx hb dX6_loadsOf_1 (by decide +kernel) (by rw [w_1_38]; rfl) (by decide) ?_
    refine lv_iconst (v := 3) hx hb dX6_loadsOf_442 (by decide) ?_
    have e9 : pX6_loadsOf x0 = (3) := by rw [pX6_loadsOf, if_neg w_1_0, if_neg w_1_16, if_neg w_1_17, if_neg w_1_18, if_neg w_1_19, if_neg w_1_20, if_neg w_1_21, if_neg w_1_24, if_neg w_1_25, if_neg w_1_26, if_neg w_1_27, if_neg w_1_28, if_neg w_1_29, if_neg w_1_30, if_neg w_1_32, if_neg w_1_34, if_neg w_1_35, if_neg w_1_36, if_neg w_1_37, if_pos w_1_38]
    exact m_iret X hr hk V (by rw [e9]) rfl dX6_loadsOf_443
  by_cases w_1_39 : x0 = 39
  · refine lv_lookup (off := 441) (tgt := 442) hx hb dX6_loadsOf_1 (by decide +kernel) (by rw [w_1_39]; rfl) (by decide) ?_
    refine lv_iconst (v := 3) hx hb dX6_loadsOf_442 (by decide) ?_
    have e9 : pX6_loadsOf x0 = (3) := by rw [pX6_loadsOf, if_neg w_1_0, if_neg w_1_16, if_neg w_1_17, if_neg w_1_18, if_neg w_1_19, if_neg w_1_20, if_neg w_1_21, if_neg w_1_24, if_neg w_1_25, if_neg w_1_26, if_neg w_1_27, if_neg w_1_28, if_neg w_1_29, if_neg w_1_30, if_neg w_1_32, if_neg w_1_34, if_neg w_1_35, if_neg w_1_36, if_neg w_1_37, if_neg w_1_38, if_pos w_1_39]
    exact m_iret X hr hk V (by rw [e9]) rfl dX6_loadsOf_443
  by_cases w_1_40 : x0 = 40
  · refine lv_lookup (off := 441) (tgt := 442) hx hb dX6_loadsOf_1 (by decide +kernel) (by rw [w_1_40]; rfl) (by decide) ?_
    refine lv_iconst (v := 3) hx hb dX6_loadsOf_442 (by decide) ?_
    have e9 : pX6_loadsOf x0 = (3) := by rw [pX6_loadsOf, if_neg w_1_0, if_neg w_1_16, if_neg w_1_17, if_neg w_1_18, if_neg w_1_19, if_neg w_1_20, if_neg w_1_21, if_neg w_1_24, if_neg w_1_25, if_neg w_1_26, if_neg w_1_27, if_neg w_1_28, if_neg w_1_29, if_neg w_1_30, if_neg w_1_32, if_neg w_1_34, if_neg w_1_35, if_neg w_1_36, if_neg w_1_37, if_neg w_1_38, if_neg w_1_39, if_pos w_1_40]
    exact m_iret X hr hk V (by rw [e9]) rfl dX6_loadsOf_443
  by_cases w_1_41 : x0 = 41
  · refine lv_lookup (off := 441) (tgt := 442) hx hb dX6_loadsOf_1 (by decide +kernel) (by rw [w_1_41]; rfl) (by decide) ?_
    refine lv_iconst (v := 3) hx hb dX6_loadsOf_442 (by decide) ?_
    have e9 : pX6_loadsOf x0 = (3) := by rw [pX6_loadsOf, if_neg w_1_0, if_neg w_1_16, if_neg w_1_17, if_neg w_1_18, if_neg w_1_19, if_neg w_1_20, if_neg w_1_21, if_neg w_1_24, if_neg w_1_25, if_neg w_1_26, if_neg w_1_27, if_neg w_1_28, if_neg w_1_29, if_neg w_1_30, if_neg w_1_32, if_neg w_1_34, if_neg w_1_35, if_neg w_1_36, if_neg w_1_37, if_neg w_1_38, if_neg w_1_39, if_neg w_1_40, if_pos w_1_41]
    exact m_iret X hr hk V (by rw [e9]) rfl dX6_loadsOf_443
  by_cases w_1_42 : x0 = 42
  · refine lv_lookup (off := 441) (tgt := 442) hx hb dX6_loadsOf_1 (by decide +kernel) (by rw [w_1_42]; rfl) (by decide) ?_
    refine lv_iconst (v := 3) hx hb dX6_loadsOf_442 (by decide) ?_
    have e9 : pX6_loadsOf x0 = (3) := by rw [pX6_loadsOf, if_neg w_1_0, if_neg w_1_16, if_neg w_1_17, if_neg w_1_18, if_neg w_1_19, if_neg w_1_20, if_neg w_1_21, if_neg w_1_24, if_neg w_1_25, if_neg w_1_26, if_neg w_1_27, if_neg w_1_28, if_neg w_1_29, if_neg w_1_30, if_neg w_1_32, if_neg w_1_34, if_neg w_1_35, if_neg w_1_36, if_neg w_1_37, if_neg w_1_38, if_neg w_1_39, if_neg w_1_40, if_neg w_1_41, if_pos w_1_42]
    exact m_iret X hr hk V (by rw [e9]) rfl dX6_loadsOf_443
  by_cases w_1_43 : x0 = 43
  · refine lv_lookup (off := 441) (tgt := 442) hx hb dX6_loadsOf_1 (by decide +kernel) (by rw [w_1_43]; rfl) (by decide) ?_
    refine lv_iconst (v := 3) hx hb dX6_loadsOf_442 (by decide) ?_
    have e9 : pX6_loadsOf x0 = (3) := by rw [pX6_loadsOf, if_neg w_1_0, if_neg w_1_16, if_neg w_1_17, if_neg w_1_18, if_neg w_1_19, if_neg w_1_20, if_neg w_1_21, if_neg w_1_24, if_neg w_1_25, if_neg w_1_26, if_neg w_1_27, if_neg w_1_28, if_neg w_1_29, if_neg w_1_30, if_neg w_1_32, if_neg w_1_34, if_neg w_1_35, if_neg w_1_36, if_neg w_1_37, if_neg w_1_38, if_neg w_1_39, if_neg w_1_40, if_neg w_1_41, if_neg w_1_42, if_pos w_1_43]
    exact m_iret X hr hk V (by rw [e9]) rfl dX6_loadsOf_443
  by_cases w_1_44 : x0 = 44
  · refine lv_lookup (off := 441) (tgt := 442) hx hb dX6_loadsOf_1 (by decide +kernel) (by rw [w_1_44]; rfl) (by decide) ?_
    refine lv_iconst (v := 3) hx hb dX6_loadsOf_442 (by decide) ?_
    have e9 : pX6_loadsOf x0 = (3) := by rw [pX6_loadsOf, if_neg w_1_0, if_neg w_1_16, if_neg w_1_17, if_neg w_1_18, if_neg w_1_19, if_neg w_1_20, if_neg w_1_21, if_neg w_1_24, if_neg w_1_25, if_neg w_1_26, if_neg w_1_27, if_neg w_1_28, if_neg w_1_29, if_neg w_1_30, if_neg w_1_32, if_neg w_1_34, if_neg w_1_35, if_neg w_1_36, if_neg w_1_37, if_neg w_1_38, if_neg w_1_39, if_neg w_1_40, if_neg w_1_41, if_neg w_1_42, if_neg w_1_43, if_pos w_1_44]
    exact m_iret X hr hk V (by rw [e9]) rfl dX6_loadsOf_443
  by_cases w_1_45 : x0 = 45
  · refine lv_lookup (off := 441) (tgt := 442) hx hb dX6_loadsOf_1 (by decide +kernel) (by rw [w_1_45]; rfl) (by decide) ?_
    refine lv_iconst (v := 3) hx hb dX6_loadsOf_442 (by decide) ?_
    have e9 : pX6_loadsOf x0 = (3) := by rw [pX6_loadsOf, if_neg w_1_0, if_neg w_1_16, if_neg w_1_17, if_neg w_1_18, if_neg w_1_19, if_neg w_1_20, if_neg w_1_21, if_neg w_1_24, if_neg w_1_25, if_neg w_1_26, if_neg w_1_27, if_neg w_1_28, if_neg w_1_29, if_neg w_1_30, if_neg w_1_32, if_neg w_1_34, if_neg w_1_35, if_neg w_1_36, if_neg w_1_37, if_neg w_1_38, if_neg w_1_39, if_neg w_1_40, if_neg w_1_41, if_neg w_1_42, if_neg w_1_43, if_neg w_1_44, if_pos w_1_45]
    exact m_iret X hr hk V (by rw [e9]) rfl dX6_loadsOf_443
  by_cases w_1_49 : x0 = 49
  · refine lv_lookup (off := 437) (tgt := 438) hx hb dX6_loadsOf_1 (by decide +kernel) (by rw [w_1_49]; rfl) (by decide) ?_
    refine lv_iconst (v := 1) hx hb dX6_loadsOf_438 (by decide) ?_
    have e9 : pX6_loadsOf x0 = (1) := by rw [pX6_loadsOf, if_neg w_1_0, if_neg w_1_16, if_neg w_1_17, if_neg w_1_18, if_neg w_1_19, if_neg w_1_20, if_neg w_1_21, if_neg w_1_24, if_neg w_1_25, if_neg w_1_26, if_neg w_1_27, if_neg w_1_28, if_neg w_1_29, if_neg w_1_30, if_neg w_1_32, if_neg w_1_34, if_neg w_1_35, if_neg w_1_36, if_neg w_1_37, if_neg w_1_38, if_neg w_1_39, if_neg w_1_40, if_neg w_1_41, if_neg w_1_42, if_neg w_1_43, if_neg w_1_44, if_neg w_1_45, if_pos w_1_49]
    exact m_iret X hr hk V (by rw [e9]) rfl dX6_loadsOf_439
  by_cases w_1_64 : x0 = 64
  · refine lv_lookup (off := 437) (tgt := 438) hx hb dX6_loadsOf_1 (by decide +kernel) (by rw [w_1_64]; rfl) (by decide) ?_
    refine lv_iconst (v := 1) hx hb dX6_loadsOf_438 (by decide) ?_
    have e9 : pX6_loadsOf x0 = (1) := by rw [pX6_loadsOf, if_neg w_1_0, if_neg w_1_16, if_neg w_1_17, if_neg w_1_18, if_neg w_1_19, if_neg w_1_20, if_neg w_1_21, if_neg w_1_24, if_neg w_1_25, if_neg w_1_26, if_neg w_1_27, if_neg w_1_28, if_neg w_1_29, if_neg w_1_30, if_neg w_1_32, if_neg w_1_34, if_neg w_1_35, if_neg w_1_36, if_neg w_1_37, if_neg w_1_38, if_neg w_1_39, if_neg w_1_40, if_neg w_1_41, if_neg w_1_42, if_neg w_1_43, if_neg w_1_44, if_neg w_1_45, if_neg w_1_49, if_pos w_1_64]
    exact m_iret X hr hk V (by rw [e9]) rfl dX6_loadsOf_439
  by_cases w_1_65 : x0 = 65
  · refine lv_lookup (off := 437) (tgt := 438) hx hb dX6_loadsOf_1 (by decide +kernel) (by rw [w_1_65]; rfl) (by decide) ?_
    refine lv_iconst (v := 1) hx hb dX6_loadsOf_438 (by decide) ?_
    have e9 : pX6_loadsOf x0 = (1) := by rw [pX6_loadsOf, if_neg w_1_0, if_neg w_1_16, if_neg w_1_17, if_neg w_1_18, if_neg w_1_19, if_neg w_1_20, if_neg w_1_21, if_neg w_1_24, if_neg w_1_25, if_neg w_1_26, if_neg w_1_27, if_neg w_1_28, if_neg w_1_29, if_neg w_1_30, if_neg w_1_32, if_neg w_1_34, if_neg w_1_35, if_neg w_1_36, if_neg w_1_37, if_neg w_1_38, if_neg w_1_39, if_neg w_1_40, if_neg w_1_41, if_neg w_1_42, if_neg w_1_43, if_neg w_1_44, if_neg w_1_45, if_neg w_1_49, if_neg w_1_64, if_pos w_1_65]
    exact m_iret X hr hk V (by rw [e9]) rfl dX6_loadsOf_439
  by_cases w_1_66 : x0 = 66
  · refine lv_lookup (off := 437) (tgt := 438) hx hb dX6_loadsOf_1 (by decide +kernel) (by rw [w_1_66]; rfl) (by decide) ?_
    refine lv_iconst (v := 1) hx hb dX6_loadsOf_438 (by decide) ?_
    have e9 : pX6_loadsOf x0 = (1) := by rw [pX6_loadsOf, if_neg w_1_0, if_neg w_1_16, if_neg w_1_17, if_neg w_1_18, if_neg w_1_19, if_neg w_1_20, if_neg w_1_21, if_neg w_1_24, if_neg w_1_25, if_neg w_1_26, if_neg w_1_27, if_neg w_1_28, if_neg w_1_29, if_neg w_1_30, if_neg w_1_32, if_neg w_1_34, if_neg w_1_35, if_neg w_1_36, if_neg w_1_37, if_neg w_1_38, if_neg w_1_39, if_neg w_1_40, if_neg w_1_41, if_neg w_1_42, if_neg w_1_43, if_neg w_1_44, if_neg w_1_45, if_neg w_1_49, if_neg w_1_64, if_neg w_1_65, if_pos w_1_66]
    exact m_iret X hr hk V (by rw [e9]) rfl dX6_loadsOf_439
  by_cases w_1_68 : x0 = 68
  · refine lv_lookup (off := 437) (tgt := 438) hx hb dX6_loadsOf_1 (by decide +kernel) (by rw [w_1_68]; rfl) (by decide) ?_
    refine lv_iconst (v := 1) hx hb dX6_loadsOf_438 (by decide) ?_
    have e9 : pX6_loadsOf x0 = (1) := by rw [pX6_loadsOf, if_neg w_1_0, if_neg w_1_16, if_neg w_1_17, if_neg w_1_18, if_neg w_1_19, if_neg w_1_20, if_neg w_1_21, if_neg w_1_24, if_neg w_1_25, if_neg w_1_26, if_neg w_1_27, if_neg w_1_28, if_neg w_1_29, if_neg w_1_30, if_neg w_1_32, if_neg w_1_34, if_neg w_1_35, if_neg w_1_36, if_neg w_1_37, if_neg w_1_38, if_neg w_1_39, if_neg w_1_40, if_neg w_1_41, if_neg w_1_42, if_neg w_1_43, if_neg w_1_44, if_neg w_1_45, if_neg w_1_49, if_neg w_1_64, if_neg w_1_65, if_neg w_1_66, if_pos w_1_68]
    exact m_iret X hr hk V (by rw [e9]) rfl dX6_loadsOf_439
  by_cases w_1_69 : x0 = 69
  · refine lv_lookup (off := 437) (tgt := 438) hx hb dX6_loadsOf_1 (by decide +kernel) (by rw [w_1_69]; rfl) (by decide) ?_
    refine lv_iconst (v := 1) hx hb dX6_loadsOf_438 (by decide) ?_
    have e9 : pX6_loadsOf x0 = (1) := by rw [pX6_loadsOf, if_neg w_1_0, if_neg w_1_16, if_neg w_1_17, if_neg w_1_18, if_neg w_1_19, if_neg w_1_20, if_neg w_1_21, if_neg w_1_24, if_neg w_1_25, if_neg w_1_26, if_neg w_1_27, if_neg w_1_28, if_neg w_1_29, if_neg w_1_30, if_neg w_1_32, if_neg w_1_34, if_neg w_1_35, if_neg w_1_36, if_neg w_1_37, if_neg w_1_38, if_neg w_1_39, if_neg w_1_40, if_neg w_1_41, if_neg w_1_42, if_neg w_1_43, if_neg w_1_44, if_neg w_1_45, if_neg w_1_49, if_neg w_1_64, if_neg w_1_65, if_neg w_1_66, if_neg w_1_68, if_pos w_1_69]
    exact m_iret X hr hk V (by rw [e9]) rfl dX6_loadsOf_439
  by_cases w_1_72 : x0 = 72
  · refine lv_lookup (off := 439) (tgt := 440) hx hb dX6_loadsOf_1 (by decide +kernel) (by rw [w_1_72]; rfl) (by decide) ?_
    refine lv_iconst (v := 2) hx hb dX6_loadsOf_440 (by decide) ?_
    have e9 : pX6_loadsOf x0 = (2) := by rw [pX6_loadsOf, if_neg w_1_0, if_neg w_1_16, if_neg w_1_17, if_neg w_1_18, if_neg w_1_19, if_neg w_1_20, if_neg w_1_21, if_neg w_1_24, if_neg w_1_25, if_neg w_1_26, if_neg w_1_27, if_neg w_1_28, if_neg w_1_29, if_neg w_1_30, if_neg w_1_32, if_neg w_1_34, if_neg w_1_35, if_neg w_1_36, if_neg w_1_37, if_neg w_1_38, if_neg w_1_39, if_neg w_1_40, if_neg w_1_41, if_neg w_1_42, if_neg w_1_43, if_neg w_1_44, if_neg w_1_45, if_neg w_1_49, if_neg w_1_64, if_neg w_1_65, if_neg w_1_66, if_neg w_1_68, if_neg w_1_69, if_pos w_1_72]
    exact m_iret X hr hk V (by rw [e9]) rfl dX6_loadsOf_441
  by_cases w_1_73 : x0 = 73
  · refine lv_lookup (off := 439) (tgt := 440) hx hb dX6_loadsOf_1 (by decide +kernel) (by rw [w_1_73]; rfl) (by decide) ?_
    refine lv_iconst (v := 2) hx hb dX6_loadsOf_440 (by decide) ?_
    have e9 : pX6_loadsOf x0 = (2) := by rw [pX6_loadsOf, if_neg w_1_0, if_neg w_1_16, if_neg w_1_17, if_neg w_1_18, if_neg w_1_19, if_neg w_1_20, if_neg w_1_21, if_neg w_1_24, if_neg w_1_25, if_neg w_1_26, if_neg w_1_27, if_neg w_1_28, if_neg w_1_29, if_neg w_1_30, if_neg w_1_32, if_neg w_1_34, if_neg w_1_35, if_neg w_1_36, if_neg w_1_37, if_neg w_1_38, if_neg w_1_39, if_neg w_1_40, if_neg w_1_41, if_neg w_1_42, if_neg w_1_43, if_neg w_1_44, if_neg w_1_45, if_neg w_1_49, if_neg w_1_64, if_neg w_1_65, if_neg w_1_66, if_neg w_1_68, if_neg w_1_69, if_neg w_1_72, if_pos w_1_73]
    exact m_iret X hr hk V (by rw [e9]) rfl dX6_loadsOf_441
  by_cases w_1_74 : x0 = 74
  · refine lv_lookup (off := 439) (tgt := 440) hx hb dX6_loadsOf_1 (by decide +kernel) (by rw [w_1_74]; rfl) (by decide) ?_
    refine lv_iconst (v := 2) hx hb dX6_loadsOf_440 (by decide) ?_
    have e9 : pX6_loadsOf x0 = (2) := by rw [pX6_loadsOf, if_neg w_1_0, if_neg w_1_16, if_neg w_1_17, if_neg w_1_18, if_neg w_1_19, if_neg w_1_20, if_neg w_1_21, if_neg w_1_24, if_neg w_1_25, if_neg w_1_26, if_neg w_1_27, if_neg w_1_28, if_neg w_1_29, if_neg w_1_30, if_neg w_1_32, if_neg w_1_34, if_neg w_1_35, if_neg w_1_36, if_neg w_1_37, if_neg w_1_38, if_neg w_1_39, if_neg w_1_40, if_neg w_1_41, if_neg w_1_42, if_neg w_1_43, if_neg w_1_44, if_neg w_1_45, if_neg w_1_49, if_neg w_1_64, if_neg w_1_65, if_neg w_1_66, if_neg w_1_68, if_neg w_1_69, if_neg w_1_72, if_neg w_1_73, if_pos w_1_74]
    exact m_iret X hr hk V (by rw [e9]) rfl dX6_loadsOf_441
  by_cases w_1_75 : x0 = 75
  · refine lv_lookup (off := 439) (tgt := 440) hx hb dX6_loadsOf_1 (by decide +kernel) (by rw [w_1_75]; rfl) (by decide) ?_
    refine lv_iconst (v := 2) hx hb dX6_loadsOf_440 (by decide) ?_
    have e9 : pX6_loadsOf x0 = (2) := by rw [pX6_loadsOf, if_neg w_1_0, if_neg w_1_16, if_neg w_1_17, if_neg w_1_18, if_neg w_1_19, if_neg w_1_20, if_neg w_1_21, if_neg w_1_24, if_neg w_1_25, if_neg w_1_26, if_neg w_1_27, if_neg w_1_28, if_neg w_1_29, if_neg w_1_30, if_neg w_1_32, if_neg w_1_34, if_neg w_1_35, if_neg w_1_36, if_neg w_1_37, if_neg w_1_38, if_neg w_1_39, if_neg w_1_40, if_neg w_1_41, if_neg w_1_42, if_neg w_1_43, if_neg w_1_44, if_neg w_1_45, if_neg w_1_49, if_neg w_1_64, if_neg w_1_65, if_neg w_1_66, if_neg w_1_68, if_neg w_1_69, if_neg w_1_72, if_neg w_1_73, if_neg w_1_74, if_pos w_1_75]
    exact m_iret X hr hk V (by rw [e9]) rfl dX6_loadsOf_441
  by_cases w_1_76 : x0 = 76
  · refine lv_lookup (off := 441) (tgt := 442) hx hb dX6_loadsOf_1 (by decide +kernel) (by rw [w_1_76]; rfl) (by decide) ?_
    refine lv_iconst (v := 3) hx hb dX6_loadsOf_442 (by decide) ?_
    have e9 : pX6_loadsOf x0 = (3) := by rw [pX6_loadsOf, if_neg w_1_0, if_neg w_1_16, if_neg w_1_17, if_neg w_1_18, if_neg w_1_19, if_neg w_1_20, if_neg w_1_21, if_neg w_1_24, if_neg w_1_25, if_neg w_1_26, if_neg w_1_27, if_neg w_1_28, if_neg w_1_29, if_neg w_1_30, if_neg w_1_32, if_neg w_1_34, if_neg w_1_35, if_neg w_1_36, if_neg w_1_37, if_neg w_1_38, if_neg w_1_39, if_neg w_1_40, if_neg w_1_41, if_neg w_1_42, if_neg w_1_43, if_neg w_1_44, if_neg w_1_45, if_neg w_1_49, if_neg w_1_64, if_neg w_1_65, if_neg w_1_66, if_neg w_1_68, if_neg w_1_69, if_neg w_1_72, if_neg w_1_73, if_neg w_1_74, if_neg w_1_75, if_pos w_1_76]
    exact m_iret X hr hk V (by rw [e9]) rfl dX6_loadsOf_443
  by_cases w_1_77 : x0 = 77
  · refine lv_lookup (off := 441) (tgt := 442) hx hb dX6_loadsOf_1 (by decide +kernel) (by rw [w_1_77]; rfl) (by decide) ?_
    refine lv_iconst (v := 3) hx hb dX6_loadsOf_442 (by decide) ?_
    have e9 : pX6_loadsOf x0 = (3) := by rw [pX6_loadsOf, if_neg w_1_0, if_neg w_1_16, if_neg w_1_17, if_neg w_1_18, if_neg w_1_19, if_neg w_1_20, if_neg w_1_21, if_neg w_1_24, if_neg w_1_25, if_neg w_1_26, if_neg w_1_27, if_neg w_1_28, if_neg w_1_29, if_neg w_1_30, if_neg w_1_32, if_neg w_1_34, if_neg w_1_35, if_neg w_1_36, if_neg w_1_37, if_neg w_1_38, if_neg w_1_39, if_neg w_1_40, if_neg w_1_41, if_neg w_1_42, if_neg w_1_43, if_neg w_1_44, if_neg w_1_45, if_neg w_1_49, if_neg w_1_64, if_neg w_1_65, if_neg w_1_66, if_neg w_1_68, if_neg w_1_69, if_neg w_1_72, if_neg w_1_73, if_neg w_1_74, if_neg w_1_75, if_neg w_1_76, if_pos w_1_77]
    exact m_iret X hr hk V (by rw [e9]) rfl dX6_loadsOf_443
  by_cases w_1_78 : x0 = 78
  · refine lv_lookup (off := 441) (tgt := 442) hx hb dX6_loadsOf_1 (by decide +kernel) (by rw [w_1_78]; rfl) (by decide) ?_
    refine lv_iconst (v := 3) hx hb dX6_loadsOf_442 (by decide) ?_
    have e9 : pX6_loadsOf x0 = (3) := by rw [pX6_loadsOf, if_neg w_1_0, if_neg w_1_16, if_neg w_1_17, if_neg w_1_18, if_neg w_1_19, if_neg w_1_20, if_neg w_1_21, if_neg w_1_24, if_neg w_1_25, if_neg w_1_26, if_neg w_1_27, if_neg w_1_28, if_neg w_1_29, if_neg w_1_30, if_neg w_1_32, if_neg w_1_34, if_neg w_1_35, if_neg w_1_36, if_neg w_1_37, if_neg w_1_38, if_neg w_1_39, if_neg w_1_40, if_neg w_1_41, if_neg w_1_42, if_neg w_1_43, if_neg w_1_44, if_neg w_1_45, if_neg w_1_49, if_neg w_1_64, if_neg w_1_65, if_neg w_1_66, if_neg w_1_68, if_neg w_1_69, if_neg w_1_72, if_neg w_1_73, if_neg w_1_74, if_neg w_1_75, if_neg w_1_76, if_neg w_1_77, if_pos w_1_78]
    exact m_iret X hr hk V (by rw [e9]) rfl dX6_loadsOf_443
  by_cases w_1_79 : x0 = 79
  · refine lv_lookup (off := 441) (tgt := 442) hx hb dX6_loadsOf_1 (by decide +kernel) (by rw [w_1_79]; rfl) (by decide) ?_
    refine lv_iconst (v := 3) hx hb dX6_loadsOf_442 (by decide) ?_
    have e9 : pX6_loadsOf x0 = (3) := by rw [pX6_loadsOf, if_neg w_1_0, if_neg w_1_16, if_neg w_1_17, if_neg w_1_18, if_neg w_1_19, if_neg w_1_20, if_neg w_1_21, if_neg w_1_24, if_neg w_1_25, if_neg w_1_26, if_neg w_1_27, if_neg w_1_28, if_neg w_1_29, if_neg w_1_30, if_neg w_1_32, if_neg w_1_34, if_neg w_1_35, if_neg w_1_36, if_neg w_1_37, if_neg w_1_38, if_neg w_1_39, if_neg w_1_40, if_neg w_1_41, if_neg w_1_42, if_neg w_1_43, if_neg w_1_44, if_neg w_1_45, if_neg w_1_49, if_neg w_1_64, if_neg w_1_65, if_neg w_1_66, if_neg w_1_68, if_neg w_1_69, if_neg w_1_72, if_neg w_1_73, if_neg w_1_74, if_neg w_1_75, if_neg w_1_76, if_neg w_1_77, if_neg w_1_78, if_pos w_1_79]
    exact m_iret X hr hk V (by rw [e9]) rfl dX6_loadsOf_443
  by_cases w_1_80 : x0 = 80
  · refine lv_lookup (off := 435) (tgt := 436) hx hb dX6_loadsOf_1 (by decide +kernel) (by rw [w_1_80]; rfl) (by decide) ?_
    refine lv_iconst (v := 0) hx hb dX6_loadsOf_436 (by decide) ?_
    have e9 : pX6_loadsOf x0 = (0) := by rw [pX6_loadsOf, if_neg w_1_0, if_neg w_1_16, if_neg w_1_17, if_neg w_1_18, if_neg w_1_19, if_neg w_1_20, if_neg w_1_21, if_neg w_1_24, if_neg w_1_25, if_neg w_1_26, if_neg w_1_27, if_neg w_1_28, if_neg w_1_29, if_neg w_1_30, if_neg w_1_32, if_neg w_1_34, if_neg w_1_35, if_neg w_1_36, if_neg w_1_37, if_neg w_1_38, if_neg w_1_39, if_neg w_1_40, if_neg w_1_41, if_neg w_1_42, if_neg w_1_43, if_neg w_1_44, if_neg w_1_45, if_neg w_1_49, if_neg w_1_64, if_neg w_1_65, if_neg w_1_66, if_neg w_1_68, if_neg w_1_69, if_neg w_1_72, if_neg w_1_73, if_neg w_1_74, if_neg w_1_75, if_neg w_1_76, if_neg w_1_77, if_neg w_1_78, if_neg w_1_79, if_pos w_1_80]
    exact m_iret X hr hk V (by rw [e9]) rfl dX6_loadsOf_437
  by_cases w_1_81 : x0 = 81
  · refine lv_lookup (off := 437) (tgt := 438) hx hb dX6_loadsOf_1 (by decide +kernel) (by rw [w_1_81]; rfl) (by decide) ?_
    refine lv_iconst (v := 1) hx hb dX6_loadsOf_438 (by decide) ?_
    have e9 : pX6_loadsOf x0 = (1) := by rw [pX6_loadsOf, if_neg w_1_0, if_neg w_1_16, if_neg w_1_17, if_neg w_1_18, if_neg w_1_19, if_neg w_1_20, if_neg w_1_21, if_neg w_1_24, if_neg w_1_25, if_neg w_1_26, if_neg w_1_27, if_neg w_1_28, if_neg w_1_29, if_neg w_1_30, if_neg w_1_32, if_neg w_1_34, if_neg w_1_35, if_neg w_1_36, if_neg w_1_37, if_neg w_1_38, if_neg w_1_39, if_neg w_1_40, if_neg w_1_41, if_neg w_1_42, if_neg w_1_43, if_neg w_1_44, if_neg w_1_45, if_neg w_1_49, if_neg w_1_64, if_neg w_1_65, if_neg w_1_66, if_neg w_1_68, if_neg w_1_69, if_neg w_1_72, if_neg w_1_73, if_neg w_1_74, if_neg w_1_75, if_neg w_1_76, if_neg w_1_77, if_neg w_1_78, if_neg w_1_79, if_neg w_1_80, if_pos w_1_81]
    exact m_iret X hr hk V (by rw [e9]) rfl dX6_loadsOf_439
  by_cases w_1_82 : x0 = 82
  · refine lv_lookup (off := 435) (tgt := 436) hx hb dX6_loadsOf_1 (by decide +kernel) (by rw [w_1_82]; rfl) (by decide) ?_
    refine lv_iconst (v := 0) hx hb dX6_loadsOf_436 (by decide) ?_
    have e9 : pX6_loadsOf x0 = (0) := by rw [pX6_loadsOf, if_neg w_1_0, if_neg w_1_16, if_neg w_1_17, if_neg w_1_18, if_neg w_1_19, if_neg w_1_20, if_neg w_1_21, if_neg w_1_24, if_neg w_1_25, if_neg w_1_26, if_neg w_1_27, if_neg w_1_28, if_neg w_1_29, if_neg w_1_30, if_neg w_1_32, if_neg w_1_34, if_neg w_1_35, if_neg w_1_36, if_neg w_1_37, if_neg w_1_38, if_neg w_1_39, if_neg w_1_40, if_neg w_1_41, if_neg w_1_42, if_neg w_1_43, if_neg w_1_44, if_neg w_1_45, if_neg w_1_49, if_neg w_1_64, if_neg w_1_65, if_neg w_1_66, if_neg w_1_68, if_neg w_1_69, if_neg w_1_72, if_neg w_1_73, if_neg w_1_74, if_neg w_1_75, if_neg w_1_76, if_neg w_1_77, if_neg w_1_78, if_neg w_1_79, if_neg w_1_80, if_neg w_1_81, if_pos w_1_82]
    exact m_iret X hr hk V (by rw [e9]) rfl dX6_loadsOf_437
  by_cases w_1_83 : x0 = 83
  · refine lv_lookup (off := 439) (tgt := 440) hx hb dX6_loadsOf_1 (by decide +kernel) (by rw [w_1_83]; rfl) (by decide) ?_
    refine lv_iconst (v := 2) hx hb dX6_loadsOf_440 (by decide) ?_
    have e9 : pX6_loadsOf x0 = (2) := by rw [pX6_loadsOf, if_neg w_1_0, if_neg w_1_16, if_neg w_1_17, if_neg w_1_18, if_neg w_1_19, if_neg w_1_20, if_neg w_1_21, if_neg w_1_24, if_neg w_1_25, if_neg w_1_26, if_neg w_1_27, if_neg w_1_28, if_neg w_1_29, if_neg w_1_30, if_neg w_1_32, if_neg w_1_34, if_neg w_1_35, if_neg w_1_36, if_neg w_1_37, if_neg w_1_38, if_neg w_1_39, if_neg w_1_40, if_neg w_1_41, if_neg w_1_42, if_neg w_1_43, if_neg w_1_44, if_neg w_1_45, if_neg w_1_49, if_neg w_1_64, if_neg w_1_65, if_neg w_1_66, if_neg w_1_68, if_neg w_1_69, if_neg w_1_72, if_neg w_1_73, if_neg w_1_74, if_neg w_1_75, if_neg w_1_76, if_neg w_1_77, if_neg w_1_78, if_neg w_1_79, if_neg w_1_80, if_neg w_1_81, if_neg w_1_82, if_pos w_1_83]
    exact m_iret X hr hk V (by rw [e9]) rfl dX6_loadsOf_441
  by_cases w_1_84 : x0 = 84
  · refine lv_lookup (off := 437) (tgt := 438) hx hb dX6_loadsOf_1 (by decide +kernel) (by rw [w_1_84]; rfl) (by decide) ?_
    refine lv_iconst (v := 1) hx hb dX6_loadsOf_438 (by decide) ?_
    have e9 : pX6_loadsOf x0 = (1) := by rw [pX6_loadsOf, if_neg w_1_0, if_neg w_1_16, if_neg w_1_17, if_neg w_1_18, if_neg w_1_19, if_neg w_1_20, if_neg w_1_21, if_neg w_1_24, if_neg w_1_25, if_neg w_1_26, if_neg w_1_27, if_neg w_1_28, if_neg w_1_29, if_neg w_1_30, if_neg w_1_32, if_neg w_1_34, if_neg w_1_35, if_neg w_1_36, if_neg w_1_37, if_neg w_1_38, if_neg w_1_39, if_neg w_1_40, if_neg w_1_41, if_neg w_1_42, if_neg w_1_43, if_neg w_1_44, if_neg w_1_45, if_neg w_1_49, if_neg w_1_64, if_neg w_1_65, if_neg w_1_66, if_neg w_1_68, if_neg w_1_69, if_neg w_1_72, if_neg w_1_73, if_neg w_1_74, if_neg w_1_75, if_neg w_1_76, if_neg w_1_77, if_neg w_1_78, if_neg w_1_79, if_neg w_1_80, if_neg w_1_81, if_neg w_1_82, if_neg w_1_83, if_pos w_1_84]
    exact m_iret X hr hk V (by rw [e9]) rfl dX6_loadsOf_439
  by_cases w_1_256 : x0 = 256
  · refine lv_lookup (off := 439) (tgt := 440) hx hb dX6_loadsOf_1 (by decide +kernel) (by rw [w_1_256]; rfl) (by decide) ?_
    refine lv_iconst (v := 2) hx hb dX6_loadsOf_440 (by decide) ?_
    have e9 : pX6_loadsOf x0 = (2) := by rw [pX6_loadsOf, if_neg w_1_0, if_neg w_1_16, if_neg w_1_17, if_neg w_1_18, if_neg w_1_19, if_neg w_1_20, if_neg w_1_21, if_neg w_1_24, if_neg w_1_25, if_neg w_1_26, if_neg w_1_27, if_neg w_1_28, if_neg w_1_29, if_neg w_1_30, if_neg w_1_32, if_neg w_1_34, if_neg w_1_35, if_neg w_1_36, if_neg w_1_37, if_neg w_1_38, if_neg w_1_39, if_neg w_1_40, if_neg w_1_41, if_neg w_1_42, if_neg w_1_43, if_neg w_1_44, if_neg w_1_45, if_neg w_1_49, if_neg w_1_64, if_neg w_1_65, if_neg w_1_66, if_neg w_1_68, if_neg w_1_69, if_neg w_1_72, if_neg w_1_73, if_neg w_1_74, if_neg w_1_75, if_neg w_1_76, if_neg w_1_77, if_neg w_1_78, if_neg w_1_79, if_neg w_1_80, if_neg w_1_81, if_neg w_1_82, if_neg w_1_83, if_neg w_1_84, if_pos w_1_256]
    exact m_iret X hr hk V (by rw [e9]) rfl dX6_loadsOf_441
  by_cases w_1_260 : x0 = 260
  · refine lv_lookup (off := 437) (tgt := 438) hx hb dX6_loadsOf_1 (by decide +kernel) (by rw [w_1_260]; rfl) (by decide) ?_
    refine lv_iconst (v := 1) hx hb dX6_loadsOf_438 (by decide) ?_
    have e9 : pX6_loadsOf x0 = (1) := by rw [pX6_loadsOf, if_neg w_1_0, if_neg w_1_16, if_neg w_1_17, if_neg w_1_18, if_neg w_1_19, if_neg w_1_20, if_neg w_1_21, if_neg w_1_24, if_neg w_1_25, if_neg w_1_26, if_neg w_1_27, if_neg w_1_28, if_neg w_1_29, if_neg w_1_30, if_neg w_1_32, if_neg w_1_34, if_neg w_1_35, if_neg w_1_36, if_neg w_1_37, if_neg w_1_38, if_neg w_1_39, if_neg w_1_40, if_neg w_1_41, if_neg w_1_42, if_neg w_1_43, if_neg w_1_44, if_neg w_1_45, if_neg w_1_49, if_neg w_1_64, if_neg w_1_65, if_neg w_1_66, if_neg w_1_68, if_neg w_1_69, if_neg w_1_72, if_neg w_1_73, if_neg w_1_74, if_neg w_1_75, if_neg w_1_76, if_neg w_1_77, if_neg w_1_78, if_neg w_1_79, if_neg w_1_80, if_neg w_1_81, if_neg w_1_82, if_neg w_1_83, if_neg w_1_84, if_neg w_1_256, if_pos w_1_260]
    exact m_iret X hr hk V (by rw [e9]) rfl dX6_loadsOf_439
  by_cases w_1_288 : x0 = 288
  · refine lv_lookup (off := 435) (tgt := 436) hx hb dX6_loadsOf_1 (by decide +kernel) (by rw [w_1_288]; rfl) (by decide) ?_
    refine lv_iconst (v := 0) hx hb dX6_loadsOf_436 (by decide) ?_
    have e9 : pX6_loadsOf x0 = (0) := by rw [pX6_loadsOf, if_neg w_1_0, if_neg w_1_16, if_neg w_1_17, if_neg w_1_18, if_neg w_1_19, if_neg w_1_20, if_neg w_1_21, if_neg w_1_24, if_neg w_1_25, if_neg w_1_26, if_neg w_1_27, if_neg w_1_28, if_neg w_1_29, if_neg w_1_30, if_neg w_1_32, if_neg w_1_34, if_neg w_1_35, if_neg w_1_36, if_neg w_1_37, if_neg w_1_38, if_neg w_1_39, if_neg w_1_40, if_neg w_1_41, if_neg w_1_42, if_neg w_1_43, if_neg w_1_44, if_neg w_1_45, if_neg w_1_49, if_neg w_1_64, if_neg w_1_65, if_neg w_1_66, if_neg w_1_68, if_neg w_1_69, if_neg w_1_72, if_neg w_1_73, if_neg w_1_74, if_neg w_1_75, if_neg w_1_76, if_neg w_1_77, if_neg w_1_78, if_neg w_1_79, if_neg w_1_80, if_neg w_1_81, if_neg w_1_82, if_neg w_1_83, if_neg w_1_84, if_neg w_1_256, if_neg w_1_260, if_pos w_1_288]
    exact m_iret X hr hk V (by rw [e9]) rfl dX6_loadsOf_437
  by_cases w_1_336 : x0 = 336
  · refine lv_lookup (off := 443) (tgt := 444) hx hb dX6_loadsOf_1 (by decide +kernel) (by rw [w_1_336]; rfl) (by decide) ?_
    refine lv_bipush (v := 7) hx hb dX6_loadsOf_444 (by decide) ?_
    have e9 : pX6_loadsOf x0 = (7) := by rw [pX6_loadsOf, if_neg w_1_0, if_neg w_1_16, if_neg w_1_17, if_neg w_1_18, if_neg w_1_19, if_neg w_1_20, if_neg w_1_21, if_neg w_1_24, if_neg w_1_25, if_neg w_1_26, if_neg w_1_27, if_neg w_1_28, if_neg w_1_29, if_neg w_1_30, if_neg w_1_32, if_neg w_1_34, if_neg w_1_35, if_neg w_1_36, if_neg w_1_37, if_neg w_1_38, if_neg w_1_39, if_neg w_1_40, if_neg w_1_41, if_neg w_1_42, if_neg w_1_43, if_neg w_1_44, if_neg w_1_45, if_neg w_1_49, if_neg w_1_64, if_neg w_1_65, if_neg w_1_66, if_neg w_1_68, if_neg w_1_69, if_neg w_1_72, if_neg w_1_73, if_neg w_1_74, if_neg w_1_75, if_neg w_1_76, if_neg w_1_77, if_neg w_1_78, if_neg w_1_79, if_neg w_1_80, if_neg w_1_81, if_neg w_1_82, if_neg w_1_83, if_neg w_1_84, if_neg w_1_256, if_neg w_1_260, if_neg w_1_288, if_pos w_1_336]
    exact m_iret X hr hk V (by rw [e9]) rfl dX6_loadsOf_446
  by_cases w_1_337 : x0 = 337
  · refine lv_lookup (off := 443) (tgt := 444) hx hb dX6_loadsOf_1 (by decide +kernel) (by rw [w_1_337]; rfl) (by decide) ?_
    refine lv_bipush (v := 7) hx hb dX6_loadsOf_444 (by decide) ?_
    have e9 : pX6_loadsOf x0 = (7) := by rw [pX6_loadsOf, if_neg w_1_0, if_neg w_1_16, if_neg w_1_17, if_neg w_1_18, if_neg w_1_19, if_neg w_1_20, if_neg w_1_21, if_neg w_1_24, if_neg w_1_25, if_neg w_1_26, if_neg w_1_27, if_neg w_1_28, if_neg w_1_29, if_neg w_1_30, if_neg w_1_32, if_neg w_1_34, if_neg w_1_35, if_neg w_1_36, if_neg w_1_37, if_neg w_1_38, if_neg w_1_39, if_neg w_1_40, if_neg w_1_41, if_neg w_1_42, if_neg w_1_43, if_neg w_1_44, if_neg w_1_45, if_neg w_1_49, if_neg w_1_64, if_neg w_1_65, if_neg w_1_66, if_neg w_1_68, if_neg w_1_69, if_neg w_1_72, if_neg w_1_73, if_neg w_1_74, if_neg w_1_75, if_neg w_1_76, if_neg w_1_77, if_neg w_1_78, if_neg w_1_79, if_neg w_1_80, if_neg w_1_81, if_neg w_1_82, if_neg w_1_83, if_neg w_1_84, if_neg w_1_256, if_neg w_1_260, if_neg w_1_288, if_neg w_1_336, if_pos w_1_337]
    exact m_iret X hr hk V (by rw [e9]) rfl dX6_loadsOf_446
  by_cases w_1_368 : x0 = 368
  · refine lv_lookup (off := 439) (tgt := 440) hx hb dX6_loadsOf_1 (by decide +kernel) (by rw [w_1_368]; rfl) (by decide) ?_
    refine lv_iconst (v := 2) hx hb dX6_loadsOf_440 (by decide) ?_
    have e9 : pX6_loadsOf x0 = (2) := by rw [pX6_loadsOf, if_neg w_1_0, if_neg w_1_16, if_neg w_1_17, if_neg w_1_18, if_neg w_1_19, if_neg w_1_20, if_neg w_1_21, if_neg w_1_24, if_neg w_1_25, if_neg w_1_26, if_neg w_1_27, if_neg w_1_28, if_neg w_1_29, if_neg w_1_30, if_neg w_1_32, if_neg w_1_34, if_neg w_1_35, if_neg w_1_36, if_neg w_1_37, if_neg w_1_38, if_neg w_1_39, if_neg w_1_40, if_neg w_1_41, if_neg w_1_42, if_neg w_1_43, if_neg w_1_44, if_neg w_1_45, if_neg w_1_49, if_neg w_1_64, if_neg w_1_65, if_neg w_1_66, if_neg w_1_68, if_neg w_1_69, if_neg w_1_72, if_neg w_1_73, if_neg w_1_74, if_neg w_1_75, if_neg w_1_76, if_neg w_1_77, if_neg w_1_78, if_neg w_1_79, if_neg w_1_80, if_neg w_1_81, if_neg w_1_82, if_neg w_1_83, if_neg w_1_84, if_neg w_1_256, if_neg w_1_260, if_neg w_1_288, if_neg w_1_336, if_neg w_1_337, if_pos w_1_368]
    exact m_iret X hr hk V (by rw [e9]) rfl dX6_loadsOf_441
  by_cases w_1_369 : x0 = 369
  · refine lv_lookup (off := 441) (tgt := 442) hx hb dX6_loadsOf_1 (by decide +kernel) (by rw [w_1_369]; rfl) (by decide) ?_
    refine lv_iconst (v := 3) hx hb dX6_loadsOf_442 (by decide) ?_
    have e9 : pX6_loadsOf x0 = (3) := by rw [pX6_loadsOf, if_neg w_1_0, if_neg w_1_16, if_neg w_1_17, if_neg w_1_18, if_neg w_1_19, if_neg w_1_20, if_neg w_1_21, if_neg w_1_24, if_neg w_1_25, if_neg w_1_26, if_neg w_1_27, if_neg w_1_28, if_neg w_1_29, if_neg w_1_30, if_neg w_1_32, if_neg w_1_34, if_neg w_1_35, if_neg w_1_36, if_neg w_1_37, if_neg w_1_38, if_neg w_1_39, if_neg w_1_40, if_neg w_1_41, if_neg w_1_42, if_neg w_1_43, if_neg w_1_44, if_neg w_1_45, if_neg w_1_49, if_neg w_1_64, if_neg w_1_65, if_neg w_1_66, if_neg w_1_68, if_neg w_1_69, if_neg w_1_72, if_neg w_1_73, if_neg w_1_74, if_neg w_1_75, if_neg w_1_76, if_neg w_1_77, if_neg w_1_78, if_neg w_1_79, if_neg w_1_80, if_neg w_1_81, if_neg w_1_82, if_neg w_1_83, if_neg w_1_84, if_neg w_1_256, if_neg w_1_260, if_neg w_1_288, if_neg w_1_336, if_neg w_1_337, if_neg w_1_368, if_pos w_1_369]
    exact m_iret X hr hk V (by rw [e9]) rfl dX6_loadsOf_443
  refine lv_lookup (off := 446) (tgt := 447) hx hb dX6_loadsOf_1 (by decide +kernel) ((lv_osw w_1_0 rfl).trans ((lv_osw w_1_16 rfl).trans ((lv_osw w_1_17 rfl).trans ((lv_osw w_1_18 rfl).trans ((lv_osw w_1_19 rfl).trans ((lv_osw w_1_20 rfl).trans ((lv_osw w_1_21 rfl).trans ((lv_osw w_1_24 rfl).trans ((lv_osw w_1_25 rfl).trans ((lv_osw w_1_26 rfl).trans ((lv_osw w_1_27 rfl).trans ((lv_osw w_1_28 rfl).trans ((lv_osw w_1_29 rfl).trans ((lv_osw w_1_30 rfl).trans ((lv_osw w_1_32 rfl).trans ((lv_osw w_1_34 rfl).trans ((lv_osw w_1_35 rfl).trans ((lv_osw w_1_36 rfl).trans ((lv_osw w_1_37 rfl).trans ((lv_osw w_1_38 rfl).trans ((lv_osw w_1_39 rfl).trans ((lv_osw w_1_40 rfl).trans ((lv_osw w_1_41 rfl).trans ((lv_osw w_1_42 rfl).trans ((lv_osw w_1_43 rfl).trans ((lv_osw w_1_44 rfl).trans ((lv_osw w_1_45 rfl).trans ((lv_osw w_1_49 rfl).trans ((lv_osw w_1_64 rfl).trans ((lv_osw w_1_65 rfl).trans ((lv_osw w_1_66 rfl).trans ((lv_osw w_1_68 rfl).trans ((lv_osw w_1_69 rfl).trans ((lv_osw w_1_72 rfl).trans ((lv_osw w_1_73 rfl).trans ((lv_osw w_1_74 rfl).trans ((lv_osw w_1_75 rfl).trans ((lv_osw w_1_76 rfl).trans ((lv_osw w_1_77 rfl).trans ((lv_osw w_1_78 rfl).trans ((lv_osw w_1_79 rfl).trans ((lv_osw w_1_80 rfl).trans ((lv_osw w_1_81 rfl).trans ((lv_osw w_1_82 rfl).trans ((lv_osw w_1_83 rfl).trans ((lv_osw w_1_84 rfl).trans ((lv_osw w_1_256 rfl).trans ((lv_osw w_1_260 rfl).trans ((lv_osw w_1_288 rfl).trans ((lv_osw w_1_336 rfl).trans ((lv_osw w_1_337 rfl).trans ((lv_osw w_1_368 rfl).trans ((lv_osw w_1_369 rfl).trans (rfl)))))))))))))))))))))))))))))))))))))))))))))))))))))) (by decide) ?_
  refine lv_iconst (v := (-1)) hx hb dX6_loadsOf_447 (by decide) ?_
  have e9 : pX6_loadsOf x0 = ((-1)) := by rw [pX6_loadsOf, if_neg w_1_0, if_neg w_1_16, if_neg w_1_17, if_neg w_1_18, if_neg w_1_19, if_neg w_1_20, if_neg w_1_21, if_neg w_1_24, if_neg w_1_25, if_neg w_1_26, if_neg w_1_27, if_neg w_1_28, if_neg w_1_29, if_neg w_1_30, if_neg w_1_32, if_neg w_1_34, if_neg w_1_35, if_neg w_1_36, if_neg w_1_37, if_neg w_1_38, if_neg w_1_39, if_neg w_1_40, if_neg w_1_41, if_neg w_1_42, if_neg w_1_43, if_neg w_1_44, if_neg w_1_45, if_neg w_1_49, if_neg w_1_64, if_neg w_1_65, if_neg w_1_66, if_neg w_1_68, if_neg w_1_69, if_neg w_1_72, if_neg w_1_73, if_neg w_1_74, if_neg w_1_75, if_neg w_1_76, if_neg w_1_77, if_neg w_1_78, if_neg w_1_79, if_neg w_1_80, if_neg w_1_81, if_neg w_1_82, if_neg w_1_83, if_neg w_1_84, if_neg w_1_256, if_neg w_1_260, if_neg w_1_288, if_neg w_1_336, if_neg w_1_337, if_neg w_1_368, if_neg w_1_369]
  exact m_iret X hr hk V (by rw [e9]) rfl dX6_loadsOf_448
def pX6_stores (x0 : Int32) : Int32 := (if x0 = 16 then (1) else (if x0 = 17 then (1) else (if x0 = 18 then (1) else (if x0 = 19 then (1) else (if x0 = 20 then (1) else (if x0 = 21 then (1) else (if x0 = 24 then (1) else (if x0 = 25 then (1) else (if x0 = 26 then (1) else (if x0 = 27 then (1) else (if x0 = 28 then (1) else (if x0 = 29 then (1) else (if x0 = 30 then (1) else (if x0 = 64 then (1) else (if x0 = 65 then (1) else (if x0 = 66 then (1) else (if x0 = 68 then (1) else (if x0 = 69 then (1) else (if x0 = 72 then (1) else (if x0 = 73 then (1) else (if x0 = 74 then (1) else (if x0 = 75 then (1) else (if x0 = 80 then (1) else (if x0 = 81 then (1) else (if x0 = 256 then (1) else (if x0 = 336 then (1) else (if x0 = 337 then (1) else (0))))))))))))))))))))))))))))
theorem okX6_stores : mOk yX6_stores cX6_stores 1 (some .boolean) 1 := ⟨gm_192, gm_9, by decide +kernel⟩
set_option maxRecDepth 100000 in
set_option maxHeartbeats 4000000 in
theorem kX6_stores (l : Launch) (D : va_G) (cB cI : ClassId) (x0 : Int32) : mM l D cB cI yX6_stores cX6_stores 1 (some .boolean) { frames := 0, cells := 0, slots := 0, locals := 0 } [.int x0] [] (some (pX6_stores x0)) [] := by
  refine m_start (by decide +kernel) (Nat.le_of_ble_eq_true rfl) ?_
  intro p e s m below meth c A ls X hr hk V hl
  have X : mCx p s m _ c cX6_stores 1 RX6 D cB cI := X
  have hx := X.1.1
  have hb := X.1.2.1
  have hl : lv_has ls 1 [(0, .int x0)] := hl
  refine lv_iload_n hx hb dX6_stores_0 rfl (lv_at hl 0 rfl) ?_
  by_cases w_1_16 : x0 = 16
  · refine lv_lookup (off := 227) (tgt := 228) hx hb dX6_stores_1 (by decide +kernel) (by rw [w_1_16]; rfl) (by decide) ?_
    refine lv_iconst (v := 1) hx hb dX6_stores_228 (by decide) ?_
    have e9 : pX6_stores x0 = (1) := by rw [pX6_stores, if_pos w_1_16]
    exact m_zret X hr hk V rfl (by rw [e9]) rfl dX6_stores_229
  by_cases w_1_17 : x0 = 17
  · refine lv_lookup (off := 227) (tgt := 228) hx hb dX6_stores_1 (by decide +kernel) (by rw [w_1_17]; rfl) (by decide) ?_
    refine lv_iconst (v := 1) hx hb dX6_stores_228 (by decide) ?_
    have e9 : pX6_stores x0 = (1) := by rw [pX6_stores, if_neg w_1_16, if_pos w_1_17]
    exact m_zret X hr hk V rfl (by rw [e9]) rfl dX6_stores_229
  by_cases w_1_18 : x0 = 18
  · refine lv_lookup (off := 227) (tgt := 228) hx hb dX6_stores_1 (by decide +kernel) (by rw [w_1_18]; rfl) (by decide) ?_
    refine lv_iconst (v := 1) hx hb dX6_stores_228 (by decide) ?_
    have e9 : pX6_stores x0 = (1) := by rw [pX6_stores, if_neg w_1_16, if_neg w_1_17, if_pos w_1_18]
    exact m_zret X hr hk V rfl (by rw [e9]) rfl dX6_stores_229
  by_cases w_1_19 : x0 = 19
  · refine lv_lookup (off := 227) (tgt := 228) hx hb dX6_stores_1 (by decide +kernel) (by rw [w_1_19]; rfl) (by decide) ?_
    refine lv_iconst (v := 1) hx hb dX6_stores_228 (by decide) ?_
    have e9 : pX6_stores x0 = (1) := by rw [pX6_stores, if_neg w_1_16, if_neg w_1_17, if_neg w_1_18, if_pos w_1_19]
    exact m_zret X hr hk V rfl (by rw [e9]) rfl dX6_stores_229
  by_cases w_1_20 : x0 = 20
  · refine lv_lookup (off := 227) (tgt := 228) hx hb dX6_stores_1 (by decide +kernel) (by rw [w_1_20]; rfl) (by decide) ?_
    refine lv_iconst (v := 1) hx hb dX6_stores_228 (by decide) ?_
    have e9 : pX6_stores x0 = (1) := by rw [pX6_stores, if_neg w_1_16, if_neg w_1_17, if_neg w_1_18, if_neg w_1_19, if_pos w_1_20]
    exact m_zret X hr hk V rfl (by rw [e9]) rfl dX6_stores_229
  by_cases w_1_21 : x0 = 21
  · refine lv_lookup (off := 227) (tgt := 228) hx hb dX6_stores_1 (by decide +kernel) (by rw [w_1_21]; rfl) (by decide) ?_
    refine lv_iconst (v := 1) hx hb dX6_stores_228 (by decide) ?_
    have e9 : pX6_stores x0 = (1) := by rw [pX6_stores, if_neg w_1_16, if_neg w_1_17, if_neg w_1_18, if_neg w_1_19, if_neg w_1_20, if_pos w_1_21]
    exact m_zret X hr hk V rfl (by rw [e9]) rfl dX6_stores_229
  by_cases w_1_24 : x0 = 24
  · refine lv_lookup (off := 227) (tgt := 228) hx hb dX6_stores_1 (by decide +kernel) (by rw [w_1_24]; rfl) (by decide) ?_
    refine lv_iconst (v := 1) hx hb dX6_stores_228 (by decide) ?_
    have e9 : pX6_stores x0 = (1) := by rw [pX6_stores, if_neg w_1_16, if_neg w_1_17, if_neg w_1_18, if_neg w_1_19, if_neg w_1_20, if_neg w_1_21, if_pos w_1_24]
    exact m_zret X hr hk V rfl (by rw [e9]) rfl dX6_stores_229
  by_cases w_1_25 : x0 = 25
  · refine lv_lookup (off := 227) (tgt := 228) hx hb dX6_stores_1 (by decide +kernel) (by rw [w_1_25]; rfl) (by decide) ?_
    refine lv_iconst (v := 1) hx hb dX6_stores_228 (by decide) ?_
    have e9 : pX6_stores x0 = (1) := by rw [pX6_stores, if_neg w_1_16, if_neg w_1_17, if_neg w_1_18, if_neg w_1_19, if_neg w_1_20, if_neg w_1_21, if_neg w_1_24, if_pos w_1_25]
    exact m_zret X hr hk V rfl (by rw [e9]) rfl dX6_stores_229
  by_cases w_1_26 : x0 = 26
  · refine lv_lookup (off := 227) (tgt := 228) hx hb dX6_stores_1 (by decide +kernel) (by rw [w_1_26]; rfl) (by decide) ?_
    refine lv_iconst (v := 1) hx hb dX6_stores_228 (by decide) ?_
    have e9 : pX6_stores x0 = (1) := by rw [pX6_stores, if_neg w_1_16, if_neg w_1_17, if_neg w_1_18, if_neg w_1_19, if_neg w_1_20, if_neg w_1_21, if_neg w_1_24, if_neg w_1_25, if_pos w_1_26]
    exact m_zret X hr hk V rfl (by rw [e9]) rfl dX6_stores_229
  by_cases w_1_27 : x0 = 27
  · refine lv_lookup (off := 227) (tgt := 228) hx hb dX6_stores_1 (by decide +kernel) (by rw [w_1_27]; rfl) (by decide) ?_
    refine lv_iconst (v := 1) hx hb dX6_stores_228 (by decide) ?_
    have e9 : pX6_stores x0 = (1) := by rw [pX6_stores, if_neg w_1_16, if_neg w_1_17, if_neg w_1_18, if_neg w_1_19, if_neg w_1_20, if_neg w_1_21, if_neg w_1_24, if_neg w_1_25, if_neg w_1_26, if_pos w_1_27]
    exact m_zret X hr hk V rfl (by rw [e9]) rfl dX6_stores_229
  by_cases w_1_28 : x0 = 28
  · refine lv_lookup (off := 227) (tgt := 228) hx hb dX6_stores_1 (by decide +kernel) (by rw [w_1_28]; rfl) (by decide) ?_
    refine lv_iconst (v := 1) hx hb dX6_stores_228 (by decide) ?_
    have e9 : pX6_stores x0 = (1) := by rw [pX6_stores, if_neg w_1_16, if_neg w_1_17, if_neg w_1_18, if_neg w_1_19, if_neg w_1_20, if_neg w_1_21, if_neg w_1_24, if_neg w_1_25, if_neg w_1_26, if_neg w_1_27, if_pos w_1_28]
    exact m_zret X hr hk V rfl (by rw [e9]) rfl dX6_stores_229
  by_cases w_1_29 : x0 = 29
  · refine lv_lookup (off := 227) (tgt := 228) hx hb dX6_stores_1 (by decide +kernel) (by rw [w_1_29]; rfl) (by decide) ?_
    refine lv_iconst (v := 1) hx hb dX6_stores_228 (by decide) ?_
    have e9 : pX6_stores x0 = (1) := by rw [pX6_stores, if_neg w_1_16, if_neg w_1_17, if_neg w_1_18, if_neg w_1_19, if_neg w_1_20, if_neg w_1_21, if_neg w_1_24, if_neg w_1_25, if_neg w_1_26, if_neg w_1_27, if_neg w_1_28, if_pos w_1_29]
    exact m_zret X hr hk V rfl (by rw [e9]) rfl dX6_stores_229
  by_cases w_1_30 : x0 = 30
  · refine lv_lookup (off := 227) (tgt := 228) hx hb dX6_stores_1 (by decide +kernel) (by rw [w_1_30]; rfl) (by decide) ?_
    refine lv_iconst (v := 1) hx hb dX6_stores_228 (by decide) ?_
    have e9 : pX6_stores x0 = (1) := by rw [pX6_stores, if_neg w_1_16, if_neg w_1_17, if_neg w_1_18, if_neg w_1_19, if_neg w_1_20, if_neg w_1_21, if_neg w_1_24, if_neg w_1_25, if_neg w_1_26, if_neg w_1_27, if_neg w_1_28, if_neg w_1_29, if_pos w_1_30]
    exact m_zret X hr hk V rfl (by rw [e9]) rfl dX6_stores_229
  by_cases w_1_64 : x0 = 64
  · refine lv_lookup (off := 227) (tgt := 228) hx hb dX6_stores_1 (by decide +kernel) (by rw [w_1_64]; rfl) (by decide) ?_
    refine lv_iconst (v := 1) hx hb dX6_stores_228 (by decide) ?_
    have e9 : pX6_stores x0 = (1) := by rw [pX6_stores, if_neg w_1_16, if_neg w_1_17, if_neg w_1_18, if_neg w_1_19, if_neg w_1_20, if_neg w_1_21, if_neg w_1_24, if_neg w_1_25, if_neg w_1_26, if_neg w_1_27, if_neg w_1_28, if_neg w_1_29, if_neg w_1_30, if_pos w_1_64]
    exact m_zret X hr hk V rfl (by rw [e9]) rfl dX6_stores_229
  by_cases w_1_65 : x0 = 65
  · refine lv_lookup (off := 227) (tgt := 228) hx hb dX6_stores_1 (by decide +kernel) (by rw [w_1_65]; rfl) (by decide) ?_
    refine lv_iconst (v := 1) hx hb dX6_stores_228 (by decide) ?_
    have e9 : pX6_stores x0 = (1) := by rw [pX6_stores, if_neg w_1_16, if_neg w_1_17, if_neg w_1_18, if_neg w_1_19, if_neg w_1_20, if_neg w_1_21, if_neg w_1_24, if_neg w_1_25, if_neg w_1_26, if_neg w_1_27, if_neg w_1_28, if_neg w_1_29, if_neg w_1_30, if_neg w_1_64, if_pos w_1_65]
    exact m_zret X hr hk V rfl (by rw [e9]) rfl dX6_stores_229
  by_cases w_1_66 : x0 = 66
  · refine lv_lookup (off := 227) (tgt := 228) hx hb dX6_stores_1 (by decide +kernel) (by rw [w_1_66]; rfl) (by decide) ?_
    refine lv_iconst (v := 1) hx hb dX6_stores_228 (by decide) ?_
    have e9 : pX6_stores x0 = (1) := by rw [pX6_stores, if_neg w_1_16, if_neg w_1_17, if_neg w_1_18, if_neg w_1_19, if_neg w_1_20, if_neg w_1_21, if_neg w_1_24, if_neg w_1_25, if_neg w_1_26, if_neg w_1_27, if_neg w_1_28, if_neg w_1_29, if_neg w_1_30, if_neg w_1_64, if_neg w_1_65, if_pos w_1_66]
    exact m_zret X hr hk V rfl (by rw [e9]) rfl dX6_stores_229
  by_cases w_1_68 : x0 = 68
  · refine lv_lookup (off := 227) (tgt := 228) hx hb dX6_stores_1 (by decide +kernel) (by rw [w_1_68]; rfl) (by decide) ?_
    refine lv_iconst (v := 1) hx hb dX6_stores_228 (by decide) ?_
    have e9 : pX6_stores x0 = (1) := by rw [pX6_stores, if_neg w_1_16, if_neg w_1_17, if_neg w_1_18, if_neg w_1_19, if_neg w_1_20, if_neg w_1_21, if_neg w_1_24, if_neg w_1_25, if_neg w_1_26, if_neg w_1_27, if_neg w_1_28, if_neg w_1_29, if_neg w_1_30, if_neg w_1_64, if_neg w_1_65, if_neg w_1_66, if_pos w_1_68]
    exact m_zret X hr hk V rfl (by rw [e9]) rfl dX6_stores_229
  by_cases w_1_69 : x0 = 69
  · refine lv_lookup (off := 227) (tgt := 228) hx hb dX6_stores_1 (by decide +kernel) (by rw [w_1_69]; rfl) (by decide) ?_
    refine lv_iconst (v := 1) hx hb dX6_stores_228 (by decide) ?_
    have e9 : pX6_stores x0 = (1) := by rw [pX6_stores, if_neg w_1_16, if_neg w_1_17, if_neg w_1_18, if_neg w_1_19, if_neg w_1_20, if_neg w_1_21, if_neg w_1_24, if_neg w_1_25, if_neg w_1_26, if_neg w_1_27, if_neg w_1_28, if_neg w_1_29, if_neg w_1_30, if_neg w_1_64, if_neg w_1_65, if_neg w_1_66, if_neg w_1_68, if_pos w_1_69]
    exact m_zret X hr hk V rfl (by rw [e9]) rfl dX6_stores_229
  by_cases w_1_72 : x0 = 72
  · refine lv_lookup (off := 227) (tgt := 228) hx hb dX6_stores_1 (by decide +kernel) (by rw [w_1_72]; rfl) (by decide) ?_
    refine lv_iconst (v := 1) hx hb dX6_stores_228 (by decide) ?_
    have e9 : pX6_stores x0 = (1) := by rw [pX6_stores, if_neg w_1_16, if_neg w_1_17, if_neg w_1_18, if_neg w_1_19, if_neg w_1_20, if_neg w_1_21, if_neg w_1_24, if_neg w_1_25, if_neg w_1_26, if_neg w_1_27, if_neg w_1_28, if_neg w_1_29, if_neg w_1_30, if_neg w_1_64, if_neg w_1_65, if_neg w_1_66, if_neg w_1_68, if_neg w_1_69, if_pos w_1_72]
    exact m_zret X hr hk V rfl (by rw [e9]) rfl dX6_stores_229
  by_cases w_1_73 : x0 = 73
  · refine lv_lookup (off := 227) (tgt := 228) hx hb dX6_stores_1 (by decide +kernel) (by rw [w_1_73]; rfl) (by decide) ?_
    refine lv_iconst (v := 1) hx hb dX6_stores_228 (by decide) ?_
    have e9 : pX6_stores x0 = (1) := by rw [pX6_stores, if_neg w_1_16, if_neg w_1_17, if_neg w_1_18, if_neg w_1_19, if_neg w_1_20, if_neg w_1_21, if_neg w_1_24, if_neg w_1_25, if_neg w_1_26, if_neg w_1_27, if_neg w_1_28, if_neg w_1_29, if_neg w_1_30, if_neg w_1_64, if_neg w_1_65, if_neg w_1_66, if_neg w_1_68, if_neg w_1_69, if_neg w_1_72, if_pos w_1_73]
    exact m_zret X hr hk V rfl (by rw [e9]) rfl dX6_stores_229
  by_cases w_1_74 : x0 = 74
  · refine lv_lookup (off := 227) (tgt := 228) hx hb dX6_stores_1 (by decide +kernel) (by rw [w_1_74]; rfl) (by decide) ?_
    refine lv_iconst (v := 1) hx hb dX6_stores_228 (by decide) ?_
    have e9 : pX6_stores x0 = (1) := by rw [pX6_stores, if_neg w_1_16, if_neg w_1_17, if_neg w_1_18, if_neg w_1_19, if_neg w_1_20, if_neg w_1_21, if_neg w_1_24, if_neg w_1_25, if_neg w_1_26, if_neg w_1_27, if_neg w_1_28, if_neg w_1_29, if_neg w_1_30, if_neg w_1_64, if_neg w_1_65, if_neg w_1_66, if_neg w_1_68, if_neg w_1_69, if_neg w_1_72, if_neg w_1_73, if_pos w_1_74]
    exact m_zret X hr hk V rfl (by rw [e9]) rfl dX6_stores_229
  by_cases w_1_75 : x0 = 75
  · refine lv_lookup (off := 227) (tgt := 228) hx hb dX6_stores_1 (by decide +kernel) (by rw [w_1_75]; rfl) (by decide) ?_
    refine lv_iconst (v := 1) hx hb dX6_stores_228 (by decide) ?_
    have e9 : pX6_stores x0 = (1) := by rw [pX6_stores, if_neg w_1_16, if_neg w_1_17, if_neg w_1_18, if_neg w_1_19, if_neg w_1_20, if_neg w_1_21, if_neg w_1_24, if_neg w_1_25, if_neg w_1_26, if_neg w_1_27, if_neg w_1_28, if_neg w_1_29, if_neg w_1_30, if_neg w_1_64, if_neg w_1_65, if_neg w_1_66, if_neg w_1_68, if_neg w_1_69, if_neg w_1_72, if_neg w_1_73, if_neg w_1_74, if_pos w_1_75]
    exact m_zret X hr hk V rfl (by rw [e9]) rfl dX6_stores_229
  by_cases w_1_80 : x0 = 80
  · refine lv_lookup (off := 227) (tgt := 228) hx hb dX6_stores_1 (by decide +kernel) (by rw [w_1_80]; rfl) (by decide) ?_
    refine lv_iconst (v := 1) hx hb dX6_stores_228 (by decide) ?_
    have e9 : pX6_stores x0 = (1) := by rw [pX6_stores, if_neg w_1_16, if_neg w_1_17, if_neg w_1_18, if_neg w_1_19, if_neg w_1_20, if_neg w_1_21, if_neg w_1_24, if_neg w_1_25, if_neg w_1_26, if_neg w_1_27, if_neg w_1_28, if_neg w_1_29, if_neg w_1_30, if_neg w_1_64, if_neg w_1_65, if_neg w_1_66, if_neg w_1_68, if_neg w_1_69, if_neg w_1_72, if_neg w_1_73, if_neg w_1_74, if_neg w_1_75, if_pos w_1_80]
    exact m_zret X hr hk V rfl (by rw [e9]) rfl dX6_stores_229
  by_cases w_1_81 : x0 = 81
  · refine lv_lookup (off := 227) (tgt := 228) hx hb dX6_stores_1 (by decide +kernel) (by rw [w_1_81]; rfl) (by decide) ?_
    refine lv_iconst (v := 1) hx hb dX6_stores_228 (by decide) ?_
    have e9 : pX6_stores x0 = (1) := by rw [pX6_stores, if_neg w_1_16, if_neg w_1_17, if_neg w_1_18, if_neg w_1_19, if_neg w_1_20, if_neg w_1_21, if_neg w_1_24, if_neg w_1_25, if_neg w_1_26, if_neg w_1_27, if_neg w_1_28, if_neg w_1_29, if_neg w_1_30, if_neg w_1_64, if_neg w_1_65, if_neg w_1_66, if_neg w_1_68, if_neg w_1_69, if_neg w_1_72, if_neg w_1_73, if_neg w_1_74, if_neg w_1_75, if_neg w_1_80, if_pos w_1_81]
    exact m_zret X hr hk V rfl (by rw [e9]) rfl dX6_stores_229
  by_cases w_1_256 : x0 = 256
  · refine lv_lookup (off := 227) (tgt := 228) hx hb dX6_stores_1 (by decide +kernel) (by rw [w_1_256]; rfl) (by decide) ?_
    refine lv_iconst (v := 1) hx hb dX6_stores_228 (by decide) ?_
    have e9 : pX6_stores x0 = (1) := by rw [pX6_stores, if_neg w_1_16, if_neg w_1_17, if_neg w_1_18, if_neg w_1_19, if_neg w_1_20, if_neg w_1_21, if_neg w_1_24, if_neg w_1_25, if_neg w_1_26, if_neg w_1_27, if_neg w_1_28, if_neg w_1_29, if_neg w_1_30, if_neg w_1_64, if_neg w_1_65, if_neg w_1_66, if_neg w_1_68, if_neg w_1_69, if_neg w_1_72, if_neg w_1_73, if_neg w_1_74, if_neg w_1_75, if_neg w_1_80, if_neg w_1_81, if_pos w_1_256]
    exact m_zret X hr hk V rfl (by rw [e9]) rfl dX6_stores_229
  by_cases w_1_336 : x0 = 336
  · refine lv_lookup (off := 227) (tgt := 228) hx hb dX6_stores_1 (by decide +kernel) (by rw [w_1_336]; rfl) (by decide) ?_
    refine lv_iconst (v := 1) hx hb dX6_stores_228 (by decide) ?_
    have e9 : pX6_stores x0 = (1) := by rw [pX6_stores, if_neg w_1_16, if_neg w_1_17, if_neg w_1_18, if_neg w_1_19, if_neg w_1_20, if_neg w_1_21, if_neg w_1_24, if_neg w_1_25, if_neg w_1_26, if_neg w_1_27, if_neg w_1_28, if_neg w_1_29, if_neg w_1_30, if_neg w_1_64, if_neg w_1_65, if_neg w_1_66, if_neg w_1_68, if_neg w_1_69, if_neg w_1_72, if_neg w_1_73, if_neg w_1_74, if_neg w_1_75, if_neg w_1_80, if_neg w_1_81, if_neg w_1_256, if_pos w_1_336]
    exact m_zret X hr hk V rfl (by rw [e9]) rfl dX6_stores_229
  by_cases w_1_337 : x0 = 337
  · refine lv_lookup (off := 227) (tgt := 228) hx hb dX6_stores_1 (by decide +kernel) (by rw [w_1_337]; rfl) (by decide) ?_
    refine lv_iconst (v := 1) hx hb dX6_stores_228 (by decide) ?_
    have e9 : pX6_stores x0 = (1) := by rw [pX6_stores, if_neg w_1_16, if_neg w_1_17, if_neg w_1_18, if_neg w_1_19, if_neg w_1_20, if_neg w_1_21, if_neg w_1_24, if_neg w_1_25, if_neg w_1_26, if_neg w_1_27, if_neg w_1_28, if_neg w_1_29, if_neg w_1_30, if_neg w_1_64, if_neg w_1_65, if_neg w_1_66, if_neg w_1_68, if_neg w_1_69, if_neg w_1_72, if_neg w_1_73, if_neg w_1_74, if_neg w_1_75, if_neg w_1_80, if_neg w_1_81, if_neg w_1_256, if_neg w_1_336, if_pos w_1_337]
    exact m_zret X hr hk V rfl (by rw [e9]) rfl dX6_stores_229
  refine lv_lookup (off := 229) (tgt := 230) hx hb dX6_stores_1 (by decide +kernel) ((lv_osw w_1_16 rfl).trans ((lv_osw w_1_17 rfl).trans ((lv_osw w_1_18 rfl).trans ((lv_osw w_1_19 rfl).trans ((lv_osw w_1_20 rfl).trans ((lv_osw w_1_21 rfl).trans ((lv_osw w_1_24 rfl).trans ((lv_osw w_1_25 rfl).trans ((lv_osw w_1_26 rfl).trans ((lv_osw w_1_27 rfl).trans ((lv_osw w_1_28 rfl).trans ((lv_osw w_1_29 rfl).trans ((lv_osw w_1_30 rfl).trans ((lv_osw w_1_64 rfl).trans ((lv_osw w_1_65 rfl).trans ((lv_osw w_1_66 rfl).trans ((lv_osw w_1_68 rfl).trans ((lv_osw w_1_69 rfl).trans ((lv_osw w_1_72 rfl).trans ((lv_osw w_1_73 rfl).trans ((lv_osw w_1_74 rfl).trans ((lv_osw w_1_75 rfl).trans ((lv_osw w_1_80 rfl).trans ((lv_osw w_1_81 rfl).trans ((lv_osw w_1_256 rfl).trans ((lv_osw w_1_336 rfl).trans ((lv_osw w_1_337 rfl).trans (rfl)))))))))))))))))))))))))))) (by decide) ?_
  refine lv_iconst (v := 0) hx hb dX6_stores_230 (by decide) ?_
  have e9 : pX6_stores x0 = (0) := by rw [pX6_stores, if_neg w_1_16, if_neg w_1_17, if_neg w_1_18, if_neg w_1_19, if_neg w_1_20, if_neg w_1_21, if_neg w_1_24, if_neg w_1_25, if_neg w_1_26, if_neg w_1_27, if_neg w_1_28, if_neg w_1_29, if_neg w_1_30, if_neg w_1_64, if_neg w_1_65, if_neg w_1_66, if_neg w_1_68, if_neg w_1_69, if_neg w_1_72, if_neg w_1_73, if_neg w_1_74, if_neg w_1_75, if_neg w_1_80, if_neg w_1_81, if_neg w_1_256, if_neg w_1_336, if_neg w_1_337]
  exact m_zret X hr hk V rfl (by rw [e9]) rfl dX6_stores_231
def pX6_widthOf (x0 : Int32) : Int32 := (if x0 = 65 then (2) else (if x0 = 66 then (1) else (4)))
theorem okX6_widthOf : mOk yX6_widthOf cX6_widthOf 1 (some .int) 1 := ⟨gm_224, gm_9, by decide +kernel⟩
set_option maxRecDepth 100000 in
set_option maxHeartbeats 4000000 in
theorem kX6_widthOf (l : Launch) (D : va_G) (cB cI : ClassId) (x0 : Int32) : mM l D cB cI yX6_widthOf cX6_widthOf 1 (some .int) { frames := 0, cells := 0, slots := 0, locals := 0 } [.int x0] [] (some (pX6_widthOf x0)) [] := by
  refine m_start (by decide +kernel) (Nat.le_of_ble_eq_true rfl) ?_
  intro p e s m below meth c A ls X hr hk V hl
  have X : mCx p s m _ c cX6_widthOf 1 RX6 D cB cI := X
  have hx := X.1.1
  have hb := X.1.2.1
  have hl : lv_has ls 1 [(0, .int x0)] := hl
  refine lv_iload_n hx hb dX6_widthOf_0 rfl (lv_at hl 0 rfl) ?_
  refine lv_bipush (v := 65) hx hb dX6_widthOf_1 (by decide) ?_
  refine lv_icmp_ne (tgt := 8) hx hb dX6_widthOf_3 (by decide) (fun c_3 => ?_) (fun c_3 => ?_)
  · refine lv_iload_n hx hb dX6_widthOf_8 rfl (lv_at hl 0 rfl) ?_
    refine lv_bipush (v := 66) hx hb dX6_widthOf_9 (by decide) ?_
    refine lv_icmp_ne (tgt := 18) hx hb dX6_widthOf_11 (by decide) (fun c_11 => ?_) (fun c_11 => ?_)
    · refine lv_iconst (v := 4) hx hb dX6_widthOf_18 (by decide) ?_
      have e9 : pX6_widthOf x0 = (4) := by rw [pX6_widthOf, if_neg c_3, if_neg c_11]
      exact m_iret X hr hk V (by rw [e9]) rfl dX6_widthOf_19
    · refine lv_iconst (v := 1) hx hb dX6_widthOf_14 (by decide) ?_
      refine lv_goto (tgt := 19) hx hb dX6_widthOf_15 (by decide) ?_
      have e9 : pX6_widthOf x0 = (1) := by rw [pX6_widthOf, if_neg c_3, if_pos c_11]
      exact m_iret X hr hk V (by rw [e9]) rfl dX6_widthOf_19
  · refine lv_iconst (v := 2) hx hb dX6_widthOf_6 (by decide) ?_
    have e9 : pX6_widthOf x0 = (2) := by rw [pX6_widthOf, if_pos c_3]
    exact m_iret X hr hk V (by rw [e9]) rfl dX6_widthOf_7
