def pX3_isFull (n : Int32) : Int32 := (if n < 40 then (0) else (1))
theorem okX3_isFull : mOk yX3_isFull cX3_isFull 1 (some .boolean) 0 := ⟨gm_149, gm_6, by decide +kernel⟩
set_option maxRecDepth 100000 in
set_option maxHeartbeats 4000000 in
theorem kX3_isFull (l : Launch) (D : va_G) (cB cI : ClassId) (a b d : Nat) (f : Nat → Int32) (g : Nat → Int32) (n : Int32) : mM l D cB cI yX3_isFull cX3_isFull 1 (some .boolean) { frames := 0, cells := 0, slots := 0, locals := 0 } [.ref a] (wP cB cI a b d f g n) (some (pX3_isFull n)) (wP cB cI a b d f g n) := by
  refine m_start (by decide +kernel) (Nat.le_of_ble_eq_true rfl) ?_
  intro p e s m below meth c A ls X hr hk V hl
  have X : mCx p s m _ c cX3_isFull 1 RX3 D cB cI := X
  have hx := X.1.1
  have hb := X.1.2.1
  have hl : lv_has ls 1 [(0, .ref a)] := hl
  refine lv_aload_n hx hb dX3_isFull_0 rfl (lv_at hl 0 rfl) ?_
  refine m_get X V 3 0 2 rfl gin_3 rfl (by decide) rfl gm_69 (v := .int n) rfl dX3_isFull_1 ?_
  refine lv_bipush (v := 40) hx hb dX3_isFull_4 (by decide) ?_
  refine lv_icmp_lt (tgt := 13) hx hb dX3_isFull_6 (by decide) (fun c_6 => ?_) (fun c_6 => ?_)
  · refine lv_iconst (v := 0) hx hb dX3_isFull_13 (by decide) ?_
    have e9 : pX3_isFull n = (0) := by rw [pX3_isFull, if_pos c_6]
    exact m_zret X hr hk V rfl (by rw [e9]) rfl dX3_isFull_14
  · refine lv_iconst (v := 1) hx hb dX3_isFull_9 (by decide) ?_
    refine lv_goto (tgt := 14) hx hb dX3_isFull_10 (by decide) ?_
    have e9 : pX3_isFull n = (1) := by rw [pX3_isFull, if_neg c_6]
    exact m_zret X hr hk V rfl (by rw [e9]) rfl dX3_isFull_14
def pX3_cell (f : Nat → Int32) (x1 : Int32) : Int32 := (if x1 < 0 then (0) else (if 40 ≤ x1 then (0) else ((f (Int32.toNatClampNeg x1)))))
theorem okX3_cell : mOk yX3_cell cX3_cell 2 (some .int) 1 := ⟨gm_245, gm_6, by decide +kernel⟩
set_option maxRecDepth 100000 in
set_option maxHeartbeats 4000000 in
theorem kX3_cell (l : Launch) (D : va_G) (cB cI : ClassId) (a b d : Nat) (f : Nat → Int32) (g : Nat → Int32) (n : Int32) (x1 : Int32) : mM l D cB cI yX3_cell cX3_cell 2 (some .int) { frames := 0, cells := 0, slots := 0, locals := 0 } [.ref a, .int x1] (wP cB cI a b d f g n) (some (pX3_cell f x1)) (wP cB cI a b d f g n) := by
  refine m_start (by decide +kernel) (Nat.le_of_ble_eq_true rfl) ?_
  intro p e s m below meth c A ls X hr hk V hl
  have X : mCx p s m _ c cX3_cell 2 RX3 D cB cI := X
  have hx := X.1.1
  have hb := X.1.2.1
  have hl : lv_has ls 2 [(0, .ref a), (1, .int x1)] := hl
  refine lv_iload_n hx hb dX3_cell_0 rfl (lv_at hl 1 rfl) ?_
  refine lv_if_lt (tgt := 22) hx hb dX3_cell_1 (by decide) (fun c_1 => ?_) (fun c_1 => ?_)
  · refine lv_iconst (v := 0) hx hb dX3_cell_22 (by decide) ?_
    have e9 : pX3_cell f x1 = (0) := by rw [pX3_cell, if_pos c_1]
    exact m_iret X hr hk V (by rw [e9]) rfl dX3_cell_23
  · refine lv_iload_n hx hb dX3_cell_4 rfl (lv_at hl 1 rfl) ?_
    refine lv_aload_n hx hb dX3_cell_5 rfl (lv_at hl 0 rfl) ?_
    refine m_get X V 3 0 0 rfl gin_3 rfl (by decide) rfl gm_67 (v := .ref b) rfl dX3_cell_6 ?_
    refine m_ilen X V 1 (v := 40) rfl (by decide) dX3_cell_9 ?_
    refine lv_icmp_ge (tgt := 22) hx hb dX3_cell_10 (by decide) (fun c_10 => ?_) (fun c_10 => ?_)
    · refine lv_iconst (v := 0) hx hb dX3_cell_22 (by decide) ?_
      have e9 : pX3_cell f x1 = (0) := by rw [pX3_cell, if_neg c_1, if_pos c_10]
      exact m_iret X hr hk V (by rw [e9]) rfl dX3_cell_23
    · refine lv_aload_n hx hb dX3_cell_13 rfl (lv_at hl 0 rfl) ?_
      refine m_get X V 3 0 0 rfl gin_3 rfl (by decide) rfl gm_67 (v := .ref b) rfl dX3_cell_14 ?_
      refine lv_iload_n hx hb dX3_cell_17 rfl (lv_at hl 1 rfl) ?_
      refine m_iald X V 1 rfl (vi_a (n := 40) (by decide) c_1 c_10) dX3_cell_18 ?_
      refine lv_goto (tgt := 23) hx hb dX3_cell_19 (by decide) ?_
      have e9 : pX3_cell f x1 = ((f (Int32.toNatClampNeg x1))) := by rw [pX3_cell, if_neg c_1, if_neg c_10]
      exact m_iret X hr hk V (by rw [e9]) rfl dX3_cell_23
def pX3_setCell (f : Nat → Int32) (x1 : Int32) (x2 : Int32) : (Nat → Int32) := (if x1 < 0 then (f) else (if 40 ≤ x1 then (f) else ((upd f (Int32.toNatClampNeg x1) x2))))
theorem okX3_setCell : mOk yX3_setCell cX3_setCell 3 none 2 := ⟨gm_155, gm_6, by decide +kernel⟩
set_option maxRecDepth 100000 in
set_option maxHeartbeats 4000000 in
theorem kX3_setCell (l : Launch) (D : va_G) (cB cI : ClassId) (a b d : Nat) (f : Nat → Int32) (g : Nat → Int32) (n : Int32) (x1 : Int32) (x2 : Int32) : mM l D cB cI yX3_setCell cX3_setCell 3 none { frames := 0, cells := 0, slots := 0, locals := 0 } [.ref a, .int x1, .int x2] (wP cB cI a b d f g n) none (wP cB cI a b d (pX3_setCell f x1 x2) g n) := by
  refine m_start (by decide +kernel) (Nat.le_of_ble_eq_true rfl) ?_
  intro p e s m below meth c A ls X hr hk V hl
  have X : mCx p s m _ c cX3_setCell 3 RX3 D cB cI := X
  have hx := X.1.1
  have hb := X.1.2.1
  have hl : lv_has ls 3 [(0, .ref a), (1, .int x1), (2, .int x2)] := hl
  refine lv_iload_n hx hb dX3_setCell_0 rfl (lv_at hl 1 rfl) ?_
  refine lv_if_lt (tgt := 20) hx hb dX3_setCell_1 (by decide) (fun c_1 => ?_) (fun c_1 => ?_)
  · have e9 : pX3_setCell f x1 x2 = (f) := by rw [pX3_setCell, if_pos c_1]
    exact m_vret X hr hk V rfl (by rw [e9]) dX3_setCell_20
  · refine lv_iload_n hx hb dX3_setCell_4 rfl (lv_at hl 1 rfl) ?_
    refine lv_aload_n hx hb dX3_setCell_5 rfl (lv_at hl 0 rfl) ?_
    refine m_get X V 3 0 0 rfl gin_3 rfl (by decide) rfl gm_67 (v := .ref b) rfl dX3_setCell_6 ?_
    refine m_ilen X V 1 (v := 40) rfl (by decide) dX3_setCell_9 ?_
    refine lv_icmp_ge (tgt := 20) hx hb dX3_setCell_10 (by decide) (fun c_10 => ?_) (fun c_10 => ?_)
    · have e9 : pX3_setCell f x1 x2 = (f) := by rw [pX3_setCell, if_neg c_1, if_pos c_10]
      exact m_vret X hr hk V rfl (by rw [e9]) dX3_setCell_20
    · refine lv_aload_n hx hb dX3_setCell_13 rfl (lv_at hl 0 rfl) ?_
      refine m_get X V 3 0 0 rfl gin_3 rfl (by decide) rfl gm_67 (v := .ref b) rfl dX3_setCell_14 ?_
      refine lv_iload_n hx hb dX3_setCell_17 rfl (lv_at hl 1 rfl) ?_
      refine lv_iload_n hx hb dX3_setCell_18 rfl (lv_at hl 2 rfl) ?_
      refine m_iast X V (ws' := (wP cB cI a b d (upd f (Int32.toNatClampNeg x1) x2) g n)) 1 rfl (vi_a (n := 40) (by decide) c_1 c_10) dX3_setCell_19 rfl (fun H locs V => ?_)
      have e9 : pX3_setCell f x1 x2 = ((upd f (Int32.toNatClampNeg x1) x2)) := by rw [pX3_setCell, if_neg c_1, if_neg c_10]
      exact m_vret X hr hk V rfl (by rw [e9]) dX3_setCell_20
def pX3_hasUpper (n : Int32) (x1 : Int32) : Int32 := (if x1 < 0 then (0) else (if n < x1 then (0) else (1)))
theorem okX3_hasUpper : mOk yX3_hasUpper cX3_hasUpper 2 (some .boolean) 1 := ⟨gm_164, gm_6, by decide +kernel⟩
set_option maxRecDepth 100000 in
set_option maxHeartbeats 4000000 in
theorem kX3_hasUpper (l : Launch) (D : va_G) (cB cI : ClassId) (a b d : Nat) (f : Nat → Int32) (g : Nat → Int32) (n : Int32) (x1 : Int32) : mM l D cB cI yX3_hasUpper cX3_hasUpper 2 (some .boolean) { frames := 0, cells := 0, slots := 0, locals := 0 } [.ref a, .int x1] (wP cB cI a b d f g n) (some (pX3_hasUpper n x1)) (wP cB cI a b d f g n) := by
  refine m_start (by decide +kernel) (Nat.le_of_ble_eq_true rfl) ?_
  intro p e s m below meth c A ls X hr hk V hl
  have X : mCx p s m _ c cX3_hasUpper 2 RX3 D cB cI := X
  have hx := X.1.1
  have hb := X.1.2.1
  have hl : lv_has ls 2 [(0, .ref a), (1, .int x1)] := hl
  refine lv_iload_n hx hb dX3_hasUpper_0 rfl (lv_at hl 1 rfl) ?_
  refine lv_if_lt (tgt := 16) hx hb dX3_hasUpper_1 (by decide) (fun c_1 => ?_) (fun c_1 => ?_)
  · refine lv_iconst (v := 0) hx hb dX3_hasUpper_16 (by decide) ?_
    have e9 : pX3_hasUpper n x1 = (0) := by rw [pX3_hasUpper, if_pos c_1]
    exact m_zret X hr hk V rfl (by rw [e9]) rfl dX3_hasUpper_17
  · refine lv_iload_n hx hb dX3_hasUpper_4 rfl (lv_at hl 1 rfl) ?_
    refine lv_aload_n hx hb dX3_hasUpper_5 rfl (lv_at hl 0 rfl) ?_
    refine m_get X V 3 0 2 rfl gin_3 rfl (by decide) rfl gm_69 (v := .int n) rfl dX3_hasUpper_6 ?_
    refine lv_icmp_gt (tgt := 16) hx hb dX3_hasUpper_9 (by decide) (fun c_9 => ?_) (fun c_9 => ?_)
    · refine lv_iconst (v := 0) hx hb dX3_hasUpper_16 (by decide) ?_
      have e9 : pX3_hasUpper n x1 = (0) := by rw [pX3_hasUpper, if_neg c_1, if_pos c_9]
      exact m_zret X hr hk V rfl (by rw [e9]) rfl dX3_hasUpper_17
    · refine lv_iconst (v := 1) hx hb dX3_hasUpper_12 (by decide) ?_
      refine lv_goto (tgt := 17) hx hb dX3_hasUpper_13 (by decide) ?_
      have e9 : pX3_hasUpper n x1 = (1) := by rw [pX3_hasUpper, if_neg c_1, if_neg c_9]
      exact m_zret X hr hk V rfl (by rw [e9]) rfl dX3_hasUpper_17
def pX3_fromTop (f : Nat → Int32) (n : Int32) (x1 : Int32) : Int32 := (if x1 < 0 then (0) else (if n ≤ x1 then (0) else ((pX3_cell f ((n - 1) - x1)))))
theorem okX3_fromTop : mOk yX3_fromTop cX3_fromTop 2 (some .int) 1 := ⟨gm_306, gm_6, by decide +kernel⟩
set_option maxRecDepth 100000 in
set_option maxHeartbeats 4000000 in
theorem kX3_fromTop (l : Launch) (D : va_G) (cB cI : ClassId) (a b d : Nat) (f : Nat → Int32) (g : Nat → Int32) (n : Int32) (x1 : Int32) : mM l D cB cI yX3_fromTop cX3_fromTop 2 (some .int) { frames := 1, cells := 0, slots := 0, locals := 21 } [.ref a, .int x1] (wP cB cI a b d f g n) (some (pX3_fromTop f n x1)) (wP cB cI a b d f g n) := by
  refine m_start (by decide +kernel) (Nat.le_of_ble_eq_true rfl) ?_
  intro p e s m below meth c A ls X hr hk V hl
  have X : mCx p s m _ c cX3_fromTop 2 RX3 D cB cI := X
  have hx := X.1.1
  have hb := X.1.2.1
  have hl : lv_has ls 2 [(0, .ref a), (1, .int x1)] := hl
  refine lv_iload_n hx hb dX3_fromTop_0 rfl (lv_at hl 1 rfl) ?_
  refine lv_if_lt (tgt := 27) hx hb dX3_fromTop_1 (by decide) (fun c_1 => ?_) (fun c_1 => ?_)
  · refine lv_iconst (v := 0) hx hb dX3_fromTop_27 (by decide) ?_
    have e9 : pX3_fromTop f n x1 = (0) := by rw [pX3_fromTop, if_pos c_1]
    exact m_iret X hr hk V (by rw [e9]) rfl dX3_fromTop_28
  · refine lv_iload_n hx hb dX3_fromTop_4 rfl (lv_at hl 1 rfl) ?_
    refine lv_aload_n hx hb dX3_fromTop_5 rfl (lv_at hl 0 rfl) ?_
    refine m_get X V 3 0 2 rfl gin_3 rfl (by decide) rfl gm_69 (v := .int n) rfl dX3_fromTop_6 ?_
    refine lv_icmp_ge (tgt := 27) hx hb dX3_fromTop_9 (by decide) (fun c_9 => ?_) (fun c_9 => ?_)
    · refine lv_iconst (v := 0) hx hb dX3_fromTop_27 (by decide) ?_
      have e9 : pX3_fromTop f n x1 = (0) := by rw [pX3_fromTop, if_neg c_1, if_pos c_9]
      exact m_iret X hr hk V (by rw [e9]) rfl dX3_fromTop_28
    · refine lv_aload_n hx hb dX3_fromTop_12 rfl (lv_at hl 0 rfl) ?_
      refine lv_aload_n hx hb dX3_fromTop_13 rfl (lv_at hl 0 rfl) ?_
      refine m_get X V 3 0 2 rfl gin_3 rfl (by decide) rfl gm_69 (v := .int n) rfl dX3_fromTop_14 ?_
      refine lv_iconst (v := 1) hx hb dX3_fromTop_17 (by decide) ?_
      refine lv_isub hx hb dX3_fromTop_18 ?_
      refine lv_iload_n hx hb dX3_fromTop_19 rfl (lv_at hl 1 rfl) ?_
      refine lv_isub hx hb dX3_fromTop_20 ?_
      refine m_VA X V (w1 := (wP cB cI a b d f g n)) (rest := []) (st1 := [.int (pX3_cell f ((n - 1) - x1))]) (kX3_cell l D cB cI a b d f g n ((n - 1) - x1)) okX3_cell gm_244 gm_654 gm_243 ⟨⟨rfl, rfl⟩, ⟨by decide, by decide⟩, Nat.zero_le _, Nat.zero_le _⟩ rfl rfl (wP_fst _ _ _ _ _ _ _ _) (wP_fst _ _ _ _ _ _ _ _) rfl hl.1 (Nat.le_of_ble_eq_true rfl) dX3_fromTop_21 rfl rfl (fun H locs V => ?_)
      refine lv_goto (tgt := 28) hx hb dX3_fromTop_24 (by decide) ?_
      have e9 : pX3_fromTop f n x1 = ((pX3_cell f ((n - 1) - x1))) := by rw [pX3_fromTop, if_neg c_1, if_neg c_9]
      exact m_iret X hr hk V (by rw [e9]) rfl dX3_fromTop_28
def pX3_add (f : Nat → Int32) (n : Int32) (x1 : Int32) : (Nat → Int32) × Int32 := (if (pX3_isFull n) = 0 then ((pX3_setCell f n x1), (n + 1)) else (f, n))
theorem okX3_add : mOk yX3_add cX3_add 2 none 1 := ⟨gm_151, gm_6, by decide +kernel⟩
set_option maxRecDepth 100000 in
set_option maxHeartbeats 4000000 in
theorem kX3_add (l : Launch) (D : va_G) (cB cI : ClassId) (a b d : Nat) (f : Nat → Int32) (g : Nat → Int32) (n : Int32) (x1 : Int32) : mM l D cB cI yX3_add cX3_add 2 none { frames := 1, cells := 0, slots := 0, locals := 22 } [.ref a, .int x1] (wP cB cI a b d f g n) none (wP cB cI a b d ((pX3_add f n x1).1) g ((pX3_add f n x1).2)) := by
  refine m_start (by decide +kernel) (Nat.le_of_ble_eq_true rfl) ?_
  intro p e s m below meth c A ls X hr hk V hl
  have X : mCx p s m _ c cX3_add 2 RX3 D cB cI := X
  have hx := X.1.1
  have hb := X.1.2.1
  have hl : lv_has ls 2 [(0, .ref a), (1, .int x1)] := hl
  refine lv_aload_n hx hb dX3_add_0 rfl (lv_at hl 0 rfl) ?_
  refine m_VA X V (w1 := (wP cB cI a b d f g n)) (rest := []) (st1 := [.int (pX3_isFull n)]) (kX3_isFull l D cB cI a b d f g n) okX3_isFull gm_148 gm_632 gm_152 ⟨⟨rfl, rfl⟩, ⟨by decide, by decide⟩, Nat.zero_le _, Nat.zero_le _⟩ rfl rfl (wP_fst _ _ _ _ _ _ _ _) (wP_fst _ _ _ _ _ _ _ _) rfl hl.1 (Nat.le_of_ble_eq_true rfl) dX3_add_1 rfl rfl (fun H locs V => ?_)
  refine lv_if_ne (tgt := 26) hx hb dX3_add_4 (by decide) (fun c_4 => ?_) (fun c_4 => ?_)
  · have e9 : pX3_add f n x1 = (f, n) := by rw [pX3_add, if_neg c_4]
    exact m_vret X hr hk V rfl (by rw [e9]) dX3_add_26
  · refine lv_aload_n hx hb dX3_add_7 rfl (lv_at hl 0 rfl) ?_
    refine lv_aload_n hx hb dX3_add_8 rfl (lv_at hl 0 rfl) ?_
    refine m_get X V 3 0 2 rfl gin_3 rfl (by decide) rfl gm_69 (v := .int n) rfl dX3_add_9 ?_
    refine lv_iload_n hx hb dX3_add_12 rfl (lv_at hl 1 rfl) ?_
    refine m_VA X V (w1 := (wP cB cI a b d (pX3_setCell f n x1) g n)) (rest := []) (st1 := []) (kX3_setCell l D cB cI a b d f g n n x1) okX3_setCell gm_154 gm_634 gm_153 ⟨⟨rfl, rfl⟩, ⟨by decide, by decide⟩, Nat.zero_le _, Nat.zero_le _⟩ rfl rfl (wP_fst _ _ _ _ _ _ _ _) (wP_fst _ _ _ _ _ _ _ _) rfl hl.1 (Nat.le_of_ble_eq_true rfl) dX3_add_13 rfl rfl (fun H locs V => ?_)
    refine lv_aload_n hx hb dX3_add_16 rfl (lv_at hl 0 rfl) ?_
    refine lv_dup hx hb dX3_add_17 rfl ?_
    refine m_get X V 3 0 2 rfl gin_3 rfl (by decide) rfl gm_69 (v := .int n) rfl dX3_add_18 ?_
    refine lv_iconst (v := 1) hx hb dX3_add_21 (by decide) ?_
    refine lv_iadd hx hb dX3_add_22 ?_
    refine m_put X V (ws' := (wP cB cI a b d (pX3_setCell f n x1) g (n + 1))) 3 0 2 rfl gin_3 tyX3_ok nmX3 rfl (by decide) rfl gm_69 rfl rfl rfl (Nat.le_of_ble_eq_true rfl) dX3_add_23 rfl (fun H locs V => ?_)
    have e9 : pX3_add f n x1 = ((pX3_setCell f n x1), (n + 1)) := by rw [pX3_add, if_pos c_4]
    exact m_vret X hr hk V rfl (by rw [e9]) dX3_add_26
def pX3_takeOff (f : Nat → Int32) (n : Int32) : Int32 × Int32 := (if 0 < n then ((pX3_cell f (n - 1)), (n - 1)) else (0, n))
theorem okX3_takeOff : mOk yX3_takeOff cX3_takeOff 1 (some .int) 0 := ⟨gm_242, gm_6, by decide +kernel⟩
set_option maxRecDepth 100000 in
set_option maxHeartbeats 4000000 in
theorem kX3_takeOff (l : Launch) (D : va_G) (cB cI : ClassId) (a b d : Nat) (f : Nat → Int32) (g : Nat → Int32) (n : Int32) : mM l D cB cI yX3_takeOff cX3_takeOff 1 (some .int) { frames := 1, cells := 0, slots := 0, locals := 21 } [.ref a] (wP cB cI a b d f g n) (some ((pX3_takeOff f n).1)) (wP cB cI a b d f g ((pX3_takeOff f n).2)) := by
  refine m_start (by decide +kernel) (Nat.le_of_ble_eq_true rfl) ?_
  intro p e s m below meth c A ls X hr hk V hl
  have X : mCx p s m _ c cX3_takeOff 1 RX3 D cB cI := X
  have hx := X.1.1
  have hb := X.1.2.1
  have hl : lv_has ls 1 [(0, .ref a)] := hl
  refine lv_aload_n hx hb dX3_takeOff_0 rfl (lv_at hl 0 rfl) ?_
  refine m_get X V 3 0 2 rfl gin_3 rfl (by decide) rfl gm_69 (v := .int n) rfl dX3_takeOff_1 ?_
  refine lv_if_gt (tgt := 9) hx hb dX3_takeOff_4 (by decide) (fun c_4 => ?_) (fun c_4 => ?_)
  · refine lv_aload_n hx hb dX3_takeOff_9 rfl (lv_at hl 0 rfl) ?_
    refine lv_dup hx hb dX3_takeOff_10 rfl ?_
    refine m_get X V 3 0 2 rfl gin_3 rfl (by decide) rfl gm_69 (v := .int n) rfl dX3_takeOff_11 ?_
    refine lv_iconst (v := 1) hx hb dX3_takeOff_14 (by decide) ?_
    refine lv_isub hx hb dX3_takeOff_15 ?_
    refine m_put X V (ws' := (wP cB cI a b d f g (n - 1))) 3 0 2 rfl gin_3 tyX3_ok nmX3 rfl (by decide) rfl gm_69 rfl rfl rfl (Nat.le_of_ble_eq_true rfl) dX3_takeOff_16 rfl (fun H locs V => ?_)
    refine lv_aload_n hx hb dX3_takeOff_19 rfl (lv_at hl 0 rfl) ?_
    refine lv_aload_n hx hb dX3_takeOff_20 rfl (lv_at hl 0 rfl) ?_
    refine m_get X V 3 0 2 rfl gin_3 rfl (by decide) rfl gm_69 (v := .int (n - 1)) rfl dX3_takeOff_21 ?_
    refine m_VA X V (w1 := (wP cB cI a b d f g (n - 1))) (rest := []) (st1 := [.int (pX3_cell f (n - 1))]) (kX3_cell l D cB cI a b d f g (n - 1) (n - 1)) okX3_cell gm_244 gm_654 gm_243 ⟨⟨rfl, rfl⟩, ⟨by decide, by decide⟩, Nat.zero_le _, Nat.zero_le _⟩ rfl rfl (wP_fst _ _ _ _ _ _ _ _) (wP_fst _ _ _ _ _ _ _ _) rfl hl.1 (Nat.le_of_ble_eq_true rfl) dX3_takeOff_24 rfl rfl (fun H locs V => ?_)
    have e9 : pX3_takeOff f n = ((pX3_cell f (n - 1)), (n - 1)) := by rw [pX3_takeOff, if_pos c_4]
    exact m_iret X hr hk V (by rw [e9]) (by rw [e9]) dX3_takeOff_27
  · refine lv_iconst (v := 0) hx hb dX3_takeOff_7 (by decide) ?_
    have e9 : pX3_takeOff f n = (0, n) := by rw [pX3_takeOff, if_neg c_4]
    exact m_iret X hr hk V (by rw [e9]) (by rw [e9]) dX3_takeOff_8
def pX3_shrinkTo (n : Int32) (x1 : Int32) : Int32 := (if (pX3_hasUpper n x1) = 0 then (n) else (x1))
theorem okX3_shrinkTo : mOk yX3_shrinkTo cX3_shrinkTo 2 none 1 := ⟨gm_161, gm_6, by decide +kernel⟩
set_option maxRecDepth 100000 in
set_option maxHeartbeats 4000000 in
theorem kX3_shrinkTo (l : Launch) (D : va_G) (cB cI : ClassId) (a b d : Nat) (f : Nat → Int32) (g : Nat → Int32) (n : Int32) (x1 : Int32) : mM l D cB cI yX3_shrinkTo cX3_shrinkTo 2 none { frames := 1, cells := 0, slots := 0, locals := 21 } [.ref a, .int x1] (wP cB cI a b d f g n) none (wP cB cI a b d f g (pX3_shrinkTo n x1)) := by
  refine m_start (by decide +kernel) (Nat.le_of_ble_eq_true rfl) ?_
  intro p e s m below meth c A ls X hr hk V hl
  have X : mCx p s m _ c cX3_shrinkTo 2 RX3 D cB cI := X
  have hx := X.1.1
  have hb := X.1.2.1
  have hl : lv_has ls 2 [(0, .ref a), (1, .int x1)] := hl
  refine lv_aload_n hx hb dX3_shrinkTo_0 rfl (lv_at hl 0 rfl) ?_
  refine lv_iload_n hx hb dX3_shrinkTo_1 rfl (lv_at hl 1 rfl) ?_
  refine m_VA X V (w1 := (wP cB cI a b d f g n)) (rest := []) (st1 := [.int (pX3_hasUpper n x1)]) (kX3_hasUpper l D cB cI a b d f g n x1) okX3_hasUpper gm_163 gm_636 gm_162 ⟨⟨rfl, rfl⟩, ⟨by decide, by decide⟩, Nat.zero_le _, Nat.zero_le _⟩ rfl rfl (wP_fst _ _ _ _ _ _ _ _) (wP_fst _ _ _ _ _ _ _ _) rfl hl.1 (Nat.le_of_ble_eq_true rfl) dX3_shrinkTo_2 rfl rfl (fun H locs V => ?_)
  refine lv_if_eq (tgt := 13) hx hb dX3_shrinkTo_5 (by decide) (fun c_5 => ?_) (fun c_5 => ?_)
  · have e9 : pX3_shrinkTo n x1 = (n) := by rw [pX3_shrinkTo, if_pos c_5]
    exact m_vret X hr hk V rfl (by rw [e9]) dX3_shrinkTo_13
  · refine lv_aload_n hx hb dX3_shrinkTo_8 rfl (lv_at hl 0 rfl) ?_
    refine lv_iload_n hx hb dX3_shrinkTo_9 rfl (lv_at hl 1 rfl) ?_
    refine m_put X V (ws' := (wP cB cI a b d f g x1)) 3 0 2 rfl gin_3 tyX3_ok nmX3 rfl (by decide) rfl gm_69 rfl rfl rfl (Nat.le_of_ble_eq_true rfl) dX3_shrinkTo_10 rfl (fun H locs V => ?_)
    have e9 : pX3_shrinkTo n x1 = (x1) := by rw [pX3_shrinkTo, if_neg c_5]
    exact m_vret X hr hk V rfl (by rw [e9]) dX3_shrinkTo_13
def pX3_growBack (n : Int32) (x1 : Int32) : Int32 := (if x1 < n then (n) else (if 40 < x1 then (n) else (x1)))
theorem okX3_growBack : mOk yX3_growBack cX3_growBack 2 none 1 := ⟨gm_396, gm_6, by decide +kernel⟩
set_option maxRecDepth 100000 in
set_option maxHeartbeats 4000000 in
theorem kX3_growBack (l : Launch) (D : va_G) (cB cI : ClassId) (a b d : Nat) (f : Nat → Int32) (g : Nat → Int32) (n : Int32) (x1 : Int32) : mM l D cB cI yX3_growBack cX3_growBack 2 none { frames := 0, cells := 0, slots := 0, locals := 0 } [.ref a, .int x1] (wP cB cI a b d f g n) none (wP cB cI a b d f g (pX3_growBack n x1)) := by
  refine m_start (by decide +kernel) (Nat.le_of_ble_eq_true rfl) ?_
  intro p e s m below meth c A ls X hr hk V hl
  have X : mCx p s m _ c cX3_growBack 2 RX3 D cB cI := X
  have hx := X.1.1
  have hb := X.1.2.1
  have hl : lv_has ls 2 [(0, .ref a), (1, .int x1)] := hl
  refine lv_iload_n hx hb dX3_growBack_0 rfl (lv_at hl 1 rfl) ?_
  refine lv_aload_n hx hb dX3_growBack_1 rfl (lv_at hl 0 rfl) ?_
  refine m_get X V 3 0 2 rfl gin_3 rfl (by decide) rfl gm_69 (v := .int n) rfl dX3_growBack_2 ?_
  refine lv_icmp_lt (tgt := 19) hx hb dX3_growBack_5 (by decide) (fun c_5 => ?_) (fun c_5 => ?_)
  · have e9 : pX3_growBack n x1 = (n) := by rw [pX3_growBack, if_pos c_5]
    exact m_vret X hr hk V rfl (by rw [e9]) dX3_growBack_19
  · refine lv_iload_n hx hb dX3_growBack_8 rfl (lv_at hl 1 rfl) ?_
    refine lv_bipush (v := 40) hx hb dX3_growBack_9 (by decide) ?_
    refine lv_icmp_gt (tgt := 19) hx hb dX3_growBack_11 (by decide) (fun c_11 => ?_) (fun c_11 => ?_)
    · have e9 : pX3_growBack n x1 = (n) := by rw [pX3_growBack, if_neg c_5, if_pos c_11]
      exact m_vret X hr hk V rfl (by rw [e9]) dX3_growBack_19
    · refine lv_aload_n hx hb dX3_growBack_14 rfl (lv_at hl 0 rfl) ?_
      refine lv_iload_n hx hb dX3_growBack_15 rfl (lv_at hl 1 rfl) ?_
      refine m_put X V (ws' := (wP cB cI a b d f g x1)) 3 0 2 rfl gin_3 tyX3_ok nmX3 rfl (by decide) rfl gm_69 rfl rfl rfl (Nat.le_of_ble_eq_true rfl) dX3_growBack_16 rfl (fun H locs V => ?_)
      have e9 : pX3_growBack n x1 = (x1) := by rw [pX3_growBack, if_neg c_5, if_neg c_11]
      exact m_vret X hr hk V rfl (by rw [e9]) dX3_growBack_19
def pX3_turnUpper_lp70 (x1 : Int32) : Nat → (Nat → Int32) → (Nat → Int32) → (Int32) → (Int32) → (Int32) → (Nat → Int32) × (Nat → Int32)
  | 0, f, g, k3, k4, k5 => (f, g)
  | n_ + 1, f, g, k3, k4, k5 => (if x1 ≤ k5 then (f, g) else (if 40 ≤ k5 then (f, g) else (mLet (pX3_setCell f (k3 + ((k5 + k4) - (k5 + k4) / x1 * x1)) (g (Int32.toNatClampNeg k5))) (fun (u103 : (Nat → Int32)) => (pX3_turnUpper_lp70 x1 n_ u103 g k3 k4 (k5 + 1))))))
def pX3_turnUpper_lp30 (x1 : Int32) : Nat → (Nat → Int32) → (Nat → Int32) → (Int32) → (Int32) → (Int32) → (Nat → Int32) × (Nat → Int32)
  | 0, f, g, k3, k4, k5 => (f, g)
  | n_ + 1, f, g, k3, k4, k5 => (if x1 ≤ k5 then (pX3_turnUpper_lp70 x1 ((Int32.toInt x1 - Int32.toInt 0).toNat + 1) f g k3 k4 0) else (if 40 ≤ k5 then (pX3_turnUpper_lp70 x1 ((Int32.toInt x1 - Int32.toInt 0).toNat + 1) f g k3 k4 0) else (pX3_turnUpper_lp30 x1 n_ f (upd g (Int32.toNatClampNeg k5) (pX3_cell f (k3 + k5))) k3 k4 (k5 + 1))))
def pX3_turnUpper (f : Nat → Int32) (g : Nat → Int32) (n : Int32) (x1 : Int32) (x2 : Int32) : (Nat → Int32) × (Nat → Int32) := (if x1 ≤ 0 then (f, g) else (if x1 ≤ n then (pX3_turnUpper_lp30 x1 ((Int32.toInt x1 - Int32.toInt 0).toNat + 1) f g (n - x1) (pJ9_floorMod_7cf53 x2 x1) 0) else (f, g)))
theorem okX3_turnUpper : mOk yX3_turnUpper cX3_turnUpper 6 none 2 := ⟨gm_316, gm_6, by decide +kernel⟩
set_option maxRecDepth 100000 in
set_option maxHeartbeats 4000000 in
theorem lpX3_turnUpper_70 {p : Program} {e : Env} {s : State} {m : MethodId} {args : Array Value} {below : List Frame} {meth : Method} {c : Code} {A : Nat → Prop} {l : Launch} {D : va_G} {cB cI : ClassId} {a b d : Nat} {n : Int32} {x1 : Int32} (X : mCx p s m args c cX3_turnUpper 6 RX3 D cB cI) (hr : meth.sig.returnType = none) (hk : meth.locks = false) : ∀ (n_ : Nat) (f : Nat → Int32) (g : Nat → Int32) (k3 : Int32) (k4 : Int32) (k5 : Int32) (H : Heap) (locs : List Loc) (ls : Array Slot), ¬ x1 ≤ 0 → ¬ k5 < 0 → (Int32.toInt x1 - Int32.toInt k5).toNat < n_ → mWd D A s (wP cB cI a b d f g n) H locs → lv_has ls 6 [(0, .ref a), (1, .int x1), (3, .int k3), (4, .int k4), (5, .int k5)] → W p l e { frames := 1, cells := 0, slots := 0, locals := 22 } s m args below meth c H locs 0 0 (MQ below (mQ D A (wP cB cI a b d ((pX3_turnUpper_lp70 x1 n_ f g k3 k4 k5).1) ((pX3_turnUpper_lp70 x1 n_ f g k3 k4 k5).2) n) none) args s 0 0 A) (F0 m 70 ls []) := by
  have hx := X.1.1
  have hb := X.1.2.1
  intro n_
  induction n_ with
  | zero =>
    intro f g k3 k4 k5 H locs ls h1 hk5 hm V hl
    exact absurd hm (Nat.not_lt_zero _)
  | succ n_ ih =>
    intro f g k3 k4 k5 H locs ls h1 hk5 hm V hl
    refine lv_iload hx hb dX3_turnUpper_70 (lv_at hl 4 rfl) ?_
    refine lv_iload_n hx hb dX3_turnUpper_72 rfl (lv_at hl 1 rfl) ?_
    refine lv_icmp_ge (tgt := 112) hx hb dX3_turnUpper_73 (by decide) (fun c_73 => ?_) (fun c_73 => ?_)
    · have e9 : pX3_turnUpper_lp70 x1 (n_ + 1) f g k3 k4 k5 = (f, g) := by rw [pX3_turnUpper_lp70, if_pos c_73]
      exact m_vret X hr hk V rfl (by rw [e9]) dX3_turnUpper_112
    · refine lv_iload hx hb dX3_turnUpper_76 (lv_at hl 4 rfl) ?_
      refine lv_aload_n hx hb dX3_turnUpper_78 rfl (lv_at hl 0 rfl) ?_
      refine m_get X V 3 0 1 rfl gin_3 rfl (by decide) rfl gm_68 (v := .ref d) rfl dX3_turnUpper_79 ?_
      refine m_ilen X V 2 (v := 40) rfl (by decide) dX3_turnUpper_82 ?_
      refine lv_icmp_ge (tgt := 112) hx hb dX3_turnUpper_83 (by decide) (fun c_83 => ?_) (fun c_83 => ?_)
      · have e9 : pX3_turnUpper_lp70 x1 (n_ + 1) f g k3 k4 k5 = (f, g) := by rw [pX3_turnUpper_lp70, if_neg c_73, if_pos c_83]
        exact m_vret X hr hk V rfl (by rw [e9]) dX3_turnUpper_112
      · refine lv_aload_n hx hb dX3_turnUpper_86 rfl (lv_at hl 0 rfl) ?_
        refine lv_iload_n hx hb dX3_turnUpper_87 rfl (lv_at hl 2 rfl) ?_
        refine lv_iload hx hb dX3_turnUpper_88 (lv_at hl 4 rfl) ?_
        refine lv_iload hx hb dX3_turnUpper_90 (lv_at hl 3 rfl) ?_
        refine lv_iadd hx hb dX3_turnUpper_92 ?_
        refine lv_iload_n hx hb dX3_turnUpper_93 rfl (lv_at hl 1 rfl) ?_
        refine lv_irem hx hb dX3_turnUpper_94 (ne_of_nle h1) ?_
        refine lv_iadd hx hb dX3_turnUpper_95 ?_
        refine lv_aload_n hx hb dX3_turnUpper_96 rfl (lv_at hl 0 rfl) ?_
        refine m_get X V 3 0 1 rfl gin_3 rfl (by decide) rfl gm_68 (v := .ref d) rfl dX3_turnUpper_97 ?_
        refine lv_iload hx hb dX3_turnUpper_100 (lv_at hl 4 rfl) ?_
        refine m_iald X V 2 rfl (vi_a (n := 40) (by decide) hk5 c_83) dX3_turnUpper_102 ?_
        obtain ⟨u103, hu103⟩ : ∃ u, pX3_setCell f (k3 + ((k5 + k4) - (k5 + k4) / x1 * x1)) (g (Int32.toNatClampNeg k5)) = u := ⟨_, rfl⟩
        have hM := kX3_setCell l D cB cI a b d f g n (k3 + ((k5 + k4) - (k5 + k4) / x1 * x1)) (g (Int32.toNatClampNeg k5))
        rw [hu103] at hM
        refine m_VA X V (w1 := (wP cB cI a b d u103 g n)) (rest := []) (st1 := []) hM okX3_setCell gm_154 gm_634 gm_153 ⟨⟨rfl, rfl⟩, ⟨by decide, by decide⟩, Nat.zero_le _, Nat.zero_le _⟩ rfl rfl (wP_fst _ _ _ _ _ _ _ _) (wP_fst _ _ _ _ _ _ _ _) rfl hl.1 (Nat.le_of_ble_eq_true rfl) dX3_turnUpper_103 rfl rfl (fun H locs V => ?_)
        refine lv_iinc (v := (k5 + 1)) (lv' := [(5, .int (k5 + 1)), (0, .ref a), (1, .int x1), (3, .int k3), (4, .int k4)]) hx hb dX3_turnUpper_106 hl (k := 4) rfl rfl (by decide) rfl (fun ls hl => ?_)
        refine lv_goto (tgt := 70) hx hb dX3_turnUpper_109 (by decide) ?_
        rw [show pX3_turnUpper_lp70 x1 (n_ + 1) f g k3 k4 k5 = pX3_turnUpper_lp70 x1 n_ u103 g k3 k4 (k5 + 1) from by rw [pX3_turnUpper_lp70, if_neg c_73, if_neg c_83, hu103, mLet_eq]]
        exact ih u103 g k3 k4 (k5 + 1) _ _ _ h1 (nn_up hk5 c_73) (ms_up c_73 hm) V (lv_sub hl [1, 2, 3, 4, 0] rfl)
set_option maxRecDepth 100000 in
set_option maxHeartbeats 4000000 in
theorem lpX3_turnUpper_30 {p : Program} {e : Env} {s : State} {m : MethodId} {args : Array Value} {below : List Frame} {meth : Method} {c : Code} {A : Nat → Prop} {l : Launch} {D : va_G} {cB cI : ClassId} {a b d : Nat} {n : Int32} {x1 : Int32} (X : mCx p s m args c cX3_turnUpper 6 RX3 D cB cI) (hr : meth.sig.returnType = none) (hk : meth.locks = false) : ∀ (n_ : Nat) (f : Nat → Int32) (g : Nat → Int32) (k3 : Int32) (k4 : Int32) (k5 : Int32) (H : Heap) (locs : List Loc) (ls : Array Slot), ¬ x1 ≤ 0 → ¬ k5 < 0 → (Int32.toInt x1 - Int32.toInt k5).toNat < n_ → mWd D A s (wP cB cI a b d f g n) H locs → lv_has ls 6 [(0, .ref a), (1, .int x1), (3, .int k3), (4, .int k4), (5, .int k5)] → W p l e { frames := 1, cells := 0, slots := 0, locals := 22 } s m args below meth c H locs 0 0 (MQ below (mQ D A (wP cB cI a b d ((pX3_turnUpper_lp30 x1 n_ f g k3 k4 k5).1) ((pX3_turnUpper_lp30 x1 n_ f g k3 k4 k5).2) n) none) args s 0 0 A) (F0 m 30 ls []) := by
  have hx := X.1.1
  have hb := X.1.2.1
  intro n_
  induction n_ with
  | zero =>
    intro f g k3 k4 k5 H locs ls h1 hk5 hm V hl
    exact absurd hm (Nat.not_lt_zero _)
  | succ n_ ih =>
    intro f g k3 k4 k5 H locs ls h1 hk5 hm V hl
    refine lv_iload hx hb dX3_turnUpper_30 (lv_at hl 4 rfl) ?_
    refine lv_iload_n hx hb dX3_turnUpper_32 rfl (lv_at hl 1 rfl) ?_
    refine lv_icmp_ge (tgt := 67) hx hb dX3_turnUpper_33 (by decide) (fun c_33 => ?_) (fun c_33 => ?_)
    · refine lv_iconst (v := 0) hx hb dX3_turnUpper_67 (by decide) ?_
      refine lv_istore (lv' := [(5, .int 0), (0, .ref a), (1, .int x1), (3, .int k3), (4, .int k4)]) hx hb dX3_turnUpper_68 hl (by decide) rfl (fun ls hl => ?_)
      rw [show pX3_turnUpper_lp30 x1 (n_ + 1) f g k3 k4 k5 = (pX3_turnUpper_lp70 x1 ((Int32.toInt x1 - Int32.toInt 0).toNat + 1) f g k3 k4 0) from by rw [pX3_turnUpper_lp30, if_pos c_33]]
      exact lpX3_turnUpper_70 X hr hk  ((Int32.toInt x1 - Int32.toInt 0).toNat + 1) f g k3 k4 0 _ _ _ h1 (by decide) (Nat.lt_succ_self _) V (lv_sub hl [1, 2, 3, 4, 0] rfl)
    · refine lv_iload hx hb dX3_turnUpper_36 (lv_at hl 4 rfl) ?_
      refine lv_aload_n hx hb dX3_turnUpper_38 rfl (lv_at hl 0 rfl) ?_
      refine m_get X V 3 0 1 rfl gin_3 rfl (by decide) rfl gm_68 (v := .ref d) rfl dX3_turnUpper_39 ?_
      refine m_ilen X V 2 (v := 40) rfl (by decide) dX3_turnUpper_42 ?_
      refine lv_icmp_ge (tgt := 67) hx hb dX3_turnUpper_43 (by decide) (fun c_43 => ?_) (fun c_43 => ?_)
      · refine lv_iconst (v := 0) hx hb dX3_turnUpper_67 (by decide) ?_
        refine lv_istore (lv' := [(5, .int 0), (0, .ref a), (1, .int x1), (3, .int k3), (4, .int k4)]) hx hb dX3_turnUpper_68 hl (by decide) rfl (fun ls hl => ?_)
        rw [show pX3_turnUpper_lp30 x1 (n_ + 1) f g k3 k4 k5 = (pX3_turnUpper_lp70 x1 ((Int32.toInt x1 - Int32.toInt 0).toNat + 1) f g k3 k4 0) from by rw [pX3_turnUpper_lp30, if_neg c_33, if_pos c_43]]
        exact lpX3_turnUpper_70 X hr hk  ((Int32.toInt x1 - Int32.toInt 0).toNat + 1) f g k3 k4 0 _ _ _ h1 (by decide) (Nat.lt_succ_self _) V (lv_sub hl [1, 2, 3, 4, 0] rfl)
      · refine lv_aload_n hx hb dX3_turnUpper_46 rfl (lv_at hl 0 rfl) ?_
        refine m_get X V 3 0 1 rfl gin_3 rfl (by decide) rfl gm_68 (v := .ref d) rfl dX3_turnUpper_47 ?_
        refine lv_iload hx hb dX3_turnUpper_50 (lv_at hl 4 rfl) ?_
        refine lv_aload_n hx hb dX3_turnUpper_52 rfl (lv_at hl 0 rfl) ?_
        refine lv_iload_n hx hb dX3_turnUpper_53 rfl (lv_at hl 2 rfl) ?_
        refine lv_iload hx hb dX3_turnUpper_54 (lv_at hl 4 rfl) ?_
        refine lv_iadd hx hb dX3_turnUpper_56 ?_
        refine m_VA X V (w1 := (wP cB cI a b d f g n)) (rest := [.int k5, .ref d]) (st1 := [.int (pX3_cell f (k3 + k5)), .int k5, .ref d]) (kX3_cell l D cB cI a b d f g n (k3 + k5)) okX3_cell gm_244 gm_654 gm_243 ⟨⟨rfl, rfl⟩, ⟨by decide, by decide⟩, Nat.zero_le _, Nat.zero_le _⟩ rfl rfl (wP_fst _ _ _ _ _ _ _ _) (wP_fst _ _ _ _ _ _ _ _) rfl hl.1 (Nat.le_of_ble_eq_true rfl) dX3_turnUpper_57 rfl rfl (fun H locs V => ?_)
        refine m_iast X V (ws' := (wP cB cI a b d f (upd g (Int32.toNatClampNeg k5) (pX3_cell f (k3 + k5))) n)) 2 rfl (vi_a (n := 40) (by decide) hk5 c_43) dX3_turnUpper_60 rfl (fun H locs V => ?_)
        refine lv_iinc (v := (k5 + 1)) (lv' := [(5, .int (k5 + 1)), (0, .ref a), (1, .int x1), (3, .int k3), (4, .int k4)]) hx hb dX3_turnUpper_61 hl (k := 4) rfl rfl (by decide) rfl (fun ls hl => ?_)
        refine lv_goto (tgt := 30) hx hb dX3_turnUpper_64 (by decide) ?_
        rw [show pX3_turnUpper_lp30 x1 (n_ + 1) f g k3 k4 k5 = pX3_turnUpper_lp30 x1 n_ f (upd g (Int32.toNatClampNeg k5) (pX3_cell f (k3 + k5))) k3 k4 (k5 + 1) from by rw [pX3_turnUpper_lp30, if_neg c_33, if_neg c_43]]
        exact ih f (upd g (Int32.toNatClampNeg k5) (pX3_cell f (k3 + k5))) k3 k4 (k5 + 1) _ _ _ h1 (nn_up hk5 c_33) (ms_up c_33 hm) V (lv_sub hl [1, 2, 3, 4, 0] rfl)
set_option maxRecDepth 100000 in
set_option maxHeartbeats 4000000 in
theorem kX3_turnUpper (l : Launch) (D : va_G) (cB cI : ClassId) (a b d : Nat) (f : Nat → Int32) (g : Nat → Int32) (n : Int32) (x1 : Int32) (x2 : Int32) : mM l D cB cI yX3_turnUpper cX3_turnUpper 6 none { frames := 1, cells := 0, slots := 0, locals := 22 } [.ref a, .int x1, .int x2] (wP cB cI a b d f g n) none (wP cB cI a b d ((pX3_turnUpper f g n x1 x2).1) ((pX3_turnUpper f g n x1 x2).2) n) := by
  refine m_start (by decide +kernel) (Nat.le_of_ble_eq_true rfl) ?_
  intro p e s m below meth c A ls X hr hk V hl
  have X : mCx p s m _ c cX3_turnUpper 6 RX3 D cB cI := X
  have hx := X.1.1
  have hb := X.1.2.1
  have hl : lv_has ls 6 [(0, .ref a), (1, .int x1), (2, .int x2)] := hl
  refine lv_iload_n hx hb dX3_turnUpper_0 rfl (lv_at hl 1 rfl) ?_
  refine lv_if_le (tgt := 12) hx hb dX3_turnUpper_1 (by decide) (fun c_1 => ?_) (fun c_1 => ?_)
  · have e9 : pX3_turnUpper f g n x1 x2 = (f, g) := by rw [pX3_turnUpper, if_pos c_1]
    exact m_vret X hr hk V rfl (by rw [e9]) dX3_turnUpper_12
  · refine lv_iload_n hx hb dX3_turnUpper_4 rfl (lv_at hl 1 rfl) ?_
    refine lv_aload_n hx hb dX3_turnUpper_5 rfl (lv_at hl 0 rfl) ?_
    refine m_get X V 3 0 2 rfl gin_3 rfl (by decide) rfl gm_69 (v := .int n) rfl dX3_turnUpper_6 ?_
    refine lv_icmp_le (tgt := 13) hx hb dX3_turnUpper_9 (by decide) (fun c_9 => ?_) (fun c_9 => ?_)
    · refine lv_aload_n hx hb dX3_turnUpper_13 rfl (lv_at hl 0 rfl) ?_
      refine m_get X V 3 0 2 rfl gin_3 rfl (by decide) rfl gm_69 (v := .int n) rfl dX3_turnUpper_14 ?_
      refine lv_iload_n hx hb dX3_turnUpper_17 rfl (lv_at hl 1 rfl) ?_
      refine lv_isub hx hb dX3_turnUpper_18 ?_
      refine lv_istore_n (lv' := [(3, .int (n - x1)), (0, .ref a), (1, .int x1), (2, .int x2)]) hx hb dX3_turnUpper_19 rfl hl (by decide) rfl (fun ls hl => ?_)
      refine lv_iload_n hx hb dX3_turnUpper_20 rfl (lv_at hl 3 rfl) ?_
      refine lv_iload_n hx hb dX3_turnUpper_21 rfl (lv_at hl 2 rfl) ?_
      refine m_S X V (rest := []) (st1 := [.int (pJ9_floorMod_7cf53 x2 x1)]) (kJ9_floorMod_7cf53 l D cB cI x2 x1 (ne_of_nle c_1)) okJ9_floorMod_7cf53 gm_318 gm_317 ⟨⟨rfl, rfl⟩, ⟨by decide, by decide⟩, Nat.zero_le _, Nat.zero_le _⟩ rfl hl.1 (Nat.le_of_ble_eq_true rfl) dX3_turnUpper_22 rfl rfl (fun H locs V => ?_)
      refine lv_istore (lv' := [(4, .int (pJ9_floorMod_7cf53 x2 x1)), (3, .int (n - x1)), (0, .ref a), (1, .int x1), (2, .int x2)]) hx hb dX3_turnUpper_25 hl (by decide) rfl (fun ls hl => ?_)
      refine lv_iconst (v := 0) hx hb dX3_turnUpper_27 (by decide) ?_
      refine lv_istore (lv' := [(5, .int 0), (4, .int (pJ9_floorMod_7cf53 x2 x1)), (3, .int (n - x1)), (0, .ref a), (1, .int x1), (2, .int x2)]) hx hb dX3_turnUpper_28 hl (by decide) rfl (fun ls hl => ?_)
      rw [show pX3_turnUpper f g n x1 x2 = (pX3_turnUpper_lp30 x1 ((Int32.toInt x1 - Int32.toInt 0).toNat + 1) f g (n - x1) (pJ9_floorMod_7cf53 x2 x1) 0) from by rw [pX3_turnUpper, if_neg c_1, if_pos c_9]]
      exact lpX3_turnUpper_30 X hr hk  ((Int32.toInt x1 - Int32.toInt 0).toNat + 1) f g (n - x1) (pJ9_floorMod_7cf53 x2 x1) 0 _ _ _ c_1 (by decide) (Nat.lt_succ_self _) V (lv_sub hl [3, 4, 2, 1, 0] rfl)
    · have e9 : pX3_turnUpper f g n x1 x2 = (f, g) := by rw [pX3_turnUpper, if_neg c_1, if_neg c_9]
      exact m_vret X hr hk V rfl (by rw [e9]) dX3_turnUpper_12
def pX3_repeatUpper_lp9 (x1 : Int32) : Nat → (Nat → Int32) → (Int32) → (Int32) → (Int32) → (Nat → Int32) × Int32
  | 0, f, n, k2, k3 => (f, n)
  | n_ + 1, f, n, k2, k3 => (if x1 ≤ k3 then (f, n) else (mLet (pX3_add f n (pX3_cell f (k2 + k3))) (fun (u22 : (Nat → Int32) × Int32) => (pX3_repeatUpper_lp9 x1 n_ u22.1 u22.2 k2 (k3 + 1)))))
def pX3_repeatUpper (f : Nat → Int32) (n : Int32) (x1 : Int32) : (Nat → Int32) × Int32 := (pX3_repeatUpper_lp9 x1 ((Int32.toInt x1 - Int32.toInt 0).toNat + 1) f n (n - x1) 0)
theorem okX3_repeatUpper : mOk yX3_repeatUpper cX3_repeatUpper 4 none 1 := ⟨gm_324, gm_6, by decide +kernel⟩
set_option maxRecDepth 100000 in
set_option maxHeartbeats 4000000 in
theorem lpX3_repeatUpper_9 {p : Program} {e : Env} {s : State} {m : MethodId} {args : Array Value} {below : List Frame} {meth : Method} {c : Code} {A : Nat → Prop} {l : Launch} {D : va_G} {cB cI : ClassId} {a b d : Nat} {g : Nat → Int32} {x1 : Int32} (X : mCx p s m args c cX3_repeatUpper 4 RX3 D cB cI) (hr : meth.sig.returnType = none) (hk : meth.locks = false) : ∀ (n_ : Nat) (f : Nat → Int32) (n : Int32) (k2 : Int32) (k3 : Int32) (H : Heap) (locs : List Loc) (ls : Array Slot), (Int32.toInt x1 - Int32.toInt k3).toNat < n_ → mWd D A s (wP cB cI a b d f g n) H locs → lv_has ls 4 [(0, .ref a), (1, .int x1), (2, .int k2), (3, .int k3)] → W p l e { frames := 2, cells := 0, slots := 0, locals := 43 } s m args below meth c H locs 0 0 (MQ below (mQ D A (wP cB cI a b d ((pX3_repeatUpper_lp9 x1 n_ f n k2 k3).1) g ((pX3_repeatUpper_lp9 x1 n_ f n k2 k3).2)) none) args s 0 0 A) (F0 m 9 ls []) := by
  have hx := X.1.1
  have hb := X.1.2.1
  intro n_
  induction n_ with
  | zero =>
    intro f n k2 k3 H locs ls  hm V hl
    exact absurd hm (Nat.not_lt_zero _)
  | succ n_ ih =>
    intro f n k2 k3 H locs ls  hm V hl
    refine lv_iload_n hx hb dX3_repeatUpper_9 rfl (lv_at hl 3 rfl) ?_
    refine lv_iload_n hx hb dX3_repeatUpper_10 rfl (lv_at hl 1 rfl) ?_
    refine lv_icmp_ge (tgt := 31) hx hb dX3_repeatUpper_11 (by decide) (fun c_11 => ?_) (fun c_11 => ?_)
    · have e9 : pX3_repeatUpper_lp9 x1 (n_ + 1) f n k2 k3 = (f, n) := by rw [pX3_repeatUpper_lp9, if_pos c_11]
      exact m_vret X hr hk V rfl (by rw [e9]) dX3_repeatUpper_31
    · refine lv_aload_n hx hb dX3_repeatUpper_14 rfl (lv_at hl 0 rfl) ?_
      refine lv_aload_n hx hb dX3_repeatUpper_15 rfl (lv_at hl 0 rfl) ?_
      refine lv_iload_n hx hb dX3_repeatUpper_16 rfl (lv_at hl 2 rfl) ?_
      refine lv_iload_n hx hb dX3_repeatUpper_17 rfl (lv_at hl 3 rfl) ?_
      refine lv_iadd hx hb dX3_repeatUpper_18 ?_
      refine m_VA X V (w1 := (wP cB cI a b d f g n)) (rest := [.ref a]) (st1 := [.int (pX3_cell f (k2 + k3)), .ref a]) (kX3_cell l D cB cI a b d f g n (k2 + k3)) okX3_cell gm_244 gm_654 gm_243 ⟨⟨rfl, rfl⟩, ⟨by decide, by decide⟩, Nat.zero_le _, Nat.zero_le _⟩ rfl rfl (wP_fst _ _ _ _ _ _ _ _) (wP_fst _ _ _ _ _ _ _ _) rfl hl.1 (Nat.le_of_ble_eq_true rfl) dX3_repeatUpper_19 rfl rfl (fun H locs V => ?_)
      obtain ⟨u22, hu22⟩ : ∃ u, pX3_add f n (pX3_cell f (k2 + k3)) = u := ⟨_, rfl⟩
      have hM := kX3_add l D cB cI a b d f g n (pX3_cell f (k2 + k3))
      rw [hu22] at hM
      refine m_VA X V (w1 := (wP cB cI a b d u22.1 g u22.2)) (rest := []) (st1 := []) hM okX3_add gm_150 gm_633 gm_325 ⟨⟨rfl, rfl⟩, ⟨by decide, by decide⟩, Nat.zero_le _, Nat.zero_le _⟩ rfl rfl (wP_fst _ _ _ _ _ _ _ _) (wP_fst _ _ _ _ _ _ _ _) rfl hl.1 (Nat.le_of_ble_eq_true rfl) dX3_repeatUpper_22 rfl rfl (fun H locs V => ?_)
      refine lv_iinc (v := (k3 + 1)) (lv' := [(3, .int (k3 + 1)), (0, .ref a), (1, .int x1), (2, .int k2)]) hx hb dX3_repeatUpper_25 hl (k := 3) rfl rfl (by decide) rfl (fun ls hl => ?_)
      refine lv_goto (tgt := 9) hx hb dX3_repeatUpper_28 (by decide) ?_
      rw [show pX3_repeatUpper_lp9 x1 (n_ + 1) f n k2 k3 = pX3_repeatUpper_lp9 x1 n_ u22.1 u22.2 k2 (k3 + 1) from by rw [pX3_repeatUpper_lp9, if_neg c_11, hu22, mLet_eq]]
      exact ih u22.1 u22.2 k2 (k3 + 1) _ _ _  (ms_up c_11 hm) V (lv_sub hl [1, 2, 3, 0] rfl)
set_option maxRecDepth 100000 in
set_option maxHeartbeats 4000000 in
theorem kX3_repeatUpper (l : Launch) (D : va_G) (cB cI : ClassId) (a b d : Nat) (f : Nat → Int32) (g : Nat → Int32) (n : Int32) (x1 : Int32) : mM l D cB cI yX3_repeatUpper cX3_repeatUpper 4 none { frames := 2, cells := 0, slots := 0, locals := 43 } [.ref a, .int x1] (wP cB cI a b d f g n) none (wP cB cI a b d ((pX3_repeatUpper f n x1).1) g ((pX3_repeatUpper f n x1).2)) := by
  refine m_start (by decide +kernel) (Nat.le_of_ble_eq_true rfl) ?_
  intro p e s m below meth c A ls X hr hk V hl
  have X : mCx p s m _ c cX3_repeatUpper 4 RX3 D cB cI := X
  have hx := X.1.1
  have hb := X.1.2.1
  have hl : lv_has ls 4 [(0, .ref a), (1, .int x1)] := hl
  refine lv_aload_n hx hb dX3_repeatUpper_0 rfl (lv_at hl 0 rfl) ?_
  refine m_get X V 3 0 2 rfl gin_3 rfl (by decide) rfl gm_69 (v := .int n) rfl dX3_repeatUpper_1 ?_
  refine lv_iload_n hx hb dX3_repeatUpper_4 rfl (lv_at hl 1 rfl) ?_
  refine lv_isub hx hb dX3_repeatUpper_5 ?_
  refine lv_istore_n (lv' := [(2, .int (n - x1)), (0, .ref a), (1, .int x1)]) hx hb dX3_repeatUpper_6 rfl hl (by decide) rfl (fun ls hl => ?_)
  refine lv_iconst (v := 0) hx hb dX3_repeatUpper_7 (by decide) ?_
  refine lv_istore_n (lv' := [(3, .int 0), (2, .int (n - x1)), (0, .ref a), (1, .int x1)]) hx hb dX3_repeatUpper_8 rfl hl (by decide) rfl (fun ls hl => ?_)
  rw [show pX3_repeatUpper f n x1 = (pX3_repeatUpper_lp9 x1 ((Int32.toInt x1 - Int32.toInt 0).toNat + 1) f n (n - x1) 0) from by rw [pX3_repeatUpper]]
  exact lpX3_repeatUpper_9 X hr hk  ((Int32.toInt x1 - Int32.toInt 0).toNat + 1) f n (n - x1) 0 _ _ _  (Nat.lt_succ_self _) V (lv_sub hl [2, 3, 1, 0] rfl)
