def pX5_lookIn (z : Nat → Int32) (x1 : Int32) (x2 : Int32) (x3 : Int32) (x4 : Int32) : (Nat → Int32) := (mLet (pJ6_compareUnsigned_7cf53 x3 1024) (fun (u21 : Int32) => (if u21 ≤ 0 then ((upd (upd (upd (upd z 1 x1) 2 x2) 3 x3) 4 x4)) else ((upd (upd (upd (upd z 1 x1) 2 x2) 3 1024) 4 x4)))))
theorem okX5_lookIn : mOk yX5_lookIn cX5_lookIn 5 none 4 := ⟨gm_334, gm_5, by decide +kernel⟩
set_option maxRecDepth 100000 in
set_option maxHeartbeats 4000000 in
theorem kX5_lookIn (l : Launch) (D : va_G) (cB cI : ClassId) (a b d h i : Nat) (z : Nat → Int32) (mem : Nat → Int32) (key : Nat → Int32) (x1 : Int32) (x2 : Int32) (x3 : Int32) (x4 : Int32) : mM l D cB cI yX5_lookIn cX5_lookIn 5 none { frames := 2, cells := 0, slots := 0, locals := 42 } [.ref a, .int x1, .int x2, .int x3, .int x4] (wZ cB cI a b d h i z mem key) none (wZ cB cI a b d h i (pX5_lookIn z x1 x2 x3 x4) mem key) := by
  refine m_start (by decide +kernel) (Nat.le_of_ble_eq_true rfl) ?_
  intro p e s m below meth c A ls X hr hk V hl
  have X : mCx p s m _ c cX5_lookIn 5 RX5 D cB cI := X
  have hx := X.1.1
  have hb := X.1.2.1
  have hl : lv_has ls 5 [(0, .ref a), (1, .int x1), (2, .int x2), (3, .int x3), (4, .int x4)] := hl
  refine lv_aload_n hx hb dX5_lookIn_0 rfl (lv_at hl 0 rfl) ?_
  refine lv_iload_n hx hb dX5_lookIn_1 rfl (lv_at hl 1 rfl) ?_
  refine m_put X V (ws' := (wZ cB cI a b d h i (upd z 1 x1) mem key)) 4 0 3 rfl gin_4 tyX5_ok nmX5 rfl (by decide) rfl gm_43 rfl rfl rfl (Nat.le_of_ble_eq_true rfl) dX5_lookIn_2 rfl (fun H locs V => ?_)
  refine lv_aload_n hx hb dX5_lookIn_5 rfl (lv_at hl 0 rfl) ?_
  refine lv_iload_n hx hb dX5_lookIn_6 rfl (lv_at hl 2 rfl) ?_
  refine m_put X V (ws' := (wZ cB cI a b d h i (upd (upd z 1 x1) 2 x2) mem key)) 4 0 4 rfl gin_4 tyX5_ok nmX5 rfl (by decide) rfl gm_44 rfl rfl rfl (Nat.le_of_ble_eq_true rfl) dX5_lookIn_7 rfl (fun H locs V => ?_)
  refine lv_aload_n hx hb dX5_lookIn_10 rfl (lv_at hl 0 rfl) ?_
  refine lv_iload hx hb dX5_lookIn_11 (lv_at hl 4 rfl) ?_
  refine m_put X V (ws' := (wZ cB cI a b d h i (upd (upd (upd z 1 x1) 2 x2) 4 x4) mem key)) 4 0 6 rfl gin_4 tyX5_ok nmX5 rfl (by decide) rfl gm_46 rfl rfl rfl (Nat.le_of_ble_eq_true rfl) dX5_lookIn_13 rfl (fun H locs V => ?_)
  refine lv_aload_n hx hb dX5_lookIn_16 rfl (lv_at hl 0 rfl) ?_
  refine lv_iload_n hx hb dX5_lookIn_17 rfl (lv_at hl 3 rfl) ?_
  refine lv_sipush (v := 1024) hx hb dX5_lookIn_18 (by decide) ?_
  obtain ⟨u21, hu21⟩ : ∃ u, pJ6_compareUnsigned_7cf53 x3 1024 = u := ⟨_, rfl⟩
  have hM := kJ6_compareUnsigned_7cf53 l D cB cI x3 1024
  rw [hu21] at hM
  refine m_S X V (rest := [.ref a]) (st1 := [.int u21, .ref a]) hM okJ6_compareUnsigned_7cf53 gm_266 gm_335 ⟨⟨rfl, rfl⟩, ⟨by decide, by decide⟩, Nat.zero_le _, Nat.zero_le _⟩ rfl hl.1 (Nat.le_of_ble_eq_true rfl) dX5_lookIn_21 rfl rfl (fun H locs V => ?_)
  refine lv_if_le (tgt := 33) hx hb dX5_lookIn_24 (by decide) (fun c_24 => ?_) (fun c_24 => ?_)
  · refine lv_iload_n hx hb dX5_lookIn_33 rfl (lv_at hl 3 rfl) ?_
    refine m_put X V (ws' := (wZ cB cI a b d h i (upd (upd (upd (upd z 1 x1) 2 x2) 3 x3) 4 x4) mem key)) 4 0 5 rfl gin_4 tyX5_ok nmX5 rfl (by decide) rfl gm_45 rfl rfl rfl (Nat.le_of_ble_eq_true rfl) dX5_lookIn_34 rfl (fun H locs V => ?_)
    have e9 : pX5_lookIn z x1 x2 x3 x4 = ((upd (upd (upd (upd z 1 x1) 2 x2) 3 x3) 4 x4)) := by rw [pX5_lookIn, hu21, mLet_eq, if_pos c_24]
    exact m_vret X hr hk V rfl (by rw [e9]) dX5_lookIn_37
  · refine lv_sipush (v := 1024) hx hb dX5_lookIn_27 (by decide) ?_
    refine lv_goto (tgt := 34) hx hb dX5_lookIn_30 (by decide) ?_
    refine m_put X V (ws' := (wZ cB cI a b d h i (upd (upd (upd (upd z 1 x1) 2 x2) 3 1024) 4 x4) mem key)) 4 0 5 rfl gin_4 tyX5_ok nmX5 rfl (by decide) rfl gm_45 rfl rfl rfl (Nat.le_of_ble_eq_true rfl) dX5_lookIn_34 rfl (fun H locs V => ?_)
    have e9 : pX5_lookIn z x1 x2 x3 x4 = ((upd (upd (upd (upd z 1 x1) 2 x2) 3 1024) 4 x4)) := by rw [pX5_lookIn, hu21, mLet_eq, if_neg c_24]
    exact m_vret X hr hk V rfl (by rw [e9]) dX5_lookIn_37
def pX5_isIndirect (z : Nat → Int32) : Int32 := (if ((z 5) &&& 1) = 0 then (0) else (1))
theorem okX5_isIndirect : mOk yX5_isIndirect cX5_isIndirect 1 (some .boolean) 0 := ⟨gm_340, gm_5, by decide +kernel⟩
set_option maxRecDepth 100000 in
set_option maxHeartbeats 4000000 in
theorem kX5_isIndirect (l : Launch) (D : va_G) (cB cI : ClassId) (a b d h i : Nat) (z : Nat → Int32) (mem : Nat → Int32) (key : Nat → Int32) : mM l D cB cI yX5_isIndirect cX5_isIndirect 1 (some .boolean) { frames := 0, cells := 0, slots := 0, locals := 0 } [.ref a] (wZ cB cI a b d h i z mem key) (some (pX5_isIndirect z)) (wZ cB cI a b d h i z mem key) := by
  refine m_start (by decide +kernel) (Nat.le_of_ble_eq_true rfl) ?_
  intro p e s m below meth c A ls X hr hk V hl
  have X : mCx p s m _ c cX5_isIndirect 1 RX5 D cB cI := X
  have hx := X.1.1
  have hb := X.1.2.1
  have hl : lv_has ls 1 [(0, .ref a)] := hl
  refine lv_aload_n hx hb dX5_isIndirect_0 rfl (lv_at hl 0 rfl) ?_
  refine m_get X V 4 0 7 rfl gin_4 rfl (by decide) rfl gm_47 (v := .int (z 5)) rfl dX5_isIndirect_1 ?_
  refine lv_iconst (v := 1) hx hb dX5_isIndirect_4 (by decide) ?_
  refine lv_iand hx hb dX5_isIndirect_5 ?_
  refine lv_if_eq (tgt := 13) hx hb dX5_isIndirect_6 (by decide) (fun c_6 => ?_) (fun c_6 => ?_)
  · refine lv_iconst (v := 0) hx hb dX5_isIndirect_13 (by decide) ?_
    have e9 : pX5_isIndirect z = (0) := by rw [pX5_isIndirect, if_pos c_6]
    exact m_zret X hr hk V rfl (by rw [e9]) rfl dX5_isIndirect_14
  · refine lv_iconst (v := 1) hx hb dX5_isIndirect_9 (by decide) ?_
    refine lv_goto (tgt := 14) hx hb dX5_isIndirect_10 (by decide) ?_
    have e9 : pX5_isIndirect z = (1) := by rw [pX5_isIndirect, if_neg c_6]
    exact m_zret X hr hk V rfl (by rw [e9]) rfl dX5_isIndirect_14
def pX5_isEnded (z : Nat → Int32) : Int32 := (if ((z 5) &&& 2) = 0 then (0) else (1))
theorem okX5_isEnded : mOk yX5_isEnded cX5_isEnded 1 (some .boolean) 0 := ⟨gm_369, gm_5, by decide +kernel⟩
set_option maxRecDepth 100000 in
set_option maxHeartbeats 4000000 in
theorem kX5_isEnded (l : Launch) (D : va_G) (cB cI : ClassId) (a b d h i : Nat) (z : Nat → Int32) (mem : Nat → Int32) (key : Nat → Int32) : mM l D cB cI yX5_isEnded cX5_isEnded 1 (some .boolean) { frames := 0, cells := 0, slots := 0, locals := 0 } [.ref a] (wZ cB cI a b d h i z mem key) (some (pX5_isEnded z)) (wZ cB cI a b d h i z mem key) := by
  refine m_start (by decide +kernel) (Nat.le_of_ble_eq_true rfl) ?_
  intro p e s m below meth c A ls X hr hk V hl
  have X : mCx p s m _ c cX5_isEnded 1 RX5 D cB cI := X
  have hx := X.1.1
  have hb := X.1.2.1
  have hl : lv_has ls 1 [(0, .ref a)] := hl
  refine lv_aload_n hx hb dX5_isEnded_0 rfl (lv_at hl 0 rfl) ?_
  refine m_get X V 4 0 7 rfl gin_4 rfl (by decide) rfl gm_47 (v := .int (z 5)) rfl dX5_isEnded_1 ?_
  refine lv_iconst (v := 2) hx hb dX5_isEnded_4 (by decide) ?_
  refine lv_iand hx hb dX5_isEnded_5 ?_
  refine lv_if_eq (tgt := 13) hx hb dX5_isEnded_6 (by decide) (fun c_6 => ?_) (fun c_6 => ?_)
  · refine lv_iconst (v := 0) hx hb dX5_isEnded_13 (by decide) ?_
    have e9 : pX5_isEnded z = (0) := by rw [pX5_isEnded, if_pos c_6]
    exact m_zret X hr hk V rfl (by rw [e9]) rfl dX5_isEnded_14
  · refine lv_iconst (v := 1) hx hb dX5_isEnded_9 (by decide) ?_
    refine lv_goto (tgt := 14) hx hb dX5_isEnded_10 (by decide) ?_
    have e9 : pX5_isEnded z = (1) := by rw [pX5_isEnded, if_neg c_6]
    exact m_zret X hr hk V rfl (by rw [e9]) rfl dX5_isEnded_14
def pX5_wantsPlace (z : Nat → Int32) : Int32 := (if ((z 5) &&& 4) = 0 then (0) else (1))
theorem okX5_wantsPlace : mOk yX5_wantsPlace cX5_wantsPlace 1 (some .boolean) 0 := ⟨gm_360, gm_5, by decide +kernel⟩
set_option maxRecDepth 100000 in
set_option maxHeartbeats 4000000 in
theorem kX5_wantsPlace (l : Launch) (D : va_G) (cB cI : ClassId) (a b d h i : Nat) (z : Nat → Int32) (mem : Nat → Int32) (key : Nat → Int32) : mM l D cB cI yX5_wantsPlace cX5_wantsPlace 1 (some .boolean) { frames := 0, cells := 0, slots := 0, locals := 0 } [.ref a] (wZ cB cI a b d h i z mem key) (some (pX5_wantsPlace z)) (wZ cB cI a b d h i z mem key) := by
  refine m_start (by decide +kernel) (Nat.le_of_ble_eq_true rfl) ?_
  intro p e s m below meth c A ls X hr hk V hl
  have X : mCx p s m _ c cX5_wantsPlace 1 RX5 D cB cI := X
  have hx := X.1.1
  have hb := X.1.2.1
  have hl : lv_has ls 1 [(0, .ref a)] := hl
  refine lv_aload_n hx hb dX5_wantsPlace_0 rfl (lv_at hl 0 rfl) ?_
  refine m_get X V 4 0 7 rfl gin_4 rfl (by decide) rfl gm_47 (v := .int (z 5)) rfl dX5_wantsPlace_1 ?_
  refine lv_iconst (v := 4) hx hb dX5_wantsPlace_4 (by decide) ?_
  refine lv_iand hx hb dX5_wantsPlace_5 ?_
  refine lv_if_eq (tgt := 13) hx hb dX5_wantsPlace_6 (by decide) (fun c_6 => ?_) (fun c_6 => ?_)
  · refine lv_iconst (v := 0) hx hb dX5_wantsPlace_13 (by decide) ?_
    have e9 : pX5_wantsPlace z = (0) := by rw [pX5_wantsPlace, if_pos c_6]
    exact m_zret X hr hk V rfl (by rw [e9]) rfl dX5_wantsPlace_14
  · refine lv_iconst (v := 1) hx hb dX5_wantsPlace_9 (by decide) ?_
    refine lv_goto (tgt := 14) hx hb dX5_wantsPlace_10 (by decide) ?_
    have e9 : pX5_wantsPlace z = (1) := by rw [pX5_wantsPlace, if_neg c_6]
    exact m_zret X hr hk V rfl (by rw [e9]) rfl dX5_wantsPlace_14
def pX5_takeKeyAt_lp39 (z : Nat → Int32) (mem : Nat → Int32) (x1 : Int32) : Nat → (Nat → Int32) → (Int32) → Int32 × (Nat → Int32)
  | 0, key, k2 => (0, key)
  | n_ + 1, key, k2 => (if (z 0) ≤ k2 then (0, key) else (mLet (pX0_putByte key 64 k2 (pX0_byteAt mem 1024 (x1 + k2))) (fun (u62 : (Nat → Int32)) => (pX5_takeKeyAt_lp39 z mem x1 n_ u62 (k2 + 1)))))
def pX5_takeKeyAt (z : Nat → Int32) (mem : Nat → Int32) (key : Nat → Int32) (x1 : Int32) : Int32 × (Nat → Int32) := (if (z 0) < 1 then (9, key) else (if (z 0) ≤ 64 then (if (pX0_holds 1024 x1 (z 0)) = 0 then (1, key) else (pX5_takeKeyAt_lp39 z mem x1 ((Int32.toInt (z 0) - Int32.toInt 0).toNat + 1) key 0)) else (9, key)))
theorem okX5_takeKeyAt : mOk yX5_takeKeyAt cX5_takeKeyAt 3 (some .int) 1 := ⟨gm_343, gm_5, by decide +kernel⟩
set_option maxRecDepth 100000 in
set_option maxHeartbeats 4000000 in
theorem lpX5_takeKeyAt_39 {p : Program} {e : Env} {s : State} {m : MethodId} {args : Array Value} {below : List Frame} {meth : Method} {c : Code} {A : Nat → Prop} {l : Launch} {D : va_G} {cB cI : ClassId} {a b d h i : Nat} {z : Nat → Int32} {mem : Nat → Int32} {x1 : Int32} (X : mCx p s m args c cX5_takeKeyAt 3 RX5 D cB cI) (hr : meth.sig.returnType = (some .int)) (hk : meth.locks = false) : ∀ (n_ : Nat) (key : Nat → Int32) (k2 : Int32) (H : Heap) (locs : List Loc) (ls : Array Slot), (Int32.toInt (z 0) - Int32.toInt k2).toNat < n_ → mWd D A s (wZ cB cI a b d h i z mem key) H locs → lv_has ls 3 [(0, .ref a), (1, .int x1), (2, .int k2)] → W p l e { frames := 1, cells := 0, slots := 0, locals := 22 } s m args below meth c H locs 0 0 (MQ below (mQ D A (wZ cB cI a b d h i z mem ((pX5_takeKeyAt_lp39 z mem x1 n_ key k2).2)) (some ((pX5_takeKeyAt_lp39 z mem x1 n_ key k2).1))) args s 0 0 A) (F0 m 39 ls []) := by
  have hx := X.1.1
  have hb := X.1.2.1
  intro n_
  induction n_ with
  | zero =>
    intro key k2 H locs ls  hm V hl
    exact absurd hm (Nat.not_lt_zero _)
  | succ n_ ih =>
    intro key k2 H locs ls  hm V hl
    refine lv_iload_n hx hb dX5_takeKeyAt_39 rfl (lv_at hl 2 rfl) ?_
    refine lv_aload_n hx hb dX5_takeKeyAt_40 rfl (lv_at hl 0 rfl) ?_
    refine m_get X V 4 0 2 rfl gin_4 rfl (by decide) rfl gm_42 (v := .int (z 0)) rfl dX5_takeKeyAt_41 ?_
    refine lv_icmp_ge (tgt := 71) hx hb dX5_takeKeyAt_44 (by decide) (fun c_44 => ?_) (fun c_44 => ?_)
    · refine lv_iconst (v := 0) hx hb dX5_takeKeyAt_71 (by decide) ?_
      have e9 : pX5_takeKeyAt_lp39 z mem x1 (n_ + 1) key k2 = (0, key) := by rw [pX5_takeKeyAt_lp39, if_pos c_44]
      exact m_iret X hr hk V (by rw [e9]) (by rw [e9]) dX5_takeKeyAt_72
    · refine lv_aload_n hx hb dX5_takeKeyAt_47 rfl (lv_at hl 0 rfl) ?_
      refine m_get X V 4 0 1 rfl gin_4 rfl (by decide) rfl gm_41 (v := .ref h) rfl dX5_takeKeyAt_48 ?_
      refine lv_iload_n hx hb dX5_takeKeyAt_51 rfl (lv_at hl 2 rfl) ?_
      refine lv_aload_n hx hb dX5_takeKeyAt_52 rfl (lv_at hl 0 rfl) ?_
      refine m_get X V 4 0 0 rfl gin_4 rfl (by decide) rfl gm_40 (v := .ref b) rfl dX5_takeKeyAt_53 ?_
      refine lv_iload_n hx hb dX5_takeKeyAt_56 rfl (lv_at hl 1 rfl) ?_
      refine lv_iload_n hx hb dX5_takeKeyAt_57 rfl (lv_at hl 2 rfl) ?_
      refine lv_iadd hx hb dX5_takeKeyAt_58 ?_
      refine m_VN X V (ws' := (wZ cB cI a b d h i z mem key)) (rest := [.int k2, .ref h]) (st1 := [.int (pX0_byteAt mem 1024 (x1 + k2)), .int k2, .ref h]) (kX0_byteAt l D cB cI b d 1024 mem (x1 + k2) (by decide)) okX0_byteAt gm_177 gm_640 nm_43 [1, 2] ⟨⟨rfl, rfl⟩, ⟨by decide, by decide⟩, Nat.zero_le _, Nat.zero_le _⟩ rfl rfl rfl rfl (wB_fst _ _ _ _ _ _) (wB_fst _ _ _ _ _ _) rfl rfl hl.1 (Nat.le_of_ble_eq_true rfl) dX5_takeKeyAt_59 rfl rfl (fun H locs V => ?_)
      obtain ⟨u62, hu62⟩ : ∃ u, pX0_putByte key 64 k2 (pX0_byteAt mem 1024 (x1 + k2)) = u := ⟨_, rfl⟩
      have hM := kX0_putByte l D cB cI h i 64 key k2 (pX0_byteAt mem 1024 (x1 + k2)) (by decide)
      rw [hu62] at hM
      refine m_VN X V (ws' := (wZ cB cI a b d h i z mem u62)) (rest := []) (st1 := []) hM okX0_putByte gm_169 gm_638 nm_44 [3, 4] ⟨⟨rfl, rfl⟩, ⟨by decide, by decide⟩, Nat.zero_le _, Nat.zero_le _⟩ rfl rfl rfl rfl (wB_fst _ _ _ _ _ _) (wB_fst _ _ _ _ _ _) rfl rfl hl.1 (Nat.le_of_ble_eq_true rfl) dX5_takeKeyAt_62 rfl rfl (fun H locs V => ?_)
      refine lv_iinc (v := (k2 + 1)) (lv' := [(2, .int (k2 + 1)), (0, .ref a), (1, .int x1)]) hx hb dX5_takeKeyAt_65 hl (k := 2) rfl rfl (by decide) rfl (fun ls hl => ?_)
      refine lv_goto (tgt := 39) hx hb dX5_takeKeyAt_68 (by decide) ?_
      rw [show pX5_takeKeyAt_lp39 z mem x1 (n_ + 1) key k2 = pX5_takeKeyAt_lp39 z mem x1 n_ u62 (k2 + 1) from by rw [pX5_takeKeyAt_lp39, if_neg c_44, hu62, mLet_eq]]
      exact ih u62 (k2 + 1) _ _ _  (ms_up c_44 hm) V (lv_sub hl [1, 2, 0] rfl)
set_option maxRecDepth 100000 in
set_option maxHeartbeats 4000000 in
theorem kX5_takeKeyAt (l : Launch) (D : va_G) (cB cI : ClassId) (a b d h i : Nat) (z : Nat → Int32) (mem : Nat → Int32) (key : Nat → Int32) (x1 : Int32) : mM l D cB cI yX5_takeKeyAt cX5_takeKeyAt 3 (some .int) { frames := 1, cells := 0, slots := 0, locals := 22 } [.ref a, .int x1] (wZ cB cI a b d h i z mem key) (some ((pX5_takeKeyAt z mem key x1).1)) (wZ cB cI a b d h i z mem ((pX5_takeKeyAt z mem key x1).2)) := by
  refine m_start (by decide +kernel) (Nat.le_of_ble_eq_true rfl) ?_
  intro p e s m below meth c A ls X hr hk V hl
  have X : mCx p s m _ c cX5_takeKeyAt 3 RX5 D cB cI := X
  have hx := X.1.1
  have hb := X.1.2.1
  have hl : lv_has ls 3 [(0, .ref a), (1, .int x1)] := hl
  refine lv_aload_n hx hb dX5_takeKeyAt_0 rfl (lv_at hl 0 rfl) ?_
  refine m_get X V 4 0 2 rfl gin_4 rfl (by decide) rfl gm_42 (v := .int (z 0)) rfl dX5_takeKeyAt_1 ?_
  refine lv_iconst (v := 1) hx hb dX5_takeKeyAt_4 (by decide) ?_
  refine lv_icmp_lt (tgt := 17) hx hb dX5_takeKeyAt_5 (by decide) (fun c_5 => ?_) (fun c_5 => ?_)
  · refine lv_bipush (v := 9) hx hb dX5_takeKeyAt_17 (by decide) ?_
    have e9 : pX5_takeKeyAt z mem key x1 = (9, key) := by rw [pX5_takeKeyAt, if_pos c_5]
    exact m_iret X hr hk V (by rw [e9]) (by rw [e9]) dX5_takeKeyAt_19
  · refine lv_aload_n hx hb dX5_takeKeyAt_8 rfl (lv_at hl 0 rfl) ?_
    refine m_get X V 4 0 2 rfl gin_4 rfl (by decide) rfl gm_42 (v := .int (z 0)) rfl dX5_takeKeyAt_9 ?_
    refine lv_bipush (v := 64) hx hb dX5_takeKeyAt_12 (by decide) ?_
    refine lv_icmp_le (tgt := 20) hx hb dX5_takeKeyAt_14 (by decide) (fun c_14 => ?_) (fun c_14 => ?_)
    · refine lv_aload_n hx hb dX5_takeKeyAt_20 rfl (lv_at hl 0 rfl) ?_
      refine m_get X V 4 0 0 rfl gin_4 rfl (by decide) rfl gm_40 (v := .ref b) rfl dX5_takeKeyAt_21 ?_
      refine lv_iload_n hx hb dX5_takeKeyAt_24 rfl (lv_at hl 1 rfl) ?_
      refine lv_aload_n hx hb dX5_takeKeyAt_25 rfl (lv_at hl 0 rfl) ?_
      refine m_get X V 4 0 2 rfl gin_4 rfl (by decide) rfl gm_42 (v := .int (z 0)) rfl dX5_takeKeyAt_26 ?_
      refine m_VN X V (ws' := (wZ cB cI a b d h i z mem key)) (rest := []) (st1 := [.int (pX0_holds 1024 x1 (z 0))]) (kX0_holds l D cB cI b d 1024 mem x1 (z 0) (by decide)) okX0_holds gm_132 gm_630 nm_42 [1, 2] ⟨⟨rfl, rfl⟩, ⟨by decide, by decide⟩, Nat.zero_le _, Nat.zero_le _⟩ rfl rfl rfl rfl (wB_fst _ _ _ _ _ _) (wB_fst _ _ _ _ _ _) rfl rfl hl.1 (Nat.le_of_ble_eq_true rfl) dX5_takeKeyAt_29 rfl rfl (fun H locs V => ?_)
      refine lv_if_ne (tgt := 37) hx hb dX5_takeKeyAt_32 (by decide) (fun c_32 => ?_) (fun c_32 => ?_)
      · refine lv_iconst (v := 0) hx hb dX5_takeKeyAt_37 (by decide) ?_
        refine lv_istore_n (lv' := [(2, .int 0), (0, .ref a), (1, .int x1)]) hx hb dX5_takeKeyAt_38 rfl hl (by decide) rfl (fun ls hl => ?_)
        rw [show pX5_takeKeyAt z mem key x1 = (pX5_takeKeyAt_lp39 z mem x1 ((Int32.toInt (z 0) - Int32.toInt 0).toNat + 1) key 0) from by rw [pX5_takeKeyAt, if_neg c_5, if_pos c_14, if_neg c_32]]
        exact lpX5_takeKeyAt_39 X hr hk  ((Int32.toInt (z 0) - Int32.toInt 0).toNat + 1) key 0 _ _ _  (Nat.lt_succ_self _) V (lv_sub hl [1, 2, 0] rfl)
      · refine lv_iconst (v := 1) hx hb dX5_takeKeyAt_35 (by decide) ?_
        have e9 : pX5_takeKeyAt z mem key x1 = (1, key) := by rw [pX5_takeKeyAt, if_neg c_5, if_pos c_14, if_pos c_32]
        exact m_iret X hr hk V (by rw [e9]) (by rw [e9]) dX5_takeKeyAt_36
    · refine lv_bipush (v := 9) hx hb dX5_takeKeyAt_17 (by decide) ?_
      have e9 : pX5_takeKeyAt z mem key x1 = (9, key) := by rw [pX5_takeKeyAt, if_neg c_5, if_neg c_14]
      exact m_iret X hr hk V (by rw [e9]) (by rw [e9]) dX5_takeKeyAt_19
def pX5_takeKeyOf (z : Nat → Int32) (key : Nat → Int32) (x1 : Int32) : Int32 × (Nat → Int32) := (if (z 0) = 1 then (mLet (pX0_put key 64 0 (z 0) (Int32.toInt64 x1)) (fun (u38 : (Nat → Int32)) => (0, u38))) else (if (z 0) = 2 then (mLet (pX0_put key 64 0 (z 0) (Int32.toInt64 x1)) (fun (u38 : (Nat → Int32)) => (0, u38))) else (if (z 0) = 4 then (mLet (pX0_put key 64 0 (z 0) (Int32.toInt64 x1)) (fun (u38 : (Nat → Int32)) => (0, u38))) else (9, key))))
theorem okX5_takeKeyOf : mOk yX5_takeKeyOf cX5_takeKeyOf 2 (some .int) 1 := ⟨gm_346, gm_5, by decide +kernel⟩
set_option maxRecDepth 100000 in
set_option maxHeartbeats 4000000 in
theorem kX5_takeKeyOf (l : Launch) (D : va_G) (cB cI : ClassId) (a b d h i : Nat) (z : Nat → Int32) (mem : Nat → Int32) (key : Nat → Int32) (x1 : Int32) : mM l D cB cI yX5_takeKeyOf cX5_takeKeyOf 2 (some .int) { frames := 1, cells := 0, slots := 0, locals := 28 } [.ref a, .int x1] (wZ cB cI a b d h i z mem key) (some ((pX5_takeKeyOf z key x1).1)) (wZ cB cI a b d h i z mem ((pX5_takeKeyOf z key x1).2)) := by
  refine m_start (by decide +kernel) (Nat.le_of_ble_eq_true rfl) ?_
  intro p e s m below meth c A ls X hr hk V hl
  have X : mCx p s m _ c cX5_takeKeyOf 2 RX5 D cB cI := X
  have hx := X.1.1
  have hb := X.1.2.1
  have hl : lv_has ls 2 [(0, .ref a), (1, .int x1)] := hl
  refine lv_aload_n hx hb dX5_takeKeyOf_0 rfl (lv_at hl 0 rfl) ?_
  refine m_get X V 4 0 2 rfl gin_4 rfl (by decide) rfl gm_42 (v := .int (z 0)) rfl dX5_takeKeyOf_1 ?_
  refine lv_iconst (v := 1) hx hb dX5_takeKeyOf_4 (by decide) ?_
  refine lv_icmp_eq (tgt := 27) hx hb dX5_takeKeyOf_5 (by decide) (fun c_5 => ?_) (fun c_5 => ?_)
  · refine lv_aload_n hx hb dX5_takeKeyOf_27 rfl (lv_at hl 0 rfl) ?_
    refine m_get X V 4 0 1 rfl gin_4 rfl (by decide) rfl gm_41 (v := .ref h) rfl dX5_takeKeyOf_28 ?_
    refine lv_iconst (v := 0) hx hb dX5_takeKeyOf_31 (by decide) ?_
    refine lv_aload_n hx hb dX5_takeKeyOf_32 rfl (lv_at hl 0 rfl) ?_
    refine m_get X V 4 0 2 rfl gin_4 rfl (by decide) rfl gm_42 (v := .int (z 0)) rfl dX5_takeKeyOf_33 ?_
    refine lv_iload_n hx hb dX5_takeKeyOf_36 rfl (lv_at hl 1 rfl) ?_
    refine lv_i2l hx hb dX5_takeKeyOf_37 rfl ?_
    obtain ⟨u38, hu38⟩ : ∃ u, pX0_put key 64 0 (z 0) (Int32.toInt64 x1) = u := ⟨_, rfl⟩
    have hM := kX0_put l D cB cI h i 64 key 0 (z 0) (Int32.toInt64 x1) (by decide)
    rw [hu38] at hM
    refine m_VN X V (ws' := (wZ cB cI a b d h i z mem u38)) (rest := []) (st1 := []) hM okX0_put gm_134 gm_631 nm_45 [3, 4] ⟨⟨rfl, rfl⟩, ⟨by decide, by decide⟩, Nat.zero_le _, Nat.zero_le _⟩ rfl rfl rfl rfl (wB_fst _ _ _ _ _ _) (wB_fst _ _ _ _ _ _) rfl rfl hl.1 (Nat.le_of_ble_eq_true rfl) dX5_takeKeyOf_38 rfl rfl (fun H locs V => ?_)
    refine lv_iconst (v := 0) hx hb dX5_takeKeyOf_41 (by decide) ?_
    have e9 : pX5_takeKeyOf z key x1 = (0, u38) := by rw [pX5_takeKeyOf, if_pos c_5, hu38, mLet_eq]
    exact m_iret X hr hk V (by rw [e9]) (by rw [e9]) dX5_takeKeyOf_42
  · refine lv_aload_n hx hb dX5_takeKeyOf_8 rfl (lv_at hl 0 rfl) ?_
    refine m_get X V 4 0 2 rfl gin_4 rfl (by decide) rfl gm_42 (v := .int (z 0)) rfl dX5_takeKeyOf_9 ?_
    refine lv_iconst (v := 2) hx hb dX5_takeKeyOf_12 (by decide) ?_
    refine lv_icmp_eq (tgt := 27) hx hb dX5_takeKeyOf_13 (by decide) (fun c_13 => ?_) (fun c_13 => ?_)
    · refine lv_aload_n hx hb dX5_takeKeyOf_27 rfl (lv_at hl 0 rfl) ?_
      refine m_get X V 4 0 1 rfl gin_4 rfl (by decide) rfl gm_41 (v := .ref h) rfl dX5_takeKeyOf_28 ?_
      refine lv_iconst (v := 0) hx hb dX5_takeKeyOf_31 (by decide) ?_
      refine lv_aload_n hx hb dX5_takeKeyOf_32 rfl (lv_at hl 0 rfl) ?_
      refine m_get X V 4 0 2 rfl gin_4 rfl (by decide) rfl gm_42 (v := .int (z 0)) rfl dX5_takeKeyOf_33 ?_
      refine lv_iload_n hx hb dX5_takeKeyOf_36 rfl (lv_at hl 1 rfl) ?_
      refine lv_i2l hx hb dX5_takeKeyOf_37 rfl ?_
      obtain ⟨u38, hu38⟩ : ∃ u, pX0_put key 64 0 (z 0) (Int32.toInt64 x1) = u := ⟨_, rfl⟩
      have hM := kX0_put l D cB cI h i 64 key 0 (z 0) (Int32.toInt64 x1) (by decide)
      rw [hu38] at hM
      refine m_VN X V (ws' := (wZ cB cI a b d h i z mem u38)) (rest := []) (st1 := []) hM okX0_put gm_134 gm_631 nm_45 [3, 4] ⟨⟨rfl, rfl⟩, ⟨by decide, by decide⟩, Nat.zero_le _, Nat.zero_le _⟩ rfl rfl rfl rfl (wB_fst _ _ _ _ _ _) (wB_fst _ _ _ _ _ _) rfl rfl hl.1 (Nat.le_of_ble_eq_true rfl) dX5_takeKeyOf_38 rfl rfl (fun H locs V => ?_)
      refine lv_iconst (v := 0) hx hb dX5_takeKeyOf_41 (by decide) ?_
      have e9 : pX5_takeKeyOf z key x1 = (0, u38) := by rw [pX5_takeKeyOf, if_neg c_5, if_pos c_13, hu38, mLet_eq]
      exact m_iret X hr hk V (by rw [e9]) (by rw [e9]) dX5_takeKeyOf_42
    · refine lv_aload_n hx hb dX5_takeKeyOf_16 rfl (lv_at hl 0 rfl) ?_
      refine m_get X V 4 0 2 rfl gin_4 rfl (by decide) rfl gm_42 (v := .int (z 0)) rfl dX5_takeKeyOf_17 ?_
      refine lv_iconst (v := 4) hx hb dX5_takeKeyOf_20 (by decide) ?_
      refine lv_icmp_eq (tgt := 27) hx hb dX5_takeKeyOf_21 (by decide) (fun c_21 => ?_) (fun c_21 => ?_)
      · refine lv_aload_n hx hb dX5_takeKeyOf_27 rfl (lv_at hl 0 rfl) ?_
        refine m_get X V 4 0 1 rfl gin_4 rfl (by decide) rfl gm_41 (v := .ref h) rfl dX5_takeKeyOf_28 ?_
        refine lv_iconst (v := 0) hx hb dX5_takeKeyOf_31 (by decide) ?_
        refine lv_aload_n hx hb dX5_takeKeyOf_32 rfl (lv_at hl 0 rfl) ?_
        refine m_get X V 4 0 2 rfl gin_4 rfl (by decide) rfl gm_42 (v := .int (z 0)) rfl dX5_takeKeyOf_33 ?_
        refine lv_iload_n hx hb dX5_takeKeyOf_36 rfl (lv_at hl 1 rfl) ?_
        refine lv_i2l hx hb dX5_takeKeyOf_37 rfl ?_
        obtain ⟨u38, hu38⟩ : ∃ u, pX0_put key 64 0 (z 0) (Int32.toInt64 x1) = u := ⟨_, rfl⟩
        have hM := kX0_put l D cB cI h i 64 key 0 (z 0) (Int32.toInt64 x1) (by decide)
        rw [hu38] at hM
        refine m_VN X V (ws' := (wZ cB cI a b d h i z mem u38)) (rest := []) (st1 := []) hM okX0_put gm_134 gm_631 nm_45 [3, 4] ⟨⟨rfl, rfl⟩, ⟨by decide, by decide⟩, Nat.zero_le _, Nat.zero_le _⟩ rfl rfl rfl rfl (wB_fst _ _ _ _ _ _) (wB_fst _ _ _ _ _ _) rfl rfl hl.1 (Nat.le_of_ble_eq_true rfl) dX5_takeKeyOf_38 rfl rfl (fun H locs V => ?_)
        refine lv_iconst (v := 0) hx hb dX5_takeKeyOf_41 (by decide) ?_
        have e9 : pX5_takeKeyOf z key x1 = (0, u38) := by rw [pX5_takeKeyOf, if_neg c_5, if_neg c_13, if_pos c_21, hu38, mLet_eq]
        exact m_iret X hr hk V (by rw [e9]) (by rw [e9]) dX5_takeKeyOf_42
      · refine lv_bipush (v := 9) hx hb dX5_takeKeyOf_24 (by decide) ?_
        have e9 : pX5_takeKeyOf z key x1 = (9, key) := by rw [pX5_takeKeyOf, if_neg c_5, if_neg c_13, if_neg c_21]
        exact m_iret X hr hk V (by rw [e9]) (by rw [e9]) dX5_takeKeyOf_26
def pX5_lookFor (z : Nat → Int32) (mem : Nat → Int32) (key : Nat → Int32) (x1 : Int32) (x2 : Int32) (x3 : Int32) : (Nat → Int32) × (Nat → Int32) := (mLet (pX5_isIndirect (upd (upd z 0 x2) 5 x3)) (fun (u12 : Int32) => (if u12 = 0 then (mLet (pX5_takeKeyOf (upd (upd z 0 x2) 5 x3) key x1) (fun (u28 : Int32 × (Nat → Int32)) => ((upd (upd (upd z 0 x2) 5 x3) 6 u28.1), u28.2))) else (mLet (pX5_takeKeyAt (upd (upd z 0 x2) 5 x3) mem key x1) (fun (u20 : Int32 × (Nat → Int32)) => ((upd (upd (upd z 0 x2) 5 x3) 6 u20.1), u20.2))))))
theorem okX5_lookFor : mOk yX5_lookFor cX5_lookFor 4 none 3 := ⟨gm_337, gm_5, by decide +kernel⟩
set_option maxRecDepth 100000 in
set_option maxHeartbeats 4000000 in
theorem kX5_lookFor (l : Launch) (D : va_G) (cB cI : ClassId) (a b d h i : Nat) (z : Nat → Int32) (mem : Nat → Int32) (key : Nat → Int32) (x1 : Int32) (x2 : Int32) (x3 : Int32) : mM l D cB cI yX5_lookFor cX5_lookFor 4 none { frames := 2, cells := 0, slots := 0, locals := 49 } [.ref a, .int x1, .int x2, .int x3] (wZ cB cI a b d h i z mem key) none (wZ cB cI a b d h i ((pX5_lookFor z mem key x1 x2 x3).1) mem ((pX5_lookFor z mem key x1 x2 x3).2)) := by
  refine m_start (by decide +kernel) (Nat.le_of_ble_eq_true rfl) ?_
  intro p e s m below meth c A ls X hr hk V hl
  have X : mCx p s m _ c cX5_lookFor 4 RX5 D cB cI := X
  have hx := X.1.1
  have hb := X.1.2.1
  have hl : lv_has ls 4 [(0, .ref a), (1, .int x1), (2, .int x2), (3, .int x3)] := hl
  refine lv_aload_n hx hb dX5_lookFor_0 rfl (lv_at hl 0 rfl) ?_
  refine lv_iload_n hx hb dX5_lookFor_1 rfl (lv_at hl 3 rfl) ?_
  refine m_put X V (ws' := (wZ cB cI a b d h i (upd z 5 x3) mem key)) 4 0 7 rfl gin_4 tyX5_ok nmX5 rfl (by decide) rfl gm_47 rfl rfl rfl (Nat.le_of_ble_eq_true rfl) dX5_lookFor_2 rfl (fun H locs V => ?_)
  refine lv_aload_n hx hb dX5_lookFor_5 rfl (lv_at hl 0 rfl) ?_
  refine lv_iload_n hx hb dX5_lookFor_6 rfl (lv_at hl 2 rfl) ?_
  refine m_put X V (ws' := (wZ cB cI a b d h i (upd (upd z 0 x2) 5 x3) mem key)) 4 0 2 rfl gin_4 tyX5_ok nmX5 rfl (by decide) rfl gm_42 rfl rfl rfl (Nat.le_of_ble_eq_true rfl) dX5_lookFor_7 rfl (fun H locs V => ?_)
  refine lv_aload_n hx hb dX5_lookFor_10 rfl (lv_at hl 0 rfl) ?_
  refine lv_aload_n hx hb dX5_lookFor_11 rfl (lv_at hl 0 rfl) ?_
  obtain ⟨u12, hu12⟩ : ∃ u, pX5_isIndirect (upd (upd z 0 x2) 5 x3) = u := ⟨_, rfl⟩
  have hM := kX5_isIndirect l D cB cI a b d h i (upd (upd z 0 x2) 5 x3) mem key
  rw [hu12] at hM
  refine m_VA X V (w1 := (wZ cB cI a b d h i (upd (upd z 0 x2) 5 x3) mem key)) (rest := [.ref a]) (st1 := [.int u12, .ref a]) hM okX5_isIndirect gm_339 gm_677 gm_338 ⟨⟨rfl, rfl⟩, ⟨by decide, by decide⟩, Nat.zero_le _, Nat.zero_le _⟩ rfl rfl (wZ_fst _ _ _ _ _ _ _ _ _ _) (wZ_fst _ _ _ _ _ _ _ _ _ _) rfl hl.1 (Nat.le_of_ble_eq_true rfl) dX5_lookFor_12 rfl rfl (fun H locs V => ?_)
  refine lv_if_eq (tgt := 26) hx hb dX5_lookFor_15 (by decide) (fun c_15 => ?_) (fun c_15 => ?_)
  · refine lv_aload_n hx hb dX5_lookFor_26 rfl (lv_at hl 0 rfl) ?_
    refine lv_iload_n hx hb dX5_lookFor_27 rfl (lv_at hl 1 rfl) ?_
    obtain ⟨u28, hu28⟩ : ∃ u, pX5_takeKeyOf (upd (upd z 0 x2) 5 x3) key x1 = u := ⟨_, rfl⟩
    have hM := kX5_takeKeyOf l D cB cI a b d h i (upd (upd z 0 x2) 5 x3) mem key x1
    rw [hu28] at hM
    refine m_VA X V (w1 := (wZ cB cI a b d h i (upd (upd z 0 x2) 5 x3) mem u28.2)) (rest := [.ref a]) (st1 := [.int u28.1, .ref a]) hM okX5_takeKeyOf gm_345 gm_679 gm_344 ⟨⟨rfl, rfl⟩, ⟨by decide, by decide⟩, Nat.zero_le _, Nat.zero_le _⟩ rfl rfl (wZ_fst _ _ _ _ _ _ _ _ _ _) (wZ_fst _ _ _ _ _ _ _ _ _ _) rfl hl.1 (Nat.le_of_ble_eq_true rfl) dX5_lookFor_28 rfl rfl (fun H locs V => ?_)
    refine m_put X V (ws' := (wZ cB cI a b d h i (upd (upd (upd z 0 x2) 5 x3) 6 u28.1) mem u28.2)) 4 0 8 rfl gin_4 tyX5_ok nmX5 rfl (by decide) rfl gm_48 rfl rfl rfl (Nat.le_of_ble_eq_true rfl) dX5_lookFor_31 rfl (fun H locs V => ?_)
    have e9 : pX5_lookFor z mem key x1 x2 x3 = ((upd (upd (upd z 0 x2) 5 x3) 6 u28.1), u28.2) := by rw [pX5_lookFor, hu12, mLet_eq, if_pos c_15, hu28, mLet_eq]
    exact m_vret X hr hk V rfl (by rw [e9]) dX5_lookFor_34
  · refine lv_aload_n hx hb dX5_lookFor_18 rfl (lv_at hl 0 rfl) ?_
    refine lv_iload_n hx hb dX5_lookFor_19 rfl (lv_at hl 1 rfl) ?_
    obtain ⟨u20, hu20⟩ : ∃ u, pX5_takeKeyAt (upd (upd z 0 x2) 5 x3) mem key x1 = u := ⟨_, rfl⟩
    have hM := kX5_takeKeyAt l D cB cI a b d h i (upd (upd z 0 x2) 5 x3) mem key x1
    rw [hu20] at hM
    refine m_VA X V (w1 := (wZ cB cI a b d h i (upd (upd z 0 x2) 5 x3) mem u20.2)) (rest := [.ref a]) (st1 := [.int u20.1, .ref a]) hM okX5_takeKeyAt gm_342 gm_678 gm_341 ⟨⟨rfl, rfl⟩, ⟨by decide, by decide⟩, Nat.zero_le _, Nat.zero_le _⟩ rfl rfl (wZ_fst _ _ _ _ _ _ _ _ _ _) (wZ_fst _ _ _ _ _ _ _ _ _ _) rfl hl.1 (Nat.le_of_ble_eq_true rfl) dX5_lookFor_20 rfl rfl (fun H locs V => ?_)
    refine lv_goto (tgt := 31) hx hb dX5_lookFor_23 (by decide) ?_
    refine m_put X V (ws' := (wZ cB cI a b d h i (upd (upd (upd z 0 x2) 5 x3) 6 u20.1) mem u20.2)) 4 0 8 rfl gin_4 tyX5_ok nmX5 rfl (by decide) rfl gm_48 rfl rfl rfl (Nat.le_of_ble_eq_true rfl) dX5_lookFor_31 rfl (fun H locs V => ?_)
    have e9 : pX5_lookFor z mem key x1 x2 x3 = ((upd (upd (upd z 0 x2) 5 x3) 6 u20.1), u20.2) := by rw [pX5_lookFor, hu12, mLet_eq, if_neg c_15, hu20, mLet_eq]
    exact m_vret X hr hk V rfl (by rw [e9]) dX5_lookFor_34
def pX5_keyPlaceOf (z : Nat → Int32) (x1 : Int32) : Int32 := ((((z 1) + (x1 * (z 2))) + (z 4)))
theorem okX5_keyPlaceOf : mOk yX5_keyPlaceOf cX5_keyPlaceOf 2 (some .int) 1 := ⟨gm_354, gm_5, by decide +kernel⟩
set_option maxRecDepth 100000 in
set_option maxHeartbeats 4000000 in
theorem kX5_keyPlaceOf (l : Launch) (D : va_G) (cB cI : ClassId) (a b d h i : Nat) (z : Nat → Int32) (mem : Nat → Int32) (key : Nat → Int32) (x1 : Int32) : mM l D cB cI yX5_keyPlaceOf cX5_keyPlaceOf 2 (some .int) { frames := 0, cells := 0, slots := 0, locals := 0 } [.ref a, .int x1] (wZ cB cI a b d h i z mem key) (some (pX5_keyPlaceOf z x1)) (wZ cB cI a b d h i z mem key) := by
  refine m_start (by decide +kernel) (Nat.le_of_ble_eq_true rfl) ?_
  intro p e s m below meth c A ls X hr hk V hl
  have X : mCx p s m _ c cX5_keyPlaceOf 2 RX5 D cB cI := X
  have hx := X.1.1
  have hb := X.1.2.1
  have hl : lv_has ls 2 [(0, .ref a), (1, .int x1)] := hl
  refine lv_aload_n hx hb dX5_keyPlaceOf_0 rfl (lv_at hl 0 rfl) ?_
  refine m_get X V 4 0 3 rfl gin_4 rfl (by decide) rfl gm_43 (v := .int (z 1)) rfl dX5_keyPlaceOf_1 ?_
  refine lv_iload_n hx hb dX5_keyPlaceOf_4 rfl (lv_at hl 1 rfl) ?_
  refine lv_aload_n hx hb dX5_keyPlaceOf_5 rfl (lv_at hl 0 rfl) ?_
  refine m_get X V 4 0 4 rfl gin_4 rfl (by decide) rfl gm_44 (v := .int (z 2)) rfl dX5_keyPlaceOf_6 ?_
  refine lv_imul hx hb dX5_keyPlaceOf_9 ?_
  refine lv_iadd hx hb dX5_keyPlaceOf_10 ?_
  refine lv_aload_n hx hb dX5_keyPlaceOf_11 rfl (lv_at hl 0 rfl) ?_
  refine m_get X V 4 0 6 rfl gin_4 rfl (by decide) rfl gm_46 (v := .int (z 4)) rfl dX5_keyPlaceOf_12 ?_
  refine lv_iadd hx hb dX5_keyPlaceOf_15 ?_
  have e9 : pX5_keyPlaceOf z x1 = ((((z 1) + (x1 * (z 2))) + (z 4))) := by rw [pX5_keyPlaceOf]
  exact m_iret X hr hk V (by rw [e9]) rfl dX5_keyPlaceOf_16
def pX5_isThere (z : Nat → Int32) (x1 : Int32) : Int32 × (Nat → Int32) := (mLet (pX0_holds 1024 (pX5_keyPlaceOf z x1) (z 0)) (fun (u13 : Int32) => (if u13 = 0 then (u13, (upd z 6 1)) else (u13, z))))
theorem okX5_isThere : mOk yX5_isThere cX5_isThere 3 (some .boolean) 1 := ⟨gm_351, gm_5, by decide +kernel⟩
set_option maxRecDepth 100000 in
set_option maxHeartbeats 4000000 in
theorem kX5_isThere (l : Launch) (D : va_G) (cB cI : ClassId) (a b d h i : Nat) (z : Nat → Int32) (mem : Nat → Int32) (key : Nat → Int32) (x1 : Int32) : mM l D cB cI yX5_isThere cX5_isThere 3 (some .boolean) { frames := 1, cells := 0, slots := 0, locals := 22 } [.ref a, .int x1] (wZ cB cI a b d h i z mem key) (some ((pX5_isThere z x1).1)) (wZ cB cI a b d h i ((pX5_isThere z x1).2) mem key) := by
  refine m_start (by decide +kernel) (Nat.le_of_ble_eq_true rfl) ?_
  intro p e s m below meth c A ls X hr hk V hl
  have X : mCx p s m _ c cX5_isThere 3 RX5 D cB cI := X
  have hx := X.1.1
  have hb := X.1.2.1
  have hl : lv_has ls 3 [(0, .ref a), (1, .int x1)] := hl
  refine lv_aload_n hx hb dX5_isThere_0 rfl (lv_at hl 0 rfl) ?_
  refine m_get X V 4 0 0 rfl gin_4 rfl (by decide) rfl gm_40 (v := .ref b) rfl dX5_isThere_1 ?_
  refine lv_aload_n hx hb dX5_isThere_4 rfl (lv_at hl 0 rfl) ?_
  refine lv_iload_n hx hb dX5_isThere_5 rfl (lv_at hl 1 rfl) ?_
  refine m_VA X V (w1 := (wZ cB cI a b d h i z mem key)) (rest := [.ref b]) (st1 := [.int (pX5_keyPlaceOf z x1), .ref b]) (kX5_keyPlaceOf l D cB cI a b d h i z mem key x1) okX5_keyPlaceOf gm_353 gm_682 gm_352 ⟨⟨rfl, rfl⟩, ⟨by decide, by decide⟩, Nat.zero_le _, Nat.zero_le _⟩ rfl rfl (wZ_fst _ _ _ _ _ _ _ _ _ _) (wZ_fst _ _ _ _ _ _ _ _ _ _) rfl hl.1 (Nat.le_of_ble_eq_true rfl) dX5_isThere_6 rfl rfl (fun H locs V => ?_)
  refine lv_aload_n hx hb dX5_isThere_9 rfl (lv_at hl 0 rfl) ?_
  refine m_get X V 4 0 2 rfl gin_4 rfl (by decide) rfl gm_42 (v := .int (z 0)) rfl dX5_isThere_10 ?_
  obtain ⟨u13, hu13⟩ : ∃ u, pX0_holds 1024 (pX5_keyPlaceOf z x1) (z 0) = u := ⟨_, rfl⟩
  have hM := kX0_holds l D cB cI b d 1024 mem (pX5_keyPlaceOf z x1) (z 0) (by decide)
  rw [hu13] at hM
  refine m_VN X V (ws' := (wZ cB cI a b d h i z mem key)) (rest := []) (st1 := [.int u13]) hM okX0_holds gm_132 gm_630 nm_42 [1, 2] ⟨⟨rfl, rfl⟩, ⟨by decide, by decide⟩, Nat.zero_le _, Nat.zero_le _⟩ rfl rfl rfl rfl (wB_fst _ _ _ _ _ _) (wB_fst _ _ _ _ _ _) rfl rfl hl.1 (Nat.le_of_ble_eq_true rfl) dX5_isThere_13 rfl rfl (fun H locs V => ?_)
  refine lv_istore_n (lv' := [(2, .int u13), (0, .ref a), (1, .int x1)]) hx hb dX5_isThere_16 rfl hl (by decide) rfl (fun ls hl => ?_)
  refine lv_iload_n hx hb dX5_isThere_17 rfl (lv_at hl 0 rfl) ?_
  refine lv_if_ne (tgt := 26) hx hb dX5_isThere_18 (by decide) (fun c_18 => ?_) (fun c_18 => ?_)
  · refine lv_iload_n hx hb dX5_isThere_26 rfl (lv_at hl 0 rfl) ?_
    have e9 : pX5_isThere z x1 = (u13, z) := by rw [pX5_isThere, hu13, mLet_eq, if_neg c_18]
    exact m_zret X hr hk V (by have h := zX0_holds 1024 (pX5_keyPlaceOf z x1) (z 0); rw [hu13] at h; exact h) (by rw [e9]) (by rw [e9]) dX5_isThere_27
  · refine lv_aload_n hx hb dX5_isThere_21 rfl (lv_at hl 1 rfl) ?_
    refine lv_iconst (v := 1) hx hb dX5_isThere_22 (by decide) ?_
    refine m_put X V (ws' := (wZ cB cI a b d h i (upd z 6 1) mem key)) 4 0 8 rfl gin_4 tyX5_ok nmX5 rfl (by decide) rfl gm_48 rfl rfl rfl (Nat.le_of_ble_eq_true rfl) dX5_isThere_23 rfl (fun H locs V => ?_)
    refine lv_iload_n hx hb dX5_isThere_26 rfl (lv_at hl 0 rfl) ?_
    have e9 : pX5_isThere z x1 = (u13, (upd z 6 1)) := by rw [pX5_isThere, hu13, mLet_eq, if_pos c_18]
    exact m_zret X hr hk V (by have h := zX0_holds 1024 (pX5_keyPlaceOf z x1) (z 0); rw [hu13] at h; exact h) (by rw [e9]) (by rw [e9]) dX5_isThere_27
def pX5_compare_lp8 (z : Nat → Int32) (mem : Nat → Int32) (key : Nat → Int32) : Nat → (Int32) → (Int32) → Int32
  | 0, k2, k3 => (0)
  | n_ + 1, k2, k3 => (if (z 0) ≤ k3 then (0) else (if ((pX0_byteAt mem 1024 (k2 + k3)) - (pX0_byteAt key 64 k3)) = 0 then (pX5_compare_lp8 z mem key n_ k2 (k3 + 1)) else (((pX0_byteAt mem 1024 (k2 + k3)) - (pX0_byteAt key 64 k3)))))
def pX5_compare (z : Nat → Int32) (mem : Nat → Int32) (key : Nat → Int32) (x1 : Int32) : Int32 := (pX5_compare_lp8 z mem key ((Int32.toInt (z 0) - Int32.toInt 0).toNat + 1) (pX5_keyPlaceOf z x1) 0)
theorem okX5_compare : mOk yX5_compare cX5_compare 5 (some .int) 1 := ⟨gm_363, gm_5, by decide +kernel⟩
set_option maxRecDepth 100000 in
set_option maxHeartbeats 4000000 in
theorem lpX5_compare_8 {p : Program} {e : Env} {s : State} {m : MethodId} {args : Array Value} {below : List Frame} {meth : Method} {c : Code} {A : Nat → Prop} {l : Launch} {D : va_G} {cB cI : ClassId} {a b d h i : Nat} {z : Nat → Int32} {mem : Nat → Int32} {key : Nat → Int32} (X : mCx p s m args c cX5_compare 5 RX5 D cB cI) (hr : meth.sig.returnType = (some .int)) (hk : meth.locks = false) : ∀ (n_ : Nat) (k2 : Int32) (k3 : Int32) (H : Heap) (locs : List Loc) (ls : Array Slot), (Int32.toInt (z 0) - Int32.toInt k3).toNat < n_ → mWd D A s (wZ cB cI a b d h i z mem key) H locs → lv_has ls 5 [(0, .ref a), (2, .int k2), (3, .int k3)] → W p l e { frames := 1, cells := 0, slots := 0, locals := 21 } s m args below meth c H locs 0 0 (MQ below (mQ D A (wZ cB cI a b d h i z mem key) (some (pX5_compare_lp8 z mem key n_ k2 k3))) args s 0 0 A) (F0 m 8 ls []) := by
  have hx := X.1.1
  have hb := X.1.2.1
  intro n_
  induction n_ with
  | zero =>
    intro k2 k3 H locs ls  hm V hl
    exact absurd hm (Nat.not_lt_zero _)
  | succ n_ ih =>
    intro k2 k3 H locs ls  hm V hl
    refine lv_iload_n hx hb dX5_compare_8 rfl (lv_at hl 2 rfl) ?_
    refine lv_aload_n hx hb dX5_compare_9 rfl (lv_at hl 0 rfl) ?_
    refine m_get X V 4 0 2 rfl gin_4 rfl (by decide) rfl gm_42 (v := .int (z 0)) rfl dX5_compare_10 ?_
    refine lv_icmp_ge (tgt := 51) hx hb dX5_compare_13 (by decide) (fun c_13 => ?_) (fun c_13 => ?_)
    · refine lv_iconst (v := 0) hx hb dX5_compare_51 (by decide) ?_
      have e9 : pX5_compare_lp8 z mem key (n_ + 1) k2 k3 = (0) := by rw [pX5_compare_lp8, if_pos c_13]
      exact m_iret X hr hk V (by rw [e9]) rfl dX5_compare_52
    · refine lv_aload_n hx hb dX5_compare_16 rfl (lv_at hl 0 rfl) ?_
      refine m_get X V 4 0 0 rfl gin_4 rfl (by decide) rfl gm_40 (v := .ref b) rfl dX5_compare_17 ?_
      refine lv_iload_n hx hb dX5_compare_20 rfl (lv_at hl 1 rfl) ?_
      refine lv_iload_n hx hb dX5_compare_21 rfl (lv_at hl 2 rfl) ?_
      refine lv_iadd hx hb dX5_compare_22 ?_
      refine m_VN X V (ws' := (wZ cB cI a b d h i z mem key)) (rest := []) (st1 := [.int (pX0_byteAt mem 1024 (k2 + k3))]) (kX0_byteAt l D cB cI b d 1024 mem (k2 + k3) (by decide)) okX0_byteAt gm_177 gm_640 nm_43 [1, 2] ⟨⟨rfl, rfl⟩, ⟨by decide, by decide⟩, Nat.zero_le _, Nat.zero_le _⟩ rfl rfl rfl rfl (wB_fst _ _ _ _ _ _) (wB_fst _ _ _ _ _ _) rfl rfl hl.1 (Nat.le_of_ble_eq_true rfl) dX5_compare_23 rfl rfl (fun H locs V => ?_)
      refine lv_aload_n hx hb dX5_compare_26 rfl (lv_at hl 0 rfl) ?_
      refine m_get X V 4 0 1 rfl gin_4 rfl (by decide) rfl gm_41 (v := .ref h) rfl dX5_compare_27 ?_
      refine lv_iload_n hx hb dX5_compare_30 rfl (lv_at hl 2 rfl) ?_
      refine m_VN X V (ws' := (wZ cB cI a b d h i z mem key)) (rest := [.int (pX0_byteAt mem 1024 (k2 + k3))]) (st1 := [.int (pX0_byteAt key 64 k3), .int (pX0_byteAt mem 1024 (k2 + k3))]) (kX0_byteAt l D cB cI h i 64 key k3 (by decide)) okX0_byteAt gm_177 gm_640 nm_43 [3, 4] ⟨⟨rfl, rfl⟩, ⟨by decide, by decide⟩, Nat.zero_le _, Nat.zero_le _⟩ rfl rfl rfl rfl (wB_fst _ _ _ _ _ _) (wB_fst _ _ _ _ _ _) rfl rfl hl.1 (Nat.le_of_ble_eq_true rfl) dX5_compare_31 rfl rfl (fun H locs V => ?_)
      refine lv_isub hx hb dX5_compare_34 ?_
      refine lv_istore (lv' := [(4, .int ((pX0_byteAt mem 1024 (k2 + k3)) - (pX0_byteAt key 64 k3))), (0, .ref a), (2, .int k2), (3, .int k3)]) hx hb dX5_compare_35 hl (by decide) rfl (fun ls hl => ?_)
      refine lv_iload hx hb dX5_compare_37 (lv_at hl 0 rfl) ?_
      refine lv_if_eq (tgt := 45) hx hb dX5_compare_39 (by decide) (fun c_39 => ?_) (fun c_39 => ?_)
      · refine lv_iinc (v := (k3 + 1)) (lv' := [(3, .int (k3 + 1)), (4, .int ((pX0_byteAt mem 1024 (k2 + k3)) - (pX0_byteAt key 64 k3))), (0, .ref a), (2, .int k2)]) hx hb dX5_compare_45 hl (k := 3) rfl rfl (by decide) rfl (fun ls hl => ?_)
        refine lv_goto (tgt := 8) hx hb dX5_compare_48 (by decide) ?_
        rw [show pX5_compare_lp8 z mem key (n_ + 1) k2 k3 = pX5_compare_lp8 z mem key n_ k2 (k3 + 1) from by rw [pX5_compare_lp8, if_neg c_13, if_pos c_39]]
        exact ih k2 (k3 + 1) _ _ _  (ms_up c_13 hm) V (lv_sub hl [2, 3, 0] rfl)
      · refine lv_iload hx hb dX5_compare_42 (lv_at hl 0 rfl) ?_
        have e9 : pX5_compare_lp8 z mem key (n_ + 1) k2 k3 = (((pX0_byteAt mem 1024 (k2 + k3)) - (pX0_byteAt key 64 k3))) := by rw [pX5_compare_lp8, if_neg c_13, if_neg c_39]
        exact m_iret X hr hk V (by rw [e9]) rfl dX5_compare_44
set_option maxRecDepth 100000 in
set_option maxHeartbeats 4000000 in
theorem kX5_compare (l : Launch) (D : va_G) (cB cI : ClassId) (a b d h i : Nat) (z : Nat → Int32) (mem : Nat → Int32) (key : Nat → Int32) (x1 : Int32) : mM l D cB cI yX5_compare cX5_compare 5 (some .int) { frames := 1, cells := 0, slots := 0, locals := 21 } [.ref a, .int x1] (wZ cB cI a b d h i z mem key) (some (pX5_compare z mem key x1)) (wZ cB cI a b d h i z mem key) := by
  refine m_start (by decide +kernel) (Nat.le_of_ble_eq_true rfl) ?_
  intro p e s m below meth c A ls X hr hk V hl
  have X : mCx p s m _ c cX5_compare 5 RX5 D cB cI := X
  have hx := X.1.1
  have hb := X.1.2.1
  have hl : lv_has ls 5 [(0, .ref a), (1, .int x1)] := hl
  refine lv_aload_n hx hb dX5_compare_0 rfl (lv_at hl 0 rfl) ?_
  refine lv_iload_n hx hb dX5_compare_1 rfl (lv_at hl 1 rfl) ?_
  refine m_VA X V (w1 := (wZ cB cI a b d h i z mem key)) (rest := []) (st1 := [.int (pX5_keyPlaceOf z x1)]) (kX5_keyPlaceOf l D cB cI a b d h i z mem key x1) okX5_keyPlaceOf gm_353 gm_682 gm_352 ⟨⟨rfl, rfl⟩, ⟨by decide, by decide⟩, Nat.zero_le _, Nat.zero_le _⟩ rfl rfl (wZ_fst _ _ _ _ _ _ _ _ _ _) (wZ_fst _ _ _ _ _ _ _ _ _ _) rfl hl.1 (Nat.le_of_ble_eq_true rfl) dX5_compare_2 rfl rfl (fun H locs V => ?_)
  refine lv_istore_n (lv' := [(2, .int (pX5_keyPlaceOf z x1)), (0, .ref a), (1, .int x1)]) hx hb dX5_compare_5 rfl hl (by decide) rfl (fun ls hl => ?_)
  refine lv_iconst (v := 0) hx hb dX5_compare_6 (by decide) ?_
  refine lv_istore_n (lv' := [(3, .int 0), (2, .int (pX5_keyPlaceOf z x1)), (0, .ref a), (1, .int x1)]) hx hb dX5_compare_7 rfl hl (by decide) rfl (fun ls hl => ?_)
  rw [show pX5_compare z mem key x1 = (pX5_compare_lp8 z mem key ((Int32.toInt (z 0) - Int32.toInt 0).toNat + 1) (pX5_keyPlaceOf z x1) 0) from by rw [pX5_compare]]
  exact lpX5_compare_8 X hr hk  ((Int32.toInt (z 0) - Int32.toInt 0).toNat + 1) (pX5_keyPlaceOf z x1) 0 _ _ _  (Nat.lt_succ_self _) V (lv_sub hl [2, 1, 0] rfl)
def pX5_isBlank_lp8 (z : Nat → Int32) (mem : Nat → Int32) : Nat → (Int32) → (Int32) → Int32
  | 0, k2, k3 => (0)
  | n_ + 1, k2, k3 => (if (z 0) ≤ k3 then (1) else (if (pX0_byteAt mem 1024 (k2 + k3)) = 0 then (pX5_isBlank_lp8 z mem n_ k2 (k3 + 1)) else (0)))
def pX5_isBlank (z : Nat → Int32) (mem : Nat → Int32) (x1 : Int32) : Int32 := (pX5_isBlank_lp8 z mem ((Int32.toInt (z 0) - Int32.toInt 0).toNat + 1) (pX5_keyPlaceOf z x1) 0)
theorem okX5_isBlank : mOk yX5_isBlank cX5_isBlank 4 (some .boolean) 1 := ⟨gm_372, gm_5, by decide +kernel⟩
set_option maxRecDepth 100000 in
set_option maxHeartbeats 4000000 in
theorem lpX5_isBlank_8 {p : Program} {e : Env} {s : State} {m : MethodId} {args : Array Value} {below : List Frame} {meth : Method} {c : Code} {A : Nat → Prop} {l : Launch} {D : va_G} {cB cI : ClassId} {a b d h i : Nat} {z : Nat → Int32} {mem : Nat → Int32} {key : Nat → Int32} (X : mCx p s m args c cX5_isBlank 4 RX5 D cB cI) (hr : meth.sig.returnType = (some .boolean)) (hk : meth.locks = false) : ∀ (n_ : Nat) (k2 : Int32) (k3 : Int32) (H : Heap) (locs : List Loc) (ls : Array Slot), (Int32.toInt (z 0) - Int32.toInt k3).toNat < n_ → mWd D A s (wZ cB cI a b d h i z mem key) H locs → lv_has ls 4 [(0, .ref a), (2, .int k2), (3, .int k3)] → W p l e { frames := 1, cells := 0, slots := 0, locals := 21 } s m args below meth c H locs 0 0 (MQ below (mQ D A (wZ cB cI a b d h i z mem key) (some (pX5_isBlank_lp8 z mem n_ k2 k3))) args s 0 0 A) (F0 m 8 ls []) := by
  have hx := X.1.1
  have hb := X.1.2.1
  intro n_
  induction n_ with
  | zero =>
    intro k2 k3 H locs ls  hm V hl
    exact absurd hm (Nat.not_lt_zero _)
  | succ n_ ih =>
    intro k2 k3 H locs ls  hm V hl
    refine lv_iload_n hx hb dX5_isBlank_8 rfl (lv_at hl 2 rfl) ?_
    refine lv_aload_n hx hb dX5_isBlank_9 rfl (lv_at hl 0 rfl) ?_
    refine m_get X V 4 0 2 rfl gin_4 rfl (by decide) rfl gm_42 (v := .int (z 0)) rfl dX5_isBlank_10 ?_
    refine lv_icmp_ge (tgt := 37) hx hb dX5_isBlank_13 (by decide) (fun c_13 => ?_) (fun c_13 => ?_)
    · refine lv_iconst (v := 1) hx hb dX5_isBlank_37 (by decide) ?_
      have e9 : pX5_isBlank_lp8 z mem (n_ + 1) k2 k3 = (1) := by rw [pX5_isBlank_lp8, if_pos c_13]
      exact m_zret X hr hk V rfl (by rw [e9]) rfl dX5_isBlank_38
    · refine lv_aload_n hx hb dX5_isBlank_16 rfl (lv_at hl 0 rfl) ?_
      refine m_get X V 4 0 0 rfl gin_4 rfl (by decide) rfl gm_40 (v := .ref b) rfl dX5_isBlank_17 ?_
      refine lv_iload_n hx hb dX5_isBlank_20 rfl (lv_at hl 1 rfl) ?_
      refine lv_iload_n hx hb dX5_isBlank_21 rfl (lv_at hl 2 rfl) ?_
      refine lv_iadd hx hb dX5_isBlank_22 ?_
      refine m_VN X V (ws' := (wZ cB cI a b d h i z mem key)) (rest := []) (st1 := [.int (pX0_byteAt mem 1024 (k2 + k3))]) (kX0_byteAt l D cB cI b d 1024 mem (k2 + k3) (by decide)) okX0_byteAt gm_177 gm_640 nm_43 [1, 2] ⟨⟨rfl, rfl⟩, ⟨by decide, by decide⟩, Nat.zero_le _, Nat.zero_le _⟩ rfl rfl rfl rfl (wB_fst _ _ _ _ _ _) (wB_fst _ _ _ _ _ _) rfl rfl hl.1 (Nat.le_of_ble_eq_true rfl) dX5_isBlank_23 rfl rfl (fun H locs V => ?_)
      refine lv_if_eq (tgt := 31) hx hb dX5_isBlank_26 (by decide) (fun c_26 => ?_) (fun c_26 => ?_)
      · refine lv_iinc (v := (k3 + 1)) (lv' := [(3, .int (k3 + 1)), (0, .ref a), (2, .int k2)]) hx hb dX5_isBlank_31 hl (k := 2) rfl rfl (by decide) rfl (fun ls hl => ?_)
        refine lv_goto (tgt := 8) hx hb dX5_isBlank_34 (by decide) ?_
        rw [show pX5_isBlank_lp8 z mem (n_ + 1) k2 k3 = pX5_isBlank_lp8 z mem n_ k2 (k3 + 1) from by rw [pX5_isBlank_lp8, if_neg c_13, if_pos c_26]]
        exact ih k2 (k3 + 1) _ _ _  (ms_up c_13 hm) V (lv_sub hl [1, 2, 0] rfl)
      · refine lv_iconst (v := 0) hx hb dX5_isBlank_29 (by decide) ?_
        have e9 : pX5_isBlank_lp8 z mem (n_ + 1) k2 k3 = (0) := by rw [pX5_isBlank_lp8, if_neg c_13, if_neg c_26]
        exact m_zret X hr hk V rfl (by rw [e9]) rfl dX5_isBlank_30
set_option maxRecDepth 100000 in
set_option maxHeartbeats 4000000 in
theorem kX5_isBlank (l : Launch) (D : va_G) (cB cI : ClassId) (a b d h i : Nat) (z : Nat → Int32) (mem : Nat → Int32) (key : Nat → Int32) (x1 : Int32) : mM l D cB cI yX5_isBlank cX5_isBlank 4 (some .boolean) { frames := 1, cells := 0, slots := 0, locals := 21 } [.ref a, .int x1] (wZ cB cI a b d h i z mem key) (some (pX5_isBlank z mem x1)) (wZ cB cI a b d h i z mem key) := by
  refine m_start (by decide +kernel) (Nat.le_of_ble_eq_true rfl) ?_
  intro p e s m below meth c A ls X hr hk V hl
  have X : mCx p s m _ c cX5_isBlank 4 RX5 D cB cI := X
  have hx := X.1.1
  have hb := X.1.2.1
  have hl : lv_has ls 4 [(0, .ref a), (1, .int x1)] := hl
  refine lv_aload_n hx hb dX5_isBlank_0 rfl (lv_at hl 0 rfl) ?_
  refine lv_iload_n hx hb dX5_isBlank_1 rfl (lv_at hl 1 rfl) ?_
  refine m_VA X V (w1 := (wZ cB cI a b d h i z mem key)) (rest := []) (st1 := [.int (pX5_keyPlaceOf z x1)]) (kX5_keyPlaceOf l D cB cI a b d h i z mem key x1) okX5_keyPlaceOf gm_353 gm_682 gm_352 ⟨⟨rfl, rfl⟩, ⟨by decide, by decide⟩, Nat.zero_le _, Nat.zero_le _⟩ rfl rfl (wZ_fst _ _ _ _ _ _ _ _ _ _) (wZ_fst _ _ _ _ _ _ _ _ _ _) rfl hl.1 (Nat.le_of_ble_eq_true rfl) dX5_isBlank_2 rfl rfl (fun H locs V => ?_)
  refine lv_istore_n (lv' := [(2, .int (pX5_keyPlaceOf z x1)), (0, .ref a), (1, .int x1)]) hx hb dX5_isBlank_5 rfl hl (by decide) rfl (fun ls hl => ?_)
  refine lv_iconst (v := 0) hx hb dX5_isBlank_6 (by decide) ?_
  refine lv_istore_n (lv' := [(3, .int 0), (2, .int (pX5_keyPlaceOf z x1)), (0, .ref a), (1, .int x1)]) hx hb dX5_isBlank_7 rfl hl (by decide) rfl (fun ls hl => ?_)
  rw [show pX5_isBlank z mem x1 = (pX5_isBlank_lp8 z mem ((Int32.toInt (z 0) - Int32.toInt 0).toNat + 1) (pX5_keyPlaceOf z x1) 0) from by rw [pX5_isBlank]]
  exact lpX5_isBlank_8 X hr hk  ((Int32.toInt (z 0) - Int32.toInt 0).toNat + 1) (pX5_keyPlaceOf z x1) 0 _ _ _  (Nat.lt_succ_self _) V (lv_sub hl [2, 1, 0] rfl)
def pX5_found (z : Nat → Int32) (x1 : Int32) : Int32 := (if (pX5_wantsPlace z) = 0 then (((z 1) + (x1 * (z 2)))) else (x1))
theorem okX5_found : mOk yX5_found cX5_found 2 (some .int) 1 := ⟨gm_366, gm_5, by decide +kernel⟩
set_option maxRecDepth 100000 in
set_option maxHeartbeats 4000000 in
theorem kX5_found (l : Launch) (D : va_G) (cB cI : ClassId) (a b d h i : Nat) (z : Nat → Int32) (mem : Nat → Int32) (key : Nat → Int32) (x1 : Int32) : mM l D cB cI yX5_found cX5_found 2 (some .int) { frames := 1, cells := 0, slots := 0, locals := 20 } [.ref a, .int x1] (wZ cB cI a b d h i z mem key) (some (pX5_found z x1)) (wZ cB cI a b d h i z mem key) := by
  refine m_start (by decide +kernel) (Nat.le_of_ble_eq_true rfl) ?_
  intro p e s m below meth c A ls X hr hk V hl
  have X : mCx p s m _ c cX5_found 2 RX5 D cB cI := X
  have hx := X.1.1
  have hb := X.1.2.1
  have hl : lv_has ls 2 [(0, .ref a), (1, .int x1)] := hl
  refine lv_aload_n hx hb dX5_found_0 rfl (lv_at hl 0 rfl) ?_
  refine m_VA X V (w1 := (wZ cB cI a b d h i z mem key)) (rest := []) (st1 := [.int (pX5_wantsPlace z)]) (kX5_wantsPlace l D cB cI a b d h i z mem key) okX5_wantsPlace gm_359 gm_684 gm_358 ⟨⟨rfl, rfl⟩, ⟨by decide, by decide⟩, Nat.zero_le _, Nat.zero_le _⟩ rfl rfl (wZ_fst _ _ _ _ _ _ _ _ _ _) (wZ_fst _ _ _ _ _ _ _ _ _ _) rfl hl.1 (Nat.le_of_ble_eq_true rfl) dX5_found_1 rfl rfl (fun H locs V => ?_)
  refine lv_if_eq (tgt := 11) hx hb dX5_found_4 (by decide) (fun c_4 => ?_) (fun c_4 => ?_)
  · refine lv_aload_n hx hb dX5_found_11 rfl (lv_at hl 0 rfl) ?_
    refine m_get X V 4 0 3 rfl gin_4 rfl (by decide) rfl gm_43 (v := .int (z 1)) rfl dX5_found_12 ?_
    refine lv_iload_n hx hb dX5_found_15 rfl (lv_at hl 1 rfl) ?_
    refine lv_aload_n hx hb dX5_found_16 rfl (lv_at hl 0 rfl) ?_
    refine m_get X V 4 0 4 rfl gin_4 rfl (by decide) rfl gm_44 (v := .int (z 2)) rfl dX5_found_17 ?_
    refine lv_imul hx hb dX5_found_20 ?_
    refine lv_iadd hx hb dX5_found_21 ?_
    have e9 : pX5_found z x1 = (((z 1) + (x1 * (z 2)))) := by rw [pX5_found, if_pos c_4]
    exact m_iret X hr hk V (by rw [e9]) rfl dX5_found_22
  · refine lv_iload_n hx hb dX5_found_7 rfl (lv_at hl 1 rfl) ?_
    refine lv_goto (tgt := 22) hx hb dX5_found_8 (by decide) ?_
    have e9 : pX5_found z x1 = (x1) := by rw [pX5_found, if_neg c_4]
    exact m_iret X hr hk V (by rw [e9]) rfl dX5_found_22
def pX5_missing (z : Nat → Int32) : Int32 := (if (pX5_wantsPlace z) = 0 then (0) else ((-1)))
theorem okX5_missing : mOk yX5_missing cX5_missing 1 (some .int) 0 := ⟨gm_357, gm_5, by decide +kernel⟩
set_option maxRecDepth 100000 in
set_option maxHeartbeats 4000000 in
theorem kX5_missing (l : Launch) (D : va_G) (cB cI : ClassId) (a b d h i : Nat) (z : Nat → Int32) (mem : Nat → Int32) (key : Nat → Int32) : mM l D cB cI yX5_missing cX5_missing 1 (some .int) { frames := 1, cells := 0, slots := 0, locals := 20 } [.ref a] (wZ cB cI a b d h i z mem key) (some (pX5_missing z)) (wZ cB cI a b d h i z mem key) := by
  refine m_start (by decide +kernel) (Nat.le_of_ble_eq_true rfl) ?_
  intro p e s m below meth c A ls X hr hk V hl
  have X : mCx p s m _ c cX5_missing 1 RX5 D cB cI := X
  have hx := X.1.1
  have hb := X.1.2.1
  have hl : lv_has ls 1 [(0, .ref a)] := hl
  refine lv_aload_n hx hb dX5_missing_0 rfl (lv_at hl 0 rfl) ?_
  refine m_VA X V (w1 := (wZ cB cI a b d h i z mem key)) (rest := []) (st1 := [.int (pX5_wantsPlace z)]) (kX5_wantsPlace l D cB cI a b d h i z mem key) okX5_wantsPlace gm_359 gm_684 gm_358 ⟨⟨rfl, rfl⟩, ⟨by decide, by decide⟩, Nat.zero_le _, Nat.zero_le _⟩ rfl rfl (wZ_fst _ _ _ _ _ _ _ _ _ _) (wZ_fst _ _ _ _ _ _ _ _ _ _) rfl hl.1 (Nat.le_of_ble_eq_true rfl) dX5_missing_1 rfl rfl (fun H locs V => ?_)
  refine lv_if_eq (tgt := 11) hx hb dX5_missing_4 (by decide) (fun c_4 => ?_) (fun c_4 => ?_)
  · refine lv_iconst (v := 0) hx hb dX5_missing_11 (by decide) ?_
    have e9 : pX5_missing z = (0) := by rw [pX5_missing, if_pos c_4]
    exact m_iret X hr hk V (by rw [e9]) rfl dX5_missing_12
  · refine lv_iconst (v := (-1)) hx hb dX5_missing_7 (by decide) ?_
    refine lv_goto (tgt := 12) hx hb dX5_missing_8 (by decide) ?_
    have e9 : pX5_missing z = ((-1)) := by rw [pX5_missing, if_neg c_4]
    exact m_iret X hr hk V (by rw [e9]) rfl dX5_missing_12
theorem isThere_3 (z : Nat → Int32) (x1 : Int32) : (pX5_isThere z x1).2 3 = z 3 := by
  unfold pX5_isThere
  rw [mLet_eq]
  split <;> rfl
def pX5_oneByOne_lp2 (mem : Nat → Int32) (key : Nat → Int32) : Nat → (Nat → Int32) → (Int32) → Int32 × (Nat → Int32)
  | 0, z, k1 => (0, z)
  | n_ + 1, z, k1 => (if (z 3) ≤ k1 then ((pX5_missing z), z) else (if (z 6) = 0 then (mLet (pX5_isThere z k1) (fun (u19 : Int32 × (Nat → Int32)) => (if u19.1 = 0 then ((pX5_missing u19.2), u19.2) else (if (pX5_compare u19.2 mem key k1) = 0 then ((pX5_found u19.2 k1), u19.2) else (if (pX5_isEnded u19.2) = 0 then (pX5_oneByOne_lp2 mem key n_ u19.2 (k1 + 1)) else (if (pX5_isBlank u19.2 mem k1) = 0 then (pX5_oneByOne_lp2 mem key n_ u19.2 (k1 + 1)) else ((pX5_missing u19.2), u19.2))))))) else ((pX5_missing z), z)))
def pX5_oneByOne (z : Nat → Int32) (mem : Nat → Int32) (key : Nat → Int32) : Int32 × (Nat → Int32) := (pX5_oneByOne_lp2 mem key ((Int32.toInt (z 3) - Int32.toInt 0).toNat + 1) z 0)
theorem okX5_oneByOne : mOk yX5_oneByOne cX5_oneByOne 2 (some .int) 0 := ⟨gm_348, gm_5, by decide +kernel⟩
set_option maxRecDepth 100000 in
set_option maxHeartbeats 4000000 in
theorem lpX5_oneByOne_2 {p : Program} {e : Env} {s : State} {m : MethodId} {args : Array Value} {below : List Frame} {meth : Method} {c : Code} {A : Nat → Prop} {l : Launch} {D : va_G} {cB cI : ClassId} {a b d h i : Nat} {mem : Nat → Int32} {key : Nat → Int32} (X : mCx p s m args c cX5_oneByOne 2 RX5 D cB cI) (hr : meth.sig.returnType = (some .int)) (hk : meth.locks = false) : ∀ (n_ : Nat) (z : Nat → Int32) (k1 : Int32) (H : Heap) (locs : List Loc) (ls : Array Slot), (Int32.toInt (z 3) - Int32.toInt k1).toNat < n_ → mWd D A s (wZ cB cI a b d h i z mem key) H locs → lv_has ls 2 [(0, .ref a), (1, .int k1)] → W p l e { frames := 2, cells := 0, slots := 0, locals := 45 } s m args below meth c H locs 0 0 (MQ below (mQ D A (wZ cB cI a b d h i ((pX5_oneByOne_lp2 mem key n_ z k1).2) mem key) (some ((pX5_oneByOne_lp2 mem key n_ z k1).1))) args s 0 0 A) (F0 m 2 ls []) := by
  have hx := X.1.1
  have hb := X.1.2.1
  intro n_
  induction n_ with
  | zero =>
    intro z k1 H locs ls  hm V hl
    exact absurd hm (Nat.not_lt_zero _)
  | succ n_ ih =>
    intro z k1 H locs ls  hm V hl
    refine lv_iload_n hx hb dX5_oneByOne_2 rfl (lv_at hl 1 rfl) ?_
    refine lv_aload_n hx hb dX5_oneByOne_3 rfl (lv_at hl 0 rfl) ?_
    refine m_get X V 4 0 5 rfl gin_4 rfl (by decide) rfl gm_45 (v := .int (z 3)) rfl dX5_oneByOne_4 ?_
    refine lv_icmp_ge (tgt := 70) hx hb dX5_oneByOne_7 (by decide) (fun c_7 => ?_) (fun c_7 => ?_)
    · refine lv_aload_n hx hb dX5_oneByOne_70 rfl (lv_at hl 0 rfl) ?_
      refine m_VA X V (w1 := (wZ cB cI a b d h i z mem key)) (rest := []) (st1 := [.int (pX5_missing z)]) (kX5_missing l D cB cI a b d h i z mem key) okX5_missing gm_356 gm_683 gm_355 ⟨⟨rfl, rfl⟩, ⟨by decide, by decide⟩, Nat.zero_le _, Nat.zero_le _⟩ rfl rfl (wZ_fst _ _ _ _ _ _ _ _ _ _) (wZ_fst _ _ _ _ _ _ _ _ _ _) rfl hl.1 (Nat.le_of_ble_eq_true rfl) dX5_oneByOne_71 rfl rfl (fun H locs V => ?_)
      have e9 : pX5_oneByOne_lp2 mem key (n_ + 1) z k1 = ((pX5_missing z), z) := by rw [pX5_oneByOne_lp2, if_pos c_7]
      exact m_iret X hr hk V (by rw [e9]) (by rw [e9]) dX5_oneByOne_74
    · refine lv_aload_n hx hb dX5_oneByOne_10 rfl (lv_at hl 0 rfl) ?_
      refine m_get X V 4 0 8 rfl gin_4 rfl (by decide) rfl gm_48 (v := .int (z 6)) rfl dX5_oneByOne_11 ?_
      refine lv_if_ne (tgt := 70) hx hb dX5_oneByOne_14 (by decide) (fun c_14 => ?_) (fun c_14 => ?_)
      · refine lv_aload_n hx hb dX5_oneByOne_70 rfl (lv_at hl 0 rfl) ?_
        refine m_VA X V (w1 := (wZ cB cI a b d h i z mem key)) (rest := []) (st1 := [.int (pX5_missing z)]) (kX5_missing l D cB cI a b d h i z mem key) okX5_missing gm_356 gm_683 gm_355 ⟨⟨rfl, rfl⟩, ⟨by decide, by decide⟩, Nat.zero_le _, Nat.zero_le _⟩ rfl rfl (wZ_fst _ _ _ _ _ _ _ _ _ _) (wZ_fst _ _ _ _ _ _ _ _ _ _) rfl hl.1 (Nat.le_of_ble_eq_true rfl) dX5_oneByOne_71 rfl rfl (fun H locs V => ?_)
        have e9 : pX5_oneByOne_lp2 mem key (n_ + 1) z k1 = ((pX5_missing z), z) := by rw [pX5_oneByOne_lp2, if_neg c_7, if_neg c_14]
        exact m_iret X hr hk V (by rw [e9]) (by rw [e9]) dX5_oneByOne_74
      · refine lv_aload_n hx hb dX5_oneByOne_17 rfl (lv_at hl 0 rfl) ?_
        refine lv_iload_n hx hb dX5_oneByOne_18 rfl (lv_at hl 1 rfl) ?_
        obtain ⟨u19, hu19⟩ : ∃ u, pX5_isThere z k1 = u := ⟨_, rfl⟩
        have hM := kX5_isThere l D cB cI a b d h i z mem key k1
        rw [hu19] at hM
        refine m_VA X V (w1 := (wZ cB cI a b d h i u19.2 mem key)) (rest := []) (st1 := [.int u19.1]) hM okX5_isThere gm_350 gm_681 gm_349 ⟨⟨rfl, rfl⟩, ⟨by decide, by decide⟩, Nat.zero_le _, Nat.zero_le _⟩ rfl rfl (wZ_fst _ _ _ _ _ _ _ _ _ _) (wZ_fst _ _ _ _ _ _ _ _ _ _) rfl hl.1 (Nat.le_of_ble_eq_true rfl) dX5_oneByOne_19 rfl rfl (fun H locs V => ?_)
        refine lv_if_ne (tgt := 30) hx hb dX5_oneByOne_22 (by decide) (fun c_22 => ?_) (fun c_22 => ?_)
        · refine lv_aload_n hx hb dX5_oneByOne_30 rfl (lv_at hl 0 rfl) ?_
          refine lv_iload_n hx hb dX5_oneByOne_31 rfl (lv_at hl 1 rfl) ?_
          refine m_VA X V (w1 := (wZ cB cI a b d h i u19.2 mem key)) (rest := []) (st1 := [.int (pX5_compare u19.2 mem key k1)]) (kX5_compare l D cB cI a b d h i u19.2 mem key k1) okX5_compare gm_362 gm_685 gm_361 ⟨⟨rfl, rfl⟩, ⟨by decide, by decide⟩, Nat.zero_le _, Nat.zero_le _⟩ rfl rfl (wZ_fst _ _ _ _ _ _ _ _ _ _) (wZ_fst _ _ _ _ _ _ _ _ _ _) rfl hl.1 (Nat.le_of_ble_eq_true rfl) dX5_oneByOne_32 rfl rfl (fun H locs V => ?_)
          refine lv_if_ne (tgt := 44) hx hb dX5_oneByOne_35 (by decide) (fun c_35 => ?_) (fun c_35 => ?_)
          · refine lv_aload_n hx hb dX5_oneByOne_44 rfl (lv_at hl 0 rfl) ?_
            refine m_VA X V (w1 := (wZ cB cI a b d h i u19.2 mem key)) (rest := []) (st1 := [.int (pX5_isEnded u19.2)]) (kX5_isEnded l D cB cI a b d h i u19.2 mem key) okX5_isEnded gm_368 gm_687 gm_367 ⟨⟨rfl, rfl⟩, ⟨by decide, by decide⟩, Nat.zero_le _, Nat.zero_le _⟩ rfl rfl (wZ_fst _ _ _ _ _ _ _ _ _ _) (wZ_fst _ _ _ _ _ _ _ _ _ _) rfl hl.1 (Nat.le_of_ble_eq_true rfl) dX5_oneByOne_45 rfl rfl (fun H locs V => ?_)
            refine lv_if_eq (tgt := 64) hx hb dX5_oneByOne_48 (by decide) (fun c_48 => ?_) (fun c_48 => ?_)
            · refine lv_iinc (v := (k1 + 1)) (lv' := [(1, .int (k1 + 1)), (0, .ref a)]) hx hb dX5_oneByOne_64 hl (k := 1) rfl rfl (by decide) rfl (fun ls hl => ?_)
              refine lv_goto (tgt := 2) hx hb dX5_oneByOne_67 (by decide) ?_
              rw [show pX5_oneByOne_lp2 mem key (n_ + 1) z k1 = pX5_oneByOne_lp2 mem key n_ u19.2 (k1 + 1) from by rw [pX5_oneByOne_lp2, if_neg c_7, if_pos c_14, hu19, mLet_eq, if_neg c_22, if_neg c_35, if_pos c_48]]
              exact ih u19.2 (k1 + 1) _ _ _  (by rw [show u19.2 3 = z 3 from by rw [← hu19]; exact isThere_3 _ _]; exact ms_up c_7 hm) V (lv_sub hl [1, 0] rfl)
            · refine lv_aload_n hx hb dX5_oneByOne_51 rfl (lv_at hl 0 rfl) ?_
              refine lv_iload_n hx hb dX5_oneByOne_52 rfl (lv_at hl 1 rfl) ?_
              refine m_VA X V (w1 := (wZ cB cI a b d h i u19.2 mem key)) (rest := []) (st1 := [.int (pX5_isBlank u19.2 mem k1)]) (kX5_isBlank l D cB cI a b d h i u19.2 mem key k1) okX5_isBlank gm_371 gm_688 gm_370 ⟨⟨rfl, rfl⟩, ⟨by decide, by decide⟩, Nat.zero_le _, Nat.zero_le _⟩ rfl rfl (wZ_fst _ _ _ _ _ _ _ _ _ _) (wZ_fst _ _ _ _ _ _ _ _ _ _) rfl hl.1 (Nat.le_of_ble_eq_true rfl) dX5_oneByOne_53 rfl rfl (fun H locs V => ?_)
              refine lv_if_eq (tgt := 64) hx hb dX5_oneByOne_56 (by decide) (fun c_56 => ?_) (fun c_56 => ?_)
              · refine lv_iinc (v := (k1 + 1)) (lv' := [(1, .int (k1 + 1)), (0, .ref a)]) hx hb dX5_oneByOne_64 hl (k := 1) rfl rfl (by decide) rfl (fun ls hl => ?_)
                refine lv_goto (tgt := 2) hx hb dX5_oneByOne_67 (by decide) ?_
                rw [show pX5_oneByOne_lp2 mem key (n_ + 1) z k1 = pX5_oneByOne_lp2 mem key n_ u19.2 (k1 + 1) from by rw [pX5_oneByOne_lp2, if_neg c_7, if_pos c_14, hu19, mLet_eq, if_neg c_22, if_neg c_35, if_neg c_48, if_pos c_56]]
                exact ih u19.2 (k1 + 1) _ _ _  (by rw [show u19.2 3 = z 3 from by rw [← hu19]; exact isThere_3 _ _]; exact ms_up c_7 hm) V (lv_sub hl [1, 0] rfl)
              · refine lv_aload_n hx hb dX5_oneByOne_59 rfl (lv_at hl 0 rfl) ?_
                refine m_VA X V (w1 := (wZ cB cI a b d h i u19.2 mem key)) (rest := []) (st1 := [.int (pX5_missing u19.2)]) (kX5_missing l D cB cI a b d h i u19.2 mem key) okX5_missing gm_356 gm_683 gm_355 ⟨⟨rfl, rfl⟩, ⟨by decide, by decide⟩, Nat.zero_le _, Nat.zero_le _⟩ rfl rfl (wZ_fst _ _ _ _ _ _ _ _ _ _) (wZ_fst _ _ _ _ _ _ _ _ _ _) rfl hl.1 (Nat.le_of_ble_eq_true rfl) dX5_oneByOne_60 rfl rfl (fun H locs V => ?_)
                have e9 : pX5_oneByOne_lp2 mem key (n_ + 1) z k1 = ((pX5_missing u19.2), u19.2) := by rw [pX5_oneByOne_lp2, if_neg c_7, if_pos c_14, hu19, mLet_eq, if_neg c_22, if_neg c_35, if_neg c_48, if_neg c_56]
                exact m_iret X hr hk V (by rw [e9]) (by rw [e9]) dX5_oneByOne_63
          · refine lv_aload_n hx hb dX5_oneByOne_38 rfl (lv_at hl 0 rfl) ?_
            refine lv_iload_n hx hb dX5_oneByOne_39 rfl (lv_at hl 1 rfl) ?_
            refine m_VA X V (w1 := (wZ cB cI a b d h i u19.2 mem key)) (rest := []) (st1 := [.int (pX5_found u19.2 k1)]) (kX5_found l D cB cI a b d h i u19.2 mem key k1) okX5_found gm_365 gm_686 gm_364 ⟨⟨rfl, rfl⟩, ⟨by decide, by decide⟩, Nat.zero_le _, Nat.zero_le _⟩ rfl rfl (wZ_fst _ _ _ _ _ _ _ _ _ _) (wZ_fst _ _ _ _ _ _ _ _ _ _) rfl hl.1 (Nat.le_of_ble_eq_true rfl) dX5_oneByOne_40 rfl rfl (fun H locs V => ?_)
            have e9 : pX5_oneByOne_lp2 mem key (n_ + 1) z k1 = ((pX5_found u19.2 k1), u19.2) := by rw [pX5_oneByOne_lp2, if_neg c_7, if_pos c_14, hu19, mLet_eq, if_neg c_22, if_pos c_35]
            exact m_iret X hr hk V (by rw [e9]) (by rw [e9]) dX5_oneByOne_43
        · refine lv_aload_n hx hb dX5_oneByOne_25 rfl (lv_at hl 0 rfl) ?_
          refine m_VA X V (w1 := (wZ cB cI a b d h i u19.2 mem key)) (rest := []) (st1 := [.int (pX5_missing u19.2)]) (kX5_missing l D cB cI a b d h i u19.2 mem key) okX5_missing gm_356 gm_683 gm_355 ⟨⟨rfl, rfl⟩, ⟨by decide, by decide⟩, Nat.zero_le _, Nat.zero_le _⟩ rfl rfl (wZ_fst _ _ _ _ _ _ _ _ _ _) (wZ_fst _ _ _ _ _ _ _ _ _ _) rfl hl.1 (Nat.le_of_ble_eq_true rfl) dX5_oneByOne_26 rfl rfl (fun H locs V => ?_)
          have e9 : pX5_oneByOne_lp2 mem key (n_ + 1) z k1 = ((pX5_missing u19.2), u19.2) := by rw [pX5_oneByOne_lp2, if_neg c_7, if_pos c_14, hu19, mLet_eq, if_pos c_22]
          exact m_iret X hr hk V (by rw [e9]) (by rw [e9]) dX5_oneByOne_29
set_option maxRecDepth 100000 in
set_option maxHeartbeats 4000000 in
theorem kX5_oneByOne (l : Launch) (D : va_G) (cB cI : ClassId) (a b d h i : Nat) (z : Nat → Int32) (mem : Nat → Int32) (key : Nat → Int32) : mM l D cB cI yX5_oneByOne cX5_oneByOne 2 (some .int) { frames := 2, cells := 0, slots := 0, locals := 45 } [.ref a] (wZ cB cI a b d h i z mem key) (some ((pX5_oneByOne z mem key).1)) (wZ cB cI a b d h i ((pX5_oneByOne z mem key).2) mem key) := by
  refine m_start (by decide +kernel) (Nat.le_of_ble_eq_true rfl) ?_
  intro p e s m below meth c A ls X hr hk V hl
  have X : mCx p s m _ c cX5_oneByOne 2 RX5 D cB cI := X
  have hx := X.1.1
  have hb := X.1.2.1
  have hl : lv_has ls 2 [(0, .ref a)] := hl
  refine lv_iconst (v := 0) hx hb dX5_oneByOne_0 (by decide) ?_
  refine lv_istore_n (lv' := [(1, .int 0), (0, .ref a)]) hx hb dX5_oneByOne_1 rfl hl (by decide) rfl (fun ls hl => ?_)
  rw [show pX5_oneByOne z mem key = (pX5_oneByOne_lp2 mem key ((Int32.toInt (z 3) - Int32.toInt 0).toNat + 1) z 0) from by rw [pX5_oneByOne]]
  exact lpX5_oneByOne_2 X hr hk  ((Int32.toInt (z 3) - Int32.toInt 0).toNat + 1) z 0 _ _ _  (Nat.lt_succ_self _) V (lv_sub hl [1, 0] rfl)
def pX5_byHalves_lp9 (mem : Nat → Int32) (key : Nat → Int32) : Nat → (Nat → Int32) → (Int32) → (Int32) → (Int32) → Int32 × (Nat → Int32)
  | 0, z, k1, k2, k3 => (0, z)
  | n_ + 1, z, k1, k2, k3 => (if 32 ≤ k3 then ((pX5_missing z), z) else (if k2 ≤ k1 then ((pX5_missing z), z) else (if (z 6) = 0 then (mLet (pX5_isThere z ((k1 + k2) / 2)) (fun (u37 : Int32 × (Nat → Int32)) => (if u37.1 = 0 then ((pX5_missing u37.2), u37.2) else (mLet (pX5_compare u37.2 mem key ((k1 + k2) / 2)) (fun (u51 : Int32) => (if u51 = 0 then (mLet (pX5_found u37.2 ((k1 + k2) / 2)) (fun (u64 : Int32) => (u64, u37.2))) else (if 0 ≤ u51 then (pX5_byHalves_lp9 mem key n_ u37.2 k1 ((k1 + k2) / 2) (k3 + 1)) else (pX5_byHalves_lp9 mem key n_ u37.2 (((k1 + k2) / 2) + 1) k2 (k3 + 1))))))))) else ((pX5_missing z), z))))
def pX5_byHalves (z : Nat → Int32) (mem : Nat → Int32) (key : Nat → Int32) : Int32 × (Nat → Int32) := (pX5_byHalves_lp9 mem key ((Int32.toInt 32 - Int32.toInt 0).toNat + 1) z 0 (z 3) 0)
theorem okX5_byHalves : mOk yX5_byHalves cX5_byHalves 6 (some .int) 0 := ⟨gm_374, gm_5, by decide +kernel⟩
set_option maxRecDepth 100000 in
set_option maxHeartbeats 4000000 in
theorem lpX5_byHalves_9 {p : Program} {e : Env} {s : State} {m : MethodId} {args : Array Value} {below : List Frame} {meth : Method} {c : Code} {A : Nat → Prop} {l : Launch} {D : va_G} {cB cI : ClassId} {a b d h i : Nat} {mem : Nat → Int32} {key : Nat → Int32} (X : mCx p s m args c cX5_byHalves 6 RX5 D cB cI) (hr : meth.sig.returnType = (some .int)) (hk : meth.locks = false) : ∀ (n_ : Nat) (z : Nat → Int32) (k1 : Int32) (k2 : Int32) (k3 : Int32) (H : Heap) (locs : List Loc) (ls : Array Slot), (Int32.toInt 32 - Int32.toInt k3).toNat < n_ → mWd D A s (wZ cB cI a b d h i z mem key) H locs → lv_has ls 6 [(0, .ref a), (1, .int k1), (2, .int k2), (3, .int k3)] → W p l e { frames := 2, cells := 0, slots := 0, locals := 45 } s m args below meth c H locs 0 0 (MQ below (mQ D A (wZ cB cI a b d h i ((pX5_byHalves_lp9 mem key n_ z k1 k2 k3).2) mem key) (some ((pX5_byHalves_lp9 mem key n_ z k1 k2 k3).1))) args s 0 0 A) (F0 m 9 ls []) := by
  have hx := X.1.1
  have hb := X.1.2.1
  intro n_
  induction n_ with
  | zero =>
    intro z k1 k2 k3 H locs ls  hm V hl
    exact absurd hm (Nat.not_lt_zero _)
  | succ n_ ih =>
    intro z k1 k2 k3 H locs ls  hm V hl
    refine lv_iload_n hx hb dX5_byHalves_9 rfl (lv_at hl 3 rfl) ?_
    refine lv_bipush (v := 32) hx hb dX5_byHalves_10 (by decide) ?_
    refine lv_icmp_ge (tgt := 90) hx hb dX5_byHalves_12 (by decide) (fun c_12 => ?_) (fun c_12 => ?_)
    · refine lv_aload_n hx hb dX5_byHalves_90 rfl (lv_at hl 0 rfl) ?_
      refine m_VA X V (w1 := (wZ cB cI a b d h i z mem key)) (rest := []) (st1 := [.int (pX5_missing z)]) (kX5_missing l D cB cI a b d h i z mem key) okX5_missing gm_356 gm_683 gm_355 ⟨⟨rfl, rfl⟩, ⟨by decide, by decide⟩, Nat.zero_le _, Nat.zero_le _⟩ rfl rfl (wZ_fst _ _ _ _ _ _ _ _ _ _) (wZ_fst _ _ _ _ _ _ _ _ _ _) rfl hl.1 (Nat.le_of_ble_eq_true rfl) dX5_byHalves_91 rfl rfl (fun H locs V => ?_)
      have e9 : pX5_byHalves_lp9 mem key (n_ + 1) z k1 k2 k3 = ((pX5_missing z), z) := by rw [pX5_byHalves_lp9, if_pos c_12]
      exact m_iret X hr hk V (by rw [e9]) (by rw [e9]) dX5_byHalves_94
    · refine lv_iload_n hx hb dX5_byHalves_15 rfl (lv_at hl 1 rfl) ?_
      refine lv_iload_n hx hb dX5_byHalves_16 rfl (lv_at hl 2 rfl) ?_
      refine lv_icmp_ge (tgt := 90) hx hb dX5_byHalves_17 (by decide) (fun c_17 => ?_) (fun c_17 => ?_)
      · refine lv_aload_n hx hb dX5_byHalves_90 rfl (lv_at hl 0 rfl) ?_
        refine m_VA X V (w1 := (wZ cB cI a b d h i z mem key)) (rest := []) (st1 := [.int (pX5_missing z)]) (kX5_missing l D cB cI a b d h i z mem key) okX5_missing gm_356 gm_683 gm_355 ⟨⟨rfl, rfl⟩, ⟨by decide, by decide⟩, Nat.zero_le _, Nat.zero_le _⟩ rfl rfl (wZ_fst _ _ _ _ _ _ _ _ _ _) (wZ_fst _ _ _ _ _ _ _ _ _ _) rfl hl.1 (Nat.le_of_ble_eq_true rfl) dX5_byHalves_91 rfl rfl (fun H locs V => ?_)
        have e9 : pX5_byHalves_lp9 mem key (n_ + 1) z k1 k2 k3 = ((pX5_missing z), z) := by rw [pX5_byHalves_lp9, if_neg c_12, if_pos c_17]
        exact m_iret X hr hk V (by rw [e9]) (by rw [e9]) dX5_byHalves_94
      · refine lv_aload_n hx hb dX5_byHalves_20 rfl (lv_at hl 0 rfl) ?_
        refine m_get X V 4 0 8 rfl gin_4 rfl (by decide) rfl gm_48 (v := .int (z 6)) rfl dX5_byHalves_21 ?_
        refine lv_if_ne (tgt := 90) hx hb dX5_byHalves_24 (by decide) (fun c_24 => ?_) (fun c_24 => ?_)
        · refine lv_aload_n hx hb dX5_byHalves_90 rfl (lv_at hl 0 rfl) ?_
          refine m_VA X V (w1 := (wZ cB cI a b d h i z mem key)) (rest := []) (st1 := [.int (pX5_missing z)]) (kX5_missing l D cB cI a b d h i z mem key) okX5_missing gm_356 gm_683 gm_355 ⟨⟨rfl, rfl⟩, ⟨by decide, by decide⟩, Nat.zero_le _, Nat.zero_le _⟩ rfl rfl (wZ_fst _ _ _ _ _ _ _ _ _ _) (wZ_fst _ _ _ _ _ _ _ _ _ _) rfl hl.1 (Nat.le_of_ble_eq_true rfl) dX5_byHalves_91 rfl rfl (fun H locs V => ?_)
          have e9 : pX5_byHalves_lp9 mem key (n_ + 1) z k1 k2 k3 = ((pX5_missing z), z) := by rw [pX5_byHalves_lp9, if_neg c_12, if_neg c_17, if_neg c_24]
          exact m_iret X hr hk V (by rw [e9]) (by rw [e9]) dX5_byHalves_94
        · refine lv_iload_n hx hb dX5_byHalves_27 rfl (lv_at hl 1 rfl) ?_
          refine lv_iload_n hx hb dX5_byHalves_28 rfl (lv_at hl 2 rfl) ?_
          refine lv_iadd hx hb dX5_byHalves_29 ?_
          refine lv_iconst (v := 2) hx hb dX5_byHalves_30 (by decide) ?_
          refine lv_idiv hx hb dX5_byHalves_31 (by decide) ?_
          refine lv_istore (lv' := [(4, .int ((k1 + k2) / 2)), (0, .ref a), (1, .int k1), (2, .int k2), (3, .int k3)]) hx hb dX5_byHalves_32 hl (by decide) rfl (fun ls hl => ?_)
          refine lv_aload_n hx hb dX5_byHalves_34 rfl (lv_at hl 1 rfl) ?_
          refine lv_iload hx hb dX5_byHalves_35 (lv_at hl 0 rfl) ?_
          obtain ⟨u37, hu37⟩ : ∃ u, pX5_isThere z ((k1 + k2) / 2) = u := ⟨_, rfl⟩
          have hM := kX5_isThere l D cB cI a b d h i z mem key ((k1 + k2) / 2)
          rw [hu37] at hM
          refine m_VA X V (w1 := (wZ cB cI a b d h i u37.2 mem key)) (rest := []) (st1 := [.int u37.1]) hM okX5_isThere gm_350 gm_681 gm_349 ⟨⟨rfl, rfl⟩, ⟨by decide, by decide⟩, Nat.zero_le _, Nat.zero_le _⟩ rfl rfl (wZ_fst _ _ _ _ _ _ _ _ _ _) (wZ_fst _ _ _ _ _ _ _ _ _ _) rfl hl.1 (Nat.le_of_ble_eq_true rfl) dX5_byHalves_37 rfl rfl (fun H locs V => ?_)
          refine lv_if_ne (tgt := 48) hx hb dX5_byHalves_40 (by decide) (fun c_40 => ?_) (fun c_40 => ?_)
          · refine lv_aload_n hx hb dX5_byHalves_48 rfl (lv_at hl 1 rfl) ?_
            refine lv_iload hx hb dX5_byHalves_49 (lv_at hl 0 rfl) ?_
            obtain ⟨u51, hu51⟩ : ∃ u, pX5_compare u37.2 mem key ((k1 + k2) / 2) = u := ⟨_, rfl⟩
            have hM := kX5_compare l D cB cI a b d h i u37.2 mem key ((k1 + k2) / 2)
            rw [hu51] at hM
            refine m_VA X V (w1 := (wZ cB cI a b d h i u37.2 mem key)) (rest := []) (st1 := [.int u51]) hM okX5_compare gm_362 gm_685 gm_361 ⟨⟨rfl, rfl⟩, ⟨by decide, by decide⟩, Nat.zero_le _, Nat.zero_le _⟩ rfl rfl (wZ_fst _ _ _ _ _ _ _ _ _ _) (wZ_fst _ _ _ _ _ _ _ _ _ _) rfl hl.1 (Nat.le_of_ble_eq_true rfl) dX5_byHalves_51 rfl rfl (fun H locs V => ?_)
            refine lv_istore (lv' := [(5, .int u51), (4, .int ((k1 + k2) / 2)), (0, .ref a), (1, .int k1), (2, .int k2), (3, .int k3)]) hx hb dX5_byHalves_54 hl (by decide) rfl (fun ls hl => ?_)
            refine lv_iload hx hb dX5_byHalves_56 (lv_at hl 0 rfl) ?_
            refine lv_if_ne (tgt := 68) hx hb dX5_byHalves_58 (by decide) (fun c_58 => ?_) (fun c_58 => ?_)
            · refine lv_iload hx hb dX5_byHalves_68 (lv_at hl 0 rfl) ?_
              refine lv_if_ge (tgt := 81) hx hb dX5_byHalves_70 (by decide) (fun c_70 => ?_) (fun c_70 => ?_)
              · refine lv_iload hx hb dX5_byHalves_81 (lv_at hl 1 rfl) ?_
                refine lv_istore_n (lv' := [(2, .int ((k1 + k2) / 2)), (5, .int u51), (4, .int ((k1 + k2) / 2)), (0, .ref a), (1, .int k1), (3, .int k3)]) hx hb dX5_byHalves_83 rfl hl (by decide) rfl (fun ls hl => ?_)
                refine lv_iinc (v := (k3 + 1)) (lv' := [(3, .int (k3 + 1)), (2, .int ((k1 + k2) / 2)), (5, .int u51), (4, .int ((k1 + k2) / 2)), (0, .ref a), (1, .int k1)]) hx hb dX5_byHalves_84 hl (k := 5) rfl rfl (by decide) rfl (fun ls hl => ?_)
                refine lv_goto (tgt := 9) hx hb dX5_byHalves_87 (by decide) ?_
                rw [show pX5_byHalves_lp9 mem key (n_ + 1) z k1 k2 k3 = pX5_byHalves_lp9 mem key n_ u37.2 k1 ((k1 + k2) / 2) (k3 + 1) from by rw [pX5_byHalves_lp9, if_neg c_12, if_neg c_17, if_pos c_24, hu37, mLet_eq, if_neg c_40, hu51, mLet_eq, if_neg c_58, if_pos c_70]]
                exact ih u37.2 k1 ((k1 + k2) / 2) (k3 + 1) _ _ _  (ms_up c_12 hm) V (lv_sub hl [4, 5, 1, 0] rfl)
              · refine lv_iload hx hb dX5_byHalves_73 (lv_at hl 1 rfl) ?_
                refine lv_iconst (v := 1) hx hb dX5_byHalves_75 (by decide) ?_
                refine lv_iadd hx hb dX5_byHalves_76 ?_
                refine lv_istore_n (lv' := [(1, .int (((k1 + k2) / 2) + 1)), (5, .int u51), (4, .int ((k1 + k2) / 2)), (0, .ref a), (2, .int k2), (3, .int k3)]) hx hb dX5_byHalves_77 rfl hl (by decide) rfl (fun ls hl => ?_)
                refine lv_goto (tgt := 84) hx hb dX5_byHalves_78 (by decide) ?_
                refine lv_iinc (v := (k3 + 1)) (lv' := [(3, .int (k3 + 1)), (1, .int (((k1 + k2) / 2) + 1)), (5, .int u51), (4, .int ((k1 + k2) / 2)), (0, .ref a), (2, .int k2)]) hx hb dX5_byHalves_84 hl (k := 5) rfl rfl (by decide) rfl (fun ls hl => ?_)
                refine lv_goto (tgt := 9) hx hb dX5_byHalves_87 (by decide) ?_
                rw [show pX5_byHalves_lp9 mem key (n_ + 1) z k1 k2 k3 = pX5_byHalves_lp9 mem key n_ u37.2 (((k1 + k2) / 2) + 1) k2 (k3 + 1) from by rw [pX5_byHalves_lp9, if_neg c_12, if_neg c_17, if_pos c_24, hu37, mLet_eq, if_neg c_40, hu51, mLet_eq, if_neg c_58, if_neg c_70]]
                exact ih u37.2 (((k1 + k2) / 2) + 1) k2 (k3 + 1) _ _ _  (ms_up c_12 hm) V (lv_sub hl [4, 1, 5, 0] rfl)
            · refine lv_aload_n hx hb dX5_byHalves_61 rfl (lv_at hl 2 rfl) ?_
              refine lv_iload hx hb dX5_byHalves_62 (lv_at hl 1 rfl) ?_
              obtain ⟨u64, hu64⟩ : ∃ u, pX5_found u37.2 ((k1 + k2) / 2) = u := ⟨_, rfl⟩
              have hM := kX5_found l D cB cI a b d h i u37.2 mem key ((k1 + k2) / 2)
              rw [hu64] at hM
              refine m_VA X V (w1 := (wZ cB cI a b d h i u37.2 mem key)) (rest := []) (st1 := [.int u64]) hM okX5_found gm_365 gm_686 gm_364 ⟨⟨rfl, rfl⟩, ⟨by decide, by decide⟩, Nat.zero_le _, Nat.zero_le _⟩ rfl rfl (wZ_fst _ _ _ _ _ _ _ _ _ _) (wZ_fst _ _ _ _ _ _ _ _ _ _) rfl hl.1 (Nat.le_of_ble_eq_true rfl) dX5_byHalves_64 rfl rfl (fun H locs V => ?_)
              have e9 : pX5_byHalves_lp9 mem key (n_ + 1) z k1 k2 k3 = (u64, u37.2) := by rw [pX5_byHalves_lp9, if_neg c_12, if_neg c_17, if_pos c_24, hu37, mLet_eq, if_neg c_40, hu51, mLet_eq, if_pos c_58, hu64, mLet_eq]
              exact m_iret X hr hk V (by rw [e9]) (by rw [e9]) dX5_byHalves_67
          · refine lv_aload_n hx hb dX5_byHalves_43 rfl (lv_at hl 1 rfl) ?_
            refine m_VA X V (w1 := (wZ cB cI a b d h i u37.2 mem key)) (rest := []) (st1 := [.int (pX5_missing u37.2)]) (kX5_missing l D cB cI a b d h i u37.2 mem key) okX5_missing gm_356 gm_683 gm_355 ⟨⟨rfl, rfl⟩, ⟨by decide, by decide⟩, Nat.zero_le _, Nat.zero_le _⟩ rfl rfl (wZ_fst _ _ _ _ _ _ _ _ _ _) (wZ_fst _ _ _ _ _ _ _ _ _ _) rfl hl.1 (Nat.le_of_ble_eq_true rfl) dX5_byHalves_44 rfl rfl (fun H locs V => ?_)
            have e9 : pX5_byHalves_lp9 mem key (n_ + 1) z k1 k2 k3 = ((pX5_missing u37.2), u37.2) := by rw [pX5_byHalves_lp9, if_neg c_12, if_neg c_17, if_pos c_24, hu37, mLet_eq, if_pos c_40]
            exact m_iret X hr hk V (by rw [e9]) (by rw [e9]) dX5_byHalves_47
set_option maxRecDepth 100000 in
set_option maxHeartbeats 4000000 in
theorem kX5_byHalves (l : Launch) (D : va_G) (cB cI : ClassId) (a b d h i : Nat) (z : Nat → Int32) (mem : Nat → Int32) (key : Nat → Int32) : mM l D cB cI yX5_byHalves cX5_byHalves 6 (some .int) { frames := 2, cells := 0, slots := 0, locals := 45 } [.ref a] (wZ cB cI a b d h i z mem key) (some ((pX5_byHalves z mem key).1)) (wZ cB cI a b d h i ((pX5_byHalves z mem key).2) mem key) := by
  refine m_start (by decide +kernel) (Nat.le_of_ble_eq_true rfl) ?_
  intro p e s m below meth c A ls X hr hk V hl
  have X : mCx p s m _ c cX5_byHalves 6 RX5 D cB cI := X
  have hx := X.1.1
  have hb := X.1.2.1
  have hl : lv_has ls 6 [(0, .ref a)] := hl
  refine lv_iconst (v := 0) hx hb dX5_byHalves_0 (by decide) ?_
  refine lv_istore_n (lv' := [(1, .int 0), (0, .ref a)]) hx hb dX5_byHalves_1 rfl hl (by decide) rfl (fun ls hl => ?_)
  refine lv_aload_n hx hb dX5_byHalves_2 rfl (lv_at hl 1 rfl) ?_
  refine m_get X V 4 0 5 rfl gin_4 rfl (by decide) rfl gm_45 (v := .int (z 3)) rfl dX5_byHalves_3 ?_
  refine lv_istore_n (lv' := [(2, .int (z 3)), (1, .int 0), (0, .ref a)]) hx hb dX5_byHalves_6 rfl hl (by decide) rfl (fun ls hl => ?_)
  refine lv_iconst (v := 0) hx hb dX5_byHalves_7 (by decide) ?_
  refine lv_istore_n (lv' := [(3, .int 0), (2, .int (z 3)), (1, .int 0), (0, .ref a)]) hx hb dX5_byHalves_8 rfl hl (by decide) rfl (fun ls hl => ?_)
  rw [show pX5_byHalves z mem key = (pX5_byHalves_lp9 mem key ((Int32.toInt 32 - Int32.toInt 0).toNat + 1) z 0 (z 3) 0) from by rw [pX5_byHalves]]
  exact lpX5_byHalves_9 X hr hk  ((Int32.toInt 32 - Int32.toInt 0).toNat + 1) z 0 (z 3) 0 _ _ _  (Nat.lt_succ_self _) V (lv_sub hl [3, 2, 1, 0] rfl)
