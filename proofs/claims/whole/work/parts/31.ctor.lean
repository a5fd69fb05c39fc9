theorem df_0 : ∀ j, j < 1 → defaultValue (tyX0 j) = vp_V [.null] j := by
  intro j hj
  rcases (show j = 0 by omega) with rfl
  all_goals rfl
theorem df_1 : ∀ j, j < 6 → defaultValue (tyX1 j) = vp_V [.null, .null, .int 0, .int 0, .int 0, .int 0] j := by
  intro j hj
  rcases (show j = 0 ∨ j = 1 ∨ j = 2 ∨ j = 3 ∨ j = 4 ∨ j = 5 by omega) with rfl | rfl | rfl | rfl | rfl | rfl
  all_goals rfl
theorem df_2 : ∀ j, j < 14 → defaultValue (tyX2 j) = vp_V [.null, .null, .null, .null, .null, .null, .int 0, .int 0, .int 0, .int 0, .int 0, .int 0, .int 0, .int 0] j := by
  intro j hj
  rcases (show j = 0 ∨ j = 1 ∨ j = 2 ∨ j = 3 ∨ j = 4 ∨ j = 5 ∨ j = 6 ∨ j = 7 ∨ j = 8 ∨ j = 9 ∨ j = 10 ∨ j = 11 ∨ j = 12 ∨ j = 13 by omega) with rfl | rfl | rfl | rfl | rfl | rfl | rfl | rfl | rfl | rfl | rfl | rfl | rfl | rfl
  all_goals rfl
theorem df_3 : ∀ j, j < 3 → defaultValue (tyX3 j) = vp_V [.null, .null, .int 0] j := by
  intro j hj
  rcases (show j = 0 ∨ j = 1 ∨ j = 2 by omega) with rfl | rfl | rfl
  all_goals rfl
theorem df_4 : ∀ j, j < 9 → defaultValue (tyX5 j) = vp_V [.null, .null, .int 0, .int 0, .int 0, .int 0, .int 0, .int 0, .int 0] j := by
  intro j hj
  rcases (show j = 0 ∨ j = 1 ∨ j = 2 ∨ j = 3 ∨ j = 4 ∨ j = 5 ∨ j = 6 ∨ j = 7 ∨ j = 8 by omega) with rfl | rfl | rfl | rfl | rfl | rfl | rfl | rfl | rfl
  all_goals rfl
theorem df_5 : ∀ j, j < 4 → defaultValue (tyX7 j) = vp_V [.null, .null, .null, .int 0] j := by
  intro j hj
  rcases (show j = 0 ∨ j = 1 ∨ j = 2 ∨ j = 3 by omega) with rfl | rfl | rfl | rfl
  all_goals rfl
theorem df_6 : ∀ j, j < 29 → defaultValue (tyX8 j) = vp_V [.null, .null, .null, .null, .int 0, .int 0, .int 0, .int 0, .int 0, .int 0, .int 0, .int 0, .int 0, .null, .null, .int 0, .int 0, .int 0, .int 0, .null, .null, .null, .int 0, .int 0, .int 0, .null, .null, .null, .int 0] j := by
  intro j hj
  rcases (show j = 0 ∨ j = 1 ∨ j = 2 ∨ j = 3 ∨ j = 4 ∨ j = 5 ∨ j = 6 ∨ j = 7 ∨ j = 8 ∨ j = 9 ∨ j = 10 ∨ j = 11 ∨ j = 12 ∨ j = 13 ∨ j = 14 ∨ j = 15 ∨ j = 16 ∨ j = 17 ∨ j = 18 ∨ j = 19 ∨ j = 20 ∨ j = 21 ∨ j = 22 ∨ j = 23 ∨ j = 24 ∨ j = 25 ∨ j = 26 ∨ j = 27 ∨ j = 28 by omega) with rfl | rfl | rfl | rfl | rfl | rfl | rfl | rfl | rfl | rfl | rfl | rfl | rfl | rfl | rfl | rfl | rfl | rfl | rfl | rfl | rfl | rfl | rfl | rfl | rfl | rfl | rfl | rfl | rfl
  all_goals rfl
def pJ9_max_7cf53 (x0 : Int32) (x1 : Int32) : Int32 := (if x0 < x1 then (x1) else (x0))
theorem okJ9_max_7cf53 : mOk yJ9_max_7cf53 cJ9_max_7cf53 2 (some .int) 2 := ⟨gm_28, gm_3, by decide +kernel⟩
set_option maxRecDepth 100000 in
set_option maxHeartbeats 4000000 in
theorem kJ9_max_7cf53 (l : Launch) (D : va_G) (cB cI : ClassId) (x0 : Int32) (x1 : Int32) : mM l D cB cI yJ9_max_7cf53 cJ9_max_7cf53 2 (some .int) { frames := 0, cells := 0, slots := 0, locals := 0 } [.int x0, .int x1] [] (some (pJ9_max_7cf53 x0 x1)) [] := by
  refine m_start (by decide +kernel) (Nat.le_of_ble_eq_true rfl) ?_
  intro p e s m below meth c A ls X hr hk V hl
  have X : mCx p s m _ c cJ9_max_7cf53 2 RJ9 D cB cI := X
  have hx := X.1.1
  have hb := X.1.2.1
  have hl : lv_has ls 2 [(0, .int x0), (1, .int x1)] := hl
  refine lv_iload_n hx hb dJ9_max_7cf53_0 rfl (lv_at hl 0 rfl) ?_
  refine lv_iload_n hx hb dJ9_max_7cf53_1 rfl (lv_at hl 1 rfl) ?_
  refine lv_icmp_lt (tgt := 9) hx hb dJ9_max_7cf53_2 (by decide) (fun c_2 => ?_) (fun c_2 => ?_)
  · refine lv_iload_n hx hb dJ9_max_7cf53_9 rfl (lv_at hl 1 rfl) ?_
    have e9 : pJ9_max_7cf53 x0 x1 = (x1) := by rw [pJ9_max_7cf53, if_pos c_2]
    exact m_iret X hr hk V (by rw [e9]) rfl dJ9_max_7cf53_10
  · refine lv_iload_n hx hb dJ9_max_7cf53_5 rfl (lv_at hl 0 rfl) ?_
    refine lv_goto (tgt := 10) hx hb dJ9_max_7cf53_6 (by decide) ?_
    have e9 : pJ9_max_7cf53 x0 x1 = (x0) := by rw [pJ9_max_7cf53, if_neg c_2]
    exact m_iret X hr hk V (by rw [e9]) rfl dJ9_max_7cf53_10
theorem okX0_init : mOk yX0_init cX0_init 2 none 1 := ⟨gm_24, gm_2, by decide +kernel⟩
def wcX0_init_1024 (cB cI : ClassId) (a : Nat) (u : Nat → Nat) : va_W := [(a, .inr (0, [.ref (u 0)])), ((u 0), .inl (cB, 1024, .inl (fun _ => 0)))]
set_option maxRecDepth 100000 in
set_option maxHeartbeats 4000000 in
theorem kX0_init_1024 (l : Launch) (D : va_G) (cB cI : ClassId) (a : Nat) : mN l D cB cI yX0_init cX0_init 2 { frames := 1, cells := 1, slots := 1024, locals := 21 } [.ref a, .int 1024] [(a, .inr (0, [.null]))] 1 1024 (wcX0_init_1024 cB cI a ) := by
  refine m_startN (by decide +kernel) (Nat.le_of_ble_eq_true rfl) ?_
  intro p e s m below meth c A ls X hr hk hi V hl
  have X : mCx p s m _ c cX0_init 2 RX0 D cB cI := X
  have hx := X.1.1
  have hb := X.1.2.1
  have hi : meth.name = "<init>" := hi
  have hl : lv_has ls 2 [(0, .ref a), (1, .int 1024)] := hl
  refine lv_aload_n hx hb dX0_init_0 rfl (lv_at hl 0 rfl) ?_
  refine m_obj X gm_25 gm_19 gm_20 hl.1 dX0_init_1 (by decide) (Nat.le_of_ble_eq_true rfl) ?_
  refine lv_aload_n hx hb dX0_init_4 rfl (lv_at hl 0 rfl) ?_
  refine lv_iload_n hx hb dX0_init_5 rfl (lv_at hl 1 rfl) ?_
  refine lv_iconst (v := 0) hx hb dX0_init_6 (by decide) ?_
  have hM := kJ9_max_7cf53 l D cB cI 1024 0
  rw [show pJ9_max_7cf53 1024 0 = 1024 from by decide] at hM
  refine m_S X V (rest := [.ref a]) (st1 := [.int 1024, .ref a]) hM okJ9_max_7cf53 gm_27 gm_26 ⟨⟨rfl, rfl⟩, ⟨by decide, by decide⟩, by decide, by decide⟩ rfl hl.1 (Nat.le_of_ble_eq_true rfl) dX0_init_7 rfl rfl (fun H locs V => ?_)
  refine m_newB X V (N := 1024) gm_31 (by decide) (by decide) (by decide) (by decide) (by decide) dX0_init_10 (fun q10 H V => ?_)
  have V : mWd D A s [(a, .inr (0, [.null])), (q10, .inl (cB, 1024, .inl (fun _ => 0)))] H _ := V
  refine m_putF X V hi (ws' := [(a, .inr (0, [.ref q10])), (q10, .inl (cB, 1024, .inl (fun _ => 0)))]) 0 0 0 rfl gin_0 tyX0_ok nmX0 rfl (by decide) rfl gm_29 rfl rfl rfl (Nat.le_of_ble_eq_true rfl) dX0_init_12 rfl (fun H locs V => ?_)
  exact m_vretN X hr hk V (fun i => [q10].getD i 0) rfl dX0_init_15
def wcX0_init_64 (cB cI : ClassId) (a : Nat) (u : Nat → Nat) : va_W := [(a, .inr (0, [.ref (u 0)])), ((u 0), .inl (cB, 64, .inl (fun _ => 0)))]
set_option maxRecDepth 100000 in
set_option maxHeartbeats 4000000 in
theorem kX0_init_64 (l : Launch) (D : va_G) (cB cI : ClassId) (a : Nat) : mN l D cB cI yX0_init cX0_init 2 { frames := 1, cells := 1, slots := 64, locals := 21 } [.ref a, .int 64] [(a, .inr (0, [.null]))] 1 64 (wcX0_init_64 cB cI a ) := by
  refine m_startN (by decide +kernel) (Nat.le_of_ble_eq_true rfl) ?_
  intro p e s m below meth c A ls X hr hk hi V hl
  have X : mCx p s m _ c cX0_init 2 RX0 D cB cI := X
  have hx := X.1.1
  have hb := X.1.2.1
  have hi : meth.name = "<init>" := hi
  have hl : lv_has ls 2 [(0, .ref a), (1, .int 64)] := hl
  refine lv_aload_n hx hb dX0_init_0 rfl (lv_at hl 0 rfl) ?_
  refine m_obj X gm_25 gm_19 gm_20 hl.1 dX0_init_1 (by decide) (Nat.le_of_ble_eq_true rfl) ?_
  refine lv_aload_n hx hb dX0_init_4 rfl (lv_at hl 0 rfl) ?_
  refine lv_iload_n hx hb dX0_init_5 rfl (lv_at hl 1 rfl) ?_
  refine lv_iconst (v := 0) hx hb dX0_init_6 (by decide) ?_
  have hM := kJ9_max_7cf53 l D cB cI 64 0
  rw [show pJ9_max_7cf53 64 0 = 64 from by decide] at hM
  refine m_S X V (rest := [.ref a]) (st1 := [.int 64, .ref a]) hM okJ9_max_7cf53 gm_27 gm_26 ⟨⟨rfl, rfl⟩, ⟨by decide, by decide⟩, by decide, by decide⟩ rfl hl.1 (Nat.le_of_ble_eq_true rfl) dX0_init_7 rfl rfl (fun H locs V => ?_)
  refine m_newB X V (N := 64) gm_31 (by decide) (by decide) (by decide) (by decide) (by decide) dX0_init_10 (fun q10 H V => ?_)
  have V : mWd D A s [(a, .inr (0, [.null])), (q10, .inl (cB, 64, .inl (fun _ => 0)))] H _ := V
  refine m_putF X V hi (ws' := [(a, .inr (0, [.ref q10])), (q10, .inl (cB, 64, .inl (fun _ => 0)))]) 0 0 0 rfl gin_0 tyX0_ok nmX0 rfl (by decide) rfl gm_29 rfl rfl rfl (Nat.le_of_ble_eq_true rfl) dX0_init_12 rfl (fun H locs V => ?_)
  exact m_vretN X hr hk V (fun i => [q10].getD i 0) rfl dX0_init_15
theorem okX3_init : mOk yX3_init cX3_init 1 none 0 := ⟨gm_65, gm_6, by decide +kernel⟩
def wcX3_init (cB cI : ClassId) (a : Nat) (u : Nat → Nat) : va_W := [(a, .inr (3, [.ref (u 0), .ref (u 1), .int 0])), ((u 0), .inl (cI, 40, .inl (fun _ => 0))), ((u 1), .inl (cI, 40, .inl (fun _ => 0)))]
set_option maxRecDepth 100000 in
set_option maxHeartbeats 4000000 in
theorem kX3_init (l : Launch) (D : va_G) (cB cI : ClassId) (a : Nat) : mN l D cB cI yX3_init cX3_init 1 { frames := 1, cells := 2, slots := 80, locals := 20 } [.ref a] [(a, .inr (3, [.null, .null, .int 0]))] 2 80 (wcX3_init cB cI a ) := by
  refine m_startN (by decide +kernel) (Nat.le_of_ble_eq_true rfl) ?_
  intro p e s m below meth c A ls X hr hk hi V hl
  have X : mCx p s m _ c cX3_init 1 RX3 D cB cI := X
  have hx := X.1.1
  have hb := X.1.2.1
  have hi : meth.name = "<init>" := hi
  have hl : lv_has ls 1 [(0, .ref a)] := hl
  refine lv_aload_n hx hb dX3_init_0 rfl (lv_at hl 0 rfl) ?_
  refine m_obj X gm_66 gm_19 gm_20 hl.1 dX3_init_1 (by decide) (Nat.le_of_ble_eq_true rfl) ?_
  refine lv_aload_n hx hb dX3_init_4 rfl (lv_at hl 0 rfl) ?_
  refine lv_bipush (v := 40) hx hb dX3_init_5 (by decide) ?_
  refine m_newI X V (N := 40) gm_73 (by decide) (by decide) (by decide) (by decide) (by decide) dX3_init_7 (fun q7 H V => ?_)
  have V : mWd D A s [(a, .inr (3, [.null, .null, .int 0])), (q7, .inl (cI, 40, .inl (fun _ => 0)))] H _ := V
  refine m_putF X V hi (ws' := [(a, .inr (3, [.ref q7, .null, .int 0])), (q7, .inl (cI, 40, .inl (fun _ => 0)))]) 3 0 0 rfl gin_3 tyX3_ok nmX3 rfl (by decide) rfl gm_67 rfl rfl rfl (Nat.le_of_ble_eq_true rfl) dX3_init_9 rfl (fun H locs V => ?_)
  refine lv_aload_n hx hb dX3_init_12 rfl (lv_at hl 0 rfl) ?_
  refine lv_bipush (v := 40) hx hb dX3_init_13 (by decide) ?_
  refine m_newI X V (N := 40) gm_73 (by decide) (by decide) (by decide) (by decide) (by decide) dX3_init_15 (fun q15 H V => ?_)
  have V : mWd D A s [(a, .inr (3, [.ref q7, .null, .int 0])), (q7, .inl (cI, 40, .inl (fun _ => 0))), (q15, .inl (cI, 40, .inl (fun _ => 0)))] H _ := V
  refine m_putF X V hi (ws' := [(a, .inr (3, [.ref q7, .ref q15, .int 0])), (q7, .inl (cI, 40, .inl (fun _ => 0))), (q15, .inl (cI, 40, .inl (fun _ => 0)))]) 3 0 1 rfl gin_3 tyX3_ok nmX3 rfl (by decide) rfl gm_68 rfl rfl rfl (Nat.le_of_ble_eq_true rfl) dX3_init_17 rfl (fun H locs V => ?_)
  refine lv_aload_n hx hb dX3_init_20 rfl (lv_at hl 0 rfl) ?_
  refine lv_iconst (v := 0) hx hb dX3_init_21 (by decide) ?_
  refine m_put X V (ws' := [(a, .inr (3, [.ref q7, .ref q15, .int 0])), (q7, .inl (cI, 40, .inl (fun _ => 0))), (q15, .inl (cI, 40, .inl (fun _ => 0)))]) 3 0 2 rfl gin_3 tyX3_ok nmX3 rfl (by decide) rfl gm_69 rfl rfl rfl (Nat.le_of_ble_eq_true rfl) dX3_init_22 rfl (fun H locs V => ?_)
  exact m_vretN X hr hk V (fun i => [q7, q15].getD i 0) rfl dX3_init_25
theorem okX1_init : mOk yX1_init cX1_init 1 none 0 := ⟨gm_77, gm_7, by decide +kernel⟩
def wcX1_init (cB cI : ClassId) (a : Nat) (u : Nat → Nat) : va_W := [(a, .inr (1, [.ref (u 0), .ref (u 1), .int 0, .int 0, .int 0, .int 0])), ((u 0), .inl (cI, 8, .inl (fun _ => 0))), ((u 1), .inl (cI, 8, .inl (fun _ => 0)))]
set_option maxRecDepth 100000 in
set_option maxHeartbeats 4000000 in
theorem kX1_init (l : Launch) (D : va_G) (cB cI : ClassId) (a : Nat) : mN l D cB cI yX1_init cX1_init 1 { frames := 1, cells := 2, slots := 16, locals := 20 } [.ref a] [(a, .inr (1, [.null, .null, .int 0, .int 0, .int 0, .int 0]))] 2 16 (wcX1_init cB cI a ) := by
  refine m_startN (by decide +kernel) (Nat.le_of_ble_eq_true rfl) ?_
  intro p e s m below meth c A ls X hr hk hi V hl
  have X : mCx p s m _ c cX1_init 1 RX1 D cB cI := X
  have hx := X.1.1
  have hb := X.1.2.1
  have hi : meth.name = "<init>" := hi
  have hl : lv_has ls 1 [(0, .ref a)] := hl
  refine lv_aload_n hx hb dX1_init_0 rfl (lv_at hl 0 rfl) ?_
  refine m_obj X gm_78 gm_19 gm_20 hl.1 dX1_init_1 (by decide) (Nat.le_of_ble_eq_true rfl) ?_
  refine lv_aload_n hx hb dX1_init_4 rfl (lv_at hl 0 rfl) ?_
  refine lv_bipush (v := 8) hx hb dX1_init_5 (by decide) ?_
  refine m_newI X V (N := 8) gm_73 (by decide) (by decide) (by decide) (by decide) (by decide) dX1_init_7 (fun q7 H V => ?_)
  have V : mWd D A s [(a, .inr (1, [.null, .null, .int 0, .int 0, .int 0, .int 0])), (q7, .inl (cI, 8, .inl (fun _ => 0)))] H _ := V
  refine m_putF X V hi (ws' := [(a, .inr (1, [.ref q7, .null, .int 0, .int 0, .int 0, .int 0])), (q7, .inl (cI, 8, .inl (fun _ => 0)))]) 1 0 0 rfl gin_1 tyX1_ok nmX1 rfl (by decide) rfl gm_79 rfl rfl rfl (Nat.le_of_ble_eq_true rfl) dX1_init_9 rfl (fun H locs V => ?_)
  refine lv_aload_n hx hb dX1_init_12 rfl (lv_at hl 0 rfl) ?_
  refine lv_bipush (v := 8) hx hb dX1_init_13 (by decide) ?_
  refine m_newI X V (N := 8) gm_73 (by decide) (by decide) (by decide) (by decide) (by decide) dX1_init_15 (fun q15 H V => ?_)
  have V : mWd D A s [(a, .inr (1, [.ref q7, .null, .int 0, .int 0, .int 0, .int 0])), (q7, .inl (cI, 8, .inl (fun _ => 0))), (q15, .inl (cI, 8, .inl (fun _ => 0)))] H _ := V
  refine m_putF X V hi (ws' := [(a, .inr (1, [.ref q7, .ref q15, .int 0, .int 0, .int 0, .int 0])), (q7, .inl (cI, 8, .inl (fun _ => 0))), (q15, .inl (cI, 8, .inl (fun _ => 0)))]) 1 0 1 rfl gin_1 tyX1_ok nmX1 rfl (by decide) rfl gm_80 rfl rfl rfl (Nat.le_of_ble_eq_true rfl) dX1_init_17 rfl (fun H locs V => ?_)
  exact m_vretN X hr hk V (fun i => [q7, q15].getD i 0) rfl dX1_init_20
theorem okX5_init : mOk yX5_init cX5_init 2 none 1 := ⟨gm_37, gm_5, by decide +kernel⟩
def wcX5_init (cB cI : ClassId) (a am : Nat) (u : Nat → Nat) : va_W := [(a, .inr (4, [.ref am, .ref (u 0), .int 0, .int 0, .int 0, .int 0, .int 0, .int 0, .int 0])), ((u 0), .inr (0, [.ref (u 1)])), ((u 1), .inl (cB, 64, .inl (fun _ => 0)))]
set_option maxRecDepth 100000 in
set_option maxHeartbeats 4000000 in
theorem kX5_init (l : Launch) (D : va_G) (cB cI : ClassId) (a am : Nat) : mN l D cB cI yX5_init cX5_init 2 { frames := 2, cells := 2, slots := 65, locals := 42 } [.ref a, .ref am] [(a, .inr (4, [.null, .null, .int 0, .int 0, .int 0, .int 0, .int 0, .int 0, .int 0]))] 2 65 (wcX5_init cB cI a am) := by
  refine m_startN (by decide +kernel) (Nat.le_of_ble_eq_true rfl) ?_
  intro p e s m below meth c A ls X hr hk hi V hl
  have X : mCx p s m _ c cX5_init 2 RX5 D cB cI := X
  have hx := X.1.1
  have hb := X.1.2.1
  have hi : meth.name = "<init>" := hi
  have hl : lv_has ls 2 [(0, .ref a), (1, .ref am)] := hl
  refine lv_aload_n hx hb dX5_init_0 rfl (lv_at hl 0 rfl) ?_
  refine m_obj X gm_38 gm_19 gm_20 hl.1 dX5_init_1 (by decide) (Nat.le_of_ble_eq_true rfl) ?_
  refine lv_aload_n hx hb dX5_init_4 rfl (lv_at hl 0 rfl) ?_
  refine lv_aload_n hx hb dX5_init_5 rfl (lv_at hl 1 rfl) ?_
  refine m_putF X V hi (ws' := [(a, .inr (4, [.ref am, .null, .int 0, .int 0, .int 0, .int 0, .int 0, .int 0, .int 0]))]) 4 0 0 rfl gin_4 tyX5_ok nmX5 rfl (by decide) rfl gm_40 rfl rfl rfl (Nat.le_of_ble_eq_true rfl) dX5_init_6 rfl (fun H locs V => ?_)
  refine lv_aload_n hx hb dX5_init_9 rfl (lv_at hl 0 rfl) ?_
  refine m_new X V 0 (fs := [.null]) rfl gin_0 tyX0_ok gm_39 gm_22 gm_2 df_0 (by decide) (by decide) dX5_init_10 (fun q10 H V => ?_)
  have V : mWd D A s [(a, .inr (4, [.ref am, .null, .int 0, .int 0, .int 0, .int 0, .int 0, .int 0, .int 0])), (q10, .inr (0, [.null]))] H _ := V
  refine lv_dup hx hb dX5_init_13 rfl ?_
  refine lv_bipush (v := 64) hx hb dX5_init_14 (by decide) ?_
  refine m_IN X V (rest := [.ref q10, .ref a]) (kX0_init_64 l D cB cI q10) okX0_init rfl gm_23 nm_2 [1] [0] ⟨⟨rfl, rfl⟩, ⟨by decide, by decide⟩, by decide, by decide⟩ rfl (wr := [(a, .inr (4, [.ref am, .null, .int 0, .int 0, .int 0, .int 0, .int 0, .int 0, .int 0]))]) rfl (by decide) (by decide) (by decide) rfl hl.1 (Nat.le_of_ble_eq_true rfl) dX5_init_16 rfl (fun u16 H locs V => ?_)
  have V : mWd D A s [(a, .inr (4, [.ref am, .null, .int 0, .int 0, .int 0, .int 0, .int 0, .int 0, .int 0])), (q10, .inr (0, [.ref (u16 0)])), ((u16 0), .inl (cB, 64, .inl (fun _ => 0)))] H locs := V
  refine m_putF X V hi (ws' := [(a, .inr (4, [.ref am, .ref q10, .int 0, .int 0, .int 0, .int 0, .int 0, .int 0, .int 0])), (q10, .inr (0, [.ref (u16 0)])), ((u16 0), .inl (cB, 64, .inl (fun _ => 0)))]) 4 0 1 rfl gin_4 tyX5_ok nmX5 rfl (by decide) rfl gm_41 rfl rfl rfl (Nat.le_of_ble_eq_true rfl) dX5_init_19 rfl (fun H locs V => ?_)
  exact m_vretN X hr hk V (fun i => [q10, (u16 0)].getD i 0) rfl dX5_init_22
theorem okX2_init : mOk yX2_init cX2_init 3 none 2 := ⟨gm_59, gm_4, by decide +kernel⟩
def wcX2_init (cB cI : ClassId) (a am as_ : Nat) (u : Nat → Nat) : va_W := [(a, .inr (2, [.ref am, .ref (u 0), .ref (u 2), .ref (u 5), .ref as_, .ref (u 8), .int 256, .int 0, .int 0, .int 0, .int 0, .int 0, .int 0, .int 0])), ((u 0), .inr (0, [.ref (u 1)])), ((u 1), .inl (cB, 64, .inl (fun _ => 0))), ((u 2), .inr (3, [.ref (u 3), .ref (u 4), .int 0])), ((u 3), .inl (cI, 40, .inl (fun _ => 0))), ((u 4), .inl (cI, 40, .inl (fun _ => 0))), ((u 5), .inr (1, [.ref (u 6), .ref (u 7), .int 0, .int 0, .int 0, .int 0])), ((u 6), .inl (cI, 8, .inl (fun _ => 0))), ((u 7), .inl (cI, 8, .inl (fun _ => 0))), ((u 8), .inl (cI, 7, .inl (fun _ => 0)))]
set_option maxRecDepth 100000 in
set_option maxHeartbeats 4000000 in
theorem kX2_init (l : Launch) (D : va_G) (cB cI : ClassId) (a am as_ : Nat) : mN l D cB cI yX2_init cX2_init 3 { frames := 2, cells := 9, slots := 177, locals := 42 } [.ref a, .ref am, .ref as_] [(a, .inr (2, [.null, .null, .null, .null, .null, .null, .int 0, .int 0, .int 0, .int 0, .int 0, .int 0, .int 0, .int 0]))] 9 177 (wcX2_init cB cI a am as_) := by
  refine m_startN (by decide +kernel) (Nat.le_of_ble_eq_true rfl) ?_
  intro p e s m below meth c A ls X hr hk hi V hl
  have X : mCx p s m _ c cX2_init 3 RX2 D cB cI := X
  have hx := X.1.1
  have hb := X.1.2.1
  have hi : meth.name = "<init>" := hi
  have hl : lv_has ls 3 [(0, .ref a), (1, .ref am), (2, .ref as_)] := hl
  refine lv_aload_n hx hb dX2_init_0 rfl (lv_at hl 0 rfl) ?_
  refine m_obj X gm_60 gm_19 gm_20 hl.1 dX2_init_1 (by decide) (Nat.le_of_ble_eq_true rfl) ?_
  refine lv_aload_n hx hb dX2_init_4 rfl (lv_at hl 0 rfl) ?_
  refine lv_aload_n hx hb dX2_init_5 rfl (lv_at hl 1 rfl) ?_
  refine m_putF X V hi (ws' := [(a, .inr (2, [.ref am, .null, .null, .null, .null, .null, .int 0, .int 0, .int 0, .int 0, .int 0, .int 0, .int 0, .int 0]))]) 2 0 0 rfl gin_2 tyX2_ok nmX2 rfl (by decide) rfl gm_91 rfl rfl rfl (Nat.le_of_ble_eq_true rfl) dX2_init_6 rfl (fun H locs V => ?_)
  refine lv_aload_n hx hb dX2_init_9 rfl (lv_at hl 0 rfl) ?_
  refine lv_aload_n hx hb dX2_init_10 rfl (lv_at hl 2 rfl) ?_
  refine m_putF X V hi (ws' := [(a, .inr (2, [.ref am, .null, .null, .null, .ref as_, .null, .int 0, .int 0, .int 0, .int 0, .int 0, .int 0, .int 0, .int 0]))]) 2 0 4 rfl gin_2 tyX2_ok nmX2 rfl (by decide) rfl gm_95 rfl rfl rfl (Nat.le_of_ble_eq_true rfl) dX2_init_11 rfl (fun H locs V => ?_)
  refine lv_aload_n hx hb dX2_init_14 rfl (lv_at hl 0 rfl) ?_
  refine m_new X V 0 (fs := [.null]) rfl gin_0 tyX0_ok gm_61 gm_22 gm_2 df_0 (by decide) (by decide) dX2_init_15 (fun q15 H V => ?_)
  have V : mWd D A s [(a, .inr (2, [.ref am, .null, .null, .null, .ref as_, .null, .int 0, .int 0, .int 0, .int 0, .int 0, .int 0, .int 0, .int 0])), (q15, .inr (0, [.null]))] H _ := V
  refine lv_dup hx hb dX2_init_18 rfl ?_
  refine lv_bipush (v := 64) hx hb dX2_init_19 (by decide) ?_
  refine m_IN X V (rest := [.ref q15, .ref a]) (kX0_init_64 l D cB cI q15) okX0_init rfl gm_23 nm_4 [1] [0] ⟨⟨rfl, rfl⟩, ⟨by decide, by decide⟩, by decide, by decide⟩ rfl (wr := [(a, .inr (2, [.ref am, .null, .null, .null, .ref as_, .null, .int 0, .int 0, .int 0, .int 0, .int 0, .int 0, .int 0, .int 0]))]) rfl (by decide) (by decide) (by decide) rfl hl.1 (Nat.le_of_ble_eq_true rfl) dX2_init_21 rfl (fun u21 H locs V => ?_)
  have V : mWd D A s [(a, .inr (2, [.ref am, .null, .null, .null, .ref as_, .null, .int 0, .int 0, .int 0, .int 0, .int 0, .int 0, .int 0, .int 0])), (q15, .inr (0, [.ref (u21 0)])), ((u21 0), .inl (cB, 64, .inl (fun _ => 0)))] H locs := V
  refine m_putF X V hi (ws' := [(a, .inr (2, [.ref am, .ref q15, .null, .null, .ref as_, .null, .int 0, .int 0, .int 0, .int 0, .int 0, .int 0, .int 0, .int 0])), (q15, .inr (0, [.ref (u21 0)])), ((u21 0), .inl (cB, 64, .inl (fun _ => 0)))]) 2 0 1 rfl gin_2 tyX2_ok nmX2 rfl (by decide) rfl gm_92 rfl rfl rfl (Nat.le_of_ble_eq_true rfl) dX2_init_24 rfl (fun H locs V => ?_)
  refine lv_aload_n hx hb dX2_init_27 rfl (lv_at hl 0 rfl) ?_
  refine m_new X V 3 (fs := [.null, .null, .int 0]) rfl gin_3 tyX3_ok gm_62 gm_63 gm_6 df_3 (by decide) (by decide) dX2_init_28 (fun q28 H V => ?_)
  have V : mWd D A s [(a, .inr (2, [.ref am, .ref q15, .null, .null, .ref as_, .null, .int 0, .int 0, .int 0, .int 0, .int 0, .int 0, .int 0, .int 0])), (q15, .inr (0, [.ref (u21 0)])), ((u21 0), .inl (cB, 64, .inl (fun _ => 0))), (q28, .inr (3, [.null, .null, .int 0]))] H _ := V
  refine lv_dup hx hb dX2_init_31 rfl ?_
  refine m_IN X V (rest := [.ref q28, .ref a]) (kX3_init l D cB cI q28) okX3_init rfl gm_64 nm_5 [3] [0, 1, 2] ⟨⟨rfl, rfl⟩, ⟨by decide, by decide⟩, by decide, by decide⟩ rfl (wr := [(a, .inr (2, [.ref am, .ref q15, .null, .null, .ref as_, .null, .int 0, .int 0, .int 0, .int 0, .int 0, .int 0, .int 0, .int 0])), (q15, .inr (0, [.ref (u21 0)])), ((u21 0), .inl (cB, 64, .inl (fun _ => 0)))]) rfl (by decide) (by decide) (by decide) rfl hl.1 (Nat.le_of_ble_eq_true rfl) dX2_init_32 rfl (fun u32 H locs V => ?_)
  have V : mWd D A s [(a, .inr (2, [.ref am, .ref q15, .null, .null, .ref as_, .null, .int 0, .int 0, .int 0, .int 0, .int 0, .int 0, .int 0, .int 0])), (q15, .inr (0, [.ref (u21 0)])), ((u21 0), .inl (cB, 64, .inl (fun _ => 0))), (q28, .inr (3, [.ref (u32 0), .ref (u32 1), .int 0])), ((u32 0), .inl (cI, 40, .inl (fun _ => 0))), ((u32 1), .inl (cI, 40, .inl (fun _ => 0)))] H locs := V
  refine m_putF X V hi (ws' := [(a, .inr (2, [.ref am, .ref q15, .ref q28, .null, .ref as_, .null, .int 0, .int 0, .int 0, .int 0, .int 0, .int 0, .int 0, .int 0])), (q15, .inr (0, [.ref (u21 0)])), ((u21 0), .inl (cB, 64, .inl (fun _ => 0))), (q28, .inr (3, [.ref (u32 0), .ref (u32 1), .int 0])), ((u32 0), .inl (cI, 40, .inl (fun _ => 0))), ((u32 1), .inl (cI, 40, .inl (fun _ => 0)))]) 2 0 2 rfl gin_2 tyX2_ok nmX2 rfl (by decide) rfl gm_93 rfl rfl rfl (Nat.le_of_ble_eq_true rfl) dX2_init_35 rfl (fun H locs V => ?_)
  refine lv_aload_n hx hb dX2_init_38 rfl (lv_at hl 0 rfl) ?_
  refine m_new X V 1 (fs := [.null, .null, .int 0, .int 0, .int 0, .int 0]) rfl gin_1 tyX1_ok gm_74 gm_75 gm_7 df_1 (by decide) (by decide) dX2_init_39 (fun q39 H V => ?_)
  have V : mWd D A s [(a, .inr (2, [.ref am, .ref q15, .ref q28, .null, .ref as_, .null, .int 0, .int 0, .int 0, .int 0, .int 0, .int 0, .int 0, .int 0])), (q15, .inr (0, [.ref (u21 0)])), ((u21 0), .inl (cB, 64, .inl (fun _ => 0))), (q28, .inr (3, [.ref (u32 0), .ref (u32 1), .int 0])), ((u32 0), .inl (cI, 40, .inl (fun _ => 0))), ((u32 1), .inl (cI, 40, .inl (fun _ => 0))), (q39, .inr (1, [.null, .null, .int 0, .int 0, .int 0, .int 0]))] H _ := V
  refine lv_dup hx hb dX2_init_42 rfl ?_
  refine m_IN X V (rest := [.ref q39, .ref a]) (kX1_init l D cB cI q39) okX1_init rfl gm_76 nm_6 [6] [0, 1, 2, 3, 4, 5] ⟨⟨rfl, rfl⟩, ⟨by decide, by decide⟩, by decide, by decide⟩ rfl (wr := [(a, .inr (2, [.ref am, .ref q15, .ref q28, .null, .ref as_, .null, .int 0, .int 0, .int 0, .int 0, .int 0, .int 0, .int 0, .int 0])), (q15, .inr (0, [.ref (u21 0)])), ((u21 0), .inl (cB, 64, .inl (fun _ => 0))), (q28, .inr (3, [.ref (u32 0), .ref (u32 1), .int 0])), ((u32 0), .inl (cI, 40, .inl (fun _ => 0))), ((u32 1), .inl (cI, 40, .inl (fun _ => 0)))]) rfl (by decide) (by decide) (by decide) rfl hl.1 (Nat.le_of_ble_eq_true rfl) dX2_init_43 rfl (fun u43 H locs V => ?_)
  have V : mWd D A s [(a, .inr (2, [.ref am, .ref q15, .ref q28, .null, .ref as_, .null, .int 0, .int 0, .int 0, .int 0, .int 0, .int 0, .int 0, .int 0])), (q15, .inr (0, [.ref (u21 0)])), ((u21 0), .inl (cB, 64, .inl (fun _ => 0))), (q28, .inr (3, [.ref (u32 0), .ref (u32 1), .int 0])), ((u32 0), .inl (cI, 40, .inl (fun _ => 0))), ((u32 1), .inl (cI, 40, .inl (fun _ => 0))), (q39, .inr (1, [.ref (u43 0), .ref (u43 1), .int 0, .int 0, .int 0, .int 0])), ((u43 0), .inl (cI, 8, .inl (fun _ => 0))), ((u43 1), .inl (cI, 8, .inl (fun _ => 0)))] H locs := V
  refine m_putF X V hi (ws' := [(a, .inr (2, [.ref am, .ref q15, .ref q28, .ref q39, .ref as_, .null, .int 0, .int 0, .int 0, .int 0, .int 0, .int 0, .int 0, .int 0])), (q15, .inr (0, [.ref (u21 0)])), ((u21 0), .inl (cB, 64, .inl (fun _ => 0))), (q28, .inr (3, [.ref (u32 0), .ref (u32 1), .int 0])), ((u32 0), .inl (cI, 40, .inl (fun _ => 0))), ((u32 1), .inl (cI, 40, .inl (fun _ => 0))), (q39, .inr (1, [.ref (u43 0), .ref (u43 1), .int 0, .int 0, .int 0, .int 0])), ((u43 0), .inl (cI, 8, .inl (fun _ => 0))), ((u43 1), .inl (cI, 8, .inl (fun _ => 0)))]) 2 0 3 rfl gin_2 tyX2_ok nmX2 rfl (by decide) rfl gm_94 rfl rfl rfl (Nat.le_of_ble_eq_true rfl) dX2_init_46 rfl (fun H locs V => ?_)
  refine lv_aload_n hx hb dX2_init_49 rfl (lv_at hl 0 rfl) ?_
  refine lv_bipush (v := 7) hx hb dX2_init_50 (by decide) ?_
  refine m_newI X V (N := 7) gm_73 (by decide) (by decide) (by decide) (by decide) (by decide) dX2_init_52 (fun q52 H V => ?_)
  have V : mWd D A s [(a, .inr (2, [.ref am, .ref q15, .ref q28, .ref q39, .ref as_, .null, .int 0, .int 0, .int 0, .int 0, .int 0, .int 0, .int 0, .int 0])), (q15, .inr (0, [.ref (u21 0)])), ((u21 0), .inl (cB, 64, .inl (fun _ => 0))), (q28, .inr (3, [.ref (u32 0), .ref (u32 1), .int 0])), ((u32 0), .inl (cI, 40, .inl (fun _ => 0))), ((u32 1), .inl (cI, 40, .inl (fun _ => 0))), (q39, .inr (1, [.ref (u43 0), .ref (u43 1), .int 0, .int 0, .int 0, .int 0])), ((u43 0), .inl (cI, 8, .inl (fun _ => 0))), ((u43 1), .inl (cI, 8, .inl (fun _ => 0))), (q52, .inl (cI, 7, .inl (fun _ => 0)))] H _ := V
  refine m_putF X V hi (ws' := [(a, .inr (2, [.ref am, .ref q15, .ref q28, .ref q39, .ref as_, .ref q52, .int 0, .int 0, .int 0, .int 0, .int 0, .int 0, .int 0, .int 0])), (q15, .inr (0, [.ref (u21 0)])), ((u21 0), .inl (cB, 64, .inl (fun _ => 0))), (q28, .inr (3, [.ref (u32 0), .ref (u32 1), .int 0])), ((u32 0), .inl (cI, 40, .inl (fun _ => 0))), ((u32 1), .inl (cI, 40, .inl (fun _ => 0))), (q39, .inr (1, [.ref (u43 0), .ref (u43 1), .int 0, .int 0, .int 0, .int 0])), ((u43 0), .inl (cI, 8, .inl (fun _ => 0))), ((u43 1), .inl (cI, 8, .inl (fun _ => 0))), (q52, .inl (cI, 7, .inl (fun _ => 0)))]) 2 0 5 rfl gin_2 tyX2_ok nmX2 rfl (by decide) rfl gm_96 rfl rfl rfl (Nat.le_of_ble_eq_true rfl) dX2_init_54 rfl (fun H locs V => ?_)
  refine lv_aload_n hx hb dX2_init_57 rfl (lv_at hl 0 rfl) ?_
  refine lv_sipush (v := 256) hx hb dX2_init_58 (by decide) ?_
  refine m_put X V (ws' := [(a, .inr (2, [.ref am, .ref q15, .ref q28, .ref q39, .ref as_, .ref q52, .int 256, .int 0, .int 0, .int 0, .int 0, .int 0, .int 0, .int 0])), (q15, .inr (0, [.ref (u21 0)])), ((u21 0), .inl (cB, 64, .inl (fun _ => 0))), (q28, .inr (3, [.ref (u32 0), .ref (u32 1), .int 0])), ((u32 0), .inl (cI, 40, .inl (fun _ => 0))), ((u32 1), .inl (cI, 40, .inl (fun _ => 0))), (q39, .inr (1, [.ref (u43 0), .ref (u43 1), .int 0, .int 0, .int 0, .int 0])), ((u43 0), .inl (cI, 8, .inl (fun _ => 0))), ((u43 1), .inl (cI, 8, .inl (fun _ => 0))), (q52, .inl (cI, 7, .inl (fun _ => 0)))]) 2 0 6 rfl gin_2 tyX2_ok nmX2 rfl (by decide) rfl gm_97 rfl rfl rfl (Nat.le_of_ble_eq_true rfl) dX2_init_61 rfl (fun H locs V => ?_)
  exact m_vretN X hr hk V (fun i => [q15, (u21 0), q28, (u32 0), (u32 1), q39, (u43 0), (u43 1), q52].getD i 0) rfl dX2_init_64
theorem okX7_init : mOk yX7_init cX7_init 2 none 0 := ⟨gm_17, gm_1, by decide +kernel⟩
def wcX7_init (cB cI : ClassId) (a : Nat) (u : Nat → Nat) : va_W := [(a, .inr (5, [.ref (u 5), .ref (u 15), .ref (u 18), .int 0])), ((u 0), .inr (0, [.ref (u 1)])), ((u 1), .inl (cB, 1024, .inl (fun _ => 0))), ((u 2), .inr (4, [.ref (u 0), .ref (u 3), .int 0, .int 0, .int 0, .int 0, .int 0, .int 0, .int 0])), ((u 3), .inr (0, [.ref (u 4)])), ((u 4), .inl (cB, 64, .inl (fun _ => 0))), ((u 5), .inr (2, [.ref (u 0), .ref (u 6), .ref (u 8), .ref (u 11), .ref (u 2), .ref (u 14), .int 256, .int 0, .int 0, .int 0, .int 0, .int 0, .int 0, .int 0])), ((u 6), .inr (0, [.ref (u 7)])), ((u 7), .inl (cB, 64, .inl (fun _ => 0))), ((u 8), .inr (3, [.ref (u 9), .ref (u 10), .int 0])), ((u 9), .inl (cI, 40, .inl (fun _ => 0))), ((u 10), .inl (cI, 40, .inl (fun _ => 0))), ((u 11), .inr (1, [.ref (u 12), .ref (u 13), .int 0, .int 0, .int 0, .int 0])), ((u 12), .inl (cI, 8, .inl (fun _ => 0))), ((u 13), .inl (cI, 8, .inl (fun _ => 0))), ((u 14), .inl (cI, 7, .inl (fun _ => 0))), ((u 15), .inr (1, [.ref (u 16), .ref (u 17), .int 0, .int 0, .int 0, .int 0])), ((u 16), .inl (cI, 8, .inl (fun _ => 0))), ((u 17), .inl (cI, 8, .inl (fun _ => 0))), ((u 18), .inr (1, [.ref (u 19), .ref (u 20), .int 0, .int 0, .int 0, .int 0])), ((u 19), .inl (cI, 8, .inl (fun _ => 0))), ((u 20), .inl (cI, 8, .inl (fun _ => 0)))]
set_option maxRecDepth 100000 in
set_option maxHeartbeats 4000000 in
theorem kX7_init (l : Launch) (D : va_G) (cB cI : ClassId) (a : Nat) : mN l D cB cI yX7_init cX7_init 2 { frames := 3, cells := 21, slots := 1334, locals := 64 } [.ref a] [(a, .inr (5, [.null, .null, .null, .int 0]))] 21 1334 (wcX7_init cB cI a ) := by
  refine m_startN (by decide +kernel) (Nat.le_of_ble_eq_true rfl) ?_
  intro p e s m below meth c A ls X hr hk hi V hl
  have X : mCx p s m _ c cX7_init 2 RX7 D cB cI := X
  have hx := X.1.1
  have hb := X.1.2.1
  have hi : meth.name = "<init>" := hi
  have hl : lv_has ls 2 [(0, .ref a)] := hl
  refine lv_aload_n hx hb dX7_init_0 rfl (lv_at hl 0 rfl) ?_
  refine m_obj X gm_18 gm_19 gm_20 hl.1 dX7_init_1 (by decide) (Nat.le_of_ble_eq_true rfl) ?_
  refine m_new X V 0 (fs := [.null]) rfl gin_0 tyX0_ok gm_21 gm_22 gm_2 df_0 (by decide) (by decide) dX7_init_4 (fun q4 H V => ?_)
  have V : mWd D A s [(a, .inr (5, [.null, .null, .null, .int 0])), (q4, .inr (0, [.null]))] H _ := V
  refine lv_dup hx hb dX7_init_7 rfl ?_
  refine lv_sipush (v := 1024) hx hb dX7_init_8 (by decide) ?_
  refine m_IN X V (rest := [.ref q4]) (kX0_init_1024 l D cB cI q4) okX0_init rfl gm_23 nm_0 [1] [0] ⟨⟨rfl, rfl⟩, ⟨by decide, by decide⟩, by decide, by decide⟩ rfl (wr := [(a, .inr (5, [.null, .null, .null, .int 0]))]) rfl (by decide) (by decide) (by decide) rfl hl.1 (Nat.le_of_ble_eq_true rfl) dX7_init_11 rfl (fun u11 H locs V => ?_)
  have V : mWd D A s [(a, .inr (5, [.null, .null, .null, .int 0])), (q4, .inr (0, [.ref (u11 0)])), ((u11 0), .inl (cB, 1024, .inl (fun _ => 0)))] H locs := V
  refine lv_astore_n (lv' := [(1, .ref q4), (0, .ref a)]) hx hb dX7_init_14 rfl hl (by decide) rfl (fun ls hl => ?_)
  refine lv_aload_n hx hb dX7_init_15 rfl (lv_at hl 1 rfl) ?_
  refine m_new X V 2 (fs := [.null, .null, .null, .null, .null, .null, .int 0, .int 0, .int 0, .int 0, .int 0, .int 0, .int 0, .int 0]) rfl gin_2 tyX2_ok gm_32 gm_33 gm_4 df_2 (by decide) (by decide) dX7_init_16 (fun q16 H V => ?_)
  have V : mWd D A s [(a, .inr (5, [.null, .null, .null, .int 0])), (q4, .inr (0, [.ref (u11 0)])), ((u11 0), .inl (cB, 1024, .inl (fun _ => 0))), (q16, .inr (2, [.null, .null, .null, .null, .null, .null, .int 0, .int 0, .int 0, .int 0, .int 0, .int 0, .int 0, .int 0]))] H _ := V
  refine lv_dup hx hb dX7_init_19 rfl ?_
  refine lv_aload_n hx hb dX7_init_20 rfl (lv_at hl 0 rfl) ?_
  refine m_new X V 4 (fs := [.null, .null, .int 0, .int 0, .int 0, .int 0, .int 0, .int 0, .int 0]) rfl gin_4 tyX5_ok gm_34 gm_35 gm_5 df_4 (by decide) (by decide) dX7_init_21 (fun q21 H V => ?_)
  have V : mWd D A s [(a, .inr (5, [.null, .null, .null, .int 0])), (q4, .inr (0, [.ref (u11 0)])), ((u11 0), .inl (cB, 1024, .inl (fun _ => 0))), (q16, .inr (2, [.null, .null, .null, .null, .null, .null, .int 0, .int 0, .int 0, .int 0, .int 0, .int 0, .int 0, .int 0])), (q21, .inr (4, [.null, .null, .int 0, .int 0, .int 0, .int 0, .int 0, .int 0, .int 0]))] H _ := V
  refine lv_dup hx hb dX7_init_24 rfl ?_
  refine lv_aload_n hx hb dX7_init_25 rfl (lv_at hl 0 rfl) ?_
  refine m_IN X V (rest := [.ref q21, .ref q4, .ref q16, .ref q16, .ref a]) (kX5_init l D cB cI q21 q4) okX5_init rfl gm_36 nm_1 [4] [0, 1, 2, 3] ⟨⟨rfl, rfl⟩, ⟨by decide, by decide⟩, by decide, by decide⟩ rfl (wr := [(a, .inr (5, [.null, .null, .null, .int 0])), (q4, .inr (0, [.ref (u11 0)])), ((u11 0), .inl (cB, 1024, .inl (fun _ => 0))), (q16, .inr (2, [.null, .null, .null, .null, .null, .null, .int 0, .int 0, .int 0, .int 0, .int 0, .int 0, .int 0, .int 0]))]) rfl (by decide) (by decide) (by decide) rfl hl.1 (Nat.le_of_ble_eq_true rfl) dX7_init_26 rfl (fun u26 H locs V => ?_)
  have V : mWd D A s [(a, .inr (5, [.null, .null, .null, .int 0])), (q4, .inr (0, [.ref (u11 0)])), ((u11 0), .inl (cB, 1024, .inl (fun _ => 0))), (q16, .inr (2, [.null, .null, .null, .null, .null, .null, .int 0, .int 0, .int 0, .int 0, .int 0, .int 0, .int 0, .int 0])), (q21, .inr (4, [.ref q4, .ref (u26 0), .int 0, .int 0, .int 0, .int 0, .int 0, .int 0, .int 0])), ((u26 0), .inr (0, [.ref (u26 1)])), ((u26 1), .inl (cB, 64, .inl (fun _ => 0)))] H locs := V
  refine m_IN X V (rest := [.ref q16, .ref a]) (kX2_init l D cB cI q16 q4 q21) okX2_init rfl gm_58 nm_3 [3] [0, 1, 2, 4, 5, 6] ⟨⟨rfl, rfl⟩, ⟨by decide, by decide⟩, by decide, by decide⟩ rfl (wr := [(a, .inr (5, [.null, .null, .null, .int 0])), (q4, .inr (0, [.ref (u11 0)])), ((u11 0), .inl (cB, 1024, .inl (fun _ => 0))), (q21, .inr (4, [.ref q4, .ref (u26 0), .int 0, .int 0, .int 0, .int 0, .int 0, .int 0, .int 0])), ((u26 0), .inr (0, [.ref (u26 1)])), ((u26 1), .inl (cB, 64, .inl (fun _ => 0)))]) rfl (by decide) (by decide) (by decide) rfl hl.1 (Nat.le_of_ble_eq_true rfl) dX7_init_29 rfl (fun u29 H locs V => ?_)
  have V : mWd D A s [(a, .inr (5, [.null, .null, .null, .int 0])), (q4, .inr (0, [.ref (u11 0)])), ((u11 0), .inl (cB, 1024, .inl (fun _ => 0))), (q21, .inr (4, [.ref q4, .ref (u26 0), .int 0, .int 0, .int 0, .int 0, .int 0, .int 0, .int 0])), ((u26 0), .inr (0, [.ref (u26 1)])), ((u26 1), .inl (cB, 64, .inl (fun _ => 0))), (q16, .inr (2, [.ref q4, .ref (u29 0), .ref (u29 2), .ref (u29 5), .ref q21, .ref (u29 8), .int 256, .int 0, .int 0, .int 0, .int 0, .int 0, .int 0, .int 0])), ((u29 0), .inr (0, [.ref (u29 1)])), ((u29 1), .inl (cB, 64, .inl (fun _ => 0))), ((u29 2), .inr (3, [.ref (u29 3), .ref (u29 4), .int 0])), ((u29 3), .inl (cI, 40, .inl (fun _ => 0))), ((u29 4), .inl (cI, 40, .inl (fun _ => 0))), ((u29 5), .inr (1, [.ref (u29 6), .ref (u29 7), .int 0, .int 0, .int 0, .int 0])), ((u29 6), .inl (cI, 8, .inl (fun _ => 0))), ((u29 7), .inl (cI, 8, .inl (fun _ => 0))), ((u29 8), .inl (cI, 7, .inl (fun _ => 0)))] H locs := V
  refine m_putF X V hi (ws' := [(a, .inr (5, [.ref q16, .null, .null, .int 0])), (q4, .inr (0, [.ref (u11 0)])), ((u11 0), .inl (cB, 1024, .inl (fun _ => 0))), (q21, .inr (4, [.ref q4, .ref (u26 0), .int 0, .int 0, .int 0, .int 0, .int 0, .int 0, .int 0])), ((u26 0), .inr (0, [.ref (u26 1)])), ((u26 1), .inl (cB, 64, .inl (fun _ => 0))), (q16, .inr (2, [.ref q4, .ref (u29 0), .ref (u29 2), .ref (u29 5), .ref q21, .ref (u29 8), .int 256, .int 0, .int 0, .int 0, .int 0, .int 0, .int 0, .int 0])), ((u29 0), .inr (0, [.ref (u29 1)])), ((u29 1), .inl (cB, 64, .inl (fun _ => 0))), ((u29 2), .inr (3, [.ref (u29 3), .ref (u29 4), .int 0])), ((u29 3), .inl (cI, 40, .inl (fun _ => 0))), ((u29 4), .inl (cI, 40, .inl (fun _ => 0))), ((u29 5), .inr (1, [.ref (u29 6), .ref (u29 7), .int 0, .int 0, .int 0, .int 0])), ((u29 6), .inl (cI, 8, .inl (fun _ => 0))), ((u29 7), .inl (cI, 8, .inl (fun _ => 0))), ((u29 8), .inl (cI, 7, .inl (fun _ => 0)))]) 5 0 0 rfl gin_5 tyX7_ok nmX7 rfl (by decide) rfl gm_120 rfl rfl rfl (Nat.le_of_ble_eq_true rfl) dX7_init_32 rfl (fun H locs V => ?_)
  refine lv_aload_n hx hb dX7_init_35 rfl (lv_at hl 1 rfl) ?_
  refine m_new X V 1 (fs := [.null, .null, .int 0, .int 0, .int 0, .int 0]) rfl gin_1 tyX1_ok gm_119 gm_75 gm_7 df_1 (by decide) (by decide) dX7_init_36 (fun q36 H V => ?_)
  have V : mWd D A s [(a, .inr (5, [.ref q16, .null, .null, .int 0])), (q4, .inr (0, [.ref (u11 0)])), ((u11 0), .inl (cB, 1024, .inl (fun _ => 0))), (q21, .inr (4, [.ref q4, .ref (u26 0), .int 0, .int 0, .int 0, .int 0, .int 0, .int 0, .int 0])), ((u26 0), .inr (0, [.ref (u26 1)])), ((u26 1), .inl (cB, 64, .inl (fun _ => 0))), (q16, .inr (2, [.ref q4, .ref (u29 0), .ref (u29 2), .ref (u29 5), .ref q21, .ref (u29 8), .int 256, .int 0, .int 0, .int 0, .int 0, .int 0, .int 0, .int 0])), ((u29 0), .inr (0, [.ref (u29 1)])), ((u29 1), .inl (cB, 64, .inl (fun _ => 0))), ((u29 2), .inr (3, [.ref (u29 3), .ref (u29 4), .int 0])), ((u29 3), .inl (cI, 40, .inl (fun _ => 0))), ((u29 4), .inl (cI, 40, .inl (fun _ => 0))), ((u29 5), .inr (1, [.ref (u29 6), .ref (u29 7), .int 0, .int 0, .int 0, .int 0])), ((u29 6), .inl (cI, 8, .inl (fun _ => 0))), ((u29 7), .inl (cI, 8, .inl (fun _ => 0))), ((u29 8), .inl (cI, 7, .inl (fun _ => 0))), (q36, .inr (1, [.null, .null, .int 0, .int 0, .int 0, .int 0]))] H _ := V
  refine lv_dup hx hb dX7_init_39 rfl ?_
  refine m_IN X V (rest := [.ref q36, .ref a]) (kX1_init l D cB cI q36) okX1_init rfl gm_76 nm_7 [16] [0, 1, 2, 3, 4, 5, 6, 7, 8, 9, 10, 11, 12, 13, 14, 15] ⟨⟨rfl, rfl⟩, ⟨by decide, by decide⟩, by decide, by decide⟩ rfl (wr := [(a, .inr (5, [.ref q16, .null, .null, .int 0])), (q4, .inr (0, [.ref (u11 0)])), ((u11 0), .inl (cB, 1024, .inl (fun _ => 0))), (q21, .inr (4, [.ref q4, .ref (u26 0), .int 0, .int 0, .int 0, .int 0, .int 0, .int 0, .int 0])), ((u26 0), .inr (0, [.ref (u26 1)])), ((u26 1), .inl (cB, 64, .inl (fun _ => 0))), (q16, .inr (2, [.ref q4, .ref (u29 0), .ref (u29 2), .ref (u29 5), .ref q21, .ref (u29 8), .int 256, .int 0, .int 0, .int 0, .int 0, .int 0, .int 0, .int 0])), ((u29 0), .inr (0, [.ref (u29 1)])), ((u29 1), .inl (cB, 64, .inl (fun _ => 0))), ((u29 2), .inr (3, [.ref (u29 3), .ref (u29 4), .int 0])), ((u29 3), .inl (cI, 40, .inl (fun _ => 0))), ((u29 4), .inl (cI, 40, .inl (fun _ => 0))), ((u29 5), .inr (1, [.ref (u29 6), .ref (u29 7), .int 0, .int 0, .int 0, .int 0])), ((u29 6), .inl (cI, 8, .inl (fun _ => 0))), ((u29 7), .inl (cI, 8, .inl (fun _ => 0))), ((u29 8), .inl (cI, 7, .inl (fun _ => 0)))]) rfl (by decide) (by decide) (by decide) rfl hl.1 (Nat.le_of_ble_eq_true rfl) dX7_init_40 rfl (fun u40 H locs V => ?_)
  have V : mWd D A s [(a, .inr (5, [.ref q16, .null, .null, .int 0])), (q4, .inr (0, [.ref (u11 0)])), ((u11 0), .inl (cB, 1024, .inl (fun _ => 0))), (q21, .inr (4, [.ref q4, .ref (u26 0), .int 0, .int 0, .int 0, .int 0, .int 0, .int 0, .int 0])), ((u26 0), .inr (0, [.ref (u26 1)])), ((u26 1), .inl (cB, 64, .inl (fun _ => 0))), (q16, .inr (2, [.ref q4, .ref (u29 0), .ref (u29 2), .ref (u29 5), .ref q21, .ref (u29 8), .int 256, .int 0, .int 0, .int 0, .int 0, .int 0, .int 0, .int 0])), ((u29 0), .inr (0, [.ref (u29 1)])), ((u29 1), .inl (cB, 64, .inl (fun _ => 0))), ((u29 2), .inr (3, [.ref (u29 3), .ref (u29 4), .int 0])), ((u29 3), .inl (cI, 40, .inl (fun _ => 0))), ((u29 4), .inl (cI, 40, .inl (fun _ => 0))), ((u29 5), .inr (1, [.ref (u29 6), .ref (u29 7), .int 0, .int 0, .int 0, .int 0])), ((u29 6), .inl (cI, 8, .inl (fun _ => 0))), ((u29 7), .inl (cI, 8, .inl (fun _ => 0))), ((u29 8), .inl (cI, 7, .inl (fun _ => 0))), (q36, .inr (1, [.ref (u40 0), .ref (u40 1), .int 0, .int 0, .int 0, .int 0])), ((u40 0), .inl (cI, 8, .inl (fun _ => 0))), ((u40 1), .inl (cI, 8, .inl (fun _ => 0)))] H locs := V
  refine m_put X V (ws' := [(a, .inr (5, [.ref q16, .ref q36, .null, .int 0])), (q4, .inr (0, [.ref (u11 0)])), ((u11 0), .inl (cB, 1024, .inl (fun _ => 0))), (q21, .inr (4, [.ref q4, .ref (u26 0), .int 0, .int 0, .int 0, .int 0, .int 0, .int 0, .int 0])), ((u26 0), .inr (0, [.ref (u26 1)])), ((u26 1), .inl (cB, 64, .inl (fun _ => 0))), (q16, .inr (2, [.ref q4, .ref (u29 0), .ref (u29 2), .ref (u29 5), .ref q21, .ref (u29 8), .int 256, .int 0, .int 0, .int 0, .int 0, .int 0, .int 0, .int 0])), ((u29 0), .inr (0, [.ref (u29 1)])), ((u29 1), .inl (cB, 64, .inl (fun _ => 0))), ((u29 2), .inr (3, [.ref (u29 3), .ref (u29 4), .int 0])), ((u29 3), .inl (cI, 40, .inl (fun _ => 0))), ((u29 4), .inl (cI, 40, .inl (fun _ => 0))), ((u29 5), .inr (1, [.ref (u29 6), .ref (u29 7), .int 0, .int 0, .int 0, .int 0])), ((u29 6), .inl (cI, 8, .inl (fun _ => 0))), ((u29 7), .inl (cI, 8, .inl (fun _ => 0))), ((u29 8), .inl (cI, 7, .inl (fun _ => 0))), (q36, .inr (1, [.ref (u40 0), .ref (u40 1), .int 0, .int 0, .int 0, .int 0])), ((u40 0), .inl (cI, 8, .inl (fun _ => 0))), ((u40 1), .inl (cI, 8, .inl (fun _ => 0)))]) 5 0 1 rfl gin_5 tyX7_ok nmX7 rfl (by decide) rfl gm_121 rfl rfl rfl (Nat.le_of_ble_eq_true rfl) dX7_init_43 rfl (fun H locs V => ?_)
  refine lv_aload_n hx hb dX7_init_46 rfl (lv_at hl 1 rfl) ?_
  refine m_new X V 1 (fs := [.null, .null, .int 0, .int 0, .int 0, .int 0]) rfl gin_1 tyX1_ok gm_119 gm_75 gm_7 df_1 (by decide) (by decide) dX7_init_47 (fun q47 H V => ?_)
  have V : mWd D A s [(a, .inr (5, [.ref q16, .ref q36, .null, .int 0])), (q4, .inr (0, [.ref (u11 0)])), ((u11 0), .inl (cB, 1024, .inl (fun _ => 0))), (q21, .inr (4, [.ref q4, .ref (u26 0), .int 0, .int 0, .int 0, .int 0, .int 0, .int 0, .int 0])), ((u26 0), .inr (0, [.ref (u26 1)])), ((u26 1), .inl (cB, 64, .inl (fun _ => 0))), (q16, .inr (2, [.ref q4, .ref (u29 0), .ref (u29 2), .ref (u29 5), .ref q21, .ref (u29 8), .int 256, .int 0, .int 0, .int 0, .int 0, .int 0, .int 0, .int 0])), ((u29 0), .inr (0, [.ref (u29 1)])), ((u29 1), .inl (cB, 64, .inl (fun _ => 0))), ((u29 2), .inr (3, [.ref (u29 3), .ref (u29 4), .int 0])), ((u29 3), .inl (cI, 40, .inl (fun _ => 0))), ((u29 4), .inl (cI, 40, .inl (fun _ => 0))), ((u29 5), .inr (1, [.ref (u29 6), .ref (u29 7), .int 0, .int 0, .int 0, .int 0])), ((u29 6), .inl (cI, 8, .inl (fun _ => 0))), ((u29 7), .inl (cI, 8, .inl (fun _ => 0))), ((u29 8), .inl (cI, 7, .inl (fun _ => 0))), (q36, .inr (1, [.ref (u40 0), .ref (u40 1), .int 0, .int 0, .int 0, .int 0])), ((u40 0), .inl (cI, 8, .inl (fun _ => 0))), ((u40 1), .inl (cI, 8, .inl (fun _ => 0))), (q47, .inr (1, [.null, .null, .int 0, .int 0, .int 0, .int 0]))] H _ := V
  refine lv_dup hx hb dX7_init_50 rfl ?_
  refine m_IN X V (rest := [.ref q47, .ref a]) (kX1_init l D cB cI q47) okX1_init rfl gm_76 nm_7 [19] [0, 1, 2, 3, 4, 5, 6, 7, 8, 9, 10, 11, 12, 13, 14, 15, 16, 17, 18] ⟨⟨rfl, rfl⟩, ⟨by decide, by decide⟩, by decide, by decide⟩ rfl (wr := [(a, .inr (5, [.ref q16, .ref q36, .null, .int 0])), (q4, .inr (0, [.ref (u11 0)])), ((u11 0), .inl (cB, 1024, .inl (fun _ => 0))), (q21, .inr (4, [.ref q4, .ref (u26 0), .int 0, .int 0, .int 0, .int 0, .int 0, .int 0, .int 0])), ((u26 0), .inr (0, [.ref (u26 1)])), ((u26 1), .inl (cB, 64, .inl (fun _ => 0))), (q16, .inr (2, [.ref q4, .ref (u29 0), .ref (u29 2), .ref (u29 5), .ref q21, .ref (u29 8), .int 256, .int 0, .int 0, .int 0, .int 0, .int 0, .int 0, .int 0])), ((u29 0), .inr (0, [.ref (u29 1)])), ((u29 1), .inl (cB, 64, .inl (fun _ => 0))), ((u29 2), .inr (3, [.ref (u29 3), .ref (u29 4), .int 0])), ((u29 3), .inl (cI, 40, .inl (fun _ => 0))), ((u29 4), .inl (cI, 40, .inl (fun _ => 0))), ((u29 5), .inr (1, [.ref (u29 6), .ref (u29 7), .int 0, .int 0, .int 0, .int 0])), ((u29 6), .inl (cI, 8, .inl (fun _ => 0))), ((u29 7), .inl (cI, 8, .inl (fun _ => 0))), ((u29 8), .inl (cI, 7, .inl (fun _ => 0))), (q36, .inr (1, [.ref (u40 0), .ref (u40 1), .int 0, .int 0, .int 0, .int 0])), ((u40 0), .inl (cI, 8, .inl (fun _ => 0))), ((u40 1), .inl (cI, 8, .inl (fun _ => 0)))]) rfl (by decide) (by decide) (by decide) rfl hl.1 (Nat.le_of_ble_eq_true rfl) dX7_init_51 rfl (fun u51 H locs V => ?_)
  have V : mWd D A s [(a, .inr (5, [.ref q16, .ref q36, .null, .int 0])), (q4, .inr (0, [.ref (u11 0)])), ((u11 0), .inl (cB, 1024, .inl (fun _ => 0))), (q21, .inr (4, [.ref q4, .ref (u26 0), .int 0, .int 0, .int 0, .int 0, .int 0, .int 0, .int 0])), ((u26 0), .inr (0, [.ref (u26 1)])), ((u26 1), .inl (cB, 64, .inl (fun _ => 0))), (q16, .inr (2, [.ref q4, .ref (u29 0), .ref (u29 2), .ref (u29 5), .ref q21, .ref (u29 8), .int 256, .int 0, .int 0, .int 0, .int 0, .int 0, .int 0, .int 0])), ((u29 0), .inr (0, [.ref (u29 1)])), ((u29 1), .inl (cB, 64, .inl (fun _ => 0))), ((u29 2), .inr (3, [.ref (u29 3), .ref (u29 4), .int 0])), ((u29 3), .inl (cI, 40, .inl (fun _ => 0))), ((u29 4), .inl (cI, 40, .inl (fun _ => 0))), ((u29 5), .inr (1, [.ref (u29 6), .ref (u29 7), .int 0, .int 0, .int 0, .int 0])), ((u29 6), .inl (cI, 8, .inl (fun _ => 0))), ((u29 7), .inl (cI, 8, .inl (fun _ => 0))), ((u29 8), .inl (cI, 7, .inl (fun _ => 0))), (q36, .inr (1, [.ref (u40 0), .ref (u40 1), .int 0, .int 0, .int 0, .int 0])), ((u40 0), .inl (cI, 8, .inl (fun _ => 0))), ((u40 1), .inl (cI, 8, .inl (fun _ => 0))), (q47, .inr (1, [.ref (u51 0), .ref (u51 1), .int 0, .int 0, .int 0, .int 0])), ((u51 0), .inl (cI, 8, .inl (fun _ => 0))), ((u51 1), .inl (cI, 8, .inl (fun _ => 0)))] H locs := V
  refine m_put X V (ws' := [(a, .inr (5, [.ref q16, .ref q36, .ref q47, .int 0])), (q4, .inr (0, [.ref (u11 0)])), ((u11 0), .inl (cB, 1024, .inl (fun _ => 0))), (q21, .inr (4, [.ref q4, .ref (u26 0), .int 0, .int 0, .int 0, .int 0, .int 0, .int 0, .int 0])), ((u26 0), .inr (0, [.ref (u26 1)])), ((u26 1), .inl (cB, 64, .inl (fun _ => 0))), (q16, .inr (2, [.ref q4, .ref (u29 0), .ref (u29 2), .ref (u29 5), .ref q21, .ref (u29 8), .int 256, .int 0, .int 0, .int 0, .int 0, .int 0, .int 0, .int 0])), ((u29 0), .inr (0, [.ref (u29 1)])), ((u29 1), .inl (cB, 64, .inl (fun _ => 0))), ((u29 2), .inr (3, [.ref (u29 3), .ref (u29 4), .int 0])), ((u29 3), .inl (cI, 40, .inl (fun _ => 0))), ((u29 4), .inl (cI, 40, .inl (fun _ => 0))), ((u29 5), .inr (1, [.ref (u29 6), .ref (u29 7), .int 0, .int 0, .int 0, .int 0])), ((u29 6), .inl (cI, 8, .inl (fun _ => 0))), ((u29 7), .inl (cI, 8, .inl (fun _ => 0))), ((u29 8), .inl (cI, 7, .inl (fun _ => 0))), (q36, .inr (1, [.ref (u40 0), .ref (u40 1), .int 0, .int 0, .int 0, .int 0])), ((u40 0), .inl (cI, 8, .inl (fun _ => 0))), ((u40 1), .inl (cI, 8, .inl (fun _ => 0))), (q47, .inr (1, [.ref (u51 0), .ref (u51 1), .int 0, .int 0, .int 0, .int 0])), ((u51 0), .inl (cI, 8, .inl (fun _ => 0))), ((u51 1), .inl (cI, 8, .inl (fun _ => 0)))]) 5 0 2 rfl gin_5 tyX7_ok nmX7 rfl (by decide) rfl gm_122 rfl rfl rfl (Nat.le_of_ble_eq_true rfl) dX7_init_54 rfl (fun H locs V => ?_)
  refine lv_aload_n hx hb dX7_init_57 rfl (lv_at hl 1 rfl) ?_
  refine lv_iconst (v := 0) hx hb dX7_init_58 (by decide) ?_
  refine m_put X V (ws' := [(a, .inr (5, [.ref q16, .ref q36, .ref q47, .int 0])), (q4, .inr (0, [.ref (u11 0)])), ((u11 0), .inl (cB, 1024, .inl (fun _ => 0))), (q21, .inr (4, [.ref q4, .ref (u26 0), .int 0, .int 0, .int 0, .int 0, .int 0, .int 0, .int 0])), ((u26 0), .inr (0, [.ref (u26 1)])), ((u26 1), .inl (cB, 64, .inl (fun _ => 0))), (q16, .inr (2, [.ref q4, .ref (u29 0), .ref (u29 2), .ref (u29 5), .ref q21, .ref (u29 8), .int 256, .int 0, .int 0, .int 0, .int 0, .int 0, .int 0, .int 0])), ((u29 0), .inr (0, [.ref (u29 1)])), ((u29 1), .inl (cB, 64, .inl (fun _ => 0))), ((u29 2), .inr (3, [.ref (u29 3), .ref (u29 4), .int 0])), ((u29 3), .inl (cI, 40, .inl (fun _ => 0))), ((u29 4), .inl (cI, 40, .inl (fun _ => 0))), ((u29 5), .inr (1, [.ref (u29 6), .ref (u29 7), .int 0, .int 0, .int 0, .int 0])), ((u29 6), .inl (cI, 8, .inl (fun _ => 0))), ((u29 7), .inl (cI, 8, .inl (fun _ => 0))), ((u29 8), .inl (cI, 7, .inl (fun _ => 0))), (q36, .inr (1, [.ref (u40 0), .ref (u40 1), .int 0, .int 0, .int 0, .int 0])), ((u40 0), .inl (cI, 8, .inl (fun _ => 0))), ((u40 1), .inl (cI, 8, .inl (fun _ => 0))), (q47, .inr (1, [.ref (u51 0), .ref (u51 1), .int 0, .int 0, .int 0, .int 0])), ((u51 0), .inl (cI, 8, .inl (fun _ => 0))), ((u51 1), .inl (cI, 8, .inl (fun _ => 0)))]) 5 0 3 rfl gin_5 tyX7_ok nmX7 rfl (by decide) rfl gm_123 rfl rfl rfl (Nat.le_of_ble_eq_true rfl) dX7_init_59 rfl (fun H locs V => ?_)
  exact m_vretN X hr hk V (fun i => [q4, (u11 0), q21, (u26 0), (u26 1), q16, (u29 0), (u29 1), (u29 2), (u29 3), (u29 4), (u29 5), (u29 6), (u29 7), (u29 8), q36, (u40 0), (u40 1), q47, (u51 0), (u51 1)].getD i 0) rfl dX7_init_62
theorem okX8_init : mOk yX8_init cX8_init 1 none 0 := ⟨gm_421, gm_8, by decide +kernel⟩
def wcX8_init (cB cI : ClassId) (a : Nat) (u : Nat → Nat) : va_W := [(a, .inr (6, [.ref (u 0), .ref (u 1), .ref (u 2), .ref (u 3), .int 0, .int 0, .int 256, .int 0, .int 0, .int 0, .int 0, .int 0, .int 0, .ref (u 4), .ref (u 5), .int 0, .int 0, .int 0, .int 0, .ref (u 6), .ref (u 7), .ref (u 8), .int 0, .int 0, .int 0, .ref (u 9), .ref (u 10), .ref (u 11), .int 0])), ((u 0), .inl (cI, 1024, .inl (fun _ => 0))), ((u 1), .inl (cI, 64, .inl (fun _ => 0))), ((u 2), .inl (cI, 40, .inl (fun _ => 0))), ((u 3), .inl (cI, 40, .inl (fun _ => 0))), ((u 4), .inl (cI, 8, .inl (fun _ => 0))), ((u 5), .inl (cI, 8, .inl (fun _ => 0))), ((u 6), .inl (cI, 8, .inl (fun _ => 0))), ((u 7), .inl (cI, 8, .inl (fun _ => 0))), ((u 8), .inl (cI, 8, .inl (fun _ => 0))), ((u 9), .inl (cI, 40, .inl (fun _ => 0))), ((u 10), .inl (cI, 1024, .inl (fun _ => 0))), ((u 11), .inl (cI, 64, .inl (fun _ => 0)))]
set_option maxRecDepth 100000 in
set_option maxHeartbeats 4000000 in
theorem kX8_init (l : Launch) (D : va_G) (cB cI : ClassId) (a : Nat) : mN l D cB cI yX8_init cX8_init 1 { frames := 1, cells := 12, slots := 2336, locals := 20 } [.ref a] [(a, .inr (6, [.null, .null, .null, .null, .int 0, .int 0, .int 0, .int 0, .int 0, .int 0, .int 0, .int 0, .int 0, .null, .null, .int 0, .int 0, .int 0, .int 0, .null, .null, .null, .int 0, .int 0, .int 0, .null, .null, .null, .int 0]))] 12 2336 (wcX8_init cB cI a ) := by
  refine m_startN (by decide +kernel) (Nat.le_of_ble_eq_true rfl) ?_
  intro p e s m below meth c A ls X hr hk hi V hl
  have X : mCx p s m _ c cX8_init 1 RX8 D cB cI := X
  have hx := X.1.1
  have hb := X.1.2.1
  have hi : meth.name = "<init>" := hi
  have hl : lv_has ls 1 [(0, .ref a)] := hl
  refine lv_aload_n hx hb dX8_init_0 rfl (lv_at hl 0 rfl) ?_
  refine m_obj X gm_422 gm_19 gm_20 hl.1 dX8_init_1 (by decide) (Nat.le_of_ble_eq_true rfl) ?_
  refine lv_aload_n hx hb dX8_init_4 rfl (lv_at hl 0 rfl) ?_
  refine lv_sipush (v := 1024) hx hb dX8_init_5 (by decide) ?_
  refine m_newI X V (N := 1024) gm_73 (by decide) (by decide) (by decide) (by decide) (by decide) dX8_init_8 (fun q8 H V => ?_)
  have V : mWd D A s [(a, .inr (6, [.null, .null, .null, .null, .int 0, .int 0, .int 0, .int 0, .int 0, .int 0, .int 0, .int 0, .int 0, .null, .null, .int 0, .int 0, .int 0, .int 0, .null, .null, .null, .int 0, .int 0, .int 0, .null, .null, .null, .int 0])), (q8, .inl (cI, 1024, .inl (fun _ => 0)))] H _ := V
  refine m_putF X V hi (ws' := [(a, .inr (6, [.ref q8, .null, .null, .null, .int 0, .int 0, .int 0, .int 0, .int 0, .int 0, .int 0, .int 0, .int 0, .null, .null, .int 0, .int 0, .int 0, .int 0, .null, .null, .null, .int 0, .int 0, .int 0, .null, .null, .null, .int 0])), (q8, .inl (cI, 1024, .inl (fun _ => 0)))]) 6 0 0 rfl gin_6 tyX8_ok nmX8 rfl (by decide) rfl gm_423 rfl rfl rfl (Nat.le_of_ble_eq_true rfl) dX8_init_10 rfl (fun H locs V => ?_)
  refine lv_aload_n hx hb dX8_init_13 rfl (lv_at hl 0 rfl) ?_
  refine lv_bipush (v := 64) hx hb dX8_init_14 (by decide) ?_
  refine m_newI X V (N := 64) gm_73 (by decide) (by decide) (by decide) (by decide) (by decide) dX8_init_16 (fun q16 H V => ?_)
  have V : mWd D A s [(a, .inr (6, [.ref q8, .null, .null, .null, .int 0, .int 0, .int 0, .int 0, .int 0, .int 0, .int 0, .int 0, .int 0, .null, .null, .int 0, .int 0, .int 0, .int 0, .null, .null, .null, .int 0, .int 0, .int 0, .null, .null, .null, .int 0])), (q8, .inl (cI, 1024, .inl (fun _ => 0))), (q16, .inl (cI, 64, .inl (fun _ => 0)))] H _ := V
  refine m_putF X V hi (ws' := [(a, .inr (6, [.ref q8, .ref q16, .null, .null, .int 0, .int 0, .int 0, .int 0, .int 0, .int 0, .int 0, .int 0, .int 0, .null, .null, .int 0, .int 0, .int 0, .int 0, .null, .null, .null, .int 0, .int 0, .int 0, .null, .null, .null, .int 0])), (q8, .inl (cI, 1024, .inl (fun _ => 0))), (q16, .inl (cI, 64, .inl (fun _ => 0)))]) 6 0 1 rfl gin_6 tyX8_ok nmX8 rfl (by decide) rfl gm_424 rfl rfl rfl (Nat.le_of_ble_eq_true rfl) dX8_init_18 rfl (fun H locs V => ?_)
  refine lv_aload_n hx hb dX8_init_21 rfl (lv_at hl 0 rfl) ?_
  refine lv_bipush (v := 40) hx hb dX8_init_22 (by decide) ?_
  refine m_newI X V (N := 40) gm_73 (by decide) (by decide) (by decide) (by decide) (by decide) dX8_init_24 (fun q24 H V => ?_)
  have V : mWd D A s [(a, .inr (6, [.ref q8, .ref q16, .null, .null, .int 0, .int 0, .int 0, .int 0, .int 0, .int 0, .int 0, .int 0, .int 0, .null, .null, .int 0, .int 0, .int 0, .int 0, .null, .null, .null, .int 0, .int 0, .int 0, .null, .null, .null, .int 0])), (q8, .inl (cI, 1024, .inl (fun _ => 0))), (q16, .inl (cI, 64, .inl (fun _ => 0))), (q24, .inl (cI, 40, .inl (fun _ => 0)))] H _ := V
  refine m_putF X V hi (ws' := [(a, .inr (6, [.ref q8, .ref q16, .ref q24, .null, .int 0, .int 0, .int 0, .int 0, .int 0, .int 0, .int 0, .int 0, .int 0, .null, .null, .int 0, .int 0, .int 0, .int 0, .null, .null, .null, .int 0, .int 0, .int 0, .null, .null, .null, .int 0])), (q8, .inl (cI, 1024, .inl (fun _ => 0))), (q16, .inl (cI, 64, .inl (fun _ => 0))), (q24, .inl (cI, 40, .inl (fun _ => 0)))]) 6 0 2 rfl gin_6 tyX8_ok nmX8 rfl (by decide) rfl gm_425 rfl rfl rfl (Nat.le_of_ble_eq_true rfl) dX8_init_26 rfl (fun H locs V => ?_)
  refine lv_aload_n hx hb dX8_init_29 rfl (lv_at hl 0 rfl) ?_
  refine lv_bipush (v := 40) hx hb dX8_init_30 (by decide) ?_
  refine m_newI X V (N := 40) gm_73 (by decide) (by decide) (by decide) (by decide) (by decide) dX8_init_32 (fun q32 H V => ?_)
  have V : mWd D A s [(a, .inr (6, [.ref q8, .ref q16, .ref q24, .null, .int 0, .int 0, .int 0, .int 0, .int 0, .int 0, .int 0, .int 0, .int 0, .null, .null, .int 0, .int 0, .int 0, .int 0, .null, .null, .null, .int 0, .int 0, .int 0, .null, .null, .null, .int 0])), (q8, .inl (cI, 1024, .inl (fun _ => 0))), (q16, .inl (cI, 64, .inl (fun _ => 0))), (q24, .inl (cI, 40, .inl (fun _ => 0))), (q32, .inl (cI, 40, .inl (fun _ => 0)))] H _ := V
  refine m_putF X V hi (ws' := [(a, .inr (6, [.ref q8, .ref q16, .ref q24, .ref q32, .int 0, .int 0, .int 0, .int 0, .int 0, .int 0, .int 0, .int 0, .int 0, .null, .null, .int 0, .int 0, .int 0, .int 0, .null, .null, .null, .int 0, .int 0, .int 0, .null, .null, .null, .int 0])), (q8, .inl (cI, 1024, .inl (fun _ => 0))), (q16, .inl (cI, 64, .inl (fun _ => 0))), (q24, .inl (cI, 40, .inl (fun _ => 0))), (q32, .inl (cI, 40, .inl (fun _ => 0)))]) 6 0 3 rfl gin_6 tyX8_ok nmX8 rfl (by decide) rfl gm_426 rfl rfl rfl (Nat.le_of_ble_eq_true rfl) dX8_init_34 rfl (fun H locs V => ?_)
  refine lv_aload_n hx hb dX8_init_37 rfl (lv_at hl 0 rfl) ?_
  refine lv_sipush (v := 256) hx hb dX8_init_38 (by decide) ?_
  refine m_put X V (ws' := [(a, .inr (6, [.ref q8, .ref q16, .ref q24, .ref q32, .int 0, .int 0, .int 256, .int 0, .int 0, .int 0, .int 0, .int 0, .int 0, .null, .null, .int 0, .int 0, .int 0, .int 0, .null, .null, .null, .int 0, .int 0, .int 0, .null, .null, .null, .int 0])), (q8, .inl (cI, 1024, .inl (fun _ => 0))), (q16, .inl (cI, 64, .inl (fun _ => 0))), (q24, .inl (cI, 40, .inl (fun _ => 0))), (q32, .inl (cI, 40, .inl (fun _ => 0)))]) 6 0 6 rfl gin_6 tyX8_ok nmX8 rfl (by decide) rfl gm_429 rfl rfl rfl (Nat.le_of_ble_eq_true rfl) dX8_init_41 rfl (fun H locs V => ?_)
  refine lv_aload_n hx hb dX8_init_44 rfl (lv_at hl 0 rfl) ?_
  refine lv_bipush (v := 8) hx hb dX8_init_45 (by decide) ?_
  refine m_newI X V (N := 8) gm_73 (by decide) (by decide) (by decide) (by decide) (by decide) dX8_init_47 (fun q47 H V => ?_)
  have V : mWd D A s [(a, .inr (6, [.ref q8, .ref q16, .ref q24, .ref q32, .int 0, .int 0, .int 256, .int 0, .int 0, .int 0, .int 0, .int 0, .int 0, .null, .null, .int 0, .int 0, .int 0, .int 0, .null, .null, .null, .int 0, .int 0, .int 0, .null, .null, .null, .int 0])), (q8, .inl (cI, 1024, .inl (fun _ => 0))), (q16, .inl (cI, 64, .inl (fun _ => 0))), (q24, .inl (cI, 40, .inl (fun _ => 0))), (q32, .inl (cI, 40, .inl (fun _ => 0))), (q47, .inl (cI, 8, .inl (fun _ => 0)))] H _ := V
  refine m_putF X V hi (ws' := [(a, .inr (6, [.ref q8, .ref q16, .ref q24, .ref q32, .int 0, .int 0, .int 256, .int 0, .int 0, .int 0, .int 0, .int 0, .int 0, .ref q47, .null, .int 0, .int 0, .int 0, .int 0, .null, .null, .null, .int 0, .int 0, .int 0, .null, .null, .null, .int 0])), (q8, .inl (cI, 1024, .inl (fun _ => 0))), (q16, .inl (cI, 64, .inl (fun _ => 0))), (q24, .inl (cI, 40, .inl (fun _ => 0))), (q32, .inl (cI, 40, .inl (fun _ => 0))), (q47, .inl (cI, 8, .inl (fun _ => 0)))]) 6 0 13 rfl gin_6 tyX8_ok nmX8 rfl (by decide) rfl gm_436 rfl rfl rfl (Nat.le_of_ble_eq_true rfl) dX8_init_49 rfl (fun H locs V => ?_)
  refine lv_aload_n hx hb dX8_init_52 rfl (lv_at hl 0 rfl) ?_
  refine lv_bipush (v := 8) hx hb dX8_init_53 (by decide) ?_
  refine m_newI X V (N := 8) gm_73 (by decide) (by decide) (by decide) (by decide) (by decide) dX8_init_55 (fun q55 H V => ?_)
  have V : mWd D A s [(a, .inr (6, [.ref q8, .ref q16, .ref q24, .ref q32, .int 0, .int 0, .int 256, .int 0, .int 0, .int 0, .int 0, .int 0, .int 0, .ref q47, .null, .int 0, .int 0, .int 0, .int 0, .null, .null, .null, .int 0, .int 0, .int 0, .null, .null, .null, .int 0])), (q8, .inl (cI, 1024, .inl (fun _ => 0))), (q16, .inl (cI, 64, .inl (fun _ => 0))), (q24, .inl (cI, 40, .inl (fun _ => 0))), (q32, .inl (cI, 40, .inl (fun _ => 0))), (q47, .inl (cI, 8, .inl (fun _ => 0))), (q55, .inl (cI, 8, .inl (fun _ => 0)))] H _ := V
  refine m_putF X V hi (ws' := [(a, .inr (6, [.ref q8, .ref q16, .ref q24, .ref q32, .int 0, .int 0, .int 256, .int 0, .int 0, .int 0, .int 0, .int 0, .int 0, .ref q47, .ref q55, .int 0, .int 0, .int 0, .int 0, .null, .null, .null, .int 0, .int 0, .int 0, .null, .null, .null, .int 0])), (q8, .inl (cI, 1024, .inl (fun _ => 0))), (q16, .inl (cI, 64, .inl (fun _ => 0))), (q24, .inl (cI, 40, .inl (fun _ => 0))), (q32, .inl (cI, 40, .inl (fun _ => 0))), (q47, .inl (cI, 8, .inl (fun _ => 0))), (q55, .inl (cI, 8, .inl (fun _ => 0)))]) 6 0 14 rfl gin_6 tyX8_ok nmX8 rfl (by decide) rfl gm_437 rfl rfl rfl (Nat.le_of_ble_eq_true rfl) dX8_init_57 rfl (fun H locs V => ?_)
  refine lv_aload_n hx hb dX8_init_60 rfl (lv_at hl 0 rfl) ?_
  refine lv_bipush (v := 8) hx hb dX8_init_61 (by decide) ?_
  refine m_newI X V (N := 8) gm_73 (by decide) (by decide) (by decide) (by decide) (by decide) dX8_init_63 (fun q63 H V => ?_)
  have V : mWd D A s [(a, .inr (6, [.ref q8, .ref q16, .ref q24, .ref q32, .int 0, .int 0, .int 256, .int 0, .int 0, .int 0, .int 0, .int 0, .int 0, .ref q47, .ref q55, .int 0, .int 0, .int 0, .int 0, .null, .null, .null, .int 0, .int 0, .int 0, .null, .null, .null, .int 0])), (q8, .inl (cI, 1024, .inl (fun _ => 0))), (q16, .inl (cI, 64, .inl (fun _ => 0))), (q24, .inl (cI, 40, .inl (fun _ => 0))), (q32, .inl (cI, 40, .inl (fun _ => 0))), (q47, .inl (cI, 8, .inl (fun _ => 0))), (q55, .inl (cI, 8, .inl (fun _ => 0))), (q63, .inl (cI, 8, .inl (fun _ => 0)))] H _ := V
  refine m_putF X V hi (ws' := [(a, .inr (6, [.ref q8, .ref q16, .ref q24, .ref q32, .int 0, .int 0, .int 256, .int 0, .int 0, .int 0, .int 0, .int 0, .int 0, .ref q47, .ref q55, .int 0, .int 0, .int 0, .int 0, .ref q63, .null, .null, .int 0, .int 0, .int 0, .null, .null, .null, .int 0])), (q8, .inl (cI, 1024, .inl (fun _ => 0))), (q16, .inl (cI, 64, .inl (fun _ => 0))), (q24, .inl (cI, 40, .inl (fun _ => 0))), (q32, .inl (cI, 40, .inl (fun _ => 0))), (q47, .inl (cI, 8, .inl (fun _ => 0))), (q55, .inl (cI, 8, .inl (fun _ => 0))), (q63, .inl (cI, 8, .inl (fun _ => 0)))]) 6 0 19 rfl gin_6 tyX8_ok nmX8 rfl (by decide) rfl gm_442 rfl rfl rfl (Nat.le_of_ble_eq_true rfl) dX8_init_65 rfl (fun H locs V => ?_)
  refine lv_aload_n hx hb dX8_init_68 rfl (lv_at hl 0 rfl) ?_
  refine lv_bipush (v := 8) hx hb dX8_init_69 (by decide) ?_
  refine m_newI X V (N := 8) gm_73 (by decide) (by decide) (by decide) (by decide) (by decide) dX8_init_71 (fun q71 H V => ?_)
  have V : mWd D A s [(a, .inr (6, [.ref q8, .ref q16, .ref q24, .ref q32, .int 0, .int 0, .int 256, .int 0, .int 0, .int 0, .int 0, .int 0, .int 0, .ref q47, .ref q55, .int 0, .int 0, .int 0, .int 0, .ref q63, .null, .null, .int 0, .int 0, .int 0, .null, .null, .null, .int 0])), (q8, .inl (cI, 1024, .inl (fun _ => 0))), (q16, .inl (cI, 64, .inl (fun _ => 0))), (q24, .inl (cI, 40, .inl (fun _ => 0))), (q32, .inl (cI, 40, .inl (fun _ => 0))), (q47, .inl (cI, 8, .inl (fun _ => 0))), (q55, .inl (cI, 8, .inl (fun _ => 0))), (q63, .inl (cI, 8, .inl (fun _ => 0))), (q71, .inl (cI, 8, .inl (fun _ => 0)))] H _ := V
  refine m_putF X V hi (ws' := [(a, .inr (6, [.ref q8, .ref q16, .ref q24, .ref q32, .int 0, .int 0, .int 256, .int 0, .int 0, .int 0, .int 0, .int 0, .int 0, .ref q47, .ref q55, .int 0, .int 0, .int 0, .int 0, .ref q63, .ref q71, .null, .int 0, .int 0, .int 0, .null, .null, .null, .int 0])), (q8, .inl (cI, 1024, .inl (fun _ => 0))), (q16, .inl (cI, 64, .inl (fun _ => 0))), (q24, .inl (cI, 40, .inl (fun _ => 0))), (q32, .inl (cI, 40, .inl (fun _ => 0))), (q47, .inl (cI, 8, .inl (fun _ => 0))), (q55, .inl (cI, 8, .inl (fun _ => 0))), (q63, .inl (cI, 8, .inl (fun _ => 0))), (q71, .inl (cI, 8, .inl (fun _ => 0)))]) 6 0 20 rfl gin_6 tyX8_ok nmX8 rfl (by decide) rfl gm_443 rfl rfl rfl (Nat.le_of_ble_eq_true rfl) dX8_init_73 rfl (fun H locs V => ?_)
  refine lv_aload_n hx hb dX8_init_76 rfl (lv_at hl 0 rfl) ?_
  refine lv_bipush (v := 8) hx hb dX8_init_77 (by decide) ?_
  refine m_newI X V (N := 8) gm_73 (by decide) (by decide) (by decide) (by decide) (by decide) dX8_init_79 (fun q79 H V => ?_)
  have V : mWd D A s [(a, .inr (6, [.ref q8, .ref q16, .ref q24, .ref q32, .int 0, .int 0, .int 256, .int 0, .int 0, .int 0, .int 0, .int 0, .int 0, .ref q47, .ref q55, .int 0, .int 0, .int 0, .int 0, .ref q63, .ref q71, .null, .int 0, .int 0, .int 0, .null, .null, .null, .int 0])), (q8, .inl (cI, 1024, .inl (fun _ => 0))), (q16, .inl (cI, 64, .inl (fun _ => 0))), (q24, .inl (cI, 40, .inl (fun _ => 0))), (q32, .inl (cI, 40, .inl (fun _ => 0))), (q47, .inl (cI, 8, .inl (fun _ => 0))), (q55, .inl (cI, 8, .inl (fun _ => 0))), (q63, .inl (cI, 8, .inl (fun _ => 0))), (q71, .inl (cI, 8, .inl (fun _ => 0))), (q79, .inl (cI, 8, .inl (fun _ => 0)))] H _ := V
  refine m_putF X V hi (ws' := [(a, .inr (6, [.ref q8, .ref q16, .ref q24, .ref q32, .int 0, .int 0, .int 256, .int 0, .int 0, .int 0, .int 0, .int 0, .int 0, .ref q47, .ref q55, .int 0, .int 0, .int 0, .int 0, .ref q63, .ref q71, .ref q79, .int 0, .int 0, .int 0, .null, .null, .null, .int 0])), (q8, .inl (cI, 1024, .inl (fun _ => 0))), (q16, .inl (cI, 64, .inl (fun _ => 0))), (q24, .inl (cI, 40, .inl (fun _ => 0))), (q32, .inl (cI, 40, .inl (fun _ => 0))), (q47, .inl (cI, 8, .inl (fun _ => 0))), (q55, .inl (cI, 8, .inl (fun _ => 0))), (q63, .inl (cI, 8, .inl (fun _ => 0))), (q71, .inl (cI, 8, .inl (fun _ => 0))), (q79, .inl (cI, 8, .inl (fun _ => 0)))]) 6 0 21 rfl gin_6 tyX8_ok nmX8 rfl (by decide) rfl gm_444 rfl rfl rfl (Nat.le_of_ble_eq_true rfl) dX8_init_81 rfl (fun H locs V => ?_)
  refine lv_aload_n hx hb dX8_init_84 rfl (lv_at hl 0 rfl) ?_
  refine lv_bipush (v := 40) hx hb dX8_init_85 (by decide) ?_
  refine m_newI X V (N := 40) gm_73 (by decide) (by decide) (by decide) (by decide) (by decide) dX8_init_87 (fun q87 H V => ?_)
  have V : mWd D A s [(a, .inr (6, [.ref q8, .ref q16, .ref q24, .ref q32, .int 0, .int 0, .int 256, .int 0, .int 0, .int 0, .int 0, .int 0, .int 0, .ref q47, .ref q55, .int 0, .int 0, .int 0, .int 0, .ref q63, .ref q71, .ref q79, .int 0, .int 0, .int 0, .null, .null, .null, .int 0])), (q8, .inl (cI, 1024, .inl (fun _ => 0))), (q16, .inl (cI, 64, .inl (fun _ => 0))), (q24, .inl (cI, 40, .inl (fun _ => 0))), (q32, .inl (cI, 40, .inl (fun _ => 0))), (q47, .inl (cI, 8, .inl (fun _ => 0))), (q55, .inl (cI, 8, .inl (fun _ => 0))), (q63, .inl (cI, 8, .inl (fun _ => 0))), (q71, .inl (cI, 8, .inl (fun _ => 0))), (q79, .inl (cI, 8, .inl (fun _ => 0))), (q87, .inl (cI, 40, .inl (fun _ => 0)))] H _ := V
  refine m_putF X V hi (ws' := [(a, .inr (6, [.ref q8, .ref q16, .ref q24, .ref q32, .int 0, .int 0, .int 256, .int 0, .int 0, .int 0, .int 0, .int 0, .int 0, .ref q47, .ref q55, .int 0, .int 0, .int 0, .int 0, .ref q63, .ref q71, .ref q79, .int 0, .int 0, .int 0, .ref q87, .null, .null, .int 0])), (q8, .inl (cI, 1024, .inl (fun _ => 0))), (q16, .inl (cI, 64, .inl (fun _ => 0))), (q24, .inl (cI, 40, .inl (fun _ => 0))), (q32, .inl (cI, 40, .inl (fun _ => 0))), (q47, .inl (cI, 8, .inl (fun _ => 0))), (q55, .inl (cI, 8, .inl (fun _ => 0))), (q63, .inl (cI, 8, .inl (fun _ => 0))), (q71, .inl (cI, 8, .inl (fun _ => 0))), (q79, .inl (cI, 8, .inl (fun _ => 0))), (q87, .inl (cI, 40, .inl (fun _ => 0)))]) 6 0 25 rfl gin_6 tyX8_ok nmX8 rfl (by decide) rfl gm_448 rfl rfl rfl (Nat.le_of_ble_eq_true rfl) dX8_init_89 rfl (fun H locs V => ?_)
  refine lv_aload_n hx hb dX8_init_92 rfl (lv_at hl 0 rfl) ?_
  refine lv_sipush (v := 1024) hx hb dX8_init_93 (by decide) ?_
  refine m_newI X V (N := 1024) gm_73 (by decide) (by decide) (by decide) (by decide) (by decide) dX8_init_96 (fun q96 H V => ?_)
  have V : mWd D A s [(a, .inr (6, [.ref q8, .ref q16, .ref q24, .ref q32, .int 0, .int 0, .int 256, .int 0, .int 0, .int 0, .int 0, .int 0, .int 0, .ref q47, .ref q55, .int 0, .int 0, .int 0, .int 0, .ref q63, .ref q71, .ref q79, .int 0, .int 0, .int 0, .ref q87, .null, .null, .int 0])), (q8, .inl (cI, 1024, .inl (fun _ => 0))), (q16, .inl (cI, 64, .inl (fun _ => 0))), (q24, .inl (cI, 40, .inl (fun _ => 0))), (q32, .inl (cI, 40, .inl (fun _ => 0))), (q47, .inl (cI, 8, .inl (fun _ => 0))), (q55, .inl (cI, 8, .inl (fun _ => 0))), (q63, .inl (cI, 8, .inl (fun _ => 0))), (q71, .inl (cI, 8, .inl (fun _ => 0))), (q79, .inl (cI, 8, .inl (fun _ => 0))), (q87, .inl (cI, 40, .inl (fun _ => 0))), (q96, .inl (cI, 1024, .inl (fun _ => 0)))] H _ := V
  refine m_putF X V hi (ws' := [(a, .inr (6, [.ref q8, .ref q16, .ref q24, .ref q32, .int 0, .int 0, .int 256, .int 0, .int 0, .int 0, .int 0, .int 0, .int 0, .ref q47, .ref q55, .int 0, .int 0, .int 0, .int 0, .ref q63, .ref q71, .ref q79, .int 0, .int 0, .int 0, .ref q87, .ref q96, .null, .int 0])), (q8, .inl (cI, 1024, .inl (fun _ => 0))), (q16, .inl (cI, 64, .inl (fun _ => 0))), (q24, .inl (cI, 40, .inl (fun _ => 0))), (q32, .inl (cI, 40, .inl (fun _ => 0))), (q47, .inl (cI, 8, .inl (fun _ => 0))), (q55, .inl (cI, 8, .inl (fun _ => 0))), (q63, .inl (cI, 8, .inl (fun _ => 0))), (q71, .inl (cI, 8, .inl (fun _ => 0))), (q79, .inl (cI, 8, .inl (fun _ => 0))), (q87, .inl (cI, 40, .inl (fun _ => 0))), (q96, .inl (cI, 1024, .inl (fun _ => 0)))]) 6 0 26 rfl gin_6 tyX8_ok nmX8 rfl (by decide) rfl gm_449 rfl rfl rfl (Nat.le_of_ble_eq_true rfl) dX8_init_98 rfl (fun H locs V => ?_)
  refine lv_aload_n hx hb dX8_init_101 rfl (lv_at hl 0 rfl) ?_
  refine lv_bipush (v := 64) hx hb dX8_init_102 (by decide) ?_
  refine m_newI X V (N := 64) gm_73 (by decide) (by decide) (by decide) (by decide) (by decide) dX8_init_104 (fun q104 H V => ?_)
  have V : mWd D A s [(a, .inr (6, [.ref q8, .ref q16, .ref q24, .ref q32, .int 0, .int 0, .int 256, .int 0, .int 0, .int 0, .int 0, .int 0, .int 0, .ref q47, .ref q55, .int 0, .int 0, .int 0, .int 0, .ref q63, .ref q71, .ref q79, .int 0, .int 0, .int 0, .ref q87, .ref q96, .null, .int 0])), (q8, .inl (cI, 1024, .inl (fun _ => 0))), (q16, .inl (cI, 64, .inl (fun _ => 0))), (q24, .inl (cI, 40, .inl (fun _ => 0))), (q32, .inl (cI, 40, .inl (fun _ => 0))), (q47, .inl (cI, 8, .inl (fun _ => 0))), (q55, .inl (cI, 8, .inl (fun _ => 0))), (q63, .inl (cI, 8, .inl (fun _ => 0))), (q71, .inl (cI, 8, .inl (fun _ => 0))), (q79, .inl (cI, 8, .inl (fun _ => 0))), (q87, .inl (cI, 40, .inl (fun _ => 0))), (q96, .inl (cI, 1024, .inl (fun _ => 0))), (q104, .inl (cI, 64, .inl (fun _ => 0)))] H _ := V
  refine m_putF X V hi (ws' := [(a, .inr (6, [.ref q8, .ref q16, .ref q24, .ref q32, .int 0, .int 0, .int 256, .int 0, .int 0, .int 0, .int 0, .int 0, .int 0, .ref q47, .ref q55, .int 0, .int 0, .int 0, .int 0, .ref q63, .ref q71, .ref q79, .int 0, .int 0, .int 0, .ref q87, .ref q96, .ref q104, .int 0])), (q8, .inl (cI, 1024, .inl (fun _ => 0))), (q16, .inl (cI, 64, .inl (fun _ => 0))), (q24, .inl (cI, 40, .inl (fun _ => 0))), (q32, .inl (cI, 40, .inl (fun _ => 0))), (q47, .inl (cI, 8, .inl (fun _ => 0))), (q55, .inl (cI, 8, .inl (fun _ => 0))), (q63, .inl (cI, 8, .inl (fun _ => 0))), (q71, .inl (cI, 8, .inl (fun _ => 0))), (q79, .inl (cI, 8, .inl (fun _ => 0))), (q87, .inl (cI, 40, .inl (fun _ => 0))), (q96, .inl (cI, 1024, .inl (fun _ => 0))), (q104, .inl (cI, 64, .inl (fun _ => 0)))]) 6 0 27 rfl gin_6 tyX8_ok nmX8 rfl (by decide) rfl gm_450 rfl rfl rfl (Nat.le_of_ble_eq_true rfl) dX8_init_106 rfl (fun H locs V => ?_)
  exact m_vretN X hr hk V (fun i => [q8, q16, q24, q32, q47, q55, q63, q71, q79, q87, q96, q104].getD i 0) rfl dX8_init_109
