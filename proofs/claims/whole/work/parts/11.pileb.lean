def pX3_swapUpper (f : Nat → Int32) (n : Int32) : (Nat → Int32) := (mLet (pX3_setCell f (n - 1) (pX3_cell f (n - 2))) (fun (u28 : (Nat → Int32)) => (mLet (pX3_setCell u28 (n - 2) (pX3_cell f (n - 1))) (fun (u39 : (Nat → Int32)) => (u39)))))
theorem okX3_swapUpper : mOk yX3_swapUpper cX3_swapUpper 2 none 0 := ⟨gm_311, gm_6, by decide +kernel⟩
set_option maxRecDepth 100000 in
set_option maxHeartbeats 4000000 in
theorem kX3_swapUpper (l : Launch) (D : va_G) (cB cI : ClassId) (a b d : Nat) (f : Nat → Int32) (g : Nat → Int32) (n : Int32) : mM l D cB cI yX3_swapUpper cX3_swapUpper 2 none { frames := 1, cells := 0, slots := 0, locals := 22 } [.ref a] (wP cB cI a b d f g n) none (wP cB cI a b d (pX3_swapUpper f n) g n) := by
  refine m_start (by decide +kernel) (Nat.le_of_ble_eq_true rfl) ?_
  intro p e s m below meth c A ls X hr hk V hl
  have X : mCx p s m _ c cX3_swapUpper 2 RX3 D cB cI := X
  have hx := X.1.1
  have hb := X.1.2.1
  have hl : lv_has ls 2 [(0, .ref a)] := hl
  refine lv_aload_n hx hb dX3_swapUpper_0 rfl (lv_at hl 0 rfl) ?_
  refine lv_aload_n hx hb dX3_swapUpper_1 rfl (lv_at hl 0 rfl) ?_
  refine m_get X V 3 0 2 rfl gin_3 rfl (by decide) rfl gm_69 (v := .int n) rfl dX3_swapUpper_2 ?_
  refine lv_iconst (v := 1) hx hb dX3_swapUpper_5 (by decide) ?_
  refine lv_isub hx hb dX3_swapUpper_6 ?_
  refine m_VA X V (w1 := (wP cB cI a b d f g n)) (rest := []) (st1 := [.int (pX3_cell f (n - 1))]) (kX3_cell l D cB cI a b d f g n (n - 1)) okX3_cell gm_244 gm_654 gm_243 ⟨⟨rfl, rfl⟩, ⟨by decide, by decide⟩, Nat.zero_le _, Nat.zero_le _⟩ rfl rfl (wP_fst _ _ _ _ _ _ _ _) (wP_fst _ _ _ _ _ _ _ _) rfl hl.1 (Nat.le_of_ble_eq_true rfl) dX3_swapUpper_7 rfl rfl (fun H locs V => ?_)
  refine lv_istore_n (lv' := [(1, .int (pX3_cell f (n - 1))), (0, .ref a)]) hx hb dX3_swapUpper_10 rfl hl (by decide) rfl (fun ls hl => ?_)
  refine lv_aload_n hx hb dX3_swapUpper_11 rfl (lv_at hl 1 rfl) ?_
  refine lv_aload_n hx hb dX3_swapUpper_12 rfl (lv_at hl 1 rfl) ?_
  refine m_get X V 3 0 2 rfl gin_3 rfl (by decide) rfl gm_69 (v := .int n) rfl dX3_swapUpper_13 ?_
  refine lv_iconst (v := 1) hx hb dX3_swapUpper_16 (by decide) ?_
  refine lv_isub hx hb dX3_swapUpper_17 ?_
  refine lv_aload_n hx hb dX3_swapUpper_18 rfl (lv_at hl 1 rfl) ?_
  refine lv_aload_n hx hb dX3_swapUpper_19 rfl (lv_at hl 1 rfl) ?_
  refine m_get X V 3 0 2 rfl gin_3 rfl (by decide) rfl gm_69 (v := .int n) rfl dX3_swapUpper_20 ?_
  refine lv_iconst (v := 2) hx hb dX3_swapUpper_23 (by decide) ?_
  refine lv_isub hx hb dX3_swapUpper_24 ?_
  refine m_VA X V (w1 := (wP cB cI a b d f g n)) (rest := [.int (n - 1), .ref a]) (st1 := [.int (pX3_cell f (n - 2)), .int (n - 1), .ref a]) (kX3_cell l D cB cI a b d f g n (n - 2)) okX3_cell gm_244 gm_654 gm_243 ⟨⟨rfl, rfl⟩, ⟨by decide, by decide⟩, Nat.zero_le _, Nat.zero_le _⟩ rfl rfl (wP_fst _ _ _ _ _ _ _ _) (wP_fst _ _ _ _ _ _ _ _) rfl hl.1 (Nat.le_of_ble_eq_true rfl) dX3_swapUpper_25 rfl rfl (fun H locs V => ?_)
  obtain ⟨u28, hu28⟩ : ∃ u, pX3_setCell f (n - 1) (pX3_cell f (n - 2)) = u := ⟨_, rfl⟩
  have hM := kX3_setCell l D cB cI a b d f g n (n - 1) (pX3_cell f (n - 2))
  rw [hu28] at hM
  refine m_VA X V (w1 := (wP cB cI a b d u28 g n)) (rest := []) (st1 := []) hM okX3_setCell gm_154 gm_634 gm_153 ⟨⟨rfl, rfl⟩, ⟨by decide, by decide⟩, Nat.zero_le _, Nat.zero_le _⟩ rfl rfl (wP_fst _ _ _ _ _ _ _ _) (wP_fst _ _ _ _ _ _ _ _) rfl hl.1 (Nat.le_of_ble_eq_true rfl) dX3_swapUpper_28 rfl rfl (fun H locs V => ?_)
  refine lv_aload_n hx hb dX3_swapUpper_31 rfl (lv_at hl 1 rfl) ?_
  refine lv_aload_n hx hb dX3_swapUpper_32 rfl (lv_at hl 1 rfl) ?_
  refine m_get X V 3 0 2 rfl gin_3 rfl (by decide) rfl gm_69 (v := .int n) rfl dX3_swapUpper_33 ?_
  refine lv_iconst (v := 2) hx hb dX3_swapUpper_36 (by decide) ?_
  refine lv_isub hx hb dX3_swapUpper_37 ?_
  refine lv_iload_n hx hb dX3_swapUpper_38 rfl (lv_at hl 0 rfl) ?_
  obtain ⟨u39, hu39⟩ : ∃ u, pX3_setCell u28 (n - 2) (pX3_cell f (n - 1)) = u := ⟨_, rfl⟩
  have hM := kX3_setCell l D cB cI a b d u28 g n (n - 2) (pX3_cell f (n - 1))
  rw [hu39] at hM
  refine m_VA X V (w1 := (wP cB cI a b d u39 g n)) (rest := []) (st1 := []) hM okX3_setCell gm_154 gm_634 gm_153 ⟨⟨rfl, rfl⟩, ⟨by decide, by decide⟩, Nat.zero_le _, Nat.zero_le _⟩ rfl rfl (wP_fst _ _ _ _ _ _ _ _) (wP_fst _ _ _ _ _ _ _ _) rfl hl.1 (Nat.le_of_ble_eq_true rfl) dX3_swapUpper_39 rfl rfl (fun H locs V => ?_)
  have e9 : pX3_swapUpper f n = (u39) := by rw [pX3_swapUpper, hu28, mLet_eq, hu39, mLet_eq]
  exact m_vret X hr hk V rfl (by rw [e9]) dX3_swapUpper_42
