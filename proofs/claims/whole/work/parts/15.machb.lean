def pX2_reckon (g : Nat → Int32) (x1 : Int32) (x2 : Int32) (x3 : Int32) : Int32 × (Nat → Int32) := (if x1 = 19 then (if x3 = 0 then (0, (upd g 5 6)) else ((pX4_result x1 x2 x3), g)) else (if x1 = 20 then (if x3 = 0 then (0, (upd g 5 6)) else ((pX4_result x1 x2 x3), g)) else ((pX4_result x1 x2 x3), g)))
theorem okX2_reckon : mOk yX2_reckon cX2_reckon 4 (some .int) 3 := ⟨gm_257, gm_4, by decide +kernel⟩
set_option maxRecDepth 100000 in
set_option maxHeartbeats 4000000 in
theorem kX2_reckon (l : Launch) (D : va_G) (cB cI : ClassId) (ad : Nat → Nat) (g : Nat → Int32) (mem : Nat → Int32) (loc : Nat → Int32) (pf : Nat → Int32) (pg : Nat → Int32) (pn : Int32) (t : Nat → Int32) (fm : Nat → Int32) (fn : Nat → Int32) (z : Nat → Int32) (key : Nat → Int32) (ld : Nat → Int32) (x1 : Int32) (x2 : Int32) (x3 : Int32) : mM l D cB cI yX2_reckon cX2_reckon 4 (some .int) { frames := 2, cells := 0, slots := 0, locals := 42 } [.ref (ad 0), .int x1, .int x2, .int x3] (wM cB cI ad g mem loc pf pg pn t fm fn z key ld) (some ((pX2_reckon g x1 x2 x3).1)) (wM cB cI ad ((pX2_reckon g x1 x2 x3).2) mem loc pf pg pn t fm fn z key ld) := by
  refine m_start (by decide +kernel) (Nat.le_of_ble_eq_true rfl) ?_
  intro p e s m below meth c A ls X hr hk V hl
  have X : mCx p s m _ c cX2_reckon 4 RX2 D cB cI := X
  have hx := X.1.1
  have hb := X.1.2.1
  have hl : lv_has ls 4 [(0, .ref (ad 0)), (1, .int x1), (2, .int x2), (3, .int x3)] := hl
  refine lv_iload_n hx hb dX2_reckon_0 rfl (lv_at hl 1 rfl) ?_
  refine lv_bipush (v := 19) hx hb dX2_reckon_1 (by decide) ?_
  refine lv_icmp_eq (tgt := 12) hx hb dX2_reckon_3 (by decide) (fun c_3 => ?_) (fun c_3 => ?_)
  · refine lv_iload_n hx hb dX2_reckon_12 rfl (lv_at hl 3 rfl) ?_
    refine lv_if_ne (tgt := 24) hx hb dX2_reckon_13 (by decide) (fun c_13 => ?_) (fun c_13 => ?_)
    · refine lv_iload_n hx hb dX2_reckon_24 rfl (lv_at hl 1 rfl) ?_
      refine lv_iload_n hx hb dX2_reckon_25 rfl (lv_at hl 2 rfl) ?_
      refine lv_iload_n hx hb dX2_reckon_26 rfl (lv_at hl 3 rfl) ?_
      refine m_SN X V (rest := []) (st1 := [.int (pX4_result x1 x2 x3)]) (kX4_result l D cB cI x1 x2 x3) okX4_result gm_258 nm_30 ⟨⟨rfl, rfl⟩, ⟨by decide, by decide⟩, Nat.zero_le _, Nat.zero_le _⟩ rfl hl.1 (Nat.le_of_ble_eq_true rfl) dX2_reckon_27 rfl rfl (fun H locs V => ?_)
      have e9 : pX2_reckon g x1 x2 x3 = ((pX4_result x1 x2 x3), g) := by rw [pX2_reckon, if_pos c_3, if_neg c_13]
      exact m_iret X hr hk V (by rw [e9]) (by rw [e9]) dX2_reckon_30
    · refine lv_aload_n hx hb dX2_reckon_16 rfl (lv_at hl 0 rfl) ?_
      refine lv_bipush (v := 6) hx hb dX2_reckon_17 (by decide) ?_
      refine m_put X V (ws' := (wM cB cI ad (upd g 5 6) mem loc pf pg pn t fm fn z key ld)) 2 0 11 rfl gin_2 tyX2_ok nmX2 rfl (by decide) rfl gm_102 rfl rfl rfl (Nat.le_of_ble_eq_true rfl) dX2_reckon_19 rfl (fun H locs V => ?_)
      refine lv_iconst (v := 0) hx hb dX2_reckon_22 (by decide) ?_
      have e9 : pX2_reckon g x1 x2 x3 = (0, (upd g 5 6)) := by rw [pX2_reckon, if_pos c_3, if_pos c_13]
      exact m_iret X hr hk V (by rw [e9]) (by rw [e9]) dX2_reckon_23
  · refine lv_iload_n hx hb dX2_reckon_6 rfl (lv_at hl 1 rfl) ?_
    refine lv_bipush (v := 20) hx hb dX2_reckon_7 (by decide) ?_
    refine lv_icmp_ne (tgt := 24) hx hb dX2_reckon_9 (by decide) (fun c_9 => ?_) (fun c_9 => ?_)
    · refine lv_iload_n hx hb dX2_reckon_24 rfl (lv_at hl 1 rfl) ?_
      refine lv_iload_n hx hb dX2_reckon_25 rfl (lv_at hl 2 rfl) ?_
      refine lv_iload_n hx hb dX2_reckon_26 rfl (lv_at hl 3 rfl) ?_
      refine m_SN X V (rest := []) (st1 := [.int (pX4_result x1 x2 x3)]) (kX4_result l D cB cI x1 x2 x3) okX4_result gm_258 nm_30 ⟨⟨rfl, rfl⟩, ⟨by decide, by decide⟩, Nat.zero_le _, Nat.zero_le _⟩ rfl hl.1 (Nat.le_of_ble_eq_true rfl) dX2_reckon_27 rfl rfl (fun H locs V => ?_)
      have e9 : pX2_reckon g x1 x2 x3 = ((pX4_result x1 x2 x3), g) := by rw [pX2_reckon, if_neg c_3, if_neg c_9]
      exact m_iret X hr hk V (by rw [e9]) (by rw [e9]) dX2_reckon_30
    · refine lv_iload_n hx hb dX2_reckon_12 rfl (lv_at hl 3 rfl) ?_
      refine lv_if_ne (tgt := 24) hx hb dX2_reckon_13 (by decide) (fun c_13 => ?_) (fun c_13 => ?_)
      · refine lv_iload_n hx hb dX2_reckon_24 rfl (lv_at hl 1 rfl) ?_
        refine lv_iload_n hx hb dX2_reckon_25 rfl (lv_at hl 2 rfl) ?_
        refine lv_iload_n hx hb dX2_reckon_26 rfl (lv_at hl 3 rfl) ?_
        refine m_SN X V (rest := []) (st1 := [.int (pX4_result x1 x2 x3)]) (kX4_result l D cB cI x1 x2 x3) okX4_result gm_258 nm_30 ⟨⟨rfl, rfl⟩, ⟨by decide, by decide⟩, Nat.zero_le _, Nat.zero_le _⟩ rfl hl.1 (Nat.le_of_ble_eq_true rfl) dX2_reckon_27 rfl rfl (fun H locs V => ?_)
        have e9 : pX2_reckon g x1 x2 x3 = ((pX4_result x1 x2 x3), g) := by rw [pX2_reckon, if_neg c_3, if_pos c_9, if_neg c_13]
        exact m_iret X hr hk V (by rw [e9]) (by rw [e9]) dX2_reckon_30
      · refine lv_aload_n hx hb dX2_reckon_16 rfl (lv_at hl 0 rfl) ?_
        refine lv_bipush (v := 6) hx hb dX2_reckon_17 (by decide) ?_
        refine m_put X V (ws' := (wM cB cI ad (upd g 5 6) mem loc pf pg pn t fm fn z key ld)) 2 0 11 rfl gin_2 tyX2_ok nmX2 rfl (by decide) rfl gm_102 rfl rfl rfl (Nat.le_of_ble_eq_true rfl) dX2_reckon_19 rfl (fun H locs V => ?_)
        refine lv_iconst (v := 0) hx hb dX2_reckon_22 (by decide) ?_
        have e9 : pX2_reckon g x1 x2 x3 = (0, (upd g 5 6)) := by rw [pX2_reckon, if_neg c_3, if_pos c_9, if_pos c_13]
        exact m_iret X hr hk V (by rw [e9]) (by rw [e9]) dX2_reckon_23
def pX2_end (g : Nat → Int32) (x1 : Int32) : Int32 × (Nat → Int32) := (0, (upd (upd g 4 x1) 7 1))
theorem okX2_end : mOk yX2_end cX2_end 2 (some .int) 1 := ⟨gm_277, gm_4, by decide +kernel⟩
set_option maxRecDepth 100000 in
set_option maxHeartbeats 4000000 in
theorem kX2_end (l : Launch) (D : va_G) (cB cI : ClassId) (ad : Nat → Nat) (g : Nat → Int32) (mem : Nat → Int32) (loc : Nat → Int32) (pf : Nat → Int32) (pg : Nat → Int32) (pn : Int32) (t : Nat → Int32) (fm : Nat → Int32) (fn : Nat → Int32) (z : Nat → Int32) (key : Nat → Int32) (ld : Nat → Int32) (x1 : Int32) : mM l D cB cI yX2_end cX2_end 2 (some .int) { frames := 0, cells := 0, slots := 0, locals := 0 } [.ref (ad 0), .int x1] (wM cB cI ad g mem loc pf pg pn t fm fn z key ld) (some ((pX2_end g x1).1)) (wM cB cI ad ((pX2_end g x1).2) mem loc pf pg pn t fm fn z key ld) := by
  refine m_start (by decide +kernel) (Nat.le_of_ble_eq_true rfl) ?_
  intro p e s m below meth c A ls X hr hk V hl
  have X : mCx p s m _ c cX2_end 2 RX2 D cB cI := X
  have hx := X.1.1
  have hb := X.1.2.1
  have hl : lv_has ls 2 [(0, .ref (ad 0)), (1, .int x1)] := hl
  refine lv_aload_n hx hb dX2_end_0 rfl (lv_at hl 0 rfl) ?_
  refine lv_iconst (v := 1) hx hb dX2_end_1 (by decide) ?_
  refine m_put X V (ws' := (wM cB cI ad (upd g 7 1) mem loc pf pg pn t fm fn z key ld)) 2 0 13 rfl gin_2 tyX2_ok nmX2 rfl (by decide) rfl gm_104 rfl rfl rfl (Nat.le_of_ble_eq_true rfl) dX2_end_2 rfl (fun H locs V => ?_)
  refine lv_aload_n hx hb dX2_end_5 rfl (lv_at hl 0 rfl) ?_
  refine lv_iload_n hx hb dX2_end_6 rfl (lv_at hl 1 rfl) ?_
  refine m_put X V (ws' := (wM cB cI ad (upd (upd g 4 x1) 7 1) mem loc pf pg pn t fm fn z key ld)) 2 0 10 rfl gin_2 tyX2_ok nmX2 rfl (by decide) rfl gm_101 rfl rfl rfl (Nat.le_of_ble_eq_true rfl) dX2_end_7 rfl (fun H locs V => ?_)
  refine lv_iconst (v := 0) hx hb dX2_end_10 (by decide) ?_
  have e9 : pX2_end g x1 = (0, (upd (upd g 4 x1) 7 1)) := by rw [pX2_end]
  exact m_iret X hr hk V (by rw [e9]) (by rw [e9]) dX2_end_11
def pX2_jump (g : Nat → Int32) (x1 : Int32) : Int32 × (Nat → Int32) := (0, (upd g 2 x1))
theorem okX2_jump : mOk yX2_jump cX2_jump 2 (some .int) 1 := ⟨gm_280, gm_4, by decide +kernel⟩
set_option maxRecDepth 100000 in
set_option maxHeartbeats 4000000 in
theorem kX2_jump (l : Launch) (D : va_G) (cB cI : ClassId) (ad : Nat → Nat) (g : Nat → Int32) (mem : Nat → Int32) (loc : Nat → Int32) (pf : Nat → Int32) (pg : Nat → Int32) (pn : Int32) (t : Nat → Int32) (fm : Nat → Int32) (fn : Nat → Int32) (z : Nat → Int32) (key : Nat → Int32) (ld : Nat → Int32) (x1 : Int32) : mM l D cB cI yX2_jump cX2_jump 2 (some .int) { frames := 0, cells := 0, slots := 0, locals := 0 } [.ref (ad 0), .int x1] (wM cB cI ad g mem loc pf pg pn t fm fn z key ld) (some ((pX2_jump g x1).1)) (wM cB cI ad ((pX2_jump g x1).2) mem loc pf pg pn t fm fn z key ld) := by
  refine m_start (by decide +kernel) (Nat.le_of_ble_eq_true rfl) ?_
  intro p e s m below meth c A ls X hr hk V hl
  have X : mCx p s m _ c cX2_jump 2 RX2 D cB cI := X
  have hx := X.1.1
  have hb := X.1.2.1
  have hl : lv_has ls 2 [(0, .ref (ad 0)), (1, .int x1)] := hl
  refine lv_aload_n hx hb dX2_jump_0 rfl (lv_at hl 0 rfl) ?_
  refine lv_iload_n hx hb dX2_jump_1 rfl (lv_at hl 1 rfl) ?_
  refine m_put X V (ws' := (wM cB cI ad (upd g 2 x1) mem loc pf pg pn t fm fn z key ld)) 2 0 8 rfl gin_2 tyX2_ok nmX2 rfl (by decide) rfl gm_99 rfl rfl rfl (Nat.le_of_ble_eq_true rfl) dX2_jump_2 rfl (fun H locs V => ?_)
  refine lv_iconst (v := 0) hx hb dX2_jump_5 (by decide) ?_
  have e9 : pX2_jump g x1 = (0, (upd g 2 x1)) := by rw [pX2_jump]
  exact m_iret X hr hk V (by rw [e9]) (by rw [e9]) dX2_jump_6
def pX2_branchIf (g : Nat → Int32) (t : Nat → Int32) (ld : Nat → Int32) (x1 : Int32) : Int32 × (Nat → Int32) := (if x1 = 0 then (0, g) else (if (pX2_load ld ((t 1) - 1)) = 0 then (mLet (pX2_end g (pX2_load ld ((t 1) - 1))) (fun (u31 : Int32 × (Nat → Int32)) => (u31.1, u31.2))) else (if (pX2_load ld ((t 1) - 1)) = 1 then (mLet (pX2_end g (pX2_load ld ((t 1) - 1))) (fun (u31 : Int32 × (Nat → Int32)) => (u31.1, u31.2))) else (mLet (pX2_jump g (((g 2) + (pX2_load ld ((t 1) - 1))) - 2)) (fun (u44 : Int32 × (Nat → Int32)) => (u44.1, u44.2))))))
theorem okX2_branchIf : mOk yX2_branchIf cX2_branchIf 3 (some .int) 1 := ⟨gm_274, gm_4, by decide +kernel⟩
set_option maxRecDepth 100000 in
set_option maxHeartbeats 4000000 in
theorem kX2_branchIf (l : Launch) (D : va_G) (cB cI : ClassId) (ad : Nat → Nat) (g : Nat → Int32) (mem : Nat → Int32) (loc : Nat → Int32) (pf : Nat → Int32) (pg : Nat → Int32) (pn : Int32) (t : Nat → Int32) (fm : Nat → Int32) (fn : Nat → Int32) (z : Nat → Int32) (key : Nat → Int32) (ld : Nat → Int32) (x1 : Int32) : mM l D cB cI yX2_branchIf cX2_branchIf 3 (some .int) { frames := 1, cells := 0, slots := 0, locals := 21 } [.ref (ad 0), .int x1] (wM cB cI ad g mem loc pf pg pn t fm fn z key ld) (some ((pX2_branchIf g t ld x1).1)) (wM cB cI ad ((pX2_branchIf g t ld x1).2) mem loc pf pg pn t fm fn z key ld) := by
  refine m_start (by decide +kernel) (Nat.le_of_ble_eq_true rfl) ?_
  intro p e s m below meth c A ls X hr hk V hl
  have X : mCx p s m _ c cX2_branchIf 3 RX2 D cB cI := X
  have hx := X.1.1
  have hb := X.1.2.1
  have hl : lv_has ls 3 [(0, .ref (ad 0)), (1, .int x1)] := hl
  refine lv_aload_n hx hb dX2_branchIf_0 rfl (lv_at hl 0 rfl) ?_
  refine lv_aload_n hx hb dX2_branchIf_1 rfl (lv_at hl 0 rfl) ?_
  refine m_get X V 2 0 3 rfl gin_2 rfl (by decide) rfl gm_94 (v := .ref (ad 8)) rfl dX2_branchIf_2 ?_
  refine m_getN X V 1 8 3 rfl gin_1 rfl (by decide) rfl nf_5 (v := .int (t 1)) rfl dX2_branchIf_5 ?_
  refine lv_iconst (v := 1) hx hb dX2_branchIf_8 (by decide) ?_
  refine lv_isub hx hb dX2_branchIf_9 ?_
  refine m_VA X V (w1 := (wM cB cI ad g mem loc pf pg pn t fm fn z key ld)) (rest := []) (st1 := [.int (pX2_load ld ((t 1) - 1))]) (kX2_load l D cB cI ad g mem loc pf pg pn t fm fn z key ld ((t 1) - 1)) okX2_load gm_253 gm_657 gm_252 ⟨⟨rfl, rfl⟩, ⟨by decide, by decide⟩, Nat.zero_le _, Nat.zero_le _⟩ rfl rfl (wM_fst _ _ _ _ _ _ _ _ _ _ _ _ _ _ _) (wM_fst _ _ _ _ _ _ _ _ _ _ _ _ _ _ _) rfl hl.1 (Nat.le_of_ble_eq_true rfl) dX2_branchIf_10 rfl rfl (fun H locs V => ?_)
  refine lv_istore_n (lv' := [(2, .int (pX2_load ld ((t 1) - 1))), (0, .ref (ad 0)), (1, .int x1)]) hx hb dX2_branchIf_13 rfl hl (by decide) rfl (fun ls hl => ?_)
  refine lv_iload_n hx hb dX2_branchIf_14 rfl (lv_at hl 2 rfl) ?_
  refine lv_if_ne (tgt := 20) hx hb dX2_branchIf_15 (by decide) (fun c_15 => ?_) (fun c_15 => ?_)
  · refine lv_iload_n hx hb dX2_branchIf_20 rfl (lv_at hl 0 rfl) ?_
    refine lv_if_eq (tgt := 29) hx hb dX2_branchIf_21 (by decide) (fun c_21 => ?_) (fun c_21 => ?_)
    · refine lv_aload_n hx hb dX2_branchIf_29 rfl (lv_at hl 1 rfl) ?_
      refine lv_iload_n hx hb dX2_branchIf_30 rfl (lv_at hl 0 rfl) ?_
      obtain ⟨u31, hu31⟩ : ∃ u, pX2_end g (pX2_load ld ((t 1) - 1)) = u := ⟨_, rfl⟩
      have hM := kX2_end l D cB cI ad g mem loc pf pg pn t fm fn z key ld (pX2_load ld ((t 1) - 1))
      rw [hu31] at hM
      refine m_VA X V (w1 := (wM cB cI ad u31.2 mem loc pf pg pn t fm fn z key ld)) (rest := []) (st1 := [.int u31.1]) hM okX2_end gm_276 gm_660 gm_275 ⟨⟨rfl, rfl⟩, ⟨by decide, by decide⟩, Nat.zero_le _, Nat.zero_le _⟩ rfl rfl (wM_fst _ _ _ _ _ _ _ _ _ _ _ _ _ _ _) (wM_fst _ _ _ _ _ _ _ _ _ _ _ _ _ _ _) rfl hl.1 (Nat.le_of_ble_eq_true rfl) dX2_branchIf_31 rfl rfl (fun H locs V => ?_)
      have e9 : pX2_branchIf g t ld x1 = (u31.1, u31.2) := by rw [pX2_branchIf, if_neg c_15, if_pos c_21, hu31, mLet_eq]
      exact m_iret X hr hk V (by rw [e9]) (by rw [e9]) dX2_branchIf_34
    · refine lv_iload_n hx hb dX2_branchIf_24 rfl (lv_at hl 0 rfl) ?_
      refine lv_iconst (v := 1) hx hb dX2_branchIf_25 (by decide) ?_
      refine lv_icmp_ne (tgt := 35) hx hb dX2_branchIf_26 (by decide) (fun c_26 => ?_) (fun c_26 => ?_)
      · refine lv_aload_n hx hb dX2_branchIf_35 rfl (lv_at hl 1 rfl) ?_
        refine lv_aload_n hx hb dX2_branchIf_36 rfl (lv_at hl 1 rfl) ?_
        refine m_get X V 2 0 8 rfl gin_2 rfl (by decide) rfl gm_99 (v := .int (g 2)) rfl dX2_branchIf_37 ?_
        refine lv_iload_n hx hb dX2_branchIf_40 rfl (lv_at hl 0 rfl) ?_
        refine lv_iadd hx hb dX2_branchIf_41 ?_
        refine lv_iconst (v := 2) hx hb dX2_branchIf_42 (by decide) ?_
        refine lv_isub hx hb dX2_branchIf_43 ?_
        obtain ⟨u44, hu44⟩ : ∃ u, pX2_jump g (((g 2) + (pX2_load ld ((t 1) - 1))) - 2) = u := ⟨_, rfl⟩
        have hM := kX2_jump l D cB cI ad g mem loc pf pg pn t fm fn z key ld (((g 2) + (pX2_load ld ((t 1) - 1))) - 2)
        rw [hu44] at hM
        refine m_VA X V (w1 := (wM cB cI ad u44.2 mem loc pf pg pn t fm fn z key ld)) (rest := []) (st1 := [.int u44.1]) hM okX2_jump gm_279 gm_661 gm_278 ⟨⟨rfl, rfl⟩, ⟨by decide, by decide⟩, Nat.zero_le _, Nat.zero_le _⟩ rfl rfl (wM_fst _ _ _ _ _ _ _ _ _ _ _ _ _ _ _) (wM_fst _ _ _ _ _ _ _ _ _ _ _ _ _ _ _) rfl hl.1 (Nat.le_of_ble_eq_true rfl) dX2_branchIf_44 rfl rfl (fun H locs V => ?_)
        have e9 : pX2_branchIf g t ld x1 = (u44.1, u44.2) := by rw [pX2_branchIf, if_neg c_15, if_neg c_21, if_neg c_26, hu44, mLet_eq]
        exact m_iret X hr hk V (by rw [e9]) (by rw [e9]) dX2_branchIf_47
      · refine lv_aload_n hx hb dX2_branchIf_29 rfl (lv_at hl 1 rfl) ?_
        refine lv_iload_n hx hb dX2_branchIf_30 rfl (lv_at hl 0 rfl) ?_
        obtain ⟨u31, hu31⟩ : ∃ u, pX2_end g (pX2_load ld ((t 1) - 1)) = u := ⟨_, rfl⟩
        have hM := kX2_end l D cB cI ad g mem loc pf pg pn t fm fn z key ld (pX2_load ld ((t 1) - 1))
        rw [hu31] at hM
        refine m_VA X V (w1 := (wM cB cI ad u31.2 mem loc pf pg pn t fm fn z key ld)) (rest := []) (st1 := [.int u31.1]) hM okX2_end gm_276 gm_660 gm_275 ⟨⟨rfl, rfl⟩, ⟨by decide, by decide⟩, Nat.zero_le _, Nat.zero_le _⟩ rfl rfl (wM_fst _ _ _ _ _ _ _ _ _ _ _ _ _ _ _) (wM_fst _ _ _ _ _ _ _ _ _ _ _ _ _ _ _) rfl hl.1 (Nat.le_of_ble_eq_true rfl) dX2_branchIf_31 rfl rfl (fun H locs V => ?_)
        have e9 : pX2_branchIf g t ld x1 = (u31.1, u31.2) := by rw [pX2_branchIf, if_neg c_15, if_neg c_21, if_pos c_26, hu31, mLet_eq]
        exact m_iret X hr hk V (by rw [e9]) (by rw [e9]) dX2_branchIf_34
  · refine lv_iconst (v := 0) hx hb dX2_branchIf_18 (by decide) ?_
    have e9 : pX2_branchIf g t ld x1 = (0, g) := by rw [pX2_branchIf, if_pos c_15]
    exact m_iret X hr hk V (by rw [e9]) (by rw [e9]) dX2_branchIf_19
def pX2_itemPlace (x0 : Int32) (x1 : Int32) (x2 : Int32) : Int32 := (if x0 = 0 then ((x1 + (4 * x2))) else (if x0 = 1 then ((x1 + (2 * x2))) else (if x0 = 2 then ((x1 + x2)) else ((x1 + (x2 >>> (3 &&& 31)))))))
theorem okX2_itemPlace : mOk yX2_itemPlace cX2_itemPlace 3 (some .int) 3 := ⟨gm_286, gm_4, by decide +kernel⟩
set_option maxRecDepth 100000 in
set_option maxHeartbeats 4000000 in
theorem kX2_itemPlace (l : Launch) (D : va_G) (cB cI : ClassId) (x0 : Int32) (x1 : Int32) (x2 : Int32) : mM l D cB cI yX2_itemPlace cX2_itemPlace 3 (some .int) { frames := 0, cells := 0, slots := 0, locals := 0 } [.int x0, .int x1, .int x2] [] (some (pX2_itemPlace x0 x1 x2)) [] := by
  refine m_start (by decide +kernel) (Nat.le_of_ble_eq_true rfl) ?_
  intro p e s m below meth c A ls X hr hk V hl
  have X : mCx p s m _ c cX2_itemPlace 3 RX2 D cB cI := X
  have hx := X.1.1
  have hb := X.1.2.1
  have hl : lv_has ls 3 [(0, .int x0), (1, .int x1), (2, .int x2)] := hl
  refine lv_iload_n hx hb dX2_itemPlace_0 rfl (lv_at hl 0 rfl) ?_
  by_cases w_1_0 : x0 = 0
  · refine lv_tableIn (off := 27) (tgt := 28) hx hb dX2_itemPlace_1 (by rw [w_1_0]; decide) (by rw [w_1_0]; decide) (by rw [w_1_0]; rfl) (by decide) ?_
    refine lv_iload_n hx hb dX2_itemPlace_28 rfl (lv_at hl 1 rfl) ?_
    refine lv_iconst (v := 4) hx hb dX2_itemPlace_29 (by decide) ?_
    refine lv_iload_n hx hb dX2_itemPlace_30 rfl (lv_at hl 2 rfl) ?_
    refine lv_imul hx hb dX2_itemPlace_31 ?_
    refine lv_iadd hx hb dX2_itemPlace_32 ?_
    have e9 : pX2_itemPlace x0 x1 x2 = ((x1 + (4 * x2))) := by rw [pX2_itemPlace, if_pos w_1_0]
    exact m_iret X hr hk V (by rw [e9]) rfl dX2_itemPlace_33
  by_cases w_1_1 : x0 = 1
  · refine lv_tableIn (off := 33) (tgt := 34) hx hb dX2_itemPlace_1 (by rw [w_1_1]; decide) (by rw [w_1_1]; decide) (by rw [w_1_1]; rfl) (by decide) ?_
    refine lv_iload_n hx hb dX2_itemPlace_34 rfl (lv_at hl 1 rfl) ?_
    refine lv_iconst (v := 2) hx hb dX2_itemPlace_35 (by decide) ?_
    refine lv_iload_n hx hb dX2_itemPlace_36 rfl (lv_at hl 2 rfl) ?_
    refine lv_imul hx hb dX2_itemPlace_37 ?_
    refine lv_iadd hx hb dX2_itemPlace_38 ?_
    have e9 : pX2_itemPlace x0 x1 x2 = ((x1 + (2 * x2))) := by rw [pX2_itemPlace, if_neg w_1_0, if_pos w_1_1]
    exact m_iret X hr hk V (by rw [e9]) rfl dX2_itemPlace_39
  by_cases w_1_2 : x0 = 2
  · refine lv_tableIn (off := 39) (tgt := 40) hx hb dX2_itemPlace_1 (by rw [w_1_2]; decide) (by rw [w_1_2]; decide) (by rw [w_1_2]; rfl) (by decide) ?_
    refine lv_iload_n hx hb dX2_itemPlace_40 rfl (lv_at hl 1 rfl) ?_
    refine lv_iload_n hx hb dX2_itemPlace_41 rfl (lv_at hl 2 rfl) ?_
    refine lv_iadd hx hb dX2_itemPlace_42 ?_
    have e9 : pX2_itemPlace x0 x1 x2 = ((x1 + x2)) := by rw [pX2_itemPlace, if_neg w_1_0, if_neg w_1_1, if_pos w_1_2]
    exact m_iret X hr hk V (by rw [e9]) rfl dX2_itemPlace_43
  have o_0 := lv_neT w_1_0 (a := 0) rfl
  have o_1 := lv_neT w_1_1 (a := 1) rfl
  have o_2 := lv_neT w_1_2 (a := 2) rfl
  refine m_tabD (x := x0) (tgt := 44) hx hb dX2_itemPlace_1 (by decide) (by decide) (fun off h1 h2 h3 => by omega) ?_
  refine lv_iload_n hx hb dX2_itemPlace_44 rfl (lv_at hl 1 rfl) ?_
  refine lv_iload_n hx hb dX2_itemPlace_45 rfl (lv_at hl 2 rfl) ?_
  refine lv_iconst (v := 3) hx hb dX2_itemPlace_46 (by decide) ?_
  refine lv_ishr hx hb dX2_itemPlace_47 ?_
  refine lv_iadd hx hb dX2_itemPlace_48 ?_
  have e9 : pX2_itemPlace x0 x1 x2 = ((x1 + (x2 >>> (3 &&& 31)))) := by rw [pX2_itemPlace, if_neg w_1_0, if_neg w_1_1, if_neg w_1_2]
  exact m_iret X hr hk V (by rw [e9]) rfl dX2_itemPlace_49
def pX2_itemWidth (x0 : Int32) : Int32 := (if x0 = 0 then (4) else (if x0 = 1 then (2) else (1)))
theorem okX2_itemWidth : mOk yX2_itemWidth cX2_itemWidth 1 (some .int) 1 := ⟨gm_289, gm_4, by decide +kernel⟩
set_option maxRecDepth 100000 in
set_option maxHeartbeats 4000000 in
theorem kX2_itemWidth (l : Launch) (D : va_G) (cB cI : ClassId) (x0 : Int32) : mM l D cB cI yX2_itemWidth cX2_itemWidth 1 (some .int) { frames := 0, cells := 0, slots := 0, locals := 0 } [.int x0] [] (some (pX2_itemWidth x0)) [] := by
  refine m_start (by decide +kernel) (Nat.le_of_ble_eq_true rfl) ?_
  intro p e s m below meth c A ls X hr hk V hl
  have X : mCx p s m _ c cX2_itemWidth 1 RX2 D cB cI := X
  have hx := X.1.1
  have hb := X.1.2.1
  have hl : lv_has ls 1 [(0, .int x0)] := hl
  refine lv_iload_n hx hb dX2_itemWidth_0 rfl (lv_at hl 0 rfl) ?_
  by_cases w_1_0 : x0 = 0
  · refine lv_lookup (off := 27) (tgt := 28) hx hb dX2_itemWidth_1 (by decide +kernel) (by rw [w_1_0]; rfl) (by decide) ?_
    refine lv_iconst (v := 4) hx hb dX2_itemWidth_28 (by decide) ?_
    have e9 : pX2_itemWidth x0 = (4) := by rw [pX2_itemWidth, if_pos w_1_0]
    exact m_iret X hr hk V (by rw [e9]) rfl dX2_itemWidth_29
  by_cases w_1_1 : x0 = 1
  · refine lv_lookup (off := 29) (tgt := 30) hx hb dX2_itemWidth_1 (by decide +kernel) (by rw [w_1_1]; rfl) (by decide) ?_
    refine lv_iconst (v := 2) hx hb dX2_itemWidth_30 (by decide) ?_
    have e9 : pX2_itemWidth x0 = (2) := by rw [pX2_itemWidth, if_neg w_1_0, if_pos w_1_1]
    exact m_iret X hr hk V (by rw [e9]) rfl dX2_itemWidth_31
  refine lv_lookup (off := 31) (tgt := 32) hx hb dX2_itemWidth_1 (by decide +kernel) ((lv_osw w_1_0 rfl).trans ((lv_osw w_1_1 rfl).trans (rfl))) (by decide) ?_
  refine lv_iconst (v := 1) hx hb dX2_itemWidth_32 (by decide) ?_
  have e9 : pX2_itemWidth x0 = (1) := by rw [pX2_itemWidth, if_neg w_1_0, if_neg w_1_1]
  exact m_iret X hr hk V (by rw [e9]) rfl dX2_itemWidth_33
def pX2_withBit (x0 : Int32) (x1 : Int32) (x2 : Int32) : Int32 := (if x2 = 0 then ((x0 &&& (((1 : Int32) <<< (x1 &&& 31)) ^^^ (-1)))) else (((x0 &&& (((1 : Int32) <<< (x1 &&& 31)) ^^^ (-1))) ||| ((1 : Int32) <<< (x1 &&& 31)))))
theorem okX2_withBit : mOk yX2_withBit cX2_withBit 4 (some .int) 3 := ⟨gm_292, gm_4, by decide +kernel⟩
set_option maxRecDepth 100000 in
set_option maxHeartbeats 4000000 in
theorem kX2_withBit (l : Launch) (D : va_G) (cB cI : ClassId) (x0 : Int32) (x1 : Int32) (x2 : Int32) : mM l D cB cI yX2_withBit cX2_withBit 4 (some .int) { frames := 0, cells := 0, slots := 0, locals := 0 } [.int x0, .int x1, .int x2] [] (some (pX2_withBit x0 x1 x2)) [] := by
  refine m_start (by decide +kernel) (Nat.le_of_ble_eq_true rfl) ?_
  intro p e s m below meth c A ls X hr hk V hl
  have X : mCx p s m _ c cX2_withBit 4 RX2 D cB cI := X
  have hx := X.1.1
  have hb := X.1.2.1
  have hl : lv_has ls 4 [(0, .int x0), (1, .int x1), (2, .int x2)] := hl
  refine lv_iload_n hx hb dX2_withBit_0 rfl (lv_at hl 0 rfl) ?_
  refine lv_iconst (v := 1) hx hb dX2_withBit_1 (by decide) ?_
  refine lv_iload_n hx hb dX2_withBit_2 rfl (lv_at hl 1 rfl) ?_
  refine lv_ishl hx hb dX2_withBit_3 ?_
  refine lv_iconst (v := (-1)) hx hb dX2_withBit_4 (by decide) ?_
  refine lv_ixor hx hb dX2_withBit_5 ?_
  refine lv_iand hx hb dX2_withBit_6 ?_
  refine lv_istore_n (lv' := [(3, .int (x0 &&& (((1 : Int32) <<< (x1 &&& 31)) ^^^ (-1)))), (0, .int x0), (1, .int x1), (2, .int x2)]) hx hb dX2_withBit_7 rfl hl (by decide) rfl (fun ls hl => ?_)
  refine lv_iload_n hx hb dX2_withBit_8 rfl (lv_at hl 3 rfl) ?_
  refine lv_if_eq (tgt := 20) hx hb dX2_withBit_9 (by decide) (fun c_9 => ?_) (fun c_9 => ?_)
  · refine lv_iload_n hx hb dX2_withBit_20 rfl (lv_at hl 0 rfl) ?_
    have e9 : pX2_withBit x0 x1 x2 = ((x0 &&& (((1 : Int32) <<< (x1 &&& 31)) ^^^ (-1)))) := by rw [pX2_withBit, if_pos c_9]
    exact m_iret X hr hk V (by rw [e9]) rfl dX2_withBit_21
  · refine lv_iload_n hx hb dX2_withBit_12 rfl (lv_at hl 0 rfl) ?_
    refine lv_iconst (v := 1) hx hb dX2_withBit_13 (by decide) ?_
    refine lv_iload_n hx hb dX2_withBit_14 rfl (lv_at hl 2 rfl) ?_
    refine lv_ishl hx hb dX2_withBit_15 ?_
    refine lv_ior hx hb dX2_withBit_16 ?_
    refine lv_goto (tgt := 21) hx hb dX2_withBit_17 (by decide) ?_
    have e9 : pX2_withBit x0 x1 x2 = (((x0 &&& (((1 : Int32) <<< (x1 &&& 31)) ^^^ (-1))) ||| ((1 : Int32) <<< (x1 &&& 31)))) := by rw [pX2_withBit, if_neg c_9]
    exact m_iret X hr hk V (by rw [e9]) rfl dX2_withBit_21
def pX2_array (g : Nat → Int32) (mem : Nat → Int32) (ld : Nat → Int32) (x1 : Int32) (x2 : Int32) (x3 : Int32) : Int32 × (Nat → Int32) × (Nat → Int32) := (if 76 ≤ x1 then (if (x1 &&& 3) = 3 then (mLet (pX0_byteAt mem 1024 (pX2_itemPlace (x1 &&& 3) x2 x3)) (fun (u82 : Int32) => (if (pX2_load ld 2) = 0 then (mLet (pX2_storeMemory g mem (pX2_itemPlace (x1 &&& 3) x2 x3) (pX2_itemWidth (x1 &&& 3)) (pX2_withBit u82 (x3 &&& 7) 0)) (fun (u107 : (Nat → Int32) × (Nat → Int32)) => (0, u107.1, u107.2))) else (mLet (pX2_storeMemory g mem (pX2_itemPlace (x1 &&& 3) x2 x3) (pX2_itemWidth (x1 &&& 3)) (pX2_withBit u82 (x3 &&& 7) 1)) (fun (u107 : (Nat → Int32) × (Nat → Int32)) => (0, u107.1, u107.2)))))) else (mLet (pX2_storeMemory g mem (pX2_itemPlace (x1 &&& 3) x2 x3) (pX2_itemWidth (x1 &&& 3)) (pX2_load ld 2)) (fun (u107 : (Nat → Int32) × (Nat → Int32)) => (0, u107.1, u107.2)))) else (mLet (pX2_fetch g mem (pX2_itemPlace (x1 &&& 3) x2 x3) (pX2_itemWidth (x1 &&& 3))) (fun (u32 : Int32 × (Nat → Int32)) => (if (x1 &&& 3) = 3 then (((u32.1 >>> ((x3 &&& 7) &&& 31)) &&& 1), u32.2, mem) else (u32.1, u32.2, mem)))))
theorem okX2_array : mOk yX2_array cX2_array 8 (some .int) 3 := ⟨gm_283, gm_4, by decide +kernel⟩
set_option maxRecDepth 100000 in
set_option maxHeartbeats 4000000 in
theorem kX2_array (l : Launch) (D : va_G) (cB cI : ClassId) (ad : Nat → Nat) (g : Nat → Int32) (mem : Nat → Int32) (loc : Nat → Int32) (pf : Nat → Int32) (pg : Nat → Int32) (pn : Int32) (t : Nat → Int32) (fm : Nat → Int32) (fn : Nat → Int32) (z : Nat → Int32) (key : Nat → Int32) (ld : Nat → Int32) (x1 : Int32) (x2 : Int32) (x3 : Int32) : mM l D cB cI yX2_array cX2_array 8 (some .int) { frames := 3, cells := 0, slots := 0, locals := 67 } [.ref (ad 0), .int x1, .int x2, .int x3] (wM cB cI ad g mem loc pf pg pn t fm fn z key ld) (some ((pX2_array g mem ld x1 x2 x3).1)) (wM cB cI ad ((pX2_array g mem ld x1 x2 x3).2.1) ((pX2_array g mem ld x1 x2 x3).2.2) loc pf pg pn t fm fn z key ld) := by
  refine m_start (by decide +kernel) (Nat.le_of_ble_eq_true rfl) ?_
  intro p e s m below meth c A ls X hr hk V hl
  have X : mCx p s m _ c cX2_array 8 RX2 D cB cI := X
  have hx := X.1.1
  have hb := X.1.2.1
  have hl : lv_has ls 8 [(0, .ref (ad 0)), (1, .int x1), (2, .int x2), (3, .int x3)] := hl
  refine lv_iload_n hx hb dX2_array_0 rfl (lv_at hl 1 rfl) ?_
  refine lv_iconst (v := 3) hx hb dX2_array_1 (by decide) ?_
  refine lv_iand hx hb dX2_array_2 ?_
  refine lv_istore (lv' := [(4, .int (x1 &&& 3)), (0, .ref (ad 0)), (1, .int x1), (2, .int x2), (3, .int x3)]) hx hb dX2_array_3 hl (by decide) rfl (fun ls hl => ?_)
  refine lv_iload hx hb dX2_array_5 (lv_at hl 0 rfl) ?_
  refine lv_iload_n hx hb dX2_array_7 rfl (lv_at hl 3 rfl) ?_
  refine lv_iload_n hx hb dX2_array_8 rfl (lv_at hl 4 rfl) ?_
  refine m_S X V (rest := []) (st1 := [.int (pX2_itemPlace (x1 &&& 3) x2 x3)]) (kX2_itemPlace l D cB cI (x1 &&& 3) x2 x3) okX2_itemPlace gm_285 gm_284 ⟨⟨rfl, rfl⟩, ⟨by decide, by decide⟩, Nat.zero_le _, Nat.zero_le _⟩ rfl hl.1 (Nat.le_of_ble_eq_true rfl) dX2_array_9 rfl rfl (fun H locs V => ?_)
  refine lv_istore (lv' := [(5, .int (pX2_itemPlace (x1 &&& 3) x2 x3)), (4, .int (x1 &&& 3)), (0, .ref (ad 0)), (1, .int x1), (2, .int x2), (3, .int x3)]) hx hb dX2_array_12 hl (by decide) rfl (fun ls hl => ?_)
  refine lv_iload hx hb dX2_array_14 (lv_at hl 1 rfl) ?_
  refine m_S X V (rest := []) (st1 := [.int (pX2_itemWidth (x1 &&& 3))]) (kX2_itemWidth l D cB cI (x1 &&& 3)) okX2_itemWidth gm_288 gm_287 ⟨⟨rfl, rfl⟩, ⟨by decide, by decide⟩, Nat.zero_le _, Nat.zero_le _⟩ rfl hl.1 (Nat.le_of_ble_eq_true rfl) dX2_array_16 rfl rfl (fun H locs V => ?_)
  refine lv_istore (lv' := [(6, .int (pX2_itemWidth (x1 &&& 3))), (5, .int (pX2_itemPlace (x1 &&& 3) x2 x3)), (4, .int (x1 &&& 3)), (0, .ref (ad 0)), (1, .int x1), (2, .int x2), (3, .int x3)]) hx hb dX2_array_19 hl (by decide) rfl (fun ls hl => ?_)
  refine lv_iload_n hx hb dX2_array_21 rfl (lv_at hl 4 rfl) ?_
  refine lv_bipush (v := 76) hx hb dX2_array_22 (by decide) ?_
  refine lv_icmp_ge (tgt := 58) hx hb dX2_array_24 (by decide) (fun c_24 => ?_) (fun c_24 => ?_)
  · refine lv_aload_n hx hb dX2_array_58 rfl (lv_at hl 3 rfl) ?_
    refine lv_iconst (v := 2) hx hb dX2_array_59 (by decide) ?_
    refine m_VA X V (w1 := (wM cB cI ad g mem loc pf pg pn t fm fn z key ld)) (rest := []) (st1 := [.int (pX2_load ld 2)]) (kX2_load l D cB cI ad g mem loc pf pg pn t fm fn z key ld 2) okX2_load gm_253 gm_657 gm_252 ⟨⟨rfl, rfl⟩, ⟨by decide, by decide⟩, Nat.zero_le _, Nat.zero_le _⟩ rfl rfl (wM_fst _ _ _ _ _ _ _ _ _ _ _ _ _ _ _) (wM_fst _ _ _ _ _ _ _ _ _ _ _ _ _ _ _) rfl hl.1 (Nat.le_of_ble_eq_true rfl) dX2_array_60 rfl rfl (fun H locs V => ?_)
    refine lv_istore (lv' := [(7, .int (pX2_load ld 2)), (6, .int (pX2_itemWidth (x1 &&& 3))), (5, .int (pX2_itemPlace (x1 &&& 3) x2 x3)), (4, .int (x1 &&& 3)), (0, .ref (ad 0)), (1, .int x1), (2, .int x2), (3, .int x3)]) hx hb dX2_array_63 hl (by decide) rfl (fun ls hl => ?_)
    refine lv_aload_n hx hb dX2_array_65 rfl (lv_at hl 4 rfl) ?_
    refine lv_iload hx hb dX2_array_66 (lv_at hl 2 rfl) ?_
    refine lv_iload hx hb dX2_array_68 (lv_at hl 1 rfl) ?_
    refine lv_iload hx hb dX2_array_70 (lv_at hl 3 rfl) ?_
    refine lv_iconst (v := 3) hx hb dX2_array_72 (by decide) ?_
    refine lv_icmp_ne (tgt := 105) hx hb dX2_array_73 (by decide) (fun c_73 => ?_) (fun c_73 => ?_)
    · refine lv_iload hx hb dX2_array_105 (lv_at hl 0 rfl) ?_
      obtain ⟨u107, hu107⟩ : ∃ u, pX2_storeMemory g mem (pX2_itemPlace (x1 &&& 3) x2 x3) (pX2_itemWidth (x1 &&& 3)) (pX2_load ld 2) = u := ⟨_, rfl⟩
      have hM := kX2_storeMemory l D cB cI ad g mem loc pf pg pn t fm fn z key ld (pX2_itemPlace (x1 &&& 3) x2 x3) (pX2_itemWidth (x1 &&& 3)) (pX2_load ld 2)
      rw [hu107] at hM
      refine m_VA X V (w1 := (wM cB cI ad u107.1 u107.2 loc pf pg pn t fm fn z key ld)) (rest := []) (st1 := []) hM okX2_storeMemory gm_294 gm_663 gm_293 ⟨⟨rfl, rfl⟩, ⟨by decide, by decide⟩, Nat.zero_le _, Nat.zero_le _⟩ rfl rfl (wM_fst _ _ _ _ _ _ _ _ _ _ _ _ _ _ _) (wM_fst _ _ _ _ _ _ _ _ _ _ _ _ _ _ _) rfl hl.1 (Nat.le_of_ble_eq_true rfl) dX2_array_107 rfl rfl (fun H locs V => ?_)
      refine lv_iconst (v := 0) hx hb dX2_array_110 (by decide) ?_
      have e9 : pX2_array g mem ld x1 x2 x3 = (0, u107.1, u107.2) := by rw [pX2_array, if_pos c_24, if_neg c_73, hu107, mLet_eq]
      exact m_iret X hr hk V (by rw [e9]) (by rw [e9]) dX2_array_111
    · refine lv_aload_n hx hb dX2_array_76 rfl (lv_at hl 4 rfl) ?_
      refine m_get X V 2 0 0 rfl gin_2 rfl (by decide) rfl gm_91 (v := .ref (ad 1)) rfl dX2_array_77 ?_
      refine lv_iload hx hb dX2_array_80 (lv_at hl 2 rfl) ?_
      obtain ⟨u82, hu82⟩ : ∃ u, pX0_byteAt mem 1024 (pX2_itemPlace (x1 &&& 3) x2 x3) = u := ⟨_, rfl⟩
      have hM := kX0_byteAt l D cB cI (ad 1) (ad 2) 1024 mem (pX2_itemPlace (x1 &&& 3) x2 x3) (by decide)
      rw [hu82] at hM
      refine m_VN X V (ws' := (wM cB cI ad g mem loc pf pg pn t fm fn z key ld)) (rest := [.int (pX2_itemWidth (x1 &&& 3)), .int (pX2_itemPlace (x1 &&& 3) x2 x3), .ref (ad 0)]) (st1 := [.int u82, .int (pX2_itemWidth (x1 &&& 3)), .int (pX2_itemPlace (x1 &&& 3) x2 x3), .ref (ad 0)]) hM okX0_byteAt gm_177 gm_640 nm_32 [1, 2] ⟨⟨rfl, rfl⟩, ⟨by decide, by decide⟩, Nat.zero_le _, Nat.zero_le _⟩ rfl rfl rfl rfl (wB_fst _ _ _ _ _ _) (wB_fst _ _ _ _ _ _) rfl rfl hl.1 (Nat.le_of_ble_eq_true rfl) dX2_array_82 rfl rfl (fun H locs V => ?_)
      refine lv_iload_n hx hb dX2_array_85 rfl (lv_at hl 7 rfl) ?_
      refine lv_bipush (v := 7) hx hb dX2_array_86 (by decide) ?_
      refine lv_iand hx hb dX2_array_88 ?_
      refine lv_iload hx hb dX2_array_89 (lv_at hl 0 rfl) ?_
      refine lv_if_eq (tgt := 98) hx hb dX2_array_91 (by decide) (fun c_91 => ?_) (fun c_91 => ?_)
      · refine lv_iconst (v := 0) hx hb dX2_array_98 (by decide) ?_
        refine m_S X V (rest := [.int (pX2_itemWidth (x1 &&& 3)), .int (pX2_itemPlace (x1 &&& 3) x2 x3), .ref (ad 0)]) (st1 := [.int (pX2_withBit u82 (x3 &&& 7) 0), .int (pX2_itemWidth (x1 &&& 3)), .int (pX2_itemPlace (x1 &&& 3) x2 x3), .ref (ad 0)]) (kX2_withBit l D cB cI u82 (x3 &&& 7) 0) okX2_withBit gm_291 gm_290 ⟨⟨rfl, rfl⟩, ⟨by decide, by decide⟩, Nat.zero_le _, Nat.zero_le _⟩ rfl hl.1 (Nat.le_of_ble_eq_true rfl) dX2_array_99 rfl rfl (fun H locs V => ?_)
        refine lv_goto (tgt := 107) hx hb dX2_array_102 (by decide) ?_
        obtain ⟨u107, hu107⟩ : ∃ u, pX2_storeMemory g mem (pX2_itemPlace (x1 &&& 3) x2 x3) (pX2_itemWidth (x1 &&& 3)) (pX2_withBit u82 (x3 &&& 7) 0) = u := ⟨_, rfl⟩
        have hM := kX2_storeMemory l D cB cI ad g mem loc pf pg pn t fm fn z key ld (pX2_itemPlace (x1 &&& 3) x2 x3) (pX2_itemWidth (x1 &&& 3)) (pX2_withBit u82 (x3 &&& 7) 0)
        rw [hu107] at hM
        refine m_VA X V (w1 := (wM cB cI ad u107.1 u107.2 loc pf pg pn t fm fn z key ld)) (rest := []) (st1 := []) hM okX2_storeMemory gm_294 gm_663 gm_293 ⟨⟨rfl, rfl⟩, ⟨by decide, by decide⟩, Nat.zero_le _, Nat.zero_le _⟩ rfl rfl (wM_fst _ _ _ _ _ _ _ _ _ _ _ _ _ _ _) (wM_fst _ _ _ _ _ _ _ _ _ _ _ _ _ _ _) rfl hl.1 (Nat.le_of_ble_eq_true rfl) dX2_array_107 rfl rfl (fun H locs V => ?_)
        refine lv_iconst (v := 0) hx hb dX2_array_110 (by decide) ?_
        have e9 : pX2_array g mem ld x1 x2 x3 = (0, u107.1, u107.2) := by rw [pX2_array, if_pos c_24, if_pos c_73, hu82, mLet_eq, if_pos c_91, hu107, mLet_eq]
        exact m_iret X hr hk V (by rw [e9]) (by rw [e9]) dX2_array_111
      · refine lv_iconst (v := 1) hx hb dX2_array_94 (by decide) ?_
        refine lv_goto (tgt := 99) hx hb dX2_array_95 (by decide) ?_
        refine m_S X V (rest := [.int (pX2_itemWidth (x1 &&& 3)), .int (pX2_itemPlace (x1 &&& 3) x2 x3), .ref (ad 0)]) (st1 := [.int (pX2_withBit u82 (x3 &&& 7) 1), .int (pX2_itemWidth (x1 &&& 3)), .int (pX2_itemPlace (x1 &&& 3) x2 x3), .ref (ad 0)]) (kX2_withBit l D cB cI u82 (x3 &&& 7) 1) okX2_withBit gm_291 gm_290 ⟨⟨rfl, rfl⟩, ⟨by decide, by decide⟩, Nat.zero_le _, Nat.zero_le _⟩ rfl hl.1 (Nat.le_of_ble_eq_true rfl) dX2_array_99 rfl rfl (fun H locs V => ?_)
        refine lv_goto (tgt := 107) hx hb dX2_array_102 (by decide) ?_
        obtain ⟨u107, hu107⟩ : ∃ u, pX2_storeMemory g mem (pX2_itemPlace (x1 &&& 3) x2 x3) (pX2_itemWidth (x1 &&& 3)) (pX2_withBit u82 (x3 &&& 7) 1) = u := ⟨_, rfl⟩
        have hM := kX2_storeMemory l D cB cI ad g mem loc pf pg pn t fm fn z key ld (pX2_itemPlace (x1 &&& 3) x2 x3) (pX2_itemWidth (x1 &&& 3)) (pX2_withBit u82 (x3 &&& 7) 1)
        rw [hu107] at hM
        refine m_VA X V (w1 := (wM cB cI ad u107.1 u107.2 loc pf pg pn t fm fn z key ld)) (rest := []) (st1 := []) hM okX2_storeMemory gm_294 gm_663 gm_293 ⟨⟨rfl, rfl⟩, ⟨by decide, by decide⟩, Nat.zero_le _, Nat.zero_le _⟩ rfl rfl (wM_fst _ _ _ _ _ _ _ _ _ _ _ _ _ _ _) (wM_fst _ _ _ _ _ _ _ _ _ _ _ _ _ _ _) rfl hl.1 (Nat.le_of_ble_eq_true rfl) dX2_array_107 rfl rfl (fun H locs V => ?_)
        refine lv_iconst (v := 0) hx hb dX2_array_110 (by decide) ?_
        have e9 : pX2_array g mem ld x1 x2 x3 = (0, u107.1, u107.2) := by rw [pX2_array, if_pos c_24, if_pos c_73, hu82, mLet_eq, if_neg c_91, hu107, mLet_eq]
        exact m_iret X hr hk V (by rw [e9]) (by rw [e9]) dX2_array_111
  · refine lv_aload_n hx hb dX2_array_27 rfl (lv_at hl 3 rfl) ?_
    refine lv_iload hx hb dX2_array_28 (lv_at hl 1 rfl) ?_
    refine lv_iload hx hb dX2_array_30 (lv_at hl 0 rfl) ?_
    obtain ⟨u32, hu32⟩ : ∃ u, pX2_fetch g mem (pX2_itemPlace (x1 &&& 3) x2 x3) (pX2_itemWidth (x1 &&& 3)) = u := ⟨_, rfl⟩
    have hM := kX2_fetch l D cB cI ad g mem loc pf pg pn t fm fn z key ld (pX2_itemPlace (x1 &&& 3) x2 x3) (pX2_itemWidth (x1 &&& 3))
    rw [hu32] at hM
    refine m_VA X V (w1 := (wM cB cI ad u32.2 mem loc pf pg pn t fm fn z key ld)) (rest := []) (st1 := [.int u32.1]) hM okX2_fetch gm_236 gm_651 gm_235 ⟨⟨rfl, rfl⟩, ⟨by decide, by decide⟩, Nat.zero_le _, Nat.zero_le _⟩ rfl rfl (wM_fst _ _ _ _ _ _ _ _ _ _ _ _ _ _ _) (wM_fst _ _ _ _ _ _ _ _ _ _ _ _ _ _ _) rfl hl.1 (Nat.le_of_ble_eq_true rfl) dX2_array_32 rfl rfl (fun H locs V => ?_)
    refine lv_istore (lv' := [(7, .int u32.1), (6, .int (pX2_itemWidth (x1 &&& 3))), (5, .int (pX2_itemPlace (x1 &&& 3) x2 x3)), (4, .int (x1 &&& 3)), (0, .ref (ad 0)), (1, .int x1), (2, .int x2), (3, .int x3)]) hx hb dX2_array_35 hl (by decide) rfl (fun ls hl => ?_)
    refine lv_iload hx hb dX2_array_37 (lv_at hl 3 rfl) ?_
    refine lv_iconst (v := 3) hx hb dX2_array_39 (by decide) ?_
    refine lv_icmp_ne (tgt := 55) hx hb dX2_array_40 (by decide) (fun c_40 => ?_) (fun c_40 => ?_)
    · refine lv_iload hx hb dX2_array_55 (lv_at hl 0 rfl) ?_
      have e9 : pX2_array g mem ld x1 x2 x3 = (u32.1, u32.2, mem) := by rw [pX2_array, if_neg c_24, hu32, mLet_eq, if_neg c_40]
      exact m_iret X hr hk V (by rw [e9]) (by rw [e9]) dX2_array_57
    · refine lv_iload hx hb dX2_array_43 (lv_at hl 0 rfl) ?_
      refine lv_iload_n hx hb dX2_array_45 rfl (lv_at hl 7 rfl) ?_
      refine lv_bipush (v := 7) hx hb dX2_array_46 (by decide) ?_
      refine lv_iand hx hb dX2_array_48 ?_
      refine lv_ishr hx hb dX2_array_49 ?_
      refine lv_iconst (v := 1) hx hb dX2_array_50 (by decide) ?_
      refine lv_iand hx hb dX2_array_51 ?_
      refine lv_goto (tgt := 57) hx hb dX2_array_52 (by decide) ?_
      have e9 : pX2_array g mem ld x1 x2 x3 = (((u32.1 >>> ((x3 &&& 7) &&& 31)) &&& 1), u32.2, mem) := by rw [pX2_array, if_neg c_24, hu32, mLet_eq, if_pos c_40]
      exact m_iret X hr hk V (by rw [e9]) (by rw [e9]) dX2_array_57
def pX2_peek (g : Nat → Int32) (pf : Nat → Int32) (pn : Int32) (x1 : Int32) : Int32 × (Nat → Int32) := (if x1 < 0 then (0, (upd g 5 4)) else (if x1 < pn then ((pX3_fromTop pf pn x1), g) else (0, (upd g 5 4))))
theorem okX2_peek : mOk yX2_peek cX2_peek 2 (some .int) 1 := ⟨gm_304, gm_4, by decide +kernel⟩
set_option maxRecDepth 100000 in
set_option maxHeartbeats 4000000 in
theorem kX2_peek (l : Launch) (D : va_G) (cB cI : ClassId) (ad : Nat → Nat) (g : Nat → Int32) (mem : Nat → Int32) (loc : Nat → Int32) (pf : Nat → Int32) (pg : Nat → Int32) (pn : Int32) (t : Nat → Int32) (fm : Nat → Int32) (fn : Nat → Int32) (z : Nat → Int32) (key : Nat → Int32) (ld : Nat → Int32) (x1 : Int32) : mM l D cB cI yX2_peek cX2_peek 2 (some .int) { frames := 2, cells := 0, slots := 0, locals := 42 } [.ref (ad 0), .int x1] (wM cB cI ad g mem loc pf pg pn t fm fn z key ld) (some ((pX2_peek g pf pn x1).1)) (wM cB cI ad ((pX2_peek g pf pn x1).2) mem loc pf pg pn t fm fn z key ld) := by
  refine m_start (by decide +kernel) (Nat.le_of_ble_eq_true rfl) ?_
  intro p e s m below meth c A ls X hr hk V hl
  have X : mCx p s m _ c cX2_peek 2 RX2 D cB cI := X
  have hx := X.1.1
  have hb := X.1.2.1
  have hl : lv_has ls 2 [(0, .ref (ad 0)), (1, .int x1)] := hl
  refine lv_iload_n hx hb dX2_peek_0 rfl (lv_at hl 1 rfl) ?_
  refine lv_if_lt (tgt := 15) hx hb dX2_peek_1 (by decide) (fun c_1 => ?_) (fun c_1 => ?_)
  · refine lv_aload_n hx hb dX2_peek_15 rfl (lv_at hl 0 rfl) ?_
    refine lv_iconst (v := 4) hx hb dX2_peek_16 (by decide) ?_
    refine m_put X V (ws' := (wM cB cI ad (upd g 5 4) mem loc pf pg pn t fm fn z key ld)) 2 0 11 rfl gin_2 tyX2_ok nmX2 rfl (by decide) rfl gm_102 rfl rfl rfl (Nat.le_of_ble_eq_true rfl) dX2_peek_17 rfl (fun H locs V => ?_)
    refine lv_iconst (v := 0) hx hb dX2_peek_20 (by decide) ?_
    have e9 : pX2_peek g pf pn x1 = (0, (upd g 5 4)) := by rw [pX2_peek, if_pos c_1]
    exact m_iret X hr hk V (by rw [e9]) (by rw [e9]) dX2_peek_21
  · refine lv_iload_n hx hb dX2_peek_4 rfl (lv_at hl 1 rfl) ?_
    refine lv_aload_n hx hb dX2_peek_5 rfl (lv_at hl 0 rfl) ?_
    refine m_get X V 2 0 2 rfl gin_2 rfl (by decide) rfl gm_93 (v := .ref (ad 5)) rfl dX2_peek_6 ?_
    refine m_getN X V 3 5 2 rfl gin_3 rfl (by decide) rfl nf_1 (v := .int pn) rfl dX2_peek_9 ?_
    refine lv_icmp_lt (tgt := 22) hx hb dX2_peek_12 (by decide) (fun c_12 => ?_) (fun c_12 => ?_)
    · refine lv_aload_n hx hb dX2_peek_22 rfl (lv_at hl 0 rfl) ?_
      refine m_get X V 2 0 2 rfl gin_2 rfl (by decide) rfl gm_93 (v := .ref (ad 5)) rfl dX2_peek_23 ?_
      refine lv_iload_n hx hb dX2_peek_26 rfl (lv_at hl 1 rfl) ?_
      refine m_VN X V (ws' := (wM cB cI ad g mem loc pf pg pn t fm fn z key ld)) (rest := []) (st1 := [.int (pX3_fromTop pf pn x1)]) (kX3_fromTop l D cB cI (ad 5) (ad 6) (ad 7) pf pg pn x1) okX3_fromTop gm_305 gm_667 nm_34 [5, 6, 7] ⟨⟨rfl, rfl⟩, ⟨by decide, by decide⟩, Nat.zero_le _, Nat.zero_le _⟩ rfl rfl rfl rfl (wP_fst _ _ _ _ _ _ _ _) (wP_fst _ _ _ _ _ _ _ _) rfl rfl hl.1 (Nat.le_of_ble_eq_true rfl) dX2_peek_27 rfl rfl (fun H locs V => ?_)
      have e9 : pX2_peek g pf pn x1 = ((pX3_fromTop pf pn x1), g) := by rw [pX2_peek, if_neg c_1, if_pos c_12]
      exact m_iret X hr hk V (by rw [e9]) (by rw [e9]) dX2_peek_30
    · refine lv_aload_n hx hb dX2_peek_15 rfl (lv_at hl 0 rfl) ?_
      refine lv_iconst (v := 4) hx hb dX2_peek_16 (by decide) ?_
      refine m_put X V (ws' := (wM cB cI ad (upd g 5 4) mem loc pf pg pn t fm fn z key ld)) 2 0 11 rfl gin_2 tyX2_ok nmX2 rfl (by decide) rfl gm_102 rfl rfl rfl (Nat.le_of_ble_eq_true rfl) dX2_peek_17 rfl (fun H locs V => ?_)
      refine lv_iconst (v := 0) hx hb dX2_peek_20 (by decide) ?_
      have e9 : pX2_peek g pf pn x1 = (0, (upd g 5 4)) := by rw [pX2_peek, if_neg c_1, if_neg c_12]
      exact m_iret X hr hk V (by rw [e9]) (by rw [e9]) dX2_peek_21
def pX2_swapPile (g : Nat → Int32) (pf : Nat → Int32) (pn : Int32) : Int32 × (Nat → Int32) × (Nat → Int32) := (if (pX3_hasUpper pn 2) = 0 then (0, (upd g 5 4), pf) else (0, g, (pX3_swapUpper pf pn)))
theorem okX2_swapPile : mOk yX2_swapPile cX2_swapPile 1 (some .int) 0 := ⟨gm_309, gm_4, by decide +kernel⟩
set_option maxRecDepth 100000 in
set_option maxHeartbeats 4000000 in
theorem kX2_swapPile (l : Launch) (D : va_G) (cB cI : ClassId) (ad : Nat → Nat) (g : Nat → Int32) (mem : Nat → Int32) (loc : Nat → Int32) (pf : Nat → Int32) (pg : Nat → Int32) (pn : Int32) (t : Nat → Int32) (fm : Nat → Int32) (fn : Nat → Int32) (z : Nat → Int32) (key : Nat → Int32) (ld : Nat → Int32) : mM l D cB cI yX2_swapPile cX2_swapPile 1 (some .int) { frames := 2, cells := 0, slots := 0, locals := 43 } [.ref (ad 0)] (wM cB cI ad g mem loc pf pg pn t fm fn z key ld) (some ((pX2_swapPile g pf pn).1)) (wM cB cI ad ((pX2_swapPile g pf pn).2.1) mem loc ((pX2_swapPile g pf pn).2.2) pg pn t fm fn z key ld) := by
  refine m_start (by decide +kernel) (Nat.le_of_ble_eq_true rfl) ?_
  intro p e s m below meth c A ls X hr hk V hl
  have X : mCx p s m _ c cX2_swapPile 1 RX2 D cB cI := X
  have hx := X.1.1
  have hb := X.1.2.1
  have hl : lv_has ls 1 [(0, .ref (ad 0))] := hl
  refine lv_aload_n hx hb dX2_swapPile_0 rfl (lv_at hl 0 rfl) ?_
  refine m_get X V 2 0 2 rfl gin_2 rfl (by decide) rfl gm_93 (v := .ref (ad 5)) rfl dX2_swapPile_1 ?_
  refine lv_iconst (v := 2) hx hb dX2_swapPile_4 (by decide) ?_
  refine m_VN X V (ws' := (wM cB cI ad g mem loc pf pg pn t fm fn z key ld)) (rest := []) (st1 := [.int (pX3_hasUpper pn 2)]) (kX3_hasUpper l D cB cI (ad 5) (ad 6) (ad 7) pf pg pn 2) okX3_hasUpper gm_163 gm_636 nm_35 [5, 6, 7] ⟨⟨rfl, rfl⟩, ⟨by decide, by decide⟩, Nat.zero_le _, Nat.zero_le _⟩ rfl rfl rfl rfl (wP_fst _ _ _ _ _ _ _ _) (wP_fst _ _ _ _ _ _ _ _) rfl rfl hl.1 (Nat.le_of_ble_eq_true rfl) dX2_swapPile_5 rfl rfl (fun H locs V => ?_)
  refine lv_if_eq (tgt := 21) hx hb dX2_swapPile_8 (by decide) (fun c_8 => ?_) (fun c_8 => ?_)
  · refine lv_aload_n hx hb dX2_swapPile_21 rfl (lv_at hl 0 rfl) ?_
    refine lv_iconst (v := 4) hx hb dX2_swapPile_22 (by decide) ?_
    refine m_put X V (ws' := (wM cB cI ad (upd g 5 4) mem loc pf pg pn t fm fn z key ld)) 2 0 11 rfl gin_2 tyX2_ok nmX2 rfl (by decide) rfl gm_102 rfl rfl rfl (Nat.le_of_ble_eq_true rfl) dX2_swapPile_23 rfl (fun H locs V => ?_)
    refine lv_iconst (v := 0) hx hb dX2_swapPile_26 (by decide) ?_
    have e9 : pX2_swapPile g pf pn = (0, (upd g 5 4), pf) := by rw [pX2_swapPile, if_pos c_8]
    exact m_iret X hr hk V (by rw [e9]) (by rw [e9]) dX2_swapPile_27
  · refine lv_aload_n hx hb dX2_swapPile_11 rfl (lv_at hl 0 rfl) ?_
    refine m_get X V 2 0 2 rfl gin_2 rfl (by decide) rfl gm_93 (v := .ref (ad 5)) rfl dX2_swapPile_12 ?_
    refine m_VN X V (ws' := (wM cB cI ad g mem loc (pX3_swapUpper pf pn) pg pn t fm fn z key ld)) (rest := []) (st1 := []) (kX3_swapUpper l D cB cI (ad 5) (ad 6) (ad 7) pf pg pn) okX3_swapUpper gm_310 gm_669 nm_36 [5, 6, 7] ⟨⟨rfl, rfl⟩, ⟨by decide, by decide⟩, Nat.zero_le _, Nat.zero_le _⟩ rfl rfl rfl rfl (wP_fst _ _ _ _ _ _ _ _) (wP_fst _ _ _ _ _ _ _ _) rfl rfl hl.1 (Nat.le_of_ble_eq_true rfl) dX2_swapPile_15 rfl rfl (fun H locs V => ?_)
    refine lv_goto (tgt := 26) hx hb dX2_swapPile_18 (by decide) ?_
    refine lv_iconst (v := 0) hx hb dX2_swapPile_26 (by decide) ?_
    have e9 : pX2_swapPile g pf pn = (0, g, (pX3_swapUpper pf pn)) := by rw [pX2_swapPile, if_neg c_8]
    exact m_iret X hr hk V (by rw [e9]) (by rw [e9]) dX2_swapPile_27
def pX2_turnPile (g : Nat → Int32) (pf : Nat → Int32) (pg : Nat → Int32) (pn : Int32) (x1 : Int32) (x2 : Int32) : Int32 × (Nat → Int32) × (Nat → Int32) × (Nat → Int32) := (if (pX3_hasUpper pn x1) = 0 then (0, (upd g 5 4), pf, pg) else (mLet (pX3_turnUpper pf pg pn x1 x2) (fun (u17 : (Nat → Int32) × (Nat → Int32)) => (0, g, u17.1, u17.2))))
theorem okX2_turnPile : mOk yX2_turnPile cX2_turnPile 3 (some .int) 2 := ⟨gm_314, gm_4, by decide +kernel⟩
set_option maxRecDepth 100000 in
set_option maxHeartbeats 4000000 in
theorem kX2_turnPile (l : Launch) (D : va_G) (cB cI : ClassId) (ad : Nat → Nat) (g : Nat → Int32) (mem : Nat → Int32) (loc : Nat → Int32) (pf : Nat → Int32) (pg : Nat → Int32) (pn : Int32) (t : Nat → Int32) (fm : Nat → Int32) (fn : Nat → Int32) (z : Nat → Int32) (key : Nat → Int32) (ld : Nat → Int32) (x1 : Int32) (x2 : Int32) : mM l D cB cI yX2_turnPile cX2_turnPile 3 (some .int) { frames := 2, cells := 0, slots := 0, locals := 47 } [.ref (ad 0), .int x1, .int x2] (wM cB cI ad g mem loc pf pg pn t fm fn z key ld) (some ((pX2_turnPile g pf pg pn x1 x2).1)) (wM cB cI ad ((pX2_turnPile g pf pg pn x1 x2).2.1) mem loc ((pX2_turnPile g pf pg pn x1 x2).2.2.1) ((pX2_turnPile g pf pg pn x1 x2).2.2.2) pn t fm fn z key ld) := by
  refine m_start (by decide +kernel) (Nat.le_of_ble_eq_true rfl) ?_
  intro p e s m below meth c A ls X hr hk V hl
  have X : mCx p s m _ c cX2_turnPile 3 RX2 D cB cI := X
  have hx := X.1.1
  have hb := X.1.2.1
  have hl : lv_has ls 3 [(0, .ref (ad 0)), (1, .int x1), (2, .int x2)] := hl
  refine lv_aload_n hx hb dX2_turnPile_0 rfl (lv_at hl 0 rfl) ?_
  refine m_get X V 2 0 2 rfl gin_2 rfl (by decide) rfl gm_93 (v := .ref (ad 5)) rfl dX2_turnPile_1 ?_
  refine lv_iload_n hx hb dX2_turnPile_4 rfl (lv_at hl 1 rfl) ?_
  refine m_VN X V (ws' := (wM cB cI ad g mem loc pf pg pn t fm fn z key ld)) (rest := []) (st1 := [.int (pX3_hasUpper pn x1)]) (kX3_hasUpper l D cB cI (ad 5) (ad 6) (ad 7) pf pg pn x1) okX3_hasUpper gm_163 gm_636 nm_35 [5, 6, 7] ⟨⟨rfl, rfl⟩, ⟨by decide, by decide⟩, Nat.zero_le _, Nat.zero_le _⟩ rfl rfl rfl rfl (wP_fst _ _ _ _ _ _ _ _) (wP_fst _ _ _ _ _ _ _ _) rfl rfl hl.1 (Nat.le_of_ble_eq_true rfl) dX2_turnPile_5 rfl rfl (fun H locs V => ?_)
  refine lv_if_eq (tgt := 23) hx hb dX2_turnPile_8 (by decide) (fun c_8 => ?_) (fun c_8 => ?_)
  · refine lv_aload_n hx hb dX2_turnPile_23 rfl (lv_at hl 0 rfl) ?_
    refine lv_iconst (v := 4) hx hb dX2_turnPile_24 (by decide) ?_
    refine m_put X V (ws' := (wM cB cI ad (upd g 5 4) mem loc pf pg pn t fm fn z key ld)) 2 0 11 rfl gin_2 tyX2_ok nmX2 rfl (by decide) rfl gm_102 rfl rfl rfl (Nat.le_of_ble_eq_true rfl) dX2_turnPile_25 rfl (fun H locs V => ?_)
    refine lv_iconst (v := 0) hx hb dX2_turnPile_28 (by decide) ?_
    have e9 : pX2_turnPile g pf pg pn x1 x2 = (0, (upd g 5 4), pf, pg) := by rw [pX2_turnPile, if_pos c_8]
    exact m_iret X hr hk V (by rw [e9]) (by rw [e9]) dX2_turnPile_29
  · refine lv_aload_n hx hb dX2_turnPile_11 rfl (lv_at hl 0 rfl) ?_
    refine m_get X V 2 0 2 rfl gin_2 rfl (by decide) rfl gm_93 (v := .ref (ad 5)) rfl dX2_turnPile_12 ?_
    refine lv_iload_n hx hb dX2_turnPile_15 rfl (lv_at hl 1 rfl) ?_
    refine lv_iload_n hx hb dX2_turnPile_16 rfl (lv_at hl 2 rfl) ?_
    obtain ⟨u17, hu17⟩ : ∃ u, pX3_turnUpper pf pg pn x1 x2 = u := ⟨_, rfl⟩
    have hM := kX3_turnUpper l D cB cI (ad 5) (ad 6) (ad 7) pf pg pn x1 x2
    rw [hu17] at hM
    refine m_VN X V (ws' := (wM cB cI ad g mem loc u17.1 u17.2 pn t fm fn z key ld)) (rest := []) (st1 := []) hM okX3_turnUpper gm_315 gm_671 nm_37 [5, 6, 7] ⟨⟨rfl, rfl⟩, ⟨by decide, by decide⟩, Nat.zero_le _, Nat.zero_le _⟩ rfl rfl rfl rfl (wP_fst _ _ _ _ _ _ _ _) (wP_fst _ _ _ _ _ _ _ _) rfl rfl hl.1 (Nat.le_of_ble_eq_true rfl) dX2_turnPile_17 rfl rfl (fun H locs V => ?_)
    refine lv_goto (tgt := 28) hx hb dX2_turnPile_20 (by decide) ?_
    refine lv_iconst (v := 0) hx hb dX2_turnPile_28 (by decide) ?_
    have e9 : pX2_turnPile g pf pg pn x1 x2 = (0, g, u17.1, u17.2) := by rw [pX2_turnPile, if_neg c_8, hu17, mLet_eq]
    exact m_iret X hr hk V (by rw [e9]) (by rw [e9]) dX2_turnPile_29
def pX2_repeatPile (g : Nat → Int32) (pf : Nat → Int32) (pn : Int32) (x1 : Int32) : Int32 × (Nat → Int32) × (Nat → Int32) × Int32 := (if (pX3_hasUpper pn x1) = 0 then (0, (upd g 5 4), pf, pn) else (if x1 ≤ (40 - pn) then (mLet (pX3_repeatUpper pf pn x1) (fun (u46 : (Nat → Int32) × Int32) => (0, g, u46.1, u46.2))) else (0, (upd g 5 5), pf, pn)))
theorem okX2_repeatPile : mOk yX2_repeatPile cX2_repeatPile 2 (some .int) 1 := ⟨gm_322, gm_4, by decide +kernel⟩
set_option maxRecDepth 100000 in
set_option maxHeartbeats 4000000 in
theorem kX2_repeatPile (l : Launch) (D : va_G) (cB cI : ClassId) (ad : Nat → Nat) (g : Nat → Int32) (mem : Nat → Int32) (loc : Nat → Int32) (pf : Nat → Int32) (pg : Nat → Int32) (pn : Int32) (t : Nat → Int32) (fm : Nat → Int32) (fn : Nat → Int32) (z : Nat → Int32) (key : Nat → Int32) (ld : Nat → Int32) (x1 : Int32) : mM l D cB cI yX2_repeatPile cX2_repeatPile 2 (some .int) { frames := 3, cells := 0, slots := 0, locals := 66 } [.ref (ad 0), .int x1] (wM cB cI ad g mem loc pf pg pn t fm fn z key ld) (some ((pX2_repeatPile g pf pn x1).1)) (wM cB cI ad ((pX2_repeatPile g pf pn x1).2.1) mem loc ((pX2_repeatPile g pf pn x1).2.2.1) pg ((pX2_repeatPile g pf pn x1).2.2.2) t fm fn z key ld) := by
  refine m_start (by decide +kernel) (Nat.le_of_ble_eq_true rfl) ?_
  intro p e s m below meth c A ls X hr hk V hl
  have X : mCx p s m _ c cX2_repeatPile 2 RX2 D cB cI := X
  have hx := X.1.1
  have hb := X.1.2.1
  have hl : lv_has ls 2 [(0, .ref (ad 0)), (1, .int x1)] := hl
  refine lv_aload_n hx hb dX2_repeatPile_0 rfl (lv_at hl 0 rfl) ?_
  refine m_get X V 2 0 2 rfl gin_2 rfl (by decide) rfl gm_93 (v := .ref (ad 5)) rfl dX2_repeatPile_1 ?_
  refine lv_iload_n hx hb dX2_repeatPile_4 rfl (lv_at hl 1 rfl) ?_
  refine m_VN X V (ws' := (wM cB cI ad g mem loc pf pg pn t fm fn z key ld)) (rest := []) (st1 := [.int (pX3_hasUpper pn x1)]) (kX3_hasUpper l D cB cI (ad 5) (ad 6) (ad 7) pf pg pn x1) okX3_hasUpper gm_163 gm_636 nm_35 [5, 6, 7] ⟨⟨rfl, rfl⟩, ⟨by decide, by decide⟩, Nat.zero_le _, Nat.zero_le _⟩ rfl rfl rfl rfl (wP_fst _ _ _ _ _ _ _ _) (wP_fst _ _ _ _ _ _ _ _) rfl rfl hl.1 (Nat.le_of_ble_eq_true rfl) dX2_repeatPile_5 rfl rfl (fun H locs V => ?_)
  refine lv_if_ne (tgt := 19) hx hb dX2_repeatPile_8 (by decide) (fun c_8 => ?_) (fun c_8 => ?_)
  · refine lv_iload_n hx hb dX2_repeatPile_19 rfl (lv_at hl 1 rfl) ?_
    refine lv_bipush (v := 40) hx hb dX2_repeatPile_20 (by decide) ?_
    refine lv_aload_n hx hb dX2_repeatPile_22 rfl (lv_at hl 0 rfl) ?_
    refine m_get X V 2 0 2 rfl gin_2 rfl (by decide) rfl gm_93 (v := .ref (ad 5)) rfl dX2_repeatPile_23 ?_
    refine m_getN X V 3 5 2 rfl gin_3 rfl (by decide) rfl nf_1 (v := .int pn) rfl dX2_repeatPile_26 ?_
    refine lv_isub hx hb dX2_repeatPile_29 ?_
    refine lv_icmp_le (tgt := 41) hx hb dX2_repeatPile_30 (by decide) (fun c_30 => ?_) (fun c_30 => ?_)
    · refine lv_aload_n hx hb dX2_repeatPile_41 rfl (lv_at hl 0 rfl) ?_
      refine m_get X V 2 0 2 rfl gin_2 rfl (by decide) rfl gm_93 (v := .ref (ad 5)) rfl dX2_repeatPile_42 ?_
      refine lv_iload_n hx hb dX2_repeatPile_45 rfl (lv_at hl 1 rfl) ?_
      obtain ⟨u46, hu46⟩ : ∃ u, pX3_repeatUpper pf pn x1 = u := ⟨_, rfl⟩
      have hM := kX3_repeatUpper l D cB cI (ad 5) (ad 6) (ad 7) pf pg pn x1
      rw [hu46] at hM
      refine m_VN X V (ws' := (wM cB cI ad g mem loc u46.1 pg u46.2 t fm fn z key ld)) (rest := []) (st1 := []) hM okX3_repeatUpper gm_323 gm_673 nm_38 [5, 6, 7] ⟨⟨rfl, rfl⟩, ⟨by decide, by decide⟩, Nat.zero_le _, Nat.zero_le _⟩ rfl rfl rfl rfl (wP_fst _ _ _ _ _ _ _ _) (wP_fst _ _ _ _ _ _ _ _) rfl rfl hl.1 (Nat.le_of_ble_eq_true rfl) dX2_repeatPile_46 rfl rfl (fun H locs V => ?_)
      refine lv_iconst (v := 0) hx hb dX2_repeatPile_49 (by decide) ?_
      have e9 : pX2_repeatPile g pf pn x1 = (0, g, u46.1, u46.2) := by rw [pX2_repeatPile, if_neg c_8, if_pos c_30, hu46, mLet_eq]
      exact m_iret X hr hk V (by rw [e9]) (by rw [e9]) dX2_repeatPile_50
    · refine lv_aload_n hx hb dX2_repeatPile_33 rfl (lv_at hl 0 rfl) ?_
      refine lv_iconst (v := 5) hx hb dX2_repeatPile_34 (by decide) ?_
      refine m_put X V (ws' := (wM cB cI ad (upd g 5 5) mem loc pf pg pn t fm fn z key ld)) 2 0 11 rfl gin_2 tyX2_ok nmX2 rfl (by decide) rfl gm_102 rfl rfl rfl (Nat.le_of_ble_eq_true rfl) dX2_repeatPile_35 rfl (fun H locs V => ?_)
      refine lv_goto (tgt := 49) hx hb dX2_repeatPile_38 (by decide) ?_
      refine lv_iconst (v := 0) hx hb dX2_repeatPile_49 (by decide) ?_
      have e9 : pX2_repeatPile g pf pn x1 = (0, (upd g 5 5), pf, pn) := by rw [pX2_repeatPile, if_neg c_8, if_neg c_30]
      exact m_iret X hr hk V (by rw [e9]) (by rw [e9]) dX2_repeatPile_50
  · refine lv_aload_n hx hb dX2_repeatPile_11 rfl (lv_at hl 0 rfl) ?_
    refine lv_iconst (v := 4) hx hb dX2_repeatPile_12 (by decide) ?_
    refine m_put X V (ws' := (wM cB cI ad (upd g 5 4) mem loc pf pg pn t fm fn z key ld)) 2 0 11 rfl gin_2 tyX2_ok nmX2 rfl (by decide) rfl gm_102 rfl rfl rfl (Nat.le_of_ble_eq_true rfl) dX2_repeatPile_13 rfl (fun H locs V => ?_)
    refine lv_goto (tgt := 49) hx hb dX2_repeatPile_16 (by decide) ?_
    refine lv_iconst (v := 0) hx hb dX2_repeatPile_49 (by decide) ?_
    have e9 : pX2_repeatPile g pf pn x1 = (0, (upd g 5 4), pf, pn) := by rw [pX2_repeatPile, if_pos c_8]
    exact m_iret X hr hk V (by rw [e9]) (by rw [e9]) dX2_repeatPile_50
def pX2_onPile (g : Nat → Int32) (pf : Nat → Int32) (pg : Nat → Int32) (pn : Int32) (x1 : Int32) (x2 : Int32) (x3 : Int32) : Int32 × (Nat → Int32) × (Nat → Int32) × (Nat → Int32) × Int32 := (if x1 = 80 then (pn, g, pf, pg, pn) else (if x1 = 81 then (mLet (pX2_peek g pf pn x2) (fun (u42 : Int32 × (Nat → Int32)) => (u42.1, u42.2, pf, pg, pn))) else (if x1 = 82 then (mLet (pX2_swapPile g pf pn) (fun (u47 : Int32 × (Nat → Int32) × (Nat → Int32)) => (u47.1, u47.2.1, u47.2.2, pg, pn))) else (if x1 = 83 then (mLet (pX2_turnPile g pf pg pn x2 x3) (fun (u54 : Int32 × (Nat → Int32) × (Nat → Int32) × (Nat → Int32)) => (u54.1, u54.2.1, u54.2.2.1, u54.2.2.2, pn))) else (mLet (pX2_repeatPile g pf pn x2) (fun (u60 : Int32 × (Nat → Int32) × (Nat → Int32) × Int32) => (u60.1, u60.2.1, u60.2.2.1, pg, u60.2.2.2)))))))
theorem okX2_onPile : mOk yX2_onPile cX2_onPile 4 (some .int) 3 := ⟨gm_301, gm_4, by decide +kernel⟩
set_option maxRecDepth 100000 in
set_option maxHeartbeats 4000000 in
theorem kX2_onPile (l : Launch) (D : va_G) (cB cI : ClassId) (ad : Nat → Nat) (g : Nat → Int32) (mem : Nat → Int32) (loc : Nat → Int32) (pf : Nat → Int32) (pg : Nat → Int32) (pn : Int32) (t : Nat → Int32) (fm : Nat → Int32) (fn : Nat → Int32) (z : Nat → Int32) (key : Nat → Int32) (ld : Nat → Int32) (x1 : Int32) (x2 : Int32) (x3 : Int32) : mM l D cB cI yX2_onPile cX2_onPile 4 (some .int) { frames := 4, cells := 0, slots := 0, locals := 87 } [.ref (ad 0), .int x1, .int x2, .int x3] (wM cB cI ad g mem loc pf pg pn t fm fn z key ld) (some ((pX2_onPile g pf pg pn x1 x2 x3).1)) (wM cB cI ad ((pX2_onPile g pf pg pn x1 x2 x3).2.1) mem loc ((pX2_onPile g pf pg pn x1 x2 x3).2.2.1) ((pX2_onPile g pf pg pn x1 x2 x3).2.2.2.1) ((pX2_onPile g pf pg pn x1 x2 x3).2.2.2.2) t fm fn z key ld) := by
  refine m_start (by decide +kernel) (Nat.le_of_ble_eq_true rfl) ?_
  intro p e s m below meth c A ls X hr hk V hl
  have X : mCx p s m _ c cX2_onPile 4 RX2 D cB cI := X
  have hx := X.1.1
  have hb := X.1.2.1
  have hl : lv_has ls 4 [(0, .ref (ad 0)), (1, .int x1), (2, .int x2), (3, .int x3)] := hl
  refine lv_iload_n hx hb dX2_onPile_0 rfl (lv_at hl 1 rfl) ?_
  by_cases w_1_80 : x1 = 80
  · refine lv_tableIn (off := 31) (tgt := 32) hx hb dX2_onPile_1 (by rw [w_1_80]; decide) (by rw [w_1_80]; decide) (by rw [w_1_80]; rfl) (by decide) ?_
    refine lv_aload_n hx hb dX2_onPile_32 rfl (lv_at hl 0 rfl) ?_
    refine m_get X V 2 0 2 rfl gin_2 rfl (by decide) rfl gm_93 (v := .ref (ad 5)) rfl dX2_onPile_33 ?_
    refine m_getN X V 3 5 2 rfl gin_3 rfl (by decide) rfl nf_1 (v := .int pn) rfl dX2_onPile_36 ?_
    have e9 : pX2_onPile g pf pg pn x1 x2 x3 = (pn, g, pf, pg, pn) := by rw [pX2_onPile, if_pos w_1_80]
    exact m_iret X hr hk V (by rw [e9]) (by rw [e9]) dX2_onPile_39
  by_cases w_1_81 : x1 = 81
  · refine lv_tableIn (off := 39) (tgt := 40) hx hb dX2_onPile_1 (by rw [w_1_81]; decide) (by rw [w_1_81]; decide) (by rw [w_1_81]; rfl) (by decide) ?_
    refine lv_aload_n hx hb dX2_onPile_40 rfl (lv_at hl 0 rfl) ?_
    refine lv_iload_n hx hb dX2_onPile_41 rfl (lv_at hl 2 rfl) ?_
    obtain ⟨u42, hu42⟩ : ∃ u, pX2_peek g pf pn x2 = u := ⟨_, rfl⟩
    have hM := kX2_peek l D cB cI ad g mem loc pf pg pn t fm fn z key ld x2
    rw [hu42] at hM
    refine m_VA X V (w1 := (wM cB cI ad u42.2 mem loc pf pg pn t fm fn z key ld)) (rest := []) (st1 := [.int u42.1]) hM okX2_peek gm_303 gm_666 gm_302 ⟨⟨rfl, rfl⟩, ⟨by decide, by decide⟩, Nat.zero_le _, Nat.zero_le _⟩ rfl rfl (wM_fst _ _ _ _ _ _ _ _ _ _ _ _ _ _ _) (wM_fst _ _ _ _ _ _ _ _ _ _ _ _ _ _ _) rfl hl.1 (Nat.le_of_ble_eq_true rfl) dX2_onPile_42 rfl rfl (fun H locs V => ?_)
    have e9 : pX2_onPile g pf pg pn x1 x2 x3 = (u42.1, u42.2, pf, pg, pn) := by rw [pX2_onPile, if_neg w_1_80, if_pos w_1_81, hu42, mLet_eq]
    exact m_iret X hr hk V (by rw [e9]) (by rw [e9]) dX2_onPile_45
  by_cases w_1_82 : x1 = 82
  · refine lv_tableIn (off := 45) (tgt := 46) hx hb dX2_onPile_1 (by rw [w_1_82]; decide) (by rw [w_1_82]; decide) (by rw [w_1_82]; rfl) (by decide) ?_
    refine lv_aload_n hx hb dX2_onPile_46 rfl (lv_at hl 0 rfl) ?_
    obtain ⟨u47, hu47⟩ : ∃ u, pX2_swapPile g pf pn = u := ⟨_, rfl⟩
    have hM := kX2_swapPile l D cB cI ad g mem loc pf pg pn t fm fn z key ld
    rw [hu47] at hM
    refine m_VA X V (w1 := (wM cB cI ad u47.2.1 mem loc u47.2.2 pg pn t fm fn z key ld)) (rest := []) (st1 := [.int u47.1]) hM okX2_swapPile gm_308 gm_668 gm_307 ⟨⟨rfl, rfl⟩, ⟨by decide, by decide⟩, Nat.zero_le _, Nat.zero_le _⟩ rfl rfl (wM_fst _ _ _ _ _ _ _ _ _ _ _ _ _ _ _) (wM_fst _ _ _ _ _ _ _ _ _ _ _ _ _ _ _) rfl hl.1 (Nat.le_of_ble_eq_true rfl) dX2_onPile_47 rfl rfl (fun H locs V => ?_)
    have e9 : pX2_onPile g pf pg pn x1 x2 x3 = (u47.1, u47.2.1, u47.2.2, pg, pn) := by rw [pX2_onPile, if_neg w_1_80, if_neg w_1_81, if_pos w_1_82, hu47, mLet_eq]
    exact m_iret X hr hk V (by rw [e9]) (by rw [e9]) dX2_onPile_50
  by_cases w_1_83 : x1 = 83
  · refine lv_tableIn (off := 50) (tgt := 51) hx hb dX2_onPile_1 (by rw [w_1_83]; decide) (by rw [w_1_83]; decide) (by rw [w_1_83]; rfl) (by decide) ?_
    refine lv_aload_n hx hb dX2_onPile_51 rfl (lv_at hl 0 rfl) ?_
    refine lv_iload_n hx hb dX2_onPile_52 rfl (lv_at hl 2 rfl) ?_
    refine lv_iload_n hx hb dX2_onPile_53 rfl (lv_at hl 3 rfl) ?_
    obtain ⟨u54, hu54⟩ : ∃ u, pX2_turnPile g pf pg pn x2 x3 = u := ⟨_, rfl⟩
    have hM := kX2_turnPile l D cB cI ad g mem loc pf pg pn t fm fn z key ld x2 x3
    rw [hu54] at hM
    refine m_VA X V (w1 := (wM cB cI ad u54.2.1 mem loc u54.2.2.1 u54.2.2.2 pn t fm fn z key ld)) (rest := []) (st1 := [.int u54.1]) hM okX2_turnPile gm_313 gm_670 gm_312 ⟨⟨rfl, rfl⟩, ⟨by decide, by decide⟩, Nat.zero_le _, Nat.zero_le _⟩ rfl rfl (wM_fst _ _ _ _ _ _ _ _ _ _ _ _ _ _ _) (wM_fst _ _ _ _ _ _ _ _ _ _ _ _ _ _ _) rfl hl.1 (Nat.le_of_ble_eq_true rfl) dX2_onPile_54 rfl rfl (fun H locs V => ?_)
    have e9 : pX2_onPile g pf pg pn x1 x2 x3 = (u54.1, u54.2.1, u54.2.2.1, u54.2.2.2, pn) := by rw [pX2_onPile, if_neg w_1_80, if_neg w_1_81, if_neg w_1_82, if_pos w_1_83, hu54, mLet_eq]
    exact m_iret X hr hk V (by rw [e9]) (by rw [e9]) dX2_onPile_57
  have o_0 := lv_neT w_1_80 (a := 80) rfl
  have o_1 := lv_neT w_1_81 (a := 81) rfl
  have o_2 := lv_neT w_1_82 (a := 82) rfl
  have o_3 := lv_neT w_1_83 (a := 83) rfl
  refine m_tabD (x := x1) (tgt := 58) hx hb dX2_onPile_1 (by decide) (by decide) (fun off h1 h2 h3 => by omega) ?_
  refine lv_aload_n hx hb dX2_onPile_58 rfl (lv_at hl 0 rfl) ?_
  refine lv_iload_n hx hb dX2_onPile_59 rfl (lv_at hl 2 rfl) ?_
  obtain ⟨u60, hu60⟩ : ∃ u, pX2_repeatPile g pf pn x2 = u := ⟨_, rfl⟩
  have hM := kX2_repeatPile l D cB cI ad g mem loc pf pg pn t fm fn z key ld x2
  rw [hu60] at hM
  refine m_VA X V (w1 := (wM cB cI ad u60.2.1 mem loc u60.2.2.1 pg u60.2.2.2 t fm fn z key ld)) (rest := []) (st1 := [.int u60.1]) hM okX2_repeatPile gm_321 gm_672 gm_320 ⟨⟨rfl, rfl⟩, ⟨by decide, by decide⟩, Nat.zero_le _, Nat.zero_le _⟩ rfl rfl (wM_fst _ _ _ _ _ _ _ _ _ _ _ _ _ _ _) (wM_fst _ _ _ _ _ _ _ _ _ _ _ _ _ _ _) rfl hl.1 (Nat.le_of_ble_eq_true rfl) dX2_onPile_60 rfl rfl (fun H locs V => ?_)
  have e9 : pX2_onPile g pf pg pn x1 x2 x3 = (u60.1, u60.2.1, u60.2.2.1, pg, u60.2.2.2) := by rw [pX2_onPile, if_neg w_1_80, if_neg w_1_81, if_neg w_1_82, if_neg w_1_83, hu60, mLet_eq]
  exact m_iret X hr hk V (by rw [e9]) (by rw [e9]) dX2_onPile_63
def pX2_zeroBlock (g : Nat → Int32) (mem : Nat → Int32) (x1 : Int32) (x2 : Int32) : Int32 × (Nat → Int32) × (Nat → Int32) := (if x1 = 0 then (0, g, mem) else (mLet (pX2_mayStore g x2 x1) (fun (u7 : Int32 × (Nat → Int32)) => (if u7.1 = 0 then (0, u7.2, mem) else (0, u7.2, (pX0_zero mem 1024 x2 x1))))))
theorem okX2_zeroBlock : mOk yX2_zeroBlock cX2_zeroBlock 3 (some .int) 2 := ⟨gm_377, gm_4, by decide +kernel⟩
set_option maxRecDepth 100000 in
set_option maxHeartbeats 4000000 in
theorem kX2_zeroBlock (l : Launch) (D : va_G) (cB cI : ClassId) (ad : Nat → Nat) (g : Nat → Int32) (mem : Nat → Int32) (loc : Nat → Int32) (pf : Nat → Int32) (pg : Nat → Int32) (pn : Int32) (t : Nat → Int32) (fm : Nat → Int32) (fn : Nat → Int32) (z : Nat → Int32) (key : Nat → Int32) (ld : Nat → Int32) (x1 : Int32) (x2 : Int32) : mM l D cB cI yX2_zeroBlock cX2_zeroBlock 3 (some .int) { frames := 2, cells := 0, slots := 0, locals := 45 } [.ref (ad 0), .int x1, .int x2] (wM cB cI ad g mem loc pf pg pn t fm fn z key ld) (some ((pX2_zeroBlock g mem x1 x2).1)) (wM cB cI ad ((pX2_zeroBlock g mem x1 x2).2.1) ((pX2_zeroBlock g mem x1 x2).2.2) loc pf pg pn t fm fn z key ld) := by
  refine m_start (by decide +kernel) (Nat.le_of_ble_eq_true rfl) ?_
  intro p e s m below meth c A ls X hr hk V hl
  have X : mCx p s m _ c cX2_zeroBlock 3 RX2 D cB cI := X
  have hx := X.1.1
  have hb := X.1.2.1
  have hl : lv_has ls 3 [(0, .ref (ad 0)), (1, .int x1), (2, .int x2)] := hl
  refine lv_iload_n hx hb dX2_zeroBlock_0 rfl (lv_at hl 1 rfl) ?_
  refine lv_if_eq (tgt := 22) hx hb dX2_zeroBlock_1 (by decide) (fun c_1 => ?_) (fun c_1 => ?_)
  · refine lv_iconst (v := 0) hx hb dX2_zeroBlock_22 (by decide) ?_
    have e9 : pX2_zeroBlock g mem x1 x2 = (0, g, mem) := by rw [pX2_zeroBlock, if_pos c_1]
    exact m_iret X hr hk V (by rw [e9]) (by rw [e9]) dX2_zeroBlock_23
  · refine lv_aload_n hx hb dX2_zeroBlock_4 rfl (lv_at hl 0 rfl) ?_
    refine lv_iload_n hx hb dX2_zeroBlock_5 rfl (lv_at hl 2 rfl) ?_
    refine lv_iload_n hx hb dX2_zeroBlock_6 rfl (lv_at hl 1 rfl) ?_
    obtain ⟨u7, hu7⟩ : ∃ u, pX2_mayStore g x2 x1 = u := ⟨_, rfl⟩
    have hM := kX2_mayStore l D cB cI ad g mem loc pf pg pn t fm fn z key ld x2 x1
    rw [hu7] at hM
    refine m_VA X V (w1 := (wM cB cI ad u7.2 mem loc pf pg pn t fm fn z key ld)) (rest := []) (st1 := [.int u7.1]) hM okX2_mayStore gm_297 gm_664 gm_296 ⟨⟨rfl, rfl⟩, ⟨by decide, by decide⟩, Nat.zero_le _, Nat.zero_le _⟩ rfl rfl (wM_fst _ _ _ _ _ _ _ _ _ _ _ _ _ _ _) (wM_fst _ _ _ _ _ _ _ _ _ _ _ _ _ _ _) rfl hl.1 (Nat.le_of_ble_eq_true rfl) dX2_zeroBlock_7 rfl rfl (fun H locs V => ?_)
    refine lv_if_eq (tgt := 22) hx hb dX2_zeroBlock_10 (by decide) (fun c_10 => ?_) (fun c_10 => ?_)
    · refine lv_iconst (v := 0) hx hb dX2_zeroBlock_22 (by decide) ?_
      have e9 : pX2_zeroBlock g mem x1 x2 = (0, u7.2, mem) := by rw [pX2_zeroBlock, if_neg c_1, hu7, mLet_eq, if_pos c_10]
      exact m_iret X hr hk V (by rw [e9]) (by rw [e9]) dX2_zeroBlock_23
    · refine lv_aload_n hx hb dX2_zeroBlock_13 rfl (lv_at hl 0 rfl) ?_
      refine m_get X V 2 0 0 rfl gin_2 rfl (by decide) rfl gm_91 (v := .ref (ad 1)) rfl dX2_zeroBlock_14 ?_
      refine lv_iload_n hx hb dX2_zeroBlock_17 rfl (lv_at hl 2 rfl) ?_
      refine lv_iload_n hx hb dX2_zeroBlock_18 rfl (lv_at hl 1 rfl) ?_
      refine m_VN X V (ws' := (wM cB cI ad u7.2 (pX0_zero mem 1024 x2 x1) loc pf pg pn t fm fn z key ld)) (rest := []) (st1 := []) (kX0_zero l D cB cI (ad 1) (ad 2) 1024 mem x2 x1 (by decide)) okX0_zero gm_165 gm_637 nm_48 [1, 2] ⟨⟨rfl, rfl⟩, ⟨by decide, by decide⟩, Nat.zero_le _, Nat.zero_le _⟩ rfl rfl rfl rfl (wB_fst _ _ _ _ _ _) (wB_fst _ _ _ _ _ _) rfl rfl hl.1 (Nat.le_of_ble_eq_true rfl) dX2_zeroBlock_19 rfl rfl (fun H locs V => ?_)
      refine lv_iconst (v := 0) hx hb dX2_zeroBlock_22 (by decide) ?_
      have e9 : pX2_zeroBlock g mem x1 x2 = (0, u7.2, (pX0_zero mem 1024 x2 x1)) := by rw [pX2_zeroBlock, if_neg c_1, hu7, mLet_eq, if_neg c_10]
      exact m_iret X hr hk V (by rw [e9]) (by rw [e9]) dX2_zeroBlock_23
def pX2_copyBlock (g : Nat → Int32) (mem : Nat → Int32) (x1 : Int32) (x2 : Int32) (x3 : Int32) : Int32 × (Nat → Int32) × (Nat → Int32) := (if x1 = 0 then (0, g, mem) else (if (pX0_holds 1024 x2 x1) = 0 then (0, (upd g 5 1), mem) else (mLet (pX2_mayStore g x3 x1) (fun (u29 : Int32 × (Nat → Int32)) => (if u29.1 = 0 then (0, u29.2, mem) else (0, u29.2, (pX0_move mem 1024 x2 x3 x1)))))))
theorem okX2_copyBlock : mOk yX2_copyBlock cX2_copyBlock 4 (some .int) 3 := ⟨gm_380, gm_4, by decide +kernel⟩
set_option maxRecDepth 100000 in
set_option maxHeartbeats 4000000 in
theorem kX2_copyBlock (l : Launch) (D : va_G) (cB cI : ClassId) (ad : Nat → Nat) (g : Nat → Int32) (mem : Nat → Int32) (loc : Nat → Int32) (pf : Nat → Int32) (pg : Nat → Int32) (pn : Int32) (t : Nat → Int32) (fm : Nat → Int32) (fn : Nat → Int32) (z : Nat → Int32) (key : Nat → Int32) (ld : Nat → Int32) (x1 : Int32) (x2 : Int32) (x3 : Int32) (hf : sb_Fit mem) : mM l D cB cI yX2_copyBlock cX2_copyBlock 4 (some .int) { frames := 2, cells := 0, slots := 0, locals := 83 } [.ref (ad 0), .int x1, .int x2, .int x3] (wM cB cI ad g mem loc pf pg pn t fm fn z key ld) (some ((pX2_copyBlock g mem x1 x2 x3).1)) (wM cB cI ad ((pX2_copyBlock g mem x1 x2 x3).2.1) ((pX2_copyBlock g mem x1 x2 x3).2.2) loc pf pg pn t fm fn z key ld) := by
  refine m_start (by decide +kernel) (Nat.le_of_ble_eq_true rfl) ?_
  intro p e s m below meth c A ls X hr hk V hl
  have X : mCx p s m _ c cX2_copyBlock 4 RX2 D cB cI := X
  have hx := X.1.1
  have hb := X.1.2.1
  have hl : lv_has ls 4 [(0, .ref (ad 0)), (1, .int x1), (2, .int x2), (3, .int x3)] := hl
  refine lv_iload_n hx hb dX2_copyBlock_0 rfl (lv_at hl 1 rfl) ?_
  refine lv_if_ne (tgt := 6) hx hb dX2_copyBlock_1 (by decide) (fun c_1 => ?_) (fun c_1 => ?_)
  · refine lv_aload_n hx hb dX2_copyBlock_6 rfl (lv_at hl 0 rfl) ?_
    refine m_get X V 2 0 0 rfl gin_2 rfl (by decide) rfl gm_91 (v := .ref (ad 1)) rfl dX2_copyBlock_7 ?_
    refine lv_iload_n hx hb dX2_copyBlock_10 rfl (lv_at hl 2 rfl) ?_
    refine lv_iload_n hx hb dX2_copyBlock_11 rfl (lv_at hl 1 rfl) ?_
    refine m_VN X V (ws' := (wM cB cI ad g mem loc pf pg pn t fm fn z key ld)) (rest := []) (st1 := [.int (pX0_holds 1024 x2 x1)]) (kX0_holds l D cB cI (ad 1) (ad 2) 1024 mem x2 x1 (by decide)) okX0_holds gm_132 gm_630 nm_27 [1, 2] ⟨⟨rfl, rfl⟩, ⟨by decide, by decide⟩, Nat.zero_le _, Nat.zero_le _⟩ rfl rfl rfl rfl (wB_fst _ _ _ _ _ _) (wB_fst _ _ _ _ _ _) rfl rfl hl.1 (Nat.le_of_ble_eq_true rfl) dX2_copyBlock_12 rfl rfl (fun H locs V => ?_)
    refine lv_if_ne (tgt := 26) hx hb dX2_copyBlock_15 (by decide) (fun c_15 => ?_) (fun c_15 => ?_)
    · refine lv_aload_n hx hb dX2_copyBlock_26 rfl (lv_at hl 0 rfl) ?_
      refine lv_iload_n hx hb dX2_copyBlock_27 rfl (lv_at hl 3 rfl) ?_
      refine lv_iload_n hx hb dX2_copyBlock_28 rfl (lv_at hl 1 rfl) ?_
      obtain ⟨u29, hu29⟩ : ∃ u, pX2_mayStore g x3 x1 = u := ⟨_, rfl⟩
      have hM := kX2_mayStore l D cB cI ad g mem loc pf pg pn t fm fn z key ld x3 x1
      rw [hu29] at hM
      refine m_VA X V (w1 := (wM cB cI ad u29.2 mem loc pf pg pn t fm fn z key ld)) (rest := []) (st1 := [.int u29.1]) hM okX2_mayStore gm_297 gm_664 gm_296 ⟨⟨rfl, rfl⟩, ⟨by decide, by decide⟩, Nat.zero_le _, Nat.zero_le _⟩ rfl rfl (wM_fst _ _ _ _ _ _ _ _ _ _ _ _ _ _ _) (wM_fst _ _ _ _ _ _ _ _ _ _ _ _ _ _ _) rfl hl.1 (Nat.le_of_ble_eq_true rfl) dX2_copyBlock_29 rfl rfl (fun H locs V => ?_)
      refine lv_if_eq (tgt := 45) hx hb dX2_copyBlock_32 (by decide) (fun c_32 => ?_) (fun c_32 => ?_)
      · refine lv_iconst (v := 0) hx hb dX2_copyBlock_45 (by decide) ?_
        have e9 : pX2_copyBlock g mem x1 x2 x3 = (0, u29.2, mem) := by rw [pX2_copyBlock, if_neg c_1, if_neg c_15, hu29, mLet_eq, if_pos c_32]
        exact m_iret X hr hk V (by rw [e9]) (by rw [e9]) dX2_copyBlock_46
      · refine lv_aload_n hx hb dX2_copyBlock_35 rfl (lv_at hl 0 rfl) ?_
        refine m_get X V 2 0 0 rfl gin_2 rfl (by decide) rfl gm_91 (v := .ref (ad 1)) rfl dX2_copyBlock_36 ?_
        refine lv_iload_n hx hb dX2_copyBlock_39 rfl (lv_at hl 2 rfl) ?_
        refine lv_iload_n hx hb dX2_copyBlock_40 rfl (lv_at hl 3 rfl) ?_
        refine lv_iload_n hx hb dX2_copyBlock_41 rfl (lv_at hl 1 rfl) ?_
        refine m_VN X V (ws' := (wM cB cI ad u29.2 (pX0_move mem 1024 x2 x3 x1) loc pf pg pn t fm fn z key ld)) (rest := []) (st1 := []) (kX0_move l D cB cI (ad 1) (ad 2) 1024 mem x2 x3 x1 (by decide) hf) okX0_move gm_381 gm_692 nm_49 [1, 2] ⟨⟨rfl, rfl⟩, ⟨by decide, by decide⟩, Nat.zero_le _, Nat.zero_le _⟩ rfl rfl rfl rfl (wB_fst _ _ _ _ _ _) (wB_fst _ _ _ _ _ _) rfl rfl hl.1 (Nat.le_of_ble_eq_true rfl) dX2_copyBlock_42 rfl rfl (fun H locs V => ?_)
        refine lv_iconst (v := 0) hx hb dX2_copyBlock_45 (by decide) ?_
        have e9 : pX2_copyBlock g mem x1 x2 x3 = (0, u29.2, (pX0_move mem 1024 x2 x3 x1)) := by rw [pX2_copyBlock, if_neg c_1, if_neg c_15, hu29, mLet_eq, if_neg c_32]
        exact m_iret X hr hk V (by rw [e9]) (by rw [e9]) dX2_copyBlock_46
    · refine lv_aload_n hx hb dX2_copyBlock_18 rfl (lv_at hl 0 rfl) ?_
      refine lv_iconst (v := 1) hx hb dX2_copyBlock_19 (by decide) ?_
      refine m_put X V (ws' := (wM cB cI ad (upd g 5 1) mem loc pf pg pn t fm fn z key ld)) 2 0 11 rfl gin_2 tyX2_ok nmX2 rfl (by decide) rfl gm_102 rfl rfl rfl (Nat.le_of_ble_eq_true rfl) dX2_copyBlock_20 rfl (fun H locs V => ?_)
      refine lv_goto (tgt := 45) hx hb dX2_copyBlock_23 (by decide) ?_
      refine lv_iconst (v := 0) hx hb dX2_copyBlock_45 (by decide) ?_
      have e9 : pX2_copyBlock g mem x1 x2 x3 = (0, (upd g 5 1), mem) := by rw [pX2_copyBlock, if_neg c_1, if_pos c_15]
      exact m_iret X hr hk V (by rw [e9]) (by rw [e9]) dX2_copyBlock_46
  · refine lv_iconst (v := 0) hx hb dX2_copyBlock_4 (by decide) ?_
    have e9 : pX2_copyBlock g mem x1 x2 x3 = (0, g, mem) := by rw [pX2_copyBlock, if_pos c_1]
    exact m_iret X hr hk V (by rw [e9]) (by rw [e9]) dX2_copyBlock_5
def pX2_searchTable (g : Nat → Int32) (mem : Nat → Int32) (z : Nat → Int32) (key : Nat → Int32) (ld : Nat → Int32) (x1 : Int32) : Int32 × (Nat → Int32) × (Nat → Int32) × (Nat → Int32) := (mLet (pX5_lookIn z (pX2_load ld 2) (pX2_load ld 3) (pX2_load ld 4) (pX2_load ld 5)) (fun (u24 : (Nat → Int32)) => (mLet (pX5_lookFor u24 mem key (pX2_load ld 0) (pX2_load ld 1) (pX2_load ld 6)) (fun (u47 : (Nat → Int32) × (Nat → Int32)) => (if x1 = 336 then (mLet (pX5_oneByOne u47.1 mem u47.2) (fun (u61 : Int32 × (Nat → Int32)) => (u61.1, (upd g 5 (u61.2 6)), u61.2, u47.2))) else (mLet (pX5_byHalves u47.1 mem u47.2) (fun (u71 : Int32 × (Nat → Int32)) => (u71.1, (upd g 5 (u71.2 6)), u71.2, u47.2))))))))
theorem okX2_searchTable : mOk yX2_searchTable cX2_searchTable 3 (some .int) 1 := ⟨gm_332, gm_4, by decide +kernel⟩
set_option maxRecDepth 100000 in
set_option maxHeartbeats 4000000 in
theorem kX2_searchTable (l : Launch) (D : va_G) (cB cI : ClassId) (ad : Nat → Nat) (g : Nat → Int32) (mem : Nat → Int32) (loc : Nat → Int32) (pf : Nat → Int32) (pg : Nat → Int32) (pn : Int32) (t : Nat → Int32) (fm : Nat → Int32) (fn : Nat → Int32) (z : Nat → Int32) (key : Nat → Int32) (ld : Nat → Int32) (x1 : Int32) : mM l D cB cI yX2_searchTable cX2_searchTable 3 (some .int) { frames := 3, cells := 0, slots := 0, locals := 72 } [.ref (ad 0), .int x1] (wM cB cI ad g mem loc pf pg pn t fm fn z key ld) (some ((pX2_searchTable g mem z key ld x1).1)) (wM cB cI ad ((pX2_searchTable g mem z key ld x1).2.1) mem loc pf pg pn t fm fn ((pX2_searchTable g mem z key ld x1).2.2.1) ((pX2_searchTable g mem z key ld x1).2.2.2) ld) := by
  refine m_start (by decide +kernel) (Nat.le_of_ble_eq_true rfl) ?_
  intro p e s m below meth c A ls X hr hk V hl
  have X : mCx p s m _ c cX2_searchTable 3 RX2 D cB cI := X
  have hx := X.1.1
  have hb := X.1.2.1
  have hl : lv_has ls 3 [(0, .ref (ad 0)), (1, .int x1)] := hl
  refine lv_aload_n hx hb dX2_searchTable_0 rfl (lv_at hl 0 rfl) ?_
  refine m_get X V 2 0 4 rfl gin_2 rfl (by decide) rfl gm_95 (v := .ref (ad 11)) rfl dX2_searchTable_1 ?_
  refine lv_aload_n hx hb dX2_searchTable_4 rfl (lv_at hl 0 rfl) ?_
  refine lv_iconst (v := 2) hx hb dX2_searchTable_5 (by decide) ?_
  refine m_VA X V (w1 := (wM cB cI ad g mem loc pf pg pn t fm fn z key ld)) (rest := [.ref (ad 11)]) (st1 := [.int (pX2_load ld 2), .ref (ad 11)]) (kX2_load l D cB cI ad g mem loc pf pg pn t fm fn z key ld 2) okX2_load gm_253 gm_657 gm_252 ⟨⟨rfl, rfl⟩, ⟨by decide, by decide⟩, Nat.zero_le _, Nat.zero_le _⟩ rfl rfl (wM_fst _ _ _ _ _ _ _ _ _ _ _ _ _ _ _) (wM_fst _ _ _ _ _ _ _ _ _ _ _ _ _ _ _) rfl hl.1 (Nat.le_of_ble_eq_true rfl) dX2_searchTable_6 rfl rfl (fun H locs V => ?_)
  refine lv_aload_n hx hb dX2_searchTable_9 rfl (lv_at hl 0 rfl) ?_
  refine lv_iconst (v := 3) hx hb dX2_searchTable_10 (by decide) ?_
  refine m_VA X V (w1 := (wM cB cI ad g mem loc pf pg pn t fm fn z key ld)) (rest := [.int (pX2_load ld 2), .ref (ad 11)]) (st1 := [.int (pX2_load ld 3), .int (pX2_load ld 2), .ref (ad 11)]) (kX2_load l D cB cI ad g mem loc pf pg pn t fm fn z key ld 3) okX2_load gm_253 gm_657 gm_252 ⟨⟨rfl, rfl⟩, ⟨by decide, by decide⟩, Nat.zero_le _, Nat.zero_le _⟩ rfl rfl (wM_fst _ _ _ _ _ _ _ _ _ _ _ _ _ _ _) (wM_fst _ _ _ _ _ _ _ _ _ _ _ _ _ _ _) rfl hl.1 (Nat.le_of_ble_eq_true rfl) dX2_searchTable_11 rfl rfl (fun H locs V => ?_)
  refine lv_aload_n hx hb dX2_searchTable_14 rfl (lv_at hl 0 rfl) ?_
  refine lv_iconst (v := 4) hx hb dX2_searchTable_15 (by decide) ?_
  refine m_VA X V (w1 := (wM cB cI ad g mem loc pf pg pn t fm fn z key ld)) (rest := [.int (pX2_load ld 3), .int (pX2_load ld 2), .ref (ad 11)]) (st1 := [.int (pX2_load ld 4), .int (pX2_load ld 3), .int (pX2_load ld 2), .ref (ad 11)]) (kX2_load l D cB cI ad g mem loc pf pg pn t fm fn z key ld 4) okX2_load gm_253 gm_657 gm_252 ⟨⟨rfl, rfl⟩, ⟨by decide, by decide⟩, Nat.zero_le _, Nat.zero_le _⟩ rfl rfl (wM_fst _ _ _ _ _ _ _ _ _ _ _ _ _ _ _) (wM_fst _ _ _ _ _ _ _ _ _ _ _ _ _ _ _) rfl hl.1 (Nat.le_of_ble_eq_true rfl) dX2_searchTable_16 rfl rfl (fun H locs V => ?_)
  refine lv_aload_n hx hb dX2_searchTable_19 rfl (lv_at hl 0 rfl) ?_
  refine lv_iconst (v := 5) hx hb dX2_searchTable_20 (by decide) ?_
  refine m_VA X V (w1 := (wM cB cI ad g mem loc pf pg pn t fm fn z key ld)) (rest := [.int (pX2_load ld 4), .int (pX2_load ld 3), .int (pX2_load ld 2), .ref (ad 11)]) (st1 := [.int (pX2_load ld 5), .int (pX2_load ld 4), .int (pX2_load ld 3), .int (pX2_load ld 2), .ref (ad 11)]) (kX2_load l D cB cI ad g mem loc pf pg pn t fm fn z key ld 5) okX2_load gm_253 gm_657 gm_252 ⟨⟨rfl, rfl⟩, ⟨by decide, by decide⟩, Nat.zero_le _, Nat.zero_le _⟩ rfl rfl (wM_fst _ _ _ _ _ _ _ _ _ _ _ _ _ _ _) (wM_fst _ _ _ _ _ _ _ _ _ _ _ _ _ _ _) rfl hl.1 (Nat.le_of_ble_eq_true rfl) dX2_searchTable_21 rfl rfl (fun H locs V => ?_)
  obtain ⟨u24, hu24⟩ : ∃ u, pX5_lookIn z (pX2_load ld 2) (pX2_load ld 3) (pX2_load ld 4) (pX2_load ld 5) = u := ⟨_, rfl⟩
  have hM := kX5_lookIn l D cB cI (ad 11) (ad 1) (ad 2) (ad 12) (ad 13) z mem key (pX2_load ld 2) (pX2_load ld 3) (pX2_load ld 4) (pX2_load ld 5)
  rw [hu24] at hM
  refine m_VN X V (ws' := (wM cB cI ad g mem loc pf pg pn t fm fn u24 key ld)) (rest := []) (st1 := []) hM okX5_lookIn gm_333 gm_675 nm_40 [11, 1, 2, 12, 13] ⟨⟨rfl, rfl⟩, ⟨by decide, by decide⟩, Nat.zero_le _, Nat.zero_le _⟩ rfl rfl rfl rfl (wZ_fst _ _ _ _ _ _ _ _ _ _) (wZ_fst _ _ _ _ _ _ _ _ _ _) rfl rfl hl.1 (Nat.le_of_ble_eq_true rfl) dX2_searchTable_24 rfl rfl (fun H locs V => ?_)
  refine lv_aload_n hx hb dX2_searchTable_27 rfl (lv_at hl 0 rfl) ?_
  refine m_get X V 2 0 4 rfl gin_2 rfl (by decide) rfl gm_95 (v := .ref (ad 11)) rfl dX2_searchTable_28 ?_
  refine lv_aload_n hx hb dX2_searchTable_31 rfl (lv_at hl 0 rfl) ?_
  refine lv_iconst (v := 0) hx hb dX2_searchTable_32 (by decide) ?_
  refine m_VA X V (w1 := (wM cB cI ad g mem loc pf pg pn t fm fn u24 key ld)) (rest := [.ref (ad 11)]) (st1 := [.int (pX2_load ld 0), .ref (ad 11)]) (kX2_load l D cB cI ad g mem loc pf pg pn t fm fn u24 key ld 0) okX2_load gm_253 gm_657 gm_252 ⟨⟨rfl, rfl⟩, ⟨by decide, by decide⟩, Nat.zero_le _, Nat.zero_le _⟩ rfl rfl (wM_fst _ _ _ _ _ _ _ _ _ _ _ _ _ _ _) (wM_fst _ _ _ _ _ _ _ _ _ _ _ _ _ _ _) rfl hl.1 (Nat.le_of_ble_eq_true rfl) dX2_searchTable_33 rfl rfl (fun H locs V => ?_)
  refine lv_aload_n hx hb dX2_searchTable_36 rfl (lv_at hl 0 rfl) ?_
  refine lv_iconst (v := 1) hx hb dX2_searchTable_37 (by decide) ?_
  refine m_VA X V (w1 := (wM cB cI ad g mem loc pf pg pn t fm fn u24 key ld)) (rest := [.int (pX2_load ld 0), .ref (ad 11)]) (st1 := [.int (pX2_load ld 1), .int (pX2_load ld 0), .ref (ad 11)]) (kX2_load l D cB cI ad g mem loc pf pg pn t fm fn u24 key ld 1) okX2_load gm_253 gm_657 gm_252 ⟨⟨rfl, rfl⟩, ⟨by decide, by decide⟩, Nat.zero_le _, Nat.zero_le _⟩ rfl rfl (wM_fst _ _ _ _ _ _ _ _ _ _ _ _ _ _ _) (wM_fst _ _ _ _ _ _ _ _ _ _ _ _ _ _ _) rfl hl.1 (Nat.le_of_ble_eq_true rfl) dX2_searchTable_38 rfl rfl (fun H locs V => ?_)
  refine lv_aload_n hx hb dX2_searchTable_41 rfl (lv_at hl 0 rfl) ?_
  refine lv_bipush (v := 6) hx hb dX2_searchTable_42 (by decide) ?_
  refine m_VA X V (w1 := (wM cB cI ad g mem loc pf pg pn t fm fn u24 key ld)) (rest := [.int (pX2_load ld 1), .int (pX2_load ld 0), .ref (ad 11)]) (st1 := [.int (pX2_load ld 6), .int (pX2_load ld 1), .int (pX2_load ld 0), .ref (ad 11)]) (kX2_load l D cB cI ad g mem loc pf pg pn t fm fn u24 key ld 6) okX2_load gm_253 gm_657 gm_252 ⟨⟨rfl, rfl⟩, ⟨by decide, by decide⟩, Nat.zero_le _, Nat.zero_le _⟩ rfl rfl (wM_fst _ _ _ _ _ _ _ _ _ _ _ _ _ _ _) (wM_fst _ _ _ _ _ _ _ _ _ _ _ _ _ _ _) rfl hl.1 (Nat.le_of_ble_eq_true rfl) dX2_searchTable_44 rfl rfl (fun H locs V => ?_)
  obtain ⟨u47, hu47⟩ : ∃ u, pX5_lookFor u24 mem key (pX2_load ld 0) (pX2_load ld 1) (pX2_load ld 6) = u := ⟨_, rfl⟩
  have hM := kX5_lookFor l D cB cI (ad 11) (ad 1) (ad 2) (ad 12) (ad 13) u24 mem key (pX2_load ld 0) (pX2_load ld 1) (pX2_load ld 6)
  rw [hu47] at hM
  refine m_VN X V (ws' := (wM cB cI ad g mem loc pf pg pn t fm fn u47.1 u47.2 ld)) (rest := []) (st1 := []) hM okX5_lookFor gm_336 gm_676 nm_41 [11, 1, 2, 12, 13] ⟨⟨rfl, rfl⟩, ⟨by decide, by decide⟩, Nat.zero_le _, Nat.zero_le _⟩ rfl rfl rfl rfl (wZ_fst _ _ _ _ _ _ _ _ _ _) (wZ_fst _ _ _ _ _ _ _ _ _ _) rfl rfl hl.1 (Nat.le_of_ble_eq_true rfl) dX2_searchTable_47 rfl rfl (fun H locs V => ?_)
  refine lv_iload_n hx hb dX2_searchTable_50 rfl (lv_at hl 1 rfl) ?_
  refine lv_sipush (v := 336) hx hb dX2_searchTable_51 (by decide) ?_
  refine lv_icmp_ne (tgt := 67) hx hb dX2_searchTable_54 (by decide) (fun c_54 => ?_) (fun c_54 => ?_)
  · refine lv_aload_n hx hb dX2_searchTable_67 rfl (lv_at hl 0 rfl) ?_
    refine m_get X V 2 0 4 rfl gin_2 rfl (by decide) rfl gm_95 (v := .ref (ad 11)) rfl dX2_searchTable_68 ?_
    obtain ⟨u71, hu71⟩ : ∃ u, pX5_byHalves u47.1 mem u47.2 = u := ⟨_, rfl⟩
    have hM := kX5_byHalves l D cB cI (ad 11) (ad 1) (ad 2) (ad 12) (ad 13) u47.1 mem u47.2
    rw [hu71] at hM
    refine m_VN X V (ws' := (wM cB cI ad g mem loc pf pg pn t fm fn u71.2 u47.2 ld)) (rest := []) (st1 := [.int u71.1]) hM okX5_byHalves gm_373 gm_689 nm_47 [11, 1, 2, 12, 13] ⟨⟨rfl, rfl⟩, ⟨by decide, by decide⟩, Nat.zero_le _, Nat.zero_le _⟩ rfl rfl rfl rfl (wZ_fst _ _ _ _ _ _ _ _ _ _) (wZ_fst _ _ _ _ _ _ _ _ _ _) rfl rfl hl.1 (Nat.le_of_ble_eq_true rfl) dX2_searchTable_71 rfl rfl (fun H locs V => ?_)
    refine lv_istore_n (lv' := [(2, .int u71.1), (0, .ref (ad 0)), (1, .int x1)]) hx hb dX2_searchTable_74 rfl hl (by decide) rfl (fun ls hl => ?_)
    refine lv_aload_n hx hb dX2_searchTable_75 rfl (lv_at hl 1 rfl) ?_
    refine lv_aload_n hx hb dX2_searchTable_76 rfl (lv_at hl 1 rfl) ?_
    refine m_get X V 2 0 4 rfl gin_2 rfl (by decide) rfl gm_95 (v := .ref (ad 11)) rfl dX2_searchTable_77 ?_
    refine m_getN X V 4 11 8 rfl gin_4 rfl (by decide) rfl nf_0 (v := .int (u71.2 6)) rfl dX2_searchTable_80 ?_
    refine m_put X V (ws' := (wM cB cI ad (upd g 5 (u71.2 6)) mem loc pf pg pn t fm fn u71.2 u47.2 ld)) 2 0 11 rfl gin_2 tyX2_ok nmX2 rfl (by decide) rfl gm_102 rfl rfl rfl (Nat.le_of_ble_eq_true rfl) dX2_searchTable_83 rfl (fun H locs V => ?_)
    refine lv_iload_n hx hb dX2_searchTable_86 rfl (lv_at hl 0 rfl) ?_
    have e9 : pX2_searchTable g mem z key ld x1 = (u71.1, (upd g 5 (u71.2 6)), u71.2, u47.2) := by rw [pX2_searchTable, hu24, mLet_eq, hu47, mLet_eq, if_neg c_54, hu71, mLet_eq]
    exact m_iret X hr hk V (by rw [e9]) (by rw [e9]) dX2_searchTable_87
  · refine lv_aload_n hx hb dX2_searchTable_57 rfl (lv_at hl 0 rfl) ?_
    refine m_get X V 2 0 4 rfl gin_2 rfl (by decide) rfl gm_95 (v := .ref (ad 11)) rfl dX2_searchTable_58 ?_
    obtain ⟨u61, hu61⟩ : ∃ u, pX5_oneByOne u47.1 mem u47.2 = u := ⟨_, rfl⟩
    have hM := kX5_oneByOne l D cB cI (ad 11) (ad 1) (ad 2) (ad 12) (ad 13) u47.1 mem u47.2
    rw [hu61] at hM
    refine m_VN X V (ws' := (wM cB cI ad g mem loc pf pg pn t fm fn u61.2 u47.2 ld)) (rest := []) (st1 := [.int u61.1]) hM okX5_oneByOne gm_347 gm_680 nm_46 [11, 1, 2, 12, 13] ⟨⟨rfl, rfl⟩, ⟨by decide, by decide⟩, Nat.zero_le _, Nat.zero_le _⟩ rfl rfl rfl rfl (wZ_fst _ _ _ _ _ _ _ _ _ _) (wZ_fst _ _ _ _ _ _ _ _ _ _) rfl rfl hl.1 (Nat.le_of_ble_eq_true rfl) dX2_searchTable_61 rfl rfl (fun H locs V => ?_)
    refine lv_goto (tgt := 74) hx hb dX2_searchTable_64 (by decide) ?_
    refine lv_istore_n (lv' := [(2, .int u61.1), (0, .ref (ad 0)), (1, .int x1)]) hx hb dX2_searchTable_74 rfl hl (by decide) rfl (fun ls hl => ?_)
    refine lv_aload_n hx hb dX2_searchTable_75 rfl (lv_at hl 1 rfl) ?_
    refine lv_aload_n hx hb dX2_searchTable_76 rfl (lv_at hl 1 rfl) ?_
    refine m_get X V 2 0 4 rfl gin_2 rfl (by decide) rfl gm_95 (v := .ref (ad 11)) rfl dX2_searchTable_77 ?_
    refine m_getN X V 4 11 8 rfl gin_4 rfl (by decide) rfl nf_0 (v := .int (u61.2 6)) rfl dX2_searchTable_80 ?_
    refine m_put X V (ws' := (wM cB cI ad (upd g 5 (u61.2 6)) mem loc pf pg pn t fm fn u61.2 u47.2 ld)) 2 0 11 rfl gin_2 tyX2_ok nmX2 rfl (by decide) rfl gm_102 rfl rfl rfl (Nat.le_of_ble_eq_true rfl) dX2_searchTable_83 rfl (fun H locs V => ?_)
    refine lv_iload_n hx hb dX2_searchTable_86 rfl (lv_at hl 0 rfl) ?_
    have e9 : pX2_searchTable g mem z key ld x1 = (u61.1, (upd g 5 (u61.2 6)), u61.2, u47.2) := by rw [pX2_searchTable, hu24, mLet_eq, hu47, mLet_eq, if_pos c_54, hu61, mLet_eq]
    exact m_iret X hr hk V (by rw [e9]) (by rw [e9]) dX2_searchTable_87
