def pX2_lowest (g : Nat → Int32) (x1 : Int32) : Int32 := (if (g 3) = 4 then (x1) else (if (g 3) = 2 then ((x1 &&& 65535)) else ((x1 &&& 255))))
theorem okX2_lowest : mOk yX2_lowest cX2_lowest 2 (some .int) 1 := ⟨gm_233, gm_4, by decide +kernel⟩
set_option maxRecDepth 100000 in
set_option maxHeartbeats 4000000 in
theorem kX2_lowest (l : Launch) (D : va_G) (cB cI : ClassId) (ad : Nat → Nat) (g : Nat → Int32) (mem : Nat → Int32) (loc : Nat → Int32) (pf : Nat → Int32) (pg : Nat → Int32) (pn : Int32) (t : Nat → Int32) (fm : Nat → Int32) (fn : Nat → Int32) (z : Nat → Int32) (key : Nat → Int32) (ld : Nat → Int32) (x1 : Int32) : mM l D cB cI yX2_lowest cX2_lowest 2 (some .int) { frames := 0, cells := 0, slots := 0, locals := 0 } [.ref (ad 0), .int x1] (wM cB cI ad g mem loc pf pg pn t fm fn z key ld) (some (pX2_lowest g x1)) (wM cB cI ad g mem loc pf pg pn t fm fn z key ld) := by
  refine m_start (by decide +kernel) (Nat.le_of_ble_eq_true rfl) ?_
  intro p e s m below meth c A ls X hr hk V hl
  have X : mCx p s m _ c cX2_lowest 2 RX2 D cB cI := X
  have hx := X.1.1
  have hb := X.1.2.1
  have hl : lv_has ls 2 [(0, .ref (ad 0)), (1, .int x1)] := hl
  refine lv_aload_n hx hb dX2_lowest_0 rfl (lv_at hl 0 rfl) ?_
  refine m_get X V 2 0 9 rfl gin_2 rfl (by decide) rfl gm_100 (v := .int (g 3)) rfl dX2_lowest_1 ?_
  refine lv_iconst (v := 4) hx hb dX2_lowest_4 (by decide) ?_
  refine lv_icmp_ne (tgt := 10) hx hb dX2_lowest_5 (by decide) (fun c_5 => ?_) (fun c_5 => ?_)
  · refine lv_aload_n hx hb dX2_lowest_10 rfl (lv_at hl 0 rfl) ?_
    refine m_get X V 2 0 9 rfl gin_2 rfl (by decide) rfl gm_100 (v := .int (g 3)) rfl dX2_lowest_11 ?_
    refine lv_iconst (v := 2) hx hb dX2_lowest_14 (by decide) ?_
    refine lv_icmp_ne (tgt := 25) hx hb dX2_lowest_15 (by decide) (fun c_15 => ?_) (fun c_15 => ?_)
    · refine lv_iload_n hx hb dX2_lowest_25 rfl (lv_at hl 1 rfl) ?_
      refine lv_sipush (v := 255) hx hb dX2_lowest_26 (by decide) ?_
      refine lv_iand hx hb dX2_lowest_29 ?_
      have e9 : pX2_lowest g x1 = ((x1 &&& 255)) := by rw [pX2_lowest, if_neg c_5, if_neg c_15]
      exact m_iret X hr hk V (by rw [e9]) rfl dX2_lowest_30
    · refine lv_iload_n hx hb dX2_lowest_18 rfl (lv_at hl 1 rfl) ?_
      refine lv_ldc hx hb X.1.2.2.2.1 (X.1.2.2.2.2 _ gm_234) dX2_lowest_19 ?_
      refine lv_iand hx hb dX2_lowest_21 ?_
      refine lv_goto (tgt := 30) hx hb dX2_lowest_22 (by decide) ?_
      have e9 : pX2_lowest g x1 = ((x1 &&& 65535)) := by rw [pX2_lowest, if_neg c_5, if_pos c_15]
      exact m_iret X hr hk V (by rw [e9]) rfl dX2_lowest_30
  · refine lv_iload_n hx hb dX2_lowest_8 rfl (lv_at hl 1 rfl) ?_
    have e9 : pX2_lowest g x1 = (x1) := by rw [pX2_lowest, if_pos c_5]
    exact m_iret X hr hk V (by rw [e9]) rfl dX2_lowest_9
def pX2_fetch (g : Nat → Int32) (mem : Nat → Int32) (x1 : Int32) (x2 : Int32) : Int32 × (Nat → Int32) := (if (pX0_holds 1024 x1 x2) = 0 then (0, (upd g 5 1)) else ((pX0_number mem 1024 x1 x2), g))
theorem okX2_fetch : mOk yX2_fetch cX2_fetch 3 (some .int) 2 := ⟨gm_237, gm_4, by decide +kernel⟩
set_option maxRecDepth 100000 in
set_option maxHeartbeats 4000000 in
theorem kX2_fetch (l : Launch) (D : va_G) (cB cI : ClassId) (ad : Nat → Nat) (g : Nat → Int32) (mem : Nat → Int32) (loc : Nat → Int32) (pf : Nat → Int32) (pg : Nat → Int32) (pn : Int32) (t : Nat → Int32) (fm : Nat → Int32) (fn : Nat → Int32) (z : Nat → Int32) (key : Nat → Int32) (ld : Nat → Int32) (x1 : Int32) (x2 : Int32) : mM l D cB cI yX2_fetch cX2_fetch 3 (some .int) { frames := 2, cells := 0, slots := 0, locals := 45 } [.ref (ad 0), .int x1, .int x2] (wM cB cI ad g mem loc pf pg pn t fm fn z key ld) (some ((pX2_fetch g mem x1 x2).1)) (wM cB cI ad ((pX2_fetch g mem x1 x2).2) mem loc pf pg pn t fm fn z key ld) := by
  refine m_start (by decide +kernel) (Nat.le_of_ble_eq_true rfl) ?_
  intro p e s m below meth c A ls X hr hk V hl
  have X : mCx p s m _ c cX2_fetch 3 RX2 D cB cI := X
  have hx := X.1.1
  have hb := X.1.2.1
  have hl : lv_has ls 3 [(0, .ref (ad 0)), (1, .int x1), (2, .int x2)] := hl
  refine lv_aload_n hx hb dX2_fetch_0 rfl (lv_at hl 0 rfl) ?_
  refine m_get X V 2 0 0 rfl gin_2 rfl (by decide) rfl gm_91 (v := .ref (ad 1)) rfl dX2_fetch_1 ?_
  refine lv_iload_n hx hb dX2_fetch_4 rfl (lv_at hl 1 rfl) ?_
  refine lv_iload_n hx hb dX2_fetch_5 rfl (lv_at hl 2 rfl) ?_
  refine m_VN X V (ws' := (wM cB cI ad g mem loc pf pg pn t fm fn z key ld)) (rest := []) (st1 := [.int (pX0_holds 1024 x1 x2)]) (kX0_holds l D cB cI (ad 1) (ad 2) 1024 mem x1 x2 (by decide)) okX0_holds gm_132 gm_630 nm_27 [1, 2] ⟨⟨rfl, rfl⟩, ⟨by decide, by decide⟩, Nat.zero_le _, Nat.zero_le _⟩ rfl rfl rfl rfl (wB_fst _ _ _ _ _ _) (wB_fst _ _ _ _ _ _) rfl rfl hl.1 (Nat.le_of_ble_eq_true rfl) dX2_fetch_6 rfl rfl (fun H locs V => ?_)
  refine lv_if_ne (tgt := 19) hx hb dX2_fetch_9 (by decide) (fun c_9 => ?_) (fun c_9 => ?_)
  · refine lv_aload_n hx hb dX2_fetch_19 rfl (lv_at hl 0 rfl) ?_
    refine m_get X V 2 0 0 rfl gin_2 rfl (by decide) rfl gm_91 (v := .ref (ad 1)) rfl dX2_fetch_20 ?_
    refine lv_iload_n hx hb dX2_fetch_23 rfl (lv_at hl 1 rfl) ?_
    refine lv_iload_n hx hb dX2_fetch_24 rfl (lv_at hl 2 rfl) ?_
    refine m_VN X V (ws' := (wM cB cI ad g mem loc pf pg pn t fm fn z key ld)) (rest := []) (st1 := [.int (pX0_number mem 1024 x1 x2)]) (kX0_number l D cB cI (ad 1) (ad 2) 1024 mem x1 x2 (by decide)) okX0_number gm_182 gm_641 nm_28 [1, 2] ⟨⟨rfl, rfl⟩, ⟨by decide, by decide⟩, Nat.zero_le _, Nat.zero_le _⟩ rfl rfl rfl rfl (wB_fst _ _ _ _ _ _) (wB_fst _ _ _ _ _ _) rfl rfl hl.1 (Nat.le_of_ble_eq_true rfl) dX2_fetch_25 rfl rfl (fun H locs V => ?_)
    have e9 : pX2_fetch g mem x1 x2 = ((pX0_number mem 1024 x1 x2), g) := by rw [pX2_fetch, if_neg c_9]
    exact m_iret X hr hk V (by rw [e9]) (by rw [e9]) dX2_fetch_28
  · refine lv_aload_n hx hb dX2_fetch_12 rfl (lv_at hl 0 rfl) ?_
    refine lv_iconst (v := 1) hx hb dX2_fetch_13 (by decide) ?_
    refine m_put X V (ws' := (wM cB cI ad (upd g 5 1) mem loc pf pg pn t fm fn z key ld)) 2 0 11 rfl gin_2 tyX2_ok nmX2 rfl (by decide) rfl gm_102 rfl rfl rfl (Nat.le_of_ble_eq_true rfl) dX2_fetch_14 rfl (fun H locs V => ?_)
    refine lv_iconst (v := 0) hx hb dX2_fetch_17 (by decide) ?_
    have e9 : pX2_fetch g mem x1 x2 = (0, (upd g 5 1)) := by rw [pX2_fetch, if_pos c_9]
    exact m_iret X hr hk V (by rw [e9]) (by rw [e9]) dX2_fetch_18
def pX2_loadTop (g : Nat → Int32) (pf : Nat → Int32) (pn : Int32) : Int32 × (Nat → Int32) × Int32 := (if pn = 0 then (0, (upd g 5 4), pn) else (mLet (pX3_takeOff pf pn) (fun (u22 : Int32 × Int32) => ((pX2_lowest g u22.1), g, u22.2))))
theorem okX2_loadTop : mOk yX2_loadTop cX2_loadTop 1 (some .int) 0 := ⟨gm_240, gm_4, by decide +kernel⟩
set_option maxRecDepth 100000 in
set_option maxHeartbeats 4000000 in
theorem kX2_loadTop (l : Launch) (D : va_G) (cB cI : ClassId) (ad : Nat → Nat) (g : Nat → Int32) (mem : Nat → Int32) (loc : Nat → Int32) (pf : Nat → Int32) (pg : Nat → Int32) (pn : Int32) (t : Nat → Int32) (fm : Nat → Int32) (fn : Nat → Int32) (z : Nat → Int32) (key : Nat → Int32) (ld : Nat → Int32) : mM l D cB cI yX2_loadTop cX2_loadTop 1 (some .int) { frames := 2, cells := 0, slots := 0, locals := 41 } [.ref (ad 0)] (wM cB cI ad g mem loc pf pg pn t fm fn z key ld) (some ((pX2_loadTop g pf pn).1)) (wM cB cI ad ((pX2_loadTop g pf pn).2.1) mem loc pf pg ((pX2_loadTop g pf pn).2.2) t fm fn z key ld) := by
  refine m_start (by decide +kernel) (Nat.le_of_ble_eq_true rfl) ?_
  intro p e s m below meth c A ls X hr hk V hl
  have X : mCx p s m _ c cX2_loadTop 1 RX2 D cB cI := X
  have hx := X.1.1
  have hb := X.1.2.1
  have hl : lv_has ls 1 [(0, .ref (ad 0))] := hl
  refine lv_aload_n hx hb dX2_loadTop_0 rfl (lv_at hl 0 rfl) ?_
  refine m_get X V 2 0 2 rfl gin_2 rfl (by decide) rfl gm_93 (v := .ref (ad 5)) rfl dX2_loadTop_1 ?_
  refine m_getN X V 3 5 2 rfl gin_3 rfl (by decide) rfl nf_1 (v := .int pn) rfl dX2_loadTop_4 ?_
  refine lv_if_ne (tgt := 17) hx hb dX2_loadTop_7 (by decide) (fun c_7 => ?_) (fun c_7 => ?_)
  · refine lv_aload_n hx hb dX2_loadTop_17 rfl (lv_at hl 0 rfl) ?_
    refine lv_aload_n hx hb dX2_loadTop_18 rfl (lv_at hl 0 rfl) ?_
    refine m_get X V 2 0 2 rfl gin_2 rfl (by decide) rfl gm_93 (v := .ref (ad 5)) rfl dX2_loadTop_19 ?_
    obtain ⟨u22, hu22⟩ : ∃ u, pX3_takeOff pf pn = u := ⟨_, rfl⟩
    have hM := kX3_takeOff l D cB cI (ad 5) (ad 6) (ad 7) pf pg pn
    rw [hu22] at hM
    refine m_VN X V (ws' := (wM cB cI ad g mem loc pf pg u22.2 t fm fn z key ld)) (rest := [.ref (ad 0)]) (st1 := [.int u22.1, .ref (ad 0)]) hM okX3_takeOff gm_241 gm_653 nm_29 [5, 6, 7] ⟨⟨rfl, rfl⟩, ⟨by decide, by decide⟩, Nat.zero_le _, Nat.zero_le _⟩ rfl rfl rfl rfl (wP_fst _ _ _ _ _ _ _ _) (wP_fst _ _ _ _ _ _ _ _) rfl rfl hl.1 (Nat.le_of_ble_eq_true rfl) dX2_loadTop_22 rfl rfl (fun H locs V => ?_)
    refine m_VA X V (w1 := (wM cB cI ad g mem loc pf pg u22.2 t fm fn z key ld)) (rest := []) (st1 := [.int (pX2_lowest g u22.1)]) (kX2_lowest l D cB cI ad g mem loc pf pg u22.2 t fm fn z key ld u22.1) okX2_lowest gm_232 gm_650 gm_231 ⟨⟨rfl, rfl⟩, ⟨by decide, by decide⟩, Nat.zero_le _, Nat.zero_le _⟩ rfl rfl (wM_fst _ _ _ _ _ _ _ _ _ _ _ _ _ _ _) (wM_fst _ _ _ _ _ _ _ _ _ _ _ _ _ _ _) rfl hl.1 (Nat.le_of_ble_eq_true rfl) dX2_loadTop_25 rfl rfl (fun H locs V => ?_)
    have e9 : pX2_loadTop g pf pn = ((pX2_lowest g u22.1), g, u22.2) := by rw [pX2_loadTop, if_neg c_7, hu22, mLet_eq]
    exact m_iret X hr hk V (by rw [e9]) (by rw [e9]) dX2_loadTop_28
  · refine lv_aload_n hx hb dX2_loadTop_10 rfl (lv_at hl 0 rfl) ?_
    refine lv_iconst (v := 4) hx hb dX2_loadTop_11 (by decide) ?_
    refine m_put X V (ws' := (wM cB cI ad (upd g 5 4) mem loc pf pg pn t fm fn z key ld)) 2 0 11 rfl gin_2 tyX2_ok nmX2 rfl (by decide) rfl gm_102 rfl rfl rfl (Nat.le_of_ble_eq_true rfl) dX2_loadTop_12 rfl (fun H locs V => ?_)
    refine lv_iconst (v := 0) hx hb dX2_loadTop_15 (by decide) ?_
    have e9 : pX2_loadTop g pf pn = (0, (upd g 5 4), pn) := by rw [pX2_loadTop, if_pos c_7]
    exact m_iret X hr hk V (by rw [e9]) (by rw [e9]) dX2_loadTop_16
def pX2_loadLocal (g : Nat → Int32) (loc : Nat → Int32) (x1 : Int32) : Int32 × (Nat → Int32) := (if (pX0_holds 64 x1 (g 3)) = 0 then (0, (upd g 5 7)) else ((pX0_number loc 64 x1 (g 3)), g))
theorem okX2_loadLocal : mOk yX2_loadLocal cX2_loadLocal 2 (some .int) 1 := ⟨gm_248, gm_4, by decide +kernel⟩
set_option maxRecDepth 100000 in
set_option maxHeartbeats 4000000 in
theorem kX2_loadLocal (l : Launch) (D : va_G) (cB cI : ClassId) (ad : Nat → Nat) (g : Nat → Int32) (mem : Nat → Int32) (loc : Nat → Int32) (pf : Nat → Int32) (pg : Nat → Int32) (pn : Int32) (t : Nat → Int32) (fm : Nat → Int32) (fn : Nat → Int32) (z : Nat → Int32) (key : Nat → Int32) (ld : Nat → Int32) (x1 : Int32) : mM l D cB cI yX2_loadLocal cX2_loadLocal 2 (some .int) { frames := 2, cells := 0, slots := 0, locals := 45 } [.ref (ad 0), .int x1] (wM cB cI ad g mem loc pf pg pn t fm fn z key ld) (some ((pX2_loadLocal g loc x1).1)) (wM cB cI ad ((pX2_loadLocal g loc x1).2) mem loc pf pg pn t fm fn z key ld) := by
  refine m_start (by decide +kernel) (Nat.le_of_ble_eq_true rfl) ?_
  intro p e s m below meth c A ls X hr hk V hl
  have X : mCx p s m _ c cX2_loadLocal 2 RX2 D cB cI := X
  have hx := X.1.1
  have hb := X.1.2.1
  have hl : lv_has ls 2 [(0, .ref (ad 0)), (1, .int x1)] := hl
  refine lv_aload_n hx hb dX2_loadLocal_0 rfl (lv_at hl 0 rfl) ?_
  refine m_get X V 2 0 1 rfl gin_2 rfl (by decide) rfl gm_92 (v := .ref (ad 3)) rfl dX2_loadLocal_1 ?_
  refine lv_iload_n hx hb dX2_loadLocal_4 rfl (lv_at hl 1 rfl) ?_
  refine lv_aload_n hx hb dX2_loadLocal_5 rfl (lv_at hl 0 rfl) ?_
  refine m_get X V 2 0 9 rfl gin_2 rfl (by decide) rfl gm_100 (v := .int (g 3)) rfl dX2_loadLocal_6 ?_
  refine m_VN X V (ws' := (wM cB cI ad g mem loc pf pg pn t fm fn z key ld)) (rest := []) (st1 := [.int (pX0_holds 64 x1 (g 3))]) (kX0_holds l D cB cI (ad 3) (ad 4) 64 loc x1 (g 3) (by decide)) okX0_holds gm_132 gm_630 nm_27 [3, 4] ⟨⟨rfl, rfl⟩, ⟨by decide, by decide⟩, Nat.zero_le _, Nat.zero_le _⟩ rfl rfl rfl rfl (wB_fst _ _ _ _ _ _) (wB_fst _ _ _ _ _ _) rfl rfl hl.1 (Nat.le_of_ble_eq_true rfl) dX2_loadLocal_9 rfl rfl (fun H locs V => ?_)
  refine lv_if_ne (tgt := 23) hx hb dX2_loadLocal_12 (by decide) (fun c_12 => ?_) (fun c_12 => ?_)
  · refine lv_aload_n hx hb dX2_loadLocal_23 rfl (lv_at hl 0 rfl) ?_
    refine m_get X V 2 0 1 rfl gin_2 rfl (by decide) rfl gm_92 (v := .ref (ad 3)) rfl dX2_loadLocal_24 ?_
    refine lv_iload_n hx hb dX2_loadLocal_27 rfl (lv_at hl 1 rfl) ?_
    refine lv_aload_n hx hb dX2_loadLocal_28 rfl (lv_at hl 0 rfl) ?_
    refine m_get X V 2 0 9 rfl gin_2 rfl (by decide) rfl gm_100 (v := .int (g 3)) rfl dX2_loadLocal_29 ?_
    refine m_VN X V (ws' := (wM cB cI ad g mem loc pf pg pn t fm fn z key ld)) (rest := []) (st1 := [.int (pX0_number loc 64 x1 (g 3))]) (kX0_number l D cB cI (ad 3) (ad 4) 64 loc x1 (g 3) (by decide)) okX0_number gm_182 gm_641 nm_28 [3, 4] ⟨⟨rfl, rfl⟩, ⟨by decide, by decide⟩, Nat.zero_le _, Nat.zero_le _⟩ rfl rfl rfl rfl (wB_fst _ _ _ _ _ _) (wB_fst _ _ _ _ _ _) rfl rfl hl.1 (Nat.le_of_ble_eq_true rfl) dX2_loadLocal_32 rfl rfl (fun H locs V => ?_)
    have e9 : pX2_loadLocal g loc x1 = ((pX0_number loc 64 x1 (g 3)), g) := by rw [pX2_loadLocal, if_neg c_12]
    exact m_iret X hr hk V (by rw [e9]) (by rw [e9]) dX2_loadLocal_35
  · refine lv_aload_n hx hb dX2_loadLocal_15 rfl (lv_at hl 0 rfl) ?_
    refine lv_bipush (v := 7) hx hb dX2_loadLocal_16 (by decide) ?_
    refine m_put X V (ws' := (wM cB cI ad (upd g 5 7) mem loc pf pg pn t fm fn z key ld)) 2 0 11 rfl gin_2 tyX2_ok nmX2 rfl (by decide) rfl gm_102 rfl rfl rfl (Nat.le_of_ble_eq_true rfl) dX2_loadLocal_18 rfl (fun H locs V => ?_)
    refine lv_iconst (v := 0) hx hb dX2_loadLocal_21 (by decide) ?_
    have e9 : pX2_loadLocal g loc x1 = (0, (upd g 5 7)) := by rw [pX2_loadLocal, if_pos c_12]
    exact m_iret X hr hk V (by rw [e9]) (by rw [e9]) dX2_loadLocal_22
def pX2_loadOperand (g : Nat → Int32) (mem : Nat → Int32) (loc : Nat → Int32) (pf : Nat → Int32) (pn : Int32) (fm : Nat → Int32) (fn : Nat → Int32) (x1 : Int32) : Int32 × (Nat → Int32) × Int32 := (if (pX1_modeOf fm x1) = 1 then (mLet (pX2_lowest g (pX1_numberOf fn x1)) (fun (u94 : Int32) => (u94, g, pn))) else (if (pX1_modeOf fm x1) = 2 then (mLet (pX2_lowest g (pX1_numberOf fn x1)) (fun (u94 : Int32) => (u94, g, pn))) else (if (pX1_modeOf fm x1) = 3 then (mLet (pX2_lowest g (pX1_numberOf fn x1)) (fun (u94 : Int32) => (u94, g, pn))) else (if (pX1_modeOf fm x1) = 5 then (mLet (pX2_fetch g mem (pX1_numberOf fn x1) (g 3)) (fun (u104 : Int32 × (Nat → Int32)) => (u104.1, u104.2, pn))) else (if (pX1_modeOf fm x1) = 6 then (mLet (pX2_fetch g mem (pX1_numberOf fn x1) (g 3)) (fun (u104 : Int32 × (Nat → Int32)) => (u104.1, u104.2, pn))) else (if (pX1_modeOf fm x1) = 7 then (mLet (pX2_fetch g mem (pX1_numberOf fn x1) (g 3)) (fun (u104 : Int32 × (Nat → Int32)) => (u104.1, u104.2, pn))) else (if (pX1_modeOf fm x1) = 8 then (mLet (pX2_loadTop g pf pn) (fun (u109 : Int32 × (Nat → Int32) × Int32) => (u109.1, u109.2.1, u109.2.2))) else (if (pX1_modeOf fm x1) = 9 then (mLet (pX2_loadLocal g loc (pX1_numberOf fn x1)) (fun (u115 : Int32 × (Nat → Int32)) => (u115.1, u115.2, pn))) else (if (pX1_modeOf fm x1) = 10 then (mLet (pX2_loadLocal g loc (pX1_numberOf fn x1)) (fun (u115 : Int32 × (Nat → Int32)) => (u115.1, u115.2, pn))) else (if (pX1_modeOf fm x1) = 11 then (mLet (pX2_loadLocal g loc (pX1_numberOf fn x1)) (fun (u115 : Int32 × (Nat → Int32)) => (u115.1, u115.2, pn))) else (if (pX1_modeOf fm x1) = 13 then (mLet (pX2_fetch g mem ((g 0) + (pX1_numberOf fn x1)) (g 3)) (fun (u130 : Int32 × (Nat → Int32)) => (u130.1, u130.2, pn))) else (if (pX1_modeOf fm x1) = 14 then (mLet (pX2_fetch g mem ((g 0) + (pX1_numberOf fn x1)) (g 3)) (fun (u130 : Int32 × (Nat → Int32)) => (u130.1, u130.2, pn))) else (if (pX1_modeOf fm x1) = 15 then (mLet (pX2_fetch g mem ((g 0) + (pX1_numberOf fn x1)) (g 3)) (fun (u130 : Int32 × (Nat → Int32)) => (u130.1, u130.2, pn))) else (0, g, pn))))))))))))))
theorem okX2_loadOperand : mOk yX2_loadOperand cX2_loadOperand 3 (some .int) 1 := ⟨gm_230, gm_4, by decide +kernel⟩
set_option maxRecDepth 100000 in
set_option maxHeartbeats 4000000 in
theorem kX2_loadOperand (l : Launch) (D : va_G) (cB cI : ClassId) (ad : Nat → Nat) (g : Nat → Int32) (mem : Nat → Int32) (loc : Nat → Int32) (pf : Nat → Int32) (pg : Nat → Int32) (pn : Int32) (t : Nat → Int32) (fm : Nat → Int32) (fn : Nat → Int32) (z : Nat → Int32) (key : Nat → Int32) (ld : Nat → Int32) (x1 : Int32) : mM l D cB cI yX2_loadOperand cX2_loadOperand 3 (some .int) { frames := 3, cells := 0, slots := 0, locals := 67 } [.ref (ad 0), .int x1] (wM cB cI ad g mem loc pf pg pn t fm fn z key ld) (some ((pX2_loadOperand g mem loc pf pn fm fn x1).1)) (wM cB cI ad ((pX2_loadOperand g mem loc pf pn fm fn x1).2.1) mem loc pf pg ((pX2_loadOperand g mem loc pf pn fm fn x1).2.2) t fm fn z key ld) := by
  refine m_start (by decide +kernel) (Nat.le_of_ble_eq_true rfl) ?_
  intro p e s m below meth c A ls X hr hk V hl
  have X : mCx p s m _ c cX2_loadOperand 3 RX2 D cB cI := X
  have hx := X.1.1
  have hb := X.1.2.1
  have hl : lv_has ls 3 [(0, .ref (ad 0)), (1, .int x1)] := hl
  refine lv_aload_n hx hb dX2_loadOperand_0 rfl (lv_at hl 0 rfl) ?_
  refine m_get X V 2 0 3 rfl gin_2 rfl (by decide) rfl gm_94 (v := .ref (ad 8)) rfl dX2_loadOperand_1 ?_
  refine lv_iload_n hx hb dX2_loadOperand_4 rfl (lv_at hl 1 rfl) ?_
  refine m_VN X V (ws' := (wM cB cI ad g mem loc pf pg pn t fm fn z key ld)) (rest := []) (st1 := [.int (pX1_numberOf fn x1)]) (kX1_numberOf l D cB cI (ad 8) (ad 9) (ad 10) t fm fn x1) okX1_numberOf gm_215 gm_646 nm_25 [8, 9, 10] ⟨⟨rfl, rfl⟩, ⟨by decide, by decide⟩, Nat.zero_le _, Nat.zero_le _⟩ rfl rfl rfl rfl (wF_fst _ _ _ _ _ _ _ _) (wF_fst _ _ _ _ _ _ _ _) rfl rfl hl.1 (Nat.le_of_ble_eq_true rfl) dX2_loadOperand_5 rfl rfl (fun H locs V => ?_)
  refine lv_istore_n (lv' := [(2, .int (pX1_numberOf fn x1)), (0, .ref (ad 0)), (1, .int x1)]) hx hb dX2_loadOperand_8 rfl hl (by decide) rfl (fun ls hl => ?_)
  refine lv_aload_n hx hb dX2_loadOperand_9 rfl (lv_at hl 1 rfl) ?_
  refine m_get X V 2 0 3 rfl gin_2 rfl (by decide) rfl gm_94 (v := .ref (ad 8)) rfl dX2_loadOperand_10 ?_
  refine lv_iload_n hx hb dX2_loadOperand_13 rfl (lv_at hl 2 rfl) ?_
  refine m_VN X V (ws' := (wM cB cI ad g mem loc pf pg pn t fm fn z key ld)) (rest := []) (st1 := [.int (pX1_modeOf fm x1)]) (kX1_modeOf l D cB cI (ad 8) (ad 9) (ad 10) t fm fn x1) okX1_modeOf gm_200 gm_644 nm_26 [8, 9, 10] ⟨⟨rfl, rfl⟩, ⟨by decide, by decide⟩, Nat.zero_le _, Nat.zero_le _⟩ rfl rfl rfl rfl (wF_fst _ _ _ _ _ _ _ _) (wF_fst _ _ _ _ _ _ _ _) rfl rfl hl.1 (Nat.le_of_ble_eq_true rfl) dX2_loadOperand_14 rfl rfl (fun H locs V => ?_)
  by_cases w_17_1 : (pX1_modeOf fm x1) = 1
  · refine lv_tableIn (off := 75) (tgt := 92) hx hb dX2_loadOperand_17 (by rw [w_17_1]; decide) (by rw [w_17_1]; decide) (by rw [w_17_1]; rfl) (by decide) ?_
    refine lv_aload_n hx hb dX2_loadOperand_92 rfl (lv_at hl 1 rfl) ?_
    refine lv_iload_n hx hb dX2_loadOperand_93 rfl (lv_at hl 0 rfl) ?_
    obtain ⟨u94, hu94⟩ : ∃ u, pX2_lowest g (pX1_numberOf fn x1) = u := ⟨_, rfl⟩
    have hM := kX2_lowest l D cB cI ad g mem loc pf pg pn t fm fn z key ld (pX1_numberOf fn x1)
    rw [hu94] at hM
    refine m_VA X V (w1 := (wM cB cI ad g mem loc pf pg pn t fm fn z key ld)) (rest := []) (st1 := [.int u94]) hM okX2_lowest gm_232 gm_650 gm_231 ⟨⟨rfl, rfl⟩, ⟨by decide, by decide⟩, Nat.zero_le _, Nat.zero_le _⟩ rfl rfl (wM_fst _ _ _ _ _ _ _ _ _ _ _ _ _ _ _) (wM_fst _ _ _ _ _ _ _ _ _ _ _ _ _ _ _) rfl hl.1 (Nat.le_of_ble_eq_true rfl) dX2_loadOperand_94 rfl rfl (fun H locs V => ?_)
    have e9 : pX2_loadOperand g mem loc pf pn fm fn x1 = (u94, g, pn) := by rw [pX2_loadOperand, if_pos w_17_1, hu94, mLet_eq]
    exact m_iret X hr hk V (by rw [e9]) (by rw [e9]) dX2_loadOperand_97
  by_cases w_17_2 : (pX1_modeOf fm x1) = 2
  · refine lv_tableIn (off := 75) (tgt := 92) hx hb dX2_loadOperand_17 (by rw [w_17_2]; decide) (by rw [w_17_2]; decide) (by rw [w_17_2]; rfl) (by decide) ?_
    refine lv_aload_n hx hb dX2_loadOperand_92 rfl (lv_at hl 1 rfl) ?_
    refine lv_iload_n hx hb dX2_loadOperand_93 rfl (lv_at hl 0 rfl) ?_
    obtain ⟨u94, hu94⟩ : ∃ u, pX2_lowest g (pX1_numberOf fn x1) = u := ⟨_, rfl⟩
    have hM := kX2_lowest l D cB cI ad g mem loc pf pg pn t fm fn z key ld (pX1_numberOf fn x1)
    rw [hu94] at hM
    refine m_VA X V (w1 := (wM cB cI ad g mem loc pf pg pn t fm fn z key ld)) (rest := []) (st1 := [.int u94]) hM okX2_lowest gm_232 gm_650 gm_231 ⟨⟨rfl, rfl⟩, ⟨by decide, by decide⟩, Nat.zero_le _, Nat.zero_le _⟩ rfl rfl (wM_fst _ _ _ _ _ _ _ _ _ _ _ _ _ _ _) (wM_fst _ _ _ _ _ _ _ _ _ _ _ _ _ _ _) rfl hl.1 (Nat.le_of_ble_eq_true rfl) dX2_loadOperand_94 rfl rfl (fun H locs V => ?_)
    have e9 : pX2_loadOperand g mem loc pf pn fm fn x1 = (u94, g, pn) := by rw [pX2_loadOperand, if_neg w_17_1, if_pos w_17_2, hu94, mLet_eq]
    exact m_iret X hr hk V (by rw [e9]) (by rw [e9]) dX2_loadOperand_97
  by_cases w_17_3 : (pX1_modeOf fm x1) = 3
  · refine lv_tableIn (off := 75) (tgt := 92) hx hb dX2_loadOperand_17 (by rw [w_17_3]; decide) (by rw [w_17_3]; decide) (by rw [w_17_3]; rfl) (by decide) ?_
    refine lv_aload_n hx hb dX2_loadOperand_92 rfl (lv_at hl 1 rfl) ?_
    refine lv_iload_n hx hb dX2_loadOperand_93 rfl (lv_at hl 0 rfl) ?_
    obtain ⟨u94, hu94⟩ : ∃ u, pX2_lowest g (pX1_numberOf fn x1) = u := ⟨_, rfl⟩
    have hM := kX2_lowest l D cB cI ad g mem loc pf pg pn t fm fn z key ld (pX1_numberOf fn x1)
    rw [hu94] at hM
    refine m_VA X V (w1 := (wM cB cI ad g mem loc pf pg pn t fm fn z key ld)) (rest := []) (st1 := [.int u94]) hM okX2_lowest gm_232 gm_650 gm_231 ⟨⟨rfl, rfl⟩, ⟨by decide, by decide⟩, Nat.zero_le _, Nat.zero_le _⟩ rfl rfl (wM_fst _ _ _ _ _ _ _ _ _ _ _ _ _ _ _) (wM_fst _ _ _ _ _ _ _ _ _ _ _ _ _ _ _) rfl hl.1 (Nat.le_of_ble_eq_true rfl) dX2_loadOperand_94 rfl rfl (fun H locs V => ?_)
    have e9 : pX2_loadOperand g mem loc pf pn fm fn x1 = (u94, g, pn) := by rw [pX2_loadOperand, if_neg w_17_1, if_neg w_17_2, if_pos w_17_3, hu94, mLet_eq]
    exact m_iret X hr hk V (by rw [e9]) (by rw [e9]) dX2_loadOperand_97
  by_cases w_17_5 : (pX1_modeOf fm x1) = 5
  · refine lv_tableIn (off := 81) (tgt := 98) hx hb dX2_loadOperand_17 (by rw [w_17_5]; decide) (by rw [w_17_5]; decide) (by rw [w_17_5]; rfl) (by decide) ?_
    refine lv_aload_n hx hb dX2_loadOperand_98 rfl (lv_at hl 1 rfl) ?_
    refine lv_iload_n hx hb dX2_loadOperand_99 rfl (lv_at hl 0 rfl) ?_
    refine lv_aload_n hx hb dX2_loadOperand_100 rfl (lv_at hl 1 rfl) ?_
    refine m_get X V 2 0 9 rfl gin_2 rfl (by decide) rfl gm_100 (v := .int (g 3)) rfl dX2_loadOperand_101 ?_
    obtain ⟨u104, hu104⟩ : ∃ u, pX2_fetch g mem (pX1_numberOf fn x1) (g 3) = u := ⟨_, rfl⟩
    have hM := kX2_fetch l D cB cI ad g mem loc pf pg pn t fm fn z key ld (pX1_numberOf fn x1) (g 3)
    rw [hu104] at hM
    refine m_VA X V (w1 := (wM cB cI ad u104.2 mem loc pf pg pn t fm fn z key ld)) (rest := []) (st1 := [.int u104.1]) hM okX2_fetch gm_236 gm_651 gm_235 ⟨⟨rfl, rfl⟩, ⟨by decide, by decide⟩, Nat.zero_le _, Nat.zero_le _⟩ rfl rfl (wM_fst _ _ _ _ _ _ _ _ _ _ _ _ _ _ _) (wM_fst _ _ _ _ _ _ _ _ _ _ _ _ _ _ _) rfl hl.1 (Nat.le_of_ble_eq_true rfl) dX2_loadOperand_104 rfl rfl (fun H locs V => ?_)
    have e9 : pX2_loadOperand g mem loc pf pn fm fn x1 = (u104.1, u104.2, pn) := by rw [pX2_loadOperand, if_neg w_17_1, if_neg w_17_2, if_neg w_17_3, if_pos w_17_5, hu104, mLet_eq]
    exact m_iret X hr hk V (by rw [e9]) (by rw [e9]) dX2_loadOperand_107
  by_cases w_17_6 : (pX1_modeOf fm x1) = 6
  · refine lv_tableIn (off := 81) (tgt := 98) hx hb dX2_loadOperand_17 (by rw [w_17_6]; decide) (by rw [w_17_6]; decide) (by rw [w_17_6]; rfl) (by decide) ?_
    refine lv_aload_n hx hb dX2_loadOperand_98 rfl (lv_at hl 1 rfl) ?_
    refine lv_iload_n hx hb dX2_loadOperand_99 rfl (lv_at hl 0 rfl) ?_
    refine lv_aload_n hx hb dX2_loadOperand_100 rfl (lv_at hl 1 rfl) ?_
    refine m_get X V 2 0 9 rfl gin_2 rfl (by decide) rfl gm_100 (v := .int (g 3)) rfl dX2_loadOperand_101 ?_
    obtain ⟨u104, hu104⟩ : ∃ u, pX2_fetch g mem (pX1_numberOf fn x1) (g 3) = u := ⟨_, rfl⟩
    have hM := kX2_fetch l D cB cI ad g mem loc pf pg pn t fm fn z key ld (pX1_numberOf fn x1) (g 3)
    rw [hu104] at hM
    refine m_VA X V (w1 := (wM cB cI ad u104.2 mem loc pf pg pn t fm fn z key ld)) (rest := []) (st1 := [.int u104.1]) hM okX2_fetch gm_236 gm_651 gm_235 ⟨⟨rfl, rfl⟩, ⟨by decide, by decide⟩, Nat.zero_le _, Nat.zero_le _⟩ rfl rfl (wM_fst _ _ _ _ _ _ _ _ _ _ _ _ _ _ _) (wM_fst _ _ _ _ _ _ _ _ _ _ _ _ _ _ _) rfl hl.1 (Nat.le_of_ble_eq_true rfl) dX2_loadOperand_104 rfl rfl (fun H locs V => ?_)
    have e9 : pX2_loadOperand g mem loc pf pn fm fn x1 = (u104.1, u104.2, pn) := by rw [pX2_loadOperand, if_neg w_17_1, if_neg w_17_2, if_neg w_17_3, if_neg w_17_5, if_pos w_17_6, hu104, mLet_eq]
    exact m_iret X hr hk V (by rw [e9]) (by rw [e9]) dX2_loadOperand_107
  by_cases w_17_7 : (pX1_modeOf fm x1) = 7
  · refine lv_tableIn (off := 81) (tgt := 98) hx hb dX2_loadOperand_17 (by rw [w_17_7]; decide) (by rw [w_17_7]; decide) (by rw [w_17_7]; rfl) (by decide) ?_
    refine lv_aload_n hx hb dX2_loadOperand_98 rfl (lv_at hl 1 rfl) ?_
    refine lv_iload_n hx hb dX2_loadOperand_99 rfl (lv_at hl 0 rfl) ?_
    refine lv_aload_n hx hb dX2_loadOperand_100 rfl (lv_at hl 1 rfl) ?_
    refine m_get X V 2 0 9 rfl gin_2 rfl (by decide) rfl gm_100 (v := .int (g 3)) rfl dX2_loadOperand_101 ?_
    obtain ⟨u104, hu104⟩ : ∃ u, pX2_fetch g mem (pX1_numberOf fn x1) (g 3) = u := ⟨_, rfl⟩
    have hM := kX2_fetch l D cB cI ad g mem loc pf pg pn t fm fn z key ld (pX1_numberOf fn x1) (g 3)
    rw [hu104] at hM
    refine m_VA X V (w1 := (wM cB cI ad u104.2 mem loc pf pg pn t fm fn z key ld)) (rest := []) (st1 := [.int u104.1]) hM okX2_fetch gm_236 gm_651 gm_235 ⟨⟨rfl, rfl⟩, ⟨by decide, by decide⟩, Nat.zero_le _, Nat.zero_le _⟩ rfl rfl (wM_fst _ _ _ _ _ _ _ _ _ _ _ _ _ _ _) (wM_fst _ _ _ _ _ _ _ _ _ _ _ _ _ _ _) rfl hl.1 (Nat.le_of_ble_eq_true rfl) dX2_loadOperand_104 rfl rfl (fun H locs V => ?_)
    have e9 : pX2_loadOperand g mem loc pf pn fm fn x1 = (u104.1, u104.2, pn) := by rw [pX2_loadOperand, if_neg w_17_1, if_neg w_17_2, if_neg w_17_3, if_neg w_17_5, if_neg w_17_6, if_pos w_17_7, hu104, mLet_eq]
    exact m_iret X hr hk V (by rw [e9]) (by rw [e9]) dX2_loadOperand_107
  by_cases w_17_8 : (pX1_modeOf fm x1) = 8
  · refine lv_tableIn (off := 91) (tgt := 108) hx hb dX2_loadOperand_17 (by rw [w_17_8]; decide) (by rw [w_17_8]; decide) (by rw [w_17_8]; rfl) (by decide) ?_
    refine lv_aload_n hx hb dX2_loadOperand_108 rfl (lv_at hl 1 rfl) ?_
    obtain ⟨u109, hu109⟩ : ∃ u, pX2_loadTop g pf pn = u := ⟨_, rfl⟩
    have hM := kX2_loadTop l D cB cI ad g mem loc pf pg pn t fm fn z key ld
    rw [hu109] at hM
    refine m_VA X V (w1 := (wM cB cI ad u109.2.1 mem loc pf pg u109.2.2 t fm fn z key ld)) (rest := []) (st1 := [.int u109.1]) hM okX2_loadTop gm_239 gm_652 gm_238 ⟨⟨rfl, rfl⟩, ⟨by decide, by decide⟩, Nat.zero_le _, Nat.zero_le _⟩ rfl rfl (wM_fst _ _ _ _ _ _ _ _ _ _ _ _ _ _ _) (wM_fst _ _ _ _ _ _ _ _ _ _ _ _ _ _ _) rfl hl.1 (Nat.le_of_ble_eq_true rfl) dX2_loadOperand_109 rfl rfl (fun H locs V => ?_)
    have e9 : pX2_loadOperand g mem loc pf pn fm fn x1 = (u109.1, u109.2.1, u109.2.2) := by rw [pX2_loadOperand, if_neg w_17_1, if_neg w_17_2, if_neg w_17_3, if_neg w_17_5, if_neg w_17_6, if_neg w_17_7, if_pos w_17_8, hu109, mLet_eq]
    exact m_iret X hr hk V (by rw [e9]) (by rw [e9]) dX2_loadOperand_112
  by_cases w_17_9 : (pX1_modeOf fm x1) = 9
  · refine lv_tableIn (off := 96) (tgt := 113) hx hb dX2_loadOperand_17 (by rw [w_17_9]; decide) (by rw [w_17_9]; decide) (by rw [w_17_9]; rfl) (by decide) ?_
    refine lv_aload_n hx hb dX2_loadOperand_113 rfl (lv_at hl 1 rfl) ?_
    refine lv_iload_n hx hb dX2_loadOperand_114 rfl (lv_at hl 0 rfl) ?_
    obtain ⟨u115, hu115⟩ : ∃ u, pX2_loadLocal g loc (pX1_numberOf fn x1) = u := ⟨_, rfl⟩
    have hM := kX2_loadLocal l D cB cI ad g mem loc pf pg pn t fm fn z key ld (pX1_numberOf fn x1)
    rw [hu115] at hM
    refine m_VA X V (w1 := (wM cB cI ad u115.2 mem loc pf pg pn t fm fn z key ld)) (rest := []) (st1 := [.int u115.1]) hM okX2_loadLocal gm_247 gm_655 gm_246 ⟨⟨rfl, rfl⟩, ⟨by decide, by decide⟩, Nat.zero_le _, Nat.zero_le _⟩ rfl rfl (wM_fst _ _ _ _ _ _ _ _ _ _ _ _ _ _ _) (wM_fst _ _ _ _ _ _ _ _ _ _ _ _ _ _ _) rfl hl.1 (Nat.le_of_ble_eq_true rfl) dX2_loadOperand_115 rfl rfl (fun H locs V => ?_)
    have e9 : pX2_loadOperand g mem loc pf pn fm fn x1 = (u115.1, u115.2, pn) := by rw [pX2_loadOperand, if_neg w_17_1, if_neg w_17_2, if_neg w_17_3, if_neg w_17_5, if_neg w_17_6, if_neg w_17_7, if_neg w_17_8, if_pos w_17_9, hu115, mLet_eq]
    exact m_iret X hr hk V (by rw [e9]) (by rw [e9]) dX2_loadOperand_118
  by_cases w_17_10 : (pX1_modeOf fm x1) = 10
  · refine lv_tableIn (off := 96) (tgt := 113) hx hb dX2_loadOperand_17 (by rw [w_17_10]; decide) (by rw [w_17_10]; decide) (by rw [w_17_10]; rfl) (by decide) ?_
    refine lv_aload_n hx hb dX2_loadOperand_113 rfl (lv_at hl 1 rfl) ?_
    refine lv_iload_n hx hb dX2_loadOperand_114 rfl (lv_at hl 0 rfl) ?_
    obtain ⟨u115, hu115⟩ : ∃ u, pX2_loadLocal g loc (pX1_numberOf fn x1) = u := ⟨_, rfl⟩
    have hM := kX2_loadLocal l D cB cI ad g mem loc pf pg pn t fm fn z key ld (pX1_numberOf fn x1)
    rw [hu115] at hM
    refine m_VA X V (w1 := (wM cB cI ad u115.2 mem loc pf pg pn t fm fn z key ld)) (rest := []) (st1 := [.int u115.1]) hM okX2_loadLocal gm_247 gm_655 gm_246 ⟨⟨rfl, rfl⟩, ⟨by decide, by decide⟩, Nat.zero_le _, Nat.zero_le _⟩ rfl rfl (wM_fst _ _ _ _ _ _ _ _ _ _ _ _ _ _ _) (wM_fst _ _ _ _ _ _ _ _ _ _ _ _ _ _ _) rfl hl.1 (Nat.le_of_ble_eq_true rfl) dX2_loadOperand_115 rfl rfl (fun H locs V => ?_)
    have e9 : pX2_loadOperand g mem loc pf pn fm fn x1 = (u115.1, u115.2, pn) := by rw [pX2_loadOperand, if_neg w_17_1, if_neg w_17_2, if_neg w_17_3, if_neg w_17_5, if_neg w_17_6, if_neg w_17_7, if_neg w_17_8, if_neg w_17_9, if_pos w_17_10, hu115, mLet_eq]
    exact m_iret X hr hk V (by rw [e9]) (by rw [e9]) dX2_loadOperand_118
  by_cases w_17_11 : (pX1_modeOf fm x1) = 11
  · refine lv_tableIn (off := 96) (tgt := 113) hx hb dX2_loadOperand_17 (by rw [w_17_11]; decide) (by rw [w_17_11]; decide) (by rw [w_17_11]; rfl) (by decide) ?_
    refine lv_aload_n hx hb dX2_loadOperand_113 rfl (lv_at hl 1 rfl) ?_
    refine lv_iload_n hx hb dX2_loadOperand_114 rfl (lv_at hl 0 rfl) ?_
    obtain ⟨u115, hu115⟩ : ∃ u, pX2_loadLocal g loc (pX1_numberOf fn x1) = u := ⟨_, rfl⟩
    have hM := kX2_loadLocal l D cB cI ad g mem loc pf pg pn t fm fn z key ld (pX1_numberOf fn x1)
    rw [hu115] at hM
    refine m_VA X V (w1 := (wM cB cI ad u115.2 mem loc pf pg pn t fm fn z key ld)) (rest := []) (st1 := [.int u115.1]) hM okX2_loadLocal gm_247 gm_655 gm_246 ⟨⟨rfl, rfl⟩, ⟨by decide, by decide⟩, Nat.zero_le _, Nat.zero_le _⟩ rfl rfl (wM_fst _ _ _ _ _ _ _ _ _ _ _ _ _ _ _) (wM_fst _ _ _ _ _ _ _ _ _ _ _ _ _ _ _) rfl hl.1 (Nat.le_of_ble_eq_true rfl) dX2_loadOperand_115 rfl rfl (fun H locs V => ?_)
    have e9 : pX2_loadOperand g mem loc pf pn fm fn x1 = (u115.1, u115.2, pn) := by rw [pX2_loadOperand, if_neg w_17_1, if_neg w_17_2, if_neg w_17_3, if_neg w_17_5, if_neg w_17_6, if_neg w_17_7, if_neg w_17_8, if_neg w_17_9, if_neg w_17_10, if_pos w_17_11, hu115, mLet_eq]
    exact m_iret X hr hk V (by rw [e9]) (by rw [e9]) dX2_loadOperand_118
  by_cases w_17_13 : (pX1_modeOf fm x1) = 13
  · refine lv_tableIn (off := 102) (tgt := 119) hx hb dX2_loadOperand_17 (by rw [w_17_13]; decide) (by rw [w_17_13]; decide) (by rw [w_17_13]; rfl) (by decide) ?_
    refine lv_aload_n hx hb dX2_loadOperand_119 rfl (lv_at hl 1 rfl) ?_
    refine lv_aload_n hx hb dX2_loadOperand_120 rfl (lv_at hl 1 rfl) ?_
    refine m_get X V 2 0 6 rfl gin_2 rfl (by decide) rfl gm_97 (v := .int (g 0)) rfl dX2_loadOperand_121 ?_
    refine lv_iload_n hx hb dX2_loadOperand_124 rfl (lv_at hl 0 rfl) ?_
    refine lv_iadd hx hb dX2_loadOperand_125 ?_
    refine lv_aload_n hx hb dX2_loadOperand_126 rfl (lv_at hl 1 rfl) ?_
    refine m_get X V 2 0 9 rfl gin_2 rfl (by decide) rfl gm_100 (v := .int (g 3)) rfl dX2_loadOperand_127 ?_
    obtain ⟨u130, hu130⟩ : ∃ u, pX2_fetch g mem ((g 0) + (pX1_numberOf fn x1)) (g 3) = u := ⟨_, rfl⟩
    have hM := kX2_fetch l D cB cI ad g mem loc pf pg pn t fm fn z key ld ((g 0) + (pX1_numberOf fn x1)) (g 3)
    rw [hu130] at hM
    refine m_VA X V (w1 := (wM cB cI ad u130.2 mem loc pf pg pn t fm fn z key ld)) (rest := []) (st1 := [.int u130.1]) hM okX2_fetch gm_236 gm_651 gm_235 ⟨⟨rfl, rfl⟩, ⟨by decide, by decide⟩, Nat.zero_le _, Nat.zero_le _⟩ rfl rfl (wM_fst _ _ _ _ _ _ _ _ _ _ _ _ _ _ _) (wM_fst _ _ _ _ _ _ _ _ _ _ _ _ _ _ _) rfl hl.1 (Nat.le_of_ble_eq_true rfl) dX2_loadOperand_130 rfl rfl (fun H locs V => ?_)
    have e9 : pX2_loadOperand g mem loc pf pn fm fn x1 = (u130.1, u130.2, pn) := by rw [pX2_loadOperand, if_neg w_17_1, if_neg w_17_2, if_neg w_17_3, if_neg w_17_5, if_neg w_17_6, if_neg w_17_7, if_neg w_17_8, if_neg w_17_9, if_neg w_17_10, if_neg w_17_11, if_pos w_17_13, hu130, mLet_eq]
    exact m_iret X hr hk V (by rw [e9]) (by rw [e9]) dX2_loadOperand_133
  by_cases w_17_14 : (pX1_modeOf fm x1) = 14
  · refine lv_tableIn (off := 102) (tgt := 119) hx hb dX2_loadOperand_17 (by rw [w_17_14]; decide) (by rw [w_17_14]; decide) (by rw [w_17_14]; rfl) (by decide) ?_
    refine lv_aload_n hx hb dX2_loadOperand_119 rfl (lv_at hl 1 rfl) ?_
    refine lv_aload_n hx hb dX2_loadOperand_120 rfl (lv_at hl 1 rfl) ?_
    refine m_get X V 2 0 6 rfl gin_2 rfl (by decide) rfl gm_97 (v := .int (g 0)) rfl dX2_loadOperand_121 ?_
    refine lv_iload_n hx hb dX2_loadOperand_124 rfl (lv_at hl 0 rfl) ?_
    refine lv_iadd hx hb dX2_loadOperand_125 ?_
    refine lv_aload_n hx hb dX2_loadOperand_126 rfl (lv_at hl 1 rfl) ?_
    refine m_get X V 2 0 9 rfl gin_2 rfl (by decide) rfl gm_100 (v := .int (g 3)) rfl dX2_loadOperand_127 ?_
    obtain ⟨u130, hu130⟩ : ∃ u, pX2_fetch g mem ((g 0) + (pX1_numberOf fn x1)) (g 3) = u := ⟨_, rfl⟩
    have hM := kX2_fetch l D cB cI ad g mem loc pf pg pn t fm fn z key ld ((g 0) + (pX1_numberOf fn x1)) (g 3)
    rw [hu130] at hM
    refine m_VA X V (w1 := (wM cB cI ad u130.2 mem loc pf pg pn t fm fn z key ld)) (rest := []) (st1 := [.int u130.1]) hM okX2_fetch gm_236 gm_651 gm_235 ⟨⟨rfl, rfl⟩, ⟨by decide, by decide⟩, Nat.zero_le _, Nat.zero_le _⟩ rfl rfl (wM_fst _ _ _ _ _ _ _ _ _ _ _ _ _ _ _) (wM_fst _ _ _ _ _ _ _ _ _ _ _ _ _ _ _) rfl hl.1 (Nat.le_of_ble_eq_true rfl) dX2_loadOperand_130 rfl rfl (fun H locs V => ?_)
    have e9 : pX2_loadOperand g mem loc pf pn fm fn x1 = (u130.1, u130.2, pn) := by rw [pX2_loadOperand, if_neg w_17_1, if_neg w_17_2, if_neg w_17_3, if_neg w_17_5, if_neg w_17_6, if_neg w_17_7, if_neg w_17_8, if_neg w_17_9, if_neg w_17_10, if_neg w_17_11, if_neg w_17_13, if_pos w_17_14, hu130, mLet_eq]
    exact m_iret X hr hk V (by rw [e9]) (by rw [e9]) dX2_loadOperand_133
  by_cases w_17_15 : (pX1_modeOf fm x1) = 15
  · refine lv_tableIn (off := 102) (tgt := 119) hx hb dX2_loadOperand_17 (by rw [w_17_15]; decide) (by rw [w_17_15]; decide) (by rw [w_17_15]; rfl) (by decide) ?_
    refine lv_aload_n hx hb dX2_loadOperand_119 rfl (lv_at hl 1 rfl) ?_
    refine lv_aload_n hx hb dX2_loadOperand_120 rfl (lv_at hl 1 rfl) ?_
    refine m_get X V 2 0 6 rfl gin_2 rfl (by decide) rfl gm_97 (v := .int (g 0)) rfl dX2_loadOperand_121 ?_
    refine lv_iload_n hx hb dX2_loadOperand_124 rfl (lv_at hl 0 rfl) ?_
    refine lv_iadd hx hb dX2_loadOperand_125 ?_
    refine lv_aload_n hx hb dX2_loadOperand_126 rfl (lv_at hl 1 rfl) ?_
    refine m_get X V 2 0 9 rfl gin_2 rfl (by decide) rfl gm_100 (v := .int (g 3)) rfl dX2_loadOperand_127 ?_
    obtain ⟨u130, hu130⟩ : ∃ u, pX2_fetch g mem ((g 0) + (pX1_numberOf fn x1)) (g 3) = u := ⟨_, rfl⟩
    have hM := kX2_fetch l D cB cI ad g mem loc pf pg pn t fm fn z key ld ((g 0) + (pX1_numberOf fn x1)) (g 3)
    rw [hu130] at hM
    refine m_VA X V (w1 := (wM cB cI ad u130.2 mem loc pf pg pn t fm fn z key ld)) (rest := []) (st1 := [.int u130.1]) hM okX2_fetch gm_236 gm_651 gm_235 ⟨⟨rfl, rfl⟩, ⟨by decide, by decide⟩, Nat.zero_le _, Nat.zero_le _⟩ rfl rfl (wM_fst _ _ _ _ _ _ _ _ _ _ _ _ _ _ _) (wM_fst _ _ _ _ _ _ _ _ _ _ _ _ _ _ _) rfl hl.1 (Nat.le_of_ble_eq_true rfl) dX2_loadOperand_130 rfl rfl (fun H locs V => ?_)
    have e9 : pX2_loadOperand g mem loc pf pn fm fn x1 = (u130.1, u130.2, pn) := by rw [pX2_loadOperand, if_neg w_17_1, if_neg w_17_2, if_neg w_17_3, if_neg w_17_5, if_neg w_17_6, if_neg w_17_7, if_neg w_17_8, if_neg w_17_9, if_neg w_17_10, if_neg w_17_11, if_neg w_17_13, if_neg w_17_14, if_pos w_17_15, hu130, mLet_eq]
    exact m_iret X hr hk V (by rw [e9]) (by rw [e9]) dX2_loadOperand_133
  have o_0 := lv_neT w_17_1 (a := 1) rfl
  have o_1 := lv_neT w_17_2 (a := 2) rfl
  have o_2 := lv_neT w_17_3 (a := 3) rfl
  have o_3 := lv_neT w_17_5 (a := 5) rfl
  have o_4 := lv_neT w_17_6 (a := 6) rfl
  have o_5 := lv_neT w_17_7 (a := 7) rfl
  have o_6 := lv_neT w_17_8 (a := 8) rfl
  have o_7 := lv_neT w_17_9 (a := 9) rfl
  have o_8 := lv_neT w_17_10 (a := 10) rfl
  have o_9 := lv_neT w_17_11 (a := 11) rfl
  have o_10 := lv_neT w_17_13 (a := 13) rfl
  have o_11 := lv_neT w_17_14 (a := 14) rfl
  have o_12 := lv_neT w_17_15 (a := 15) rfl
  refine m_tabD (x := (pX1_modeOf fm x1)) (tgt := 134) hx hb dX2_loadOperand_17 (by decide) (by decide) (fun off h1 h2 h3 => by (rcases (show Int32.toInt (pX1_modeOf fm x1) = 4 ∨ Int32.toInt (pX1_modeOf fm x1) = 12 by omega) with q | q <;> (rw [q] at h3; exact (Option.some.inj h3).symm))) ?_
  refine lv_iconst (v := 0) hx hb dX2_loadOperand_134 (by decide) ?_
  have e9 : pX2_loadOperand g mem loc pf pn fm fn x1 = (0, g, pn) := by rw [pX2_loadOperand, if_neg w_17_1, if_neg w_17_2, if_neg w_17_3, if_neg w_17_5, if_neg w_17_6, if_neg w_17_7, if_neg w_17_8, if_neg w_17_9, if_neg w_17_10, if_neg w_17_11, if_neg w_17_13, if_neg w_17_14, if_neg w_17_15]
  exact m_iret X hr hk V (by rw [e9]) (by rw [e9]) dX2_loadOperand_135
def pX2_load (ld : Nat → Int32) (x1 : Int32) : Int32 := (if x1 < 0 then (0) else (if 7 ≤ x1 then (0) else ((ld (Int32.toNatClampNeg x1)))))
theorem okX2_load : mOk yX2_load cX2_load 2 (some .int) 1 := ⟨gm_254, gm_4, by decide +kernel⟩
set_option maxRecDepth 100000 in
set_option maxHeartbeats 4000000 in
theorem kX2_load (l : Launch) (D : va_G) (cB cI : ClassId) (ad : Nat → Nat) (g : Nat → Int32) (mem : Nat → Int32) (loc : Nat → Int32) (pf : Nat → Int32) (pg : Nat → Int32) (pn : Int32) (t : Nat → Int32) (fm : Nat → Int32) (fn : Nat → Int32) (z : Nat → Int32) (key : Nat → Int32) (ld : Nat → Int32) (x1 : Int32) : mM l D cB cI yX2_load cX2_load 2 (some .int) { frames := 0, cells := 0, slots := 0, locals := 0 } [.ref (ad 0), .int x1] (wM cB cI ad g mem loc pf pg pn t fm fn z key ld) (some (pX2_load ld x1)) (wM cB cI ad g mem loc pf pg pn t fm fn z key ld) := by
  refine m_start (by decide +kernel) (Nat.le_of_ble_eq_true rfl) ?_
  intro p e s m below meth c A ls X hr hk V hl
  have X : mCx p s m _ c cX2_load 2 RX2 D cB cI := X
  have hx := X.1.1
  have hb := X.1.2.1
  have hl : lv_has ls 2 [(0, .ref (ad 0)), (1, .int x1)] := hl
  refine lv_iload_n hx hb dX2_load_0 rfl (lv_at hl 1 rfl) ?_
  refine lv_if_lt (tgt := 22) hx hb dX2_load_1 (by decide) (fun c_1 => ?_) (fun c_1 => ?_)
  · refine lv_iconst (v := 0) hx hb dX2_load_22 (by decide) ?_
    have e9 : pX2_load ld x1 = (0) := by rw [pX2_load, if_pos c_1]
    exact m_iret X hr hk V (by rw [e9]) rfl dX2_load_23
  · refine lv_iload_n hx hb dX2_load_4 rfl (lv_at hl 1 rfl) ?_
    refine lv_aload_n hx hb dX2_load_5 rfl (lv_at hl 0 rfl) ?_
    refine m_get X V 2 0 5 rfl gin_2 rfl (by decide) rfl gm_96 (v := .ref (ad 14)) rfl dX2_load_6 ?_
    refine m_ilen X V 14 (v := 7) rfl (by decide) dX2_load_9 ?_
    refine lv_icmp_ge (tgt := 22) hx hb dX2_load_10 (by decide) (fun c_10 => ?_) (fun c_10 => ?_)
    · refine lv_iconst (v := 0) hx hb dX2_load_22 (by decide) ?_
      have e9 : pX2_load ld x1 = (0) := by rw [pX2_load, if_neg c_1, if_pos c_10]
      exact m_iret X hr hk V (by rw [e9]) rfl dX2_load_23
    · refine lv_aload_n hx hb dX2_load_13 rfl (lv_at hl 0 rfl) ?_
      refine m_get X V 2 0 5 rfl gin_2 rfl (by decide) rfl gm_96 (v := .ref (ad 14)) rfl dX2_load_14 ?_
      refine lv_iload_n hx hb dX2_load_17 rfl (lv_at hl 1 rfl) ?_
      refine m_iald X V 14 rfl (vi_a (n := 7) (by decide) c_1 c_10) dX2_load_18 ?_
      refine lv_goto (tgt := 23) hx hb dX2_load_19 (by decide) ?_
      have e9 : pX2_load ld x1 = ((ld (Int32.toNatClampNeg x1))) := by rw [pX2_load, if_neg c_1, if_neg c_10]
      exact m_iret X hr hk V (by rw [e9]) rfl dX2_load_23
def pX2_loadAll_lp2 (mem : Nat → Int32) (loc : Nat → Int32) (pf : Nat → Int32) (t : Nat → Int32) (fm : Nat → Int32) (fn : Nat → Int32) : Nat → (Nat → Int32) → (Int32) → (Nat → Int32) → (Int32) → (Nat → Int32) × Int32 × (Nat → Int32)
  | 0, g, pn, ld, k1 => (g, pn, ld)
  | n_ + 1, g, pn, ld, k1 => (if (t 1) ≤ k1 then (g, pn, ld) else (if 7 ≤ k1 then (g, pn, ld) else (if (g 5) = 0 then (mLet (pX2_loadOperand g mem loc pf pn fm fn k1) (fun (u36 : Int32 × (Nat → Int32) × Int32) => (pX2_loadAll_lp2 mem loc pf t fm fn n_ u36.2.1 u36.2.2 (upd ld (Int32.toNatClampNeg k1) u36.1) (k1 + 1)))) else (g, pn, ld))))
def pX2_loadAll (g : Nat → Int32) (mem : Nat → Int32) (loc : Nat → Int32) (pf : Nat → Int32) (pn : Int32) (t : Nat → Int32) (fm : Nat → Int32) (fn : Nat → Int32) (ld : Nat → Int32) : (Nat → Int32) × Int32 × (Nat → Int32) := (pX2_loadAll_lp2 mem loc pf t fm fn ((Int32.toInt (t 1) - Int32.toInt 0).toNat + 1) g pn ld 0)
theorem okX2_loadAll : mOk yX2_loadAll cX2_loadAll 2 none 0 := ⟨gm_227, gm_4, by decide +kernel⟩
set_option maxRecDepth 100000 in
set_option maxHeartbeats 4000000 in
theorem lpX2_loadAll_2 {p : Program} {e : Env} {s : State} {m : MethodId} {args : Array Value} {below : List Frame} {meth : Method} {c : Code} {A : Nat → Prop} {l : Launch} {D : va_G} {cB cI : ClassId} {ad : Nat → Nat} {mem : Nat → Int32} {loc : Nat → Int32} {pf : Nat → Int32} {pg : Nat → Int32} {t : Nat → Int32} {fm : Nat → Int32} {fn : Nat → Int32} {z : Nat → Int32} {key : Nat → Int32} (X : mCx p s m args c cX2_loadAll 2 RX2 D cB cI) (hr : meth.sig.returnType = none) (hk : meth.locks = false) : ∀ (n_ : Nat) (g : Nat → Int32) (pn : Int32) (ld : Nat → Int32) (k1 : Int32) (H : Heap) (locs : List Loc) (ls : Array Slot), ¬ k1 < 0 → (Int32.toInt (t 1) - Int32.toInt k1).toNat < n_ → mWd D A s (wM cB cI ad g mem loc pf pg pn t fm fn z key ld) H locs → lv_has ls 2 [(0, .ref (ad 0)), (1, .int k1)] → W p l e { frames := 4, cells := 0, slots := 0, locals := 89 } s m args below meth c H locs 0 0 (MQ below (mQ D A (wM cB cI ad ((pX2_loadAll_lp2 mem loc pf t fm fn n_ g pn ld k1).1) mem loc pf pg ((pX2_loadAll_lp2 mem loc pf t fm fn n_ g pn ld k1).2.1) t fm fn z key ((pX2_loadAll_lp2 mem loc pf t fm fn n_ g pn ld k1).2.2)) none) args s 0 0 A) (F0 m 2 ls []) := by
  have hx := X.1.1
  have hb := X.1.2.1
  intro n_
  induction n_ with
  | zero =>
    intro g pn ld k1 H locs ls hk1 hm V hl
    exact absurd hm (Nat.not_lt_zero _)
  | succ n_ ih =>
    intro g pn ld k1 H locs ls hk1 hm V hl
    refine lv_iload_n hx hb dX2_loadAll_2 rfl (lv_at hl 1 rfl) ?_
    refine lv_aload_n hx hb dX2_loadAll_3 rfl (lv_at hl 0 rfl) ?_
    refine m_get X V 2 0 3 rfl gin_2 rfl (by decide) rfl gm_94 (v := .ref (ad 8)) rfl dX2_loadAll_4 ?_
    refine m_getN X V 1 8 3 rfl gin_1 rfl (by decide) rfl nf_5 (v := .int (t 1)) rfl dX2_loadAll_7 ?_
    refine lv_icmp_ge (tgt := 46) hx hb dX2_loadAll_10 (by decide) (fun c_10 => ?_) (fun c_10 => ?_)
    · have e9 : pX2_loadAll_lp2 mem loc pf t fm fn (n_ + 1) g pn ld k1 = (g, pn, ld) := by rw [pX2_loadAll_lp2, if_pos c_10]
      exact m_vret X hr hk V rfl (by rw [e9]) dX2_loadAll_46
    · refine lv_iload_n hx hb dX2_loadAll_13 rfl (lv_at hl 1 rfl) ?_
      refine lv_aload_n hx hb dX2_loadAll_14 rfl (lv_at hl 0 rfl) ?_
      refine m_get X V 2 0 5 rfl gin_2 rfl (by decide) rfl gm_96 (v := .ref (ad 14)) rfl dX2_loadAll_15 ?_
      refine m_ilen X V 14 (v := 7) rfl (by decide) dX2_loadAll_18 ?_
      refine lv_icmp_ge (tgt := 46) hx hb dX2_loadAll_19 (by decide) (fun c_19 => ?_) (fun c_19 => ?_)
      · have e9 : pX2_loadAll_lp2 mem loc pf t fm fn (n_ + 1) g pn ld k1 = (g, pn, ld) := by rw [pX2_loadAll_lp2, if_neg c_10, if_pos c_19]
        exact m_vret X hr hk V rfl (by rw [e9]) dX2_loadAll_46
      · refine lv_aload_n hx hb dX2_loadAll_22 rfl (lv_at hl 0 rfl) ?_
        refine m_get X V 2 0 11 rfl gin_2 rfl (by decide) rfl gm_102 (v := .int (g 5)) rfl dX2_loadAll_23 ?_
        refine lv_if_ne (tgt := 46) hx hb dX2_loadAll_26 (by decide) (fun c_26 => ?_) (fun c_26 => ?_)
        · have e9 : pX2_loadAll_lp2 mem loc pf t fm fn (n_ + 1) g pn ld k1 = (g, pn, ld) := by rw [pX2_loadAll_lp2, if_neg c_10, if_neg c_19, if_neg c_26]
          exact m_vret X hr hk V rfl (by rw [e9]) dX2_loadAll_46
        · refine lv_aload_n hx hb dX2_loadAll_29 rfl (lv_at hl 0 rfl) ?_
          refine m_get X V 2 0 5 rfl gin_2 rfl (by decide) rfl gm_96 (v := .ref (ad 14)) rfl dX2_loadAll_30 ?_
          refine lv_iload_n hx hb dX2_loadAll_33 rfl (lv_at hl 1 rfl) ?_
          refine lv_aload_n hx hb dX2_loadAll_34 rfl (lv_at hl 0 rfl) ?_
          refine lv_iload_n hx hb dX2_loadAll_35 rfl (lv_at hl 1 rfl) ?_
          obtain ⟨u36, hu36⟩ : ∃ u, pX2_loadOperand g mem loc pf pn fm fn k1 = u := ⟨_, rfl⟩
          have hM := kX2_loadOperand l D cB cI ad g mem loc pf pg pn t fm fn z key ld k1
          rw [hu36] at hM
          refine m_VA X V (w1 := (wM cB cI ad u36.2.1 mem loc pf pg u36.2.2 t fm fn z key ld)) (rest := [.int k1, .ref (ad 14)]) (st1 := [.int u36.1, .int k1, .ref (ad 14)]) hM okX2_loadOperand gm_229 gm_649 gm_228 ⟨⟨rfl, rfl⟩, ⟨by decide, by decide⟩, Nat.zero_le _, Nat.zero_le _⟩ rfl rfl (wM_fst _ _ _ _ _ _ _ _ _ _ _ _ _ _ _) (wM_fst _ _ _ _ _ _ _ _ _ _ _ _ _ _ _) rfl hl.1 (Nat.le_of_ble_eq_true rfl) dX2_loadAll_36 rfl rfl (fun H locs V => ?_)
          refine m_iast X V (ws' := (wM cB cI ad u36.2.1 mem loc pf pg u36.2.2 t fm fn z key (upd ld (Int32.toNatClampNeg k1) u36.1))) 14 rfl (vi_a (n := 7) (by decide) hk1 c_19) dX2_loadAll_39 rfl (fun H locs V => ?_)
          refine lv_iinc (v := (k1 + 1)) (lv' := [(1, .int (k1 + 1)), (0, .ref (ad 0))]) hx hb dX2_loadAll_40 hl (k := 1) rfl rfl (by decide) rfl (fun ls hl => ?_)
          refine lv_goto (tgt := 2) hx hb dX2_loadAll_43 (by decide) ?_
          rw [show pX2_loadAll_lp2 mem loc pf t fm fn (n_ + 1) g pn ld k1 = pX2_loadAll_lp2 mem loc pf t fm fn n_ u36.2.1 u36.2.2 (upd ld (Int32.toNatClampNeg k1) u36.1) (k1 + 1) from by rw [pX2_loadAll_lp2, if_neg c_10, if_neg c_19, if_pos c_26, hu36, mLet_eq]]
          exact ih u36.2.1 u36.2.2 (upd ld (Int32.toNatClampNeg k1) u36.1) (k1 + 1) _ _ _ (nn_up hk1 c_10) (ms_up c_10 hm) V (lv_sub hl [1, 0] rfl)
set_option maxRecDepth 100000 in
set_option maxHeartbeats 4000000 in
theorem kX2_loadAll (l : Launch) (D : va_G) (cB cI : ClassId) (ad : Nat → Nat) (g : Nat → Int32) (mem : Nat → Int32) (loc : Nat → Int32) (pf : Nat → Int32) (pg : Nat → Int32) (pn : Int32) (t : Nat → Int32) (fm : Nat → Int32) (fn : Nat → Int32) (z : Nat → Int32) (key : Nat → Int32) (ld : Nat → Int32) : mM l D cB cI yX2_loadAll cX2_loadAll 2 none { frames := 4, cells := 0, slots := 0, locals := 89 } [.ref (ad 0)] (wM cB cI ad g mem loc pf pg pn t fm fn z key ld) none (wM cB cI ad ((pX2_loadAll g mem loc pf pn t fm fn ld).1) mem loc pf pg ((pX2_loadAll g mem loc pf pn t fm fn ld).2.1) t fm fn z key ((pX2_loadAll g mem loc pf pn t fm fn ld).2.2)) := by
  refine m_start (by decide +kernel) (Nat.le_of_ble_eq_true rfl) ?_
  intro p e s m below meth c A ls X hr hk V hl
  have X : mCx p s m _ c cX2_loadAll 2 RX2 D cB cI := X
  have hx := X.1.1
  have hb := X.1.2.1
  have hl : lv_has ls 2 [(0, .ref (ad 0))] := hl
  refine lv_iconst (v := 0) hx hb dX2_loadAll_0 (by decide) ?_
  refine lv_istore_n (lv' := [(1, .int 0), (0, .ref (ad 0))]) hx hb dX2_loadAll_1 rfl hl (by decide) rfl (fun ls hl => ?_)
  rw [show pX2_loadAll g mem loc pf pn t fm fn ld = (pX2_loadAll_lp2 mem loc pf t fm fn ((Int32.toInt (t 1) - Int32.toInt 0).toNat + 1) g pn ld 0) from by rw [pX2_loadAll]]
  exact lpX2_loadAll_2 X hr hk  ((Int32.toInt (t 1) - Int32.toInt 0).toNat + 1) g pn ld 0 _ _ _ (by decide) (Nat.lt_succ_self _) V (lv_sub hl [1, 0] rfl)
def pX2_storeTop (g : Nat → Int32) (pf : Nat → Int32) (pn : Int32) (x1 : Int32) : (Nat → Int32) × (Nat → Int32) × Int32 := (if (pX3_isFull pn) = 0 then (mLet (pX3_add pf pn x1) (fun (u21 : (Nat → Int32) × Int32) => (g, u21.1, u21.2))) else ((upd g 5 5), pf, pn))
theorem okX2_storeTop : mOk yX2_storeTop cX2_storeTop 2 none 1 := ⟨gm_391, gm_4, by decide +kernel⟩
set_option maxRecDepth 100000 in
set_option maxHeartbeats 4000000 in
theorem kX2_storeTop (l : Launch) (D : va_G) (cB cI : ClassId) (ad : Nat → Nat) (g : Nat → Int32) (mem : Nat → Int32) (loc : Nat → Int32) (pf : Nat → Int32) (pg : Nat → Int32) (pn : Int32) (t : Nat → Int32) (fm : Nat → Int32) (fn : Nat → Int32) (z : Nat → Int32) (key : Nat → Int32) (ld : Nat → Int32) (x1 : Int32) : mM l D cB cI yX2_storeTop cX2_storeTop 2 none { frames := 2, cells := 0, slots := 0, locals := 43 } [.ref (ad 0), .int x1] (wM cB cI ad g mem loc pf pg pn t fm fn z key ld) none (wM cB cI ad ((pX2_storeTop g pf pn x1).1) mem loc ((pX2_storeTop g pf pn x1).2.1) pg ((pX2_storeTop g pf pn x1).2.2) t fm fn z key ld) := by
  refine m_start (by decide +kernel) (Nat.le_of_ble_eq_true rfl) ?_
  intro p e s m below meth c A ls X hr hk V hl
  have X : mCx p s m _ c cX2_storeTop 2 RX2 D cB cI := X
  have hx := X.1.1
  have hb := X.1.2.1
  have hl : lv_has ls 2 [(0, .ref (ad 0)), (1, .int x1)] := hl
  refine lv_aload_n hx hb dX2_storeTop_0 rfl (lv_at hl 0 rfl) ?_
  refine m_get X V 2 0 2 rfl gin_2 rfl (by decide) rfl gm_93 (v := .ref (ad 5)) rfl dX2_storeTop_1 ?_
  refine m_VN X V (ws' := (wM cB cI ad g mem loc pf pg pn t fm fn z key ld)) (rest := []) (st1 := [.int (pX3_isFull pn)]) (kX3_isFull l D cB cI (ad 5) (ad 6) (ad 7) pf pg pn) okX3_isFull gm_148 gm_632 nm_50 [5, 6, 7] ⟨⟨rfl, rfl⟩, ⟨by decide, by decide⟩, Nat.zero_le _, Nat.zero_le _⟩ rfl rfl rfl rfl (wP_fst _ _ _ _ _ _ _ _) (wP_fst _ _ _ _ _ _ _ _) rfl rfl hl.1 (Nat.le_of_ble_eq_true rfl) dX2_storeTop_4 rfl rfl (fun H locs V => ?_)
  refine lv_if_eq (tgt := 16) hx hb dX2_storeTop_7 (by decide) (fun c_7 => ?_) (fun c_7 => ?_)
  · refine lv_aload_n hx hb dX2_storeTop_16 rfl (lv_at hl 0 rfl) ?_
    refine m_get X V 2 0 2 rfl gin_2 rfl (by decide) rfl gm_93 (v := .ref (ad 5)) rfl dX2_storeTop_17 ?_
    refine lv_iload_n hx hb dX2_storeTop_20 rfl (lv_at hl 1 rfl) ?_
    obtain ⟨u21, hu21⟩ : ∃ u, pX3_add pf pn x1 = u := ⟨_, rfl⟩
    have hM := kX3_add l D cB cI (ad 5) (ad 6) (ad 7) pf pg pn x1
    rw [hu21] at hM
    refine m_VN X V (ws' := (wM cB cI ad g mem loc u21.1 pg u21.2 t fm fn z key ld)) (rest := []) (st1 := []) hM okX3_add gm_150 gm_633 nm_51 [5, 6, 7] ⟨⟨rfl, rfl⟩, ⟨by decide, by decide⟩, Nat.zero_le _, Nat.zero_le _⟩ rfl rfl rfl rfl (wP_fst _ _ _ _ _ _ _ _) (wP_fst _ _ _ _ _ _ _ _) rfl rfl hl.1 (Nat.le_of_ble_eq_true rfl) dX2_storeTop_21 rfl rfl (fun H locs V => ?_)
    have e9 : pX2_storeTop g pf pn x1 = (g, u21.1, u21.2) := by rw [pX2_storeTop, if_pos c_7, hu21, mLet_eq]
    exact m_vret X hr hk V rfl (by rw [e9]) dX2_storeTop_24
  · refine lv_aload_n hx hb dX2_storeTop_10 rfl (lv_at hl 0 rfl) ?_
    refine lv_iconst (v := 5) hx hb dX2_storeTop_11 (by decide) ?_
    refine m_put X V (ws' := (wM cB cI ad (upd g 5 5) mem loc pf pg pn t fm fn z key ld)) 2 0 11 rfl gin_2 tyX2_ok nmX2 rfl (by decide) rfl gm_102 rfl rfl rfl (Nat.le_of_ble_eq_true rfl) dX2_storeTop_12 rfl (fun H locs V => ?_)
    have e9 : pX2_storeTop g pf pn x1 = ((upd g 5 5), pf, pn) := by rw [pX2_storeTop, if_neg c_7]
    exact m_vret X hr hk V rfl (by rw [e9]) dX2_storeTop_15
def pX2_storeLocal (g : Nat → Int32) (loc : Nat → Int32) (x1 : Int32) (x2 : Int32) : (Nat → Int32) × (Nat → Int32) := (if (pX0_holds 64 x1 (g 3)) = 0 then ((upd g 5 7), loc) else (mLet (pX0_put loc 64 x1 (g 3) (Int32.toInt64 x2)) (fun (u33 : (Nat → Int32)) => (g, u33))))
theorem okX2_storeLocal : mOk yX2_storeLocal cX2_storeLocal 3 none 2 := ⟨gm_394, gm_4, by decide +kernel⟩
set_option maxRecDepth 100000 in
set_option maxHeartbeats 4000000 in
theorem kX2_storeLocal (l : Launch) (D : va_G) (cB cI : ClassId) (ad : Nat → Nat) (g : Nat → Int32) (mem : Nat → Int32) (loc : Nat → Int32) (pf : Nat → Int32) (pg : Nat → Int32) (pn : Int32) (t : Nat → Int32) (fm : Nat → Int32) (fn : Nat → Int32) (z : Nat → Int32) (key : Nat → Int32) (ld : Nat → Int32) (x1 : Int32) (x2 : Int32) : mM l D cB cI yX2_storeLocal cX2_storeLocal 3 none { frames := 1, cells := 0, slots := 0, locals := 28 } [.ref (ad 0), .int x1, .int x2] (wM cB cI ad g mem loc pf pg pn t fm fn z key ld) none (wM cB cI ad ((pX2_storeLocal g loc x1 x2).1) mem ((pX2_storeLocal g loc x1 x2).2) pf pg pn t fm fn z key ld) := by
  refine m_start (by decide +kernel) (Nat.le_of_ble_eq_true rfl) ?_
  intro p e s m below meth c A ls X hr hk V hl
  have X : mCx p s m _ c cX2_storeLocal 3 RX2 D cB cI := X
  have hx := X.1.1
  have hb := X.1.2.1
  have hl : lv_has ls 3 [(0, .ref (ad 0)), (1, .int x1), (2, .int x2)] := hl
  refine lv_aload_n hx hb dX2_storeLocal_0 rfl (lv_at hl 0 rfl) ?_
  refine m_get X V 2 0 1 rfl gin_2 rfl (by decide) rfl gm_92 (v := .ref (ad 3)) rfl dX2_storeLocal_1 ?_
  refine lv_iload_n hx hb dX2_storeLocal_4 rfl (lv_at hl 1 rfl) ?_
  refine lv_aload_n hx hb dX2_storeLocal_5 rfl (lv_at hl 0 rfl) ?_
  refine m_get X V 2 0 9 rfl gin_2 rfl (by decide) rfl gm_100 (v := .int (g 3)) rfl dX2_storeLocal_6 ?_
  refine m_VN X V (ws' := (wM cB cI ad g mem loc pf pg pn t fm fn z key ld)) (rest := []) (st1 := [.int (pX0_holds 64 x1 (g 3))]) (kX0_holds l D cB cI (ad 3) (ad 4) 64 loc x1 (g 3) (by decide)) okX0_holds gm_132 gm_630 nm_27 [3, 4] ⟨⟨rfl, rfl⟩, ⟨by decide, by decide⟩, Nat.zero_le _, Nat.zero_le _⟩ rfl rfl rfl rfl (wB_fst _ _ _ _ _ _) (wB_fst _ _ _ _ _ _) rfl rfl hl.1 (Nat.le_of_ble_eq_true rfl) dX2_storeLocal_9 rfl rfl (fun H locs V => ?_)
  refine lv_if_ne (tgt := 22) hx hb dX2_storeLocal_12 (by decide) (fun c_12 => ?_) (fun c_12 => ?_)
  · refine lv_aload_n hx hb dX2_storeLocal_22 rfl (lv_at hl 0 rfl) ?_
    refine m_get X V 2 0 1 rfl gin_2 rfl (by decide) rfl gm_92 (v := .ref (ad 3)) rfl dX2_storeLocal_23 ?_
    refine lv_iload_n hx hb dX2_storeLocal_26 rfl (lv_at hl 1 rfl) ?_
    refine lv_aload_n hx hb dX2_storeLocal_27 rfl (lv_at hl 0 rfl) ?_
    refine m_get X V 2 0 9 rfl gin_2 rfl (by decide) rfl gm_100 (v := .int (g 3)) rfl dX2_storeLocal_28 ?_
    refine lv_iload_n hx hb dX2_storeLocal_31 rfl (lv_at hl 2 rfl) ?_
    refine lv_i2l hx hb dX2_storeLocal_32 rfl ?_
    obtain ⟨u33, hu33⟩ : ∃ u, pX0_put loc 64 x1 (g 3) (Int32.toInt64 x2) = u := ⟨_, rfl⟩
    have hM := kX0_put l D cB cI (ad 3) (ad 4) 64 loc x1 (g 3) (Int32.toInt64 x2) (by decide)
    rw [hu33] at hM
    refine m_VN X V (ws' := (wM cB cI ad g mem u33 pf pg pn t fm fn z key ld)) (rest := []) (st1 := []) hM okX0_put gm_134 gm_631 nm_33 [3, 4] ⟨⟨rfl, rfl⟩, ⟨by decide, by decide⟩, Nat.zero_le _, Nat.zero_le _⟩ rfl rfl rfl rfl (wB_fst _ _ _ _ _ _) (wB_fst _ _ _ _ _ _) rfl rfl hl.1 (Nat.le_of_ble_eq_true rfl) dX2_storeLocal_33 rfl rfl (fun H locs V => ?_)
    have e9 : pX2_storeLocal g loc x1 x2 = (g, u33) := by rw [pX2_storeLocal, if_neg c_12, hu33, mLet_eq]
    exact m_vret X hr hk V rfl (by rw [e9]) dX2_storeLocal_36
  · refine lv_aload_n hx hb dX2_storeLocal_15 rfl (lv_at hl 0 rfl) ?_
    refine lv_bipush (v := 7) hx hb dX2_storeLocal_16 (by decide) ?_
    refine m_put X V (ws' := (wM cB cI ad (upd g 5 7) mem loc pf pg pn t fm fn z key ld)) 2 0 11 rfl gin_2 tyX2_ok nmX2 rfl (by decide) rfl gm_102 rfl rfl rfl (Nat.le_of_ble_eq_true rfl) dX2_storeLocal_18 rfl (fun H locs V => ?_)
    have e9 : pX2_storeLocal g loc x1 x2 = ((upd g 5 7), loc) := by rw [pX2_storeLocal, if_pos c_12]
    exact m_vret X hr hk V rfl (by rw [e9]) dX2_storeLocal_21
def pX2_mayStore (g : Nat → Int32) (x1 : Int32) (x2 : Int32) : Int32 × (Nat → Int32) := (if (pX0_holds 1024 x1 x2) = 0 then (0, (upd g 5 1)) else (if (g 0) ≤ x1 then (if (g 5) = 0 then (1, g) else (0, g)) else (0, (upd g 5 8))))
theorem okX2_mayStore : mOk yX2_mayStore cX2_mayStore 3 (some .boolean) 2 := ⟨gm_298, gm_4, by decide +kernel⟩
set_option maxRecDepth 100000 in
set_option maxHeartbeats 4000000 in
theorem kX2_mayStore (l : Launch) (D : va_G) (cB cI : ClassId) (ad : Nat → Nat) (g : Nat → Int32) (mem : Nat → Int32) (loc : Nat → Int32) (pf : Nat → Int32) (pg : Nat → Int32) (pn : Int32) (t : Nat → Int32) (fm : Nat → Int32) (fn : Nat → Int32) (z : Nat → Int32) (key : Nat → Int32) (ld : Nat → Int32) (x1 : Int32) (x2 : Int32) : mM l D cB cI yX2_mayStore cX2_mayStore 3 (some .boolean) { frames := 1, cells := 0, slots := 0, locals := 22 } [.ref (ad 0), .int x1, .int x2] (wM cB cI ad g mem loc pf pg pn t fm fn z key ld) (some ((pX2_mayStore g x1 x2).1)) (wM cB cI ad ((pX2_mayStore g x1 x2).2) mem loc pf pg pn t fm fn z key ld) := by
  refine m_start (by decide +kernel) (Nat.le_of_ble_eq_true rfl) ?_
  intro p e s m below meth c A ls X hr hk V hl
  have X : mCx p s m _ c cX2_mayStore 3 RX2 D cB cI := X
  have hx := X.1.1
  have hb := X.1.2.1
  have hl : lv_has ls 3 [(0, .ref (ad 0)), (1, .int x1), (2, .int x2)] := hl
  refine lv_aload_n hx hb dX2_mayStore_0 rfl (lv_at hl 0 rfl) ?_
  refine m_get X V 2 0 0 rfl gin_2 rfl (by decide) rfl gm_91 (v := .ref (ad 1)) rfl dX2_mayStore_1 ?_
  refine lv_iload_n hx hb dX2_mayStore_4 rfl (lv_at hl 1 rfl) ?_
  refine lv_iload_n hx hb dX2_mayStore_5 rfl (lv_at hl 2 rfl) ?_
  refine m_VN X V (ws' := (wM cB cI ad g mem loc pf pg pn t fm fn z key ld)) (rest := []) (st1 := [.int (pX0_holds 1024 x1 x2)]) (kX0_holds l D cB cI (ad 1) (ad 2) 1024 mem x1 x2 (by decide)) okX0_holds gm_132 gm_630 nm_27 [1, 2] ⟨⟨rfl, rfl⟩, ⟨by decide, by decide⟩, Nat.zero_le _, Nat.zero_le _⟩ rfl rfl rfl rfl (wB_fst _ _ _ _ _ _) (wB_fst _ _ _ _ _ _) rfl rfl hl.1 (Nat.le_of_ble_eq_true rfl) dX2_mayStore_6 rfl rfl (fun H locs V => ?_)
  refine lv_if_ne (tgt := 20) hx hb dX2_mayStore_9 (by decide) (fun c_9 => ?_) (fun c_9 => ?_)
  · refine lv_iload_n hx hb dX2_mayStore_20 rfl (lv_at hl 1 rfl) ?_
    refine lv_aload_n hx hb dX2_mayStore_21 rfl (lv_at hl 0 rfl) ?_
    refine m_get X V 2 0 6 rfl gin_2 rfl (by decide) rfl gm_97 (v := .int (g 0)) rfl dX2_mayStore_22 ?_
    refine lv_icmp_ge (tgt := 34) hx hb dX2_mayStore_25 (by decide) (fun c_25 => ?_) (fun c_25 => ?_)
    · refine lv_aload_n hx hb dX2_mayStore_34 rfl (lv_at hl 0 rfl) ?_
      refine m_get X V 2 0 11 rfl gin_2 rfl (by decide) rfl gm_102 (v := .int (g 5)) rfl dX2_mayStore_35 ?_
      refine lv_if_ne (tgt := 45) hx hb dX2_mayStore_38 (by decide) (fun c_38 => ?_) (fun c_38 => ?_)
      · refine lv_iconst (v := 0) hx hb dX2_mayStore_45 (by decide) ?_
        have e9 : pX2_mayStore g x1 x2 = (0, g) := by rw [pX2_mayStore, if_neg c_9, if_pos c_25, if_neg c_38]
        exact m_zret X hr hk V rfl (by rw [e9]) (by rw [e9]) dX2_mayStore_46
      · refine lv_iconst (v := 1) hx hb dX2_mayStore_41 (by decide) ?_
        refine lv_goto (tgt := 46) hx hb dX2_mayStore_42 (by decide) ?_
        have e9 : pX2_mayStore g x1 x2 = (1, g) := by rw [pX2_mayStore, if_neg c_9, if_pos c_25, if_pos c_38]
        exact m_zret X hr hk V rfl (by rw [e9]) (by rw [e9]) dX2_mayStore_46
    · refine lv_aload_n hx hb dX2_mayStore_28 rfl (lv_at hl 0 rfl) ?_
      refine lv_bipush (v := 8) hx hb dX2_mayStore_29 (by decide) ?_
      refine m_put X V (ws' := (wM cB cI ad (upd g 5 8) mem loc pf pg pn t fm fn z key ld)) 2 0 11 rfl gin_2 tyX2_ok nmX2 rfl (by decide) rfl gm_102 rfl rfl rfl (Nat.le_of_ble_eq_true rfl) dX2_mayStore_31 rfl (fun H locs V => ?_)
      refine lv_aload_n hx hb dX2_mayStore_34 rfl (lv_at hl 0 rfl) ?_
      refine m_get X V 2 0 11 rfl gin_2 rfl (by decide) rfl gm_102 (v := .int 8) rfl dX2_mayStore_35 ?_
      refine lv_if_ne (tgt := 45) hx hb dX2_mayStore_38 (by decide) (fun _ => ?_) (fun h => absurd h (by decide))
      refine lv_iconst (v := 0) hx hb dX2_mayStore_45 (by decide) ?_
      have e9 : pX2_mayStore g x1 x2 = (0, (upd g 5 8)) := by rw [pX2_mayStore, if_neg c_9, if_neg c_25]
      exact m_zret X hr hk V rfl (by rw [e9]) (by rw [e9]) dX2_mayStore_46
  · refine lv_aload_n hx hb dX2_mayStore_12 rfl (lv_at hl 0 rfl) ?_
    refine lv_iconst (v := 1) hx hb dX2_mayStore_13 (by decide) ?_
    refine m_put X V (ws' := (wM cB cI ad (upd g 5 1) mem loc pf pg pn t fm fn z key ld)) 2 0 11 rfl gin_2 tyX2_ok nmX2 rfl (by decide) rfl gm_102 rfl rfl rfl (Nat.le_of_ble_eq_true rfl) dX2_mayStore_14 rfl (fun H locs V => ?_)
    refine lv_goto (tgt := 34) hx hb dX2_mayStore_17 (by decide) ?_
    refine lv_aload_n hx hb dX2_mayStore_34 rfl (lv_at hl 0 rfl) ?_
    refine m_get X V 2 0 11 rfl gin_2 rfl (by decide) rfl gm_102 (v := .int 1) rfl dX2_mayStore_35 ?_
    refine lv_if_ne (tgt := 45) hx hb dX2_mayStore_38 (by decide) (fun _ => ?_) (fun h => absurd h (by decide))
    refine lv_iconst (v := 0) hx hb dX2_mayStore_45 (by decide) ?_
    have e9 : pX2_mayStore g x1 x2 = (0, (upd g 5 1)) := by rw [pX2_mayStore, if_pos c_9]
    exact m_zret X hr hk V rfl (by rw [e9]) (by rw [e9]) dX2_mayStore_46
def pX2_storeMemory (g : Nat → Int32) (mem : Nat → Int32) (x1 : Int32) (x2 : Int32) (x3 : Int32) : (Nat → Int32) × (Nat → Int32) := (mLet (pX2_mayStore g x1 x2) (fun (u3 : Int32 × (Nat → Int32)) => (if u3.1 = 0 then (u3.2, mem) else (mLet (pX0_put mem 1024 x1 x2 (Int32.toInt64 x3)) (fun (u17 : (Nat → Int32)) => (u3.2, u17))))))
theorem okX2_storeMemory : mOk yX2_storeMemory cX2_storeMemory 4 none 3 := ⟨gm_295, gm_4, by decide +kernel⟩
set_option maxRecDepth 100000 in
set_option maxHeartbeats 4000000 in
theorem kX2_storeMemory (l : Launch) (D : va_G) (cB cI : ClassId) (ad : Nat → Nat) (g : Nat → Int32) (mem : Nat → Int32) (loc : Nat → Int32) (pf : Nat → Int32) (pg : Nat → Int32) (pn : Int32) (t : Nat → Int32) (fm : Nat → Int32) (fn : Nat → Int32) (z : Nat → Int32) (key : Nat → Int32) (ld : Nat → Int32) (x1 : Int32) (x2 : Int32) (x3 : Int32) : mM l D cB cI yX2_storeMemory cX2_storeMemory 4 none { frames := 2, cells := 0, slots := 0, locals := 44 } [.ref (ad 0), .int x1, .int x2, .int x3] (wM cB cI ad g mem loc pf pg pn t fm fn z key ld) none (wM cB cI ad ((pX2_storeMemory g mem x1 x2 x3).1) ((pX2_storeMemory g mem x1 x2 x3).2) loc pf pg pn t fm fn z key ld) := by
  refine m_start (by decide +kernel) (Nat.le_of_ble_eq_true rfl) ?_
  intro p e s m below meth c A ls X hr hk V hl
  have X : mCx p s m _ c cX2_storeMemory 4 RX2 D cB cI := X
  have hx := X.1.1
  have hb := X.1.2.1
  have hl : lv_has ls 4 [(0, .ref (ad 0)), (1, .int x1), (2, .int x2), (3, .int x3)] := hl
  refine lv_aload_n hx hb dX2_storeMemory_0 rfl (lv_at hl 0 rfl) ?_
  refine lv_iload_n hx hb dX2_storeMemory_1 rfl (lv_at hl 1 rfl) ?_
  refine lv_iload_n hx hb dX2_storeMemory_2 rfl (lv_at hl 2 rfl) ?_
  obtain ⟨u3, hu3⟩ : ∃ u, pX2_mayStore g x1 x2 = u := ⟨_, rfl⟩
  have hM := kX2_mayStore l D cB cI ad g mem loc pf pg pn t fm fn z key ld x1 x2
  rw [hu3] at hM
  refine m_VA X V (w1 := (wM cB cI ad u3.2 mem loc pf pg pn t fm fn z key ld)) (rest := []) (st1 := [.int u3.1]) hM okX2_mayStore gm_297 gm_664 gm_296 ⟨⟨rfl, rfl⟩, ⟨by decide, by decide⟩, Nat.zero_le _, Nat.zero_le _⟩ rfl rfl (wM_fst _ _ _ _ _ _ _ _ _ _ _ _ _ _ _) (wM_fst _ _ _ _ _ _ _ _ _ _ _ _ _ _ _) rfl hl.1 (Nat.le_of_ble_eq_true rfl) dX2_storeMemory_3 rfl rfl (fun H locs V => ?_)
  refine lv_if_eq (tgt := 20) hx hb dX2_storeMemory_6 (by decide) (fun c_6 => ?_) (fun c_6 => ?_)
  · have e9 : pX2_storeMemory g mem x1 x2 x3 = (u3.2, mem) := by rw [pX2_storeMemory, hu3, mLet_eq, if_pos c_6]
    exact m_vret X hr hk V rfl (by rw [e9]) dX2_storeMemory_20
  · refine lv_aload_n hx hb dX2_storeMemory_9 rfl (lv_at hl 0 rfl) ?_
    refine m_get X V 2 0 0 rfl gin_2 rfl (by decide) rfl gm_91 (v := .ref (ad 1)) rfl dX2_storeMemory_10 ?_
    refine lv_iload_n hx hb dX2_storeMemory_13 rfl (lv_at hl 1 rfl) ?_
    refine lv_iload_n hx hb dX2_storeMemory_14 rfl (lv_at hl 2 rfl) ?_
    refine lv_iload_n hx hb dX2_storeMemory_15 rfl (lv_at hl 3 rfl) ?_
    refine lv_i2l hx hb dX2_storeMemory_16 rfl ?_
    obtain ⟨u17, hu17⟩ : ∃ u, pX0_put mem 1024 x1 x2 (Int32.toInt64 x3) = u := ⟨_, rfl⟩
    have hM := kX0_put l D cB cI (ad 1) (ad 2) 1024 mem x1 x2 (Int32.toInt64 x3) (by decide)
    rw [hu17] at hM
    refine m_VN X V (ws' := (wM cB cI ad u3.2 u17 loc pf pg pn t fm fn z key ld)) (rest := []) (st1 := []) hM okX0_put gm_134 gm_631 nm_33 [1, 2] ⟨⟨rfl, rfl⟩, ⟨by decide, by decide⟩, Nat.zero_le _, Nat.zero_le _⟩ rfl rfl rfl rfl (wB_fst _ _ _ _ _ _) (wB_fst _ _ _ _ _ _) rfl rfl hl.1 (Nat.le_of_ble_eq_true rfl) dX2_storeMemory_17 rfl rfl (fun H locs V => ?_)
    have e9 : pX2_storeMemory g mem x1 x2 x3 = (u3.2, u17) := by rw [pX2_storeMemory, hu3, mLet_eq, if_neg c_6, hu17, mLet_eq]
    exact m_vret X hr hk V rfl (by rw [e9]) dX2_storeMemory_20
def pX2_storeOperand (g : Nat → Int32) (mem : Nat → Int32) (loc : Nat → Int32) (pf : Nat → Int32) (pn : Int32) (fm : Nat → Int32) (fn : Nat → Int32) (x1 : Int32) (x2 : Int32) : (Nat → Int32) × (Nat → Int32) × (Nat → Int32) × (Nat → Int32) × Int32 := (if (pX1_modeOf fm x1) = 5 then (mLet (pX2_storeMemory g mem (pX1_numberOf fn x1) (g 3) x2) (fun (u83 : (Nat → Int32) × (Nat → Int32)) => (u83.1, u83.2, loc, pf, pn))) else (if (pX1_modeOf fm x1) = 6 then (mLet (pX2_storeMemory g mem (pX1_numberOf fn x1) (g 3) x2) (fun (u83 : (Nat → Int32) × (Nat → Int32)) => (u83.1, u83.2, loc, pf, pn))) else (if (pX1_modeOf fm x1) = 7 then (mLet (pX2_storeMemory g mem (pX1_numberOf fn x1) (g 3) x2) (fun (u83 : (Nat → Int32) × (Nat → Int32)) => (u83.1, u83.2, loc, pf, pn))) else (if (pX1_modeOf fm x1) = 8 then (mLet (pX2_storeTop g pf pn x2) (fun (u91 : (Nat → Int32) × (Nat → Int32) × Int32) => (u91.1, mem, loc, u91.2.1, u91.2.2))) else (if (pX1_modeOf fm x1) = 9 then (mLet (pX2_storeLocal g loc (pX1_numberOf fn x1) x2) (fun (u100 : (Nat → Int32) × (Nat → Int32)) => (u100.1, mem, u100.2, pf, pn))) else (if (pX1_modeOf fm x1) = 10 then (mLet (pX2_storeLocal g loc (pX1_numberOf fn x1) x2) (fun (u100 : (Nat → Int32) × (Nat → Int32)) => (u100.1, mem, u100.2, pf, pn))) else (if (pX1_modeOf fm x1) = 11 then (mLet (pX2_storeLocal g loc (pX1_numberOf fn x1) x2) (fun (u100 : (Nat → Int32) × (Nat → Int32)) => (u100.1, mem, u100.2, pf, pn))) else (if (pX1_modeOf fm x1) = 13 then (mLet (pX2_storeMemory g mem ((g 0) + (pX1_numberOf fn x1)) (g 3) x2) (fun (u118 : (Nat → Int32) × (Nat → Int32)) => (u118.1, u118.2, loc, pf, pn))) else (if (pX1_modeOf fm x1) = 14 then (mLet (pX2_storeMemory g mem ((g 0) + (pX1_numberOf fn x1)) (g 3) x2) (fun (u118 : (Nat → Int32) × (Nat → Int32)) => (u118.1, u118.2, loc, pf, pn))) else (if (pX1_modeOf fm x1) = 15 then (mLet (pX2_storeMemory g mem ((g 0) + (pX1_numberOf fn x1)) (g 3) x2) (fun (u118 : (Nat → Int32) × (Nat → Int32)) => (u118.1, u118.2, loc, pf, pn))) else (g, mem, loc, pf, pn)))))))))))
theorem okX2_storeOperand : mOk yX2_storeOperand cX2_storeOperand 4 none 2 := ⟨gm_388, gm_4, by decide +kernel⟩
set_option maxRecDepth 100000 in
set_option maxHeartbeats 4000000 in
theorem kX2_storeOperand (l : Launch) (D : va_G) (cB cI : ClassId) (ad : Nat → Nat) (g : Nat → Int32) (mem : Nat → Int32) (loc : Nat → Int32) (pf : Nat → Int32) (pg : Nat → Int32) (pn : Int32) (t : Nat → Int32) (fm : Nat → Int32) (fn : Nat → Int32) (z : Nat → Int32) (key : Nat → Int32) (ld : Nat → Int32) (x1 : Int32) (x2 : Int32) : mM l D cB cI yX2_storeOperand cX2_storeOperand 4 none { frames := 3, cells := 0, slots := 0, locals := 67 } [.ref (ad 0), .int x1, .int x2] (wM cB cI ad g mem loc pf pg pn t fm fn z key ld) none (wM cB cI ad ((pX2_storeOperand g mem loc pf pn fm fn x1 x2).1) ((pX2_storeOperand g mem loc pf pn fm fn x1 x2).2.1) ((pX2_storeOperand g mem loc pf pn fm fn x1 x2).2.2.1) ((pX2_storeOperand g mem loc pf pn fm fn x1 x2).2.2.2.1) pg ((pX2_storeOperand g mem loc pf pn fm fn x1 x2).2.2.2.2) t fm fn z key ld) := by
  refine m_start (by decide +kernel) (Nat.le_of_ble_eq_true rfl) ?_
  intro p e s m below meth c A ls X hr hk V hl
  have X : mCx p s m _ c cX2_storeOperand 4 RX2 D cB cI := X
  have hx := X.1.1
  have hb := X.1.2.1
  have hl : lv_has ls 4 [(0, .ref (ad 0)), (1, .int x1), (2, .int x2)] := hl
  refine lv_aload_n hx hb dX2_storeOperand_0 rfl (lv_at hl 0 rfl) ?_
  refine m_get X V 2 0 3 rfl gin_2 rfl (by decide) rfl gm_94 (v := .ref (ad 8)) rfl dX2_storeOperand_1 ?_
  refine lv_iload_n hx hb dX2_storeOperand_4 rfl (lv_at hl 1 rfl) ?_
  refine m_VN X V (ws' := (wM cB cI ad g mem loc pf pg pn t fm fn z key ld)) (rest := []) (st1 := [.int (pX1_numberOf fn x1)]) (kX1_numberOf l D cB cI (ad 8) (ad 9) (ad 10) t fm fn x1) okX1_numberOf gm_215 gm_646 nm_25 [8, 9, 10] ⟨⟨rfl, rfl⟩, ⟨by decide, by decide⟩, Nat.zero_le _, Nat.zero_le _⟩ rfl rfl rfl rfl (wF_fst _ _ _ _ _ _ _ _) (wF_fst _ _ _ _ _ _ _ _) rfl rfl hl.1 (Nat.le_of_ble_eq_true rfl) dX2_storeOperand_5 rfl rfl (fun H locs V => ?_)
  refine lv_istore_n (lv' := [(3, .int (pX1_numberOf fn x1)), (0, .ref (ad 0)), (1, .int x1), (2, .int x2)]) hx hb dX2_storeOperand_8 rfl hl (by decide) rfl (fun ls hl => ?_)
  refine lv_aload_n hx hb dX2_storeOperand_9 rfl (lv_at hl 1 rfl) ?_
  refine m_get X V 2 0 3 rfl gin_2 rfl (by decide) rfl gm_94 (v := .ref (ad 8)) rfl dX2_storeOperand_10 ?_
  refine lv_iload_n hx hb dX2_storeOperand_13 rfl (lv_at hl 2 rfl) ?_
  refine m_VN X V (ws' := (wM cB cI ad g mem loc pf pg pn t fm fn z key ld)) (rest := []) (st1 := [.int (pX1_modeOf fm x1)]) (kX1_modeOf l D cB cI (ad 8) (ad 9) (ad 10) t fm fn x1) okX1_modeOf gm_200 gm_644 nm_26 [8, 9, 10] ⟨⟨rfl, rfl⟩, ⟨by decide, by decide⟩, Nat.zero_le _, Nat.zero_le _⟩ rfl rfl rfl rfl (wF_fst _ _ _ _ _ _ _ _) (wF_fst _ _ _ _ _ _ _ _) rfl rfl hl.1 (Nat.le_of_ble_eq_true rfl) dX2_storeOperand_14 rfl rfl (fun H locs V => ?_)
  by_cases w_17_5 : (pX1_modeOf fm x1) = 5
  · refine lv_tableIn (off := 59) (tgt := 76) hx hb dX2_storeOperand_17 (by rw [w_17_5]; decide) (by rw [w_17_5]; decide) (by rw [w_17_5]; rfl) (by decide) ?_
    refine lv_aload_n hx hb dX2_storeOperand_76 rfl (lv_at hl 1 rfl) ?_
    refine lv_iload_n hx hb dX2_storeOperand_77 rfl (lv_at hl 0 rfl) ?_
    refine lv_aload_n hx hb dX2_storeOperand_78 rfl (lv_at hl 1 rfl) ?_
    refine m_get X V 2 0 9 rfl gin_2 rfl (by decide) rfl gm_100 (v := .int (g 3)) rfl dX2_storeOperand_79 ?_
    refine lv_iload_n hx hb dX2_storeOperand_82 rfl (lv_at hl 3 rfl) ?_
    obtain ⟨u83, hu83⟩ : ∃ u, pX2_storeMemory g mem (pX1_numberOf fn x1) (g 3) x2 = u := ⟨_, rfl⟩
    have hM := kX2_storeMemory l D cB cI ad g mem loc pf pg pn t fm fn z key ld (pX1_numberOf fn x1) (g 3) x2
    rw [hu83] at hM
    refine m_VA X V (w1 := (wM cB cI ad u83.1 u83.2 loc pf pg pn t fm fn z key ld)) (rest := []) (st1 := []) hM okX2_storeMemory gm_294 gm_663 gm_293 ⟨⟨rfl, rfl⟩, ⟨by decide, by decide⟩, Nat.zero_le _, Nat.zero_le _⟩ rfl rfl (wM_fst _ _ _ _ _ _ _ _ _ _ _ _ _ _ _) (wM_fst _ _ _ _ _ _ _ _ _ _ _ _ _ _ _) rfl hl.1 (Nat.le_of_ble_eq_true rfl) dX2_storeOperand_83 rfl rfl (fun H locs V => ?_)
    refine lv_goto (tgt := 124) hx hb dX2_storeOperand_86 (by decide) ?_
    have e9 : pX2_storeOperand g mem loc pf pn fm fn x1 x2 = (u83.1, u83.2, loc, pf, pn) := by rw [pX2_storeOperand, if_pos w_17_5, hu83, mLet_eq]
    exact m_vret X hr hk V rfl (by rw [e9]) dX2_storeOperand_124
  by_cases w_17_6 : (pX1_modeOf fm x1) = 6
  · refine lv_tableIn (off := 59) (tgt := 76) hx hb dX2_storeOperand_17 (by rw [w_17_6]; decide) (by rw [w_17_6]; decide) (by rw [w_17_6]; rfl) (by decide) ?_
    refine lv_aload_n hx hb dX2_storeOperand_76 rfl (lv_at hl 1 rfl) ?_
    refine lv_iload_n hx hb dX2_storeOperand_77 rfl (lv_at hl 0 rfl) ?_
    refine lv_aload_n hx hb dX2_storeOperand_78 rfl (lv_at hl 1 rfl) ?_
    refine m_get X V 2 0 9 rfl gin_2 rfl (by decide) rfl gm_100 (v := .int (g 3)) rfl dX2_storeOperand_79 ?_
    refine lv_iload_n hx hb dX2_storeOperand_82 rfl (lv_at hl 3 rfl) ?_
    obtain ⟨u83, hu83⟩ : ∃ u, pX2_storeMemory g mem (pX1_numberOf fn x1) (g 3) x2 = u := ⟨_, rfl⟩
    have hM := kX2_storeMemory l D cB cI ad g mem loc pf pg pn t fm fn z key ld (pX1_numberOf fn x1) (g 3) x2
    rw [hu83] at hM
    refine m_VA X V (w1 := (wM cB cI ad u83.1 u83.2 loc pf pg pn t fm fn z key ld)) (rest := []) (st1 := []) hM okX2_storeMemory gm_294 gm_663 gm_293 ⟨⟨rfl, rfl⟩, ⟨by decide, by decide⟩, Nat.zero_le _, Nat.zero_le _⟩ rfl rfl (wM_fst _ _ _ _ _ _ _ _ _ _ _ _ _ _ _) (wM_fst _ _ _ _ _ _ _ _ _ _ _ _ _ _ _) rfl hl.1 (Nat.le_of_ble_eq_true rfl) dX2_storeOperand_83 rfl rfl (fun H locs V => ?_)
    refine lv_goto (tgt := 124) hx hb dX2_storeOperand_86 (by decide) ?_
    have e9 : pX2_storeOperand g mem loc pf pn fm fn x1 x2 = (u83.1, u83.2, loc, pf, pn) := by rw [pX2_storeOperand, if_neg w_17_5, if_pos w_17_6, hu83, mLet_eq]
    exact m_vret X hr hk V rfl (by rw [e9]) dX2_storeOperand_124
  by_cases w_17_7 : (pX1_modeOf fm x1) = 7
  · refine lv_tableIn (off := 59) (tgt := 76) hx hb dX2_storeOperand_17 (by rw [w_17_7]; decide) (by rw [w_17_7]; decide) (by rw [w_17_7]; rfl) (by decide) ?_
    refine lv_aload_n hx hb dX2_storeOperand_76 rfl (lv_at hl 1 rfl) ?_
    refine lv_iload_n hx hb dX2_storeOperand_77 rfl (lv_at hl 0 rfl) ?_
    refine lv_aload_n hx hb dX2_storeOperand_78 rfl (lv_at hl 1 rfl) ?_
    refine m_get X V 2 0 9 rfl gin_2 rfl (by decide) rfl gm_100 (v := .int (g 3)) rfl dX2_storeOperand_79 ?_
    refine lv_iload_n hx hb dX2_storeOperand_82 rfl (lv_at hl 3 rfl) ?_
    obtain ⟨u83, hu83⟩ : ∃ u, pX2_storeMemory g mem (pX1_numberOf fn x1) (g 3) x2 = u := ⟨_, rfl⟩
    have hM := kX2_storeMemory l D cB cI ad g mem loc pf pg pn t fm fn z key ld (pX1_numberOf fn x1) (g 3) x2
    rw [hu83] at hM
    refine m_VA X V (w1 := (wM cB cI ad u83.1 u83.2 loc pf pg pn t fm fn z key ld)) (rest := []) (st1 := []) hM okX2_storeMemory gm_294 gm_663 gm_293 ⟨⟨rfl, rfl⟩, ⟨by decide, by decide⟩, Nat.zero_le _, Nat.zero_le _⟩ rfl rfl (wM_fst _ _ _ _ _ _ _ _ _ _ _ _ _ _ _) (wM_fst _ _ _ _ _ _ _ _ _ _ _ _ _ _ _) rfl hl.1 (Nat.le_of_ble_eq_true rfl) dX2_storeOperand_83 rfl rfl (fun H locs V => ?_)
    refine lv_goto (tgt := 124) hx hb dX2_storeOperand_86 (by decide) ?_
    have e9 : pX2_storeOperand g mem loc pf pn fm fn x1 x2 = (u83.1, u83.2, loc, pf, pn) := by rw [pX2_storeOperand, if_neg w_17_5, if_neg w_17_6, if_pos w_17_7, hu83, mLet_eq]
    exact m_vret X hr hk V rfl (by rw [e9]) dX2_storeOperand_124
  by_cases w_17_8 : (pX1_modeOf fm x1) = 8
  · refine lv_tableIn (off := 72) (tgt := 89) hx hb dX2_storeOperand_17 (by rw [w_17_8]; decide) (by rw [w_17_8]; decide) (by rw [w_17_8]; rfl) (by decide) ?_
    refine lv_aload_n hx hb dX2_storeOperand_89 rfl (lv_at hl 1 rfl) ?_
    refine lv_iload_n hx hb dX2_storeOperand_90 rfl (lv_at hl 3 rfl) ?_
    obtain ⟨u91, hu91⟩ : ∃ u, pX2_storeTop g pf pn x2 = u := ⟨_, rfl⟩
    have hM := kX2_storeTop l D cB cI ad g mem loc pf pg pn t fm fn z key ld x2
    rw [hu91] at hM
    refine m_VA X V (w1 := (wM cB cI ad u91.1 mem loc u91.2.1 pg u91.2.2 t fm fn z key ld)) (rest := []) (st1 := []) hM okX2_storeTop gm_390 gm_694 gm_389 ⟨⟨rfl, rfl⟩, ⟨by decide, by decide⟩, Nat.zero_le _, Nat.zero_le _⟩ rfl rfl (wM_fst _ _ _ _ _ _ _ _ _ _ _ _ _ _ _) (wM_fst _ _ _ _ _ _ _ _ _ _ _ _ _ _ _) rfl hl.1 (Nat.le_of_ble_eq_true rfl) dX2_storeOperand_91 rfl rfl (fun H locs V => ?_)
    refine lv_goto (tgt := 124) hx hb dX2_storeOperand_94 (by decide) ?_
    have e9 : pX2_storeOperand g mem loc pf pn fm fn x1 x2 = (u91.1, mem, loc, u91.2.1, u91.2.2) := by rw [pX2_storeOperand, if_neg w_17_5, if_neg w_17_6, if_neg w_17_7, if_pos w_17_8, hu91, mLet_eq]
    exact m_vret X hr hk V rfl (by rw [e9]) dX2_storeOperand_124
  by_cases w_17_9 : (pX1_modeOf fm x1) = 9
  · refine lv_tableIn (off := 80) (tgt := 97) hx hb dX2_storeOperand_17 (by rw [w_17_9]; decide) (by rw [w_17_9]; decide) (by rw [w_17_9]; rfl) (by decide) ?_
    refine lv_aload_n hx hb dX2_storeOperand_97 rfl (lv_at hl 1 rfl) ?_
    refine lv_iload_n hx hb dX2_storeOperand_98 rfl (lv_at hl 0 rfl) ?_
    refine lv_iload_n hx hb dX2_storeOperand_99 rfl (lv_at hl 3 rfl) ?_
    obtain ⟨u100, hu100⟩ : ∃ u, pX2_storeLocal g loc (pX1_numberOf fn x1) x2 = u := ⟨_, rfl⟩
    have hM := kX2_storeLocal l D cB cI ad g mem loc pf pg pn t fm fn z key ld (pX1_numberOf fn x1) x2
    rw [hu100] at hM
    refine m_VA X V (w1 := (wM cB cI ad u100.1 mem u100.2 pf pg pn t fm fn z key ld)) (rest := []) (st1 := []) hM okX2_storeLocal gm_393 gm_695 gm_392 ⟨⟨rfl, rfl⟩, ⟨by decide, by decide⟩, Nat.zero_le _, Nat.zero_le _⟩ rfl rfl (wM_fst _ _ _ _ _ _ _ _ _ _ _ _ _ _ _) (wM_fst _ _ _ _ _ _ _ _ _ _ _ _ _ _ _) rfl hl.1 (Nat.le_of_ble_eq_true rfl) dX2_storeOperand_100 rfl rfl (fun H locs V => ?_)
    refine lv_goto (tgt := 124) hx hb dX2_storeOperand_103 (by decide) ?_
    have e9 : pX2_storeOperand g mem loc pf pn fm fn x1 x2 = (u100.1, mem, u100.2, pf, pn) := by rw [pX2_storeOperand, if_neg w_17_5, if_neg w_17_6, if_neg w_17_7, if_neg w_17_8, if_pos w_17_9, hu100, mLet_eq]
    exact m_vret X hr hk V rfl (by rw [e9]) dX2_storeOperand_124
  by_cases w_17_10 : (pX1_modeOf fm x1) = 10
  · refine lv_tableIn (off := 80) (tgt := 97) hx hb dX2_storeOperand_17 (by rw [w_17_10]; decide) (by rw [w_17_10]; decide) (by rw [w_17_10]; rfl) (by decide) ?_
    refine lv_aload_n hx hb dX2_storeOperand_97 rfl (lv_at hl 1 rfl) ?_
    refine lv_iload_n hx hb dX2_storeOperand_98 rfl (lv_at hl 0 rfl) ?_
    refine lv_iload_n hx hb dX2_storeOperand_99 rfl (lv_at hl 3 rfl) ?_
    obtain ⟨u100, hu100⟩ : ∃ u, pX2_storeLocal g loc (pX1_numberOf fn x1) x2 = u := ⟨_, rfl⟩
    have hM := kX2_storeLocal l D cB cI ad g mem loc pf pg pn t fm fn z key ld (pX1_numberOf fn x1) x2
    rw [hu100] at hM
    refine m_VA X V (w1 := (wM cB cI ad u100.1 mem u100.2 pf pg pn t fm fn z key ld)) (rest := []) (st1 := []) hM okX2_storeLocal gm_393 gm_695 gm_392 ⟨⟨rfl, rfl⟩, ⟨by decide, by decide⟩, Nat.zero_le _, Nat.zero_le _⟩ rfl rfl (wM_fst _ _ _ _ _ _ _ _ _ _ _ _ _ _ _) (wM_fst _ _ _ _ _ _ _ _ _ _ _ _ _ _ _) rfl hl.1 (Nat.le_of_ble_eq_true rfl) dX2_storeOperand_100 rfl rfl (fun H locs V => ?_)
    refine lv_goto (tgt := 124) hx hb dX2_storeOperand_103 (by decide) ?_
    have e9 : pX2_storeOperand g mem loc pf pn fm fn x1 x2 = (u100.1, mem, u100.2, pf, pn) := by rw [pX2_storeOperand, if_neg w_17_5, if_neg w_17_6, if_neg w_17_7, if_neg w_17_8, if_neg w_17_9, if_pos w_17_10, hu100, mLet_eq]
    exact m_vret X hr hk V rfl (by rw [e9]) dX2_storeOperand_124
  by_cases w_17_11 : (pX1_modeOf fm x1) = 11
  · refine lv_tableIn (off := 80) (tgt := 97) hx hb dX2_storeOperand_17 (by rw [w_17_11]; decide) (by rw [w_17_11]; decide) (by rw [w_17_11]; rfl) (by decide) ?_
    refine lv_aload_n hx hb dX2_storeOperand_97 rfl (lv_at hl 1 rfl) ?_
    refine lv_iload_n hx hb dX2_storeOperand_98 rfl (lv_at hl 0 rfl) ?_
    refine lv_iload_n hx hb dX2_storeOperand_99 rfl (lv_at hl 3 rfl) ?_
    obtain ⟨u100, hu100⟩ : ∃ u, pX2_storeLocal g loc (pX1_numberOf fn x1) x2 = u := ⟨_, rfl⟩
    have hM := kX2_storeLocal l D cB cI ad g mem loc pf pg pn t fm fn z key ld (pX1_numberOf fn x1) x2
    rw [hu100] at hM
    refine m_VA X V (w1 := (wM cB cI ad u100.1 mem u100.2 pf pg pn t fm fn z key ld)) (rest := []) (st1 := []) hM okX2_storeLocal gm_393 gm_695 gm_392 ⟨⟨rfl, rfl⟩, ⟨by decide, by decide⟩, Nat.zero_le _, Nat.zero_le _⟩ rfl rfl (wM_fst _ _ _ _ _ _ _ _ _ _ _ _ _ _ _) (wM_fst _ _ _ _ _ _ _ _ _ _ _ _ _ _ _) rfl hl.1 (Nat.le_of_ble_eq_true rfl) dX2_storeOperand_100 rfl rfl (fun H locs V => ?_)
    refine lv_goto (tgt := 124) hx hb dX2_storeOperand_103 (by decide) ?_
    have e9 : pX2_storeOperand g mem loc pf pn fm fn x1 x2 = (u100.1, mem, u100.2, pf, pn) := by rw [pX2_storeOperand, if_neg w_17_5, if_neg w_17_6, if_neg w_17_7, if_neg w_17_8, if_neg w_17_9, if_neg w_17_10, if_pos w_17_11, hu100, mLet_eq]
    exact m_vret X hr hk V rfl (by rw [e9]) dX2_storeOperand_124
  by_cases w_17_13 : (pX1_modeOf fm x1) = 13
  · refine lv_tableIn (off := 89) (tgt := 106) hx hb dX2_storeOperand_17 (by rw [w_17_13]; decide) (by rw [w_17_13]; decide) (by rw [w_17_13]; rfl) (by decide) ?_
    refine lv_aload_n hx hb dX2_storeOperand_106 rfl (lv_at hl 1 rfl) ?_
    refine lv_aload_n hx hb dX2_storeOperand_107 rfl (lv_at hl 1 rfl) ?_
    refine m_get X V 2 0 6 rfl gin_2 rfl (by decide) rfl gm_97 (v := .int (g 0)) rfl dX2_storeOperand_108 ?_
    refine lv_iload_n hx hb dX2_storeOperand_111 rfl (lv_at hl 0 rfl) ?_
    refine lv_iadd hx hb dX2_storeOperand_112 ?_
    refine lv_aload_n hx hb dX2_storeOperand_113 rfl (lv_at hl 1 rfl) ?_
    refine m_get X V 2 0 9 rfl gin_2 rfl (by decide) rfl gm_100 (v := .int (g 3)) rfl dX2_storeOperand_114 ?_
    refine lv_iload_n hx hb dX2_storeOperand_117 rfl (lv_at hl 3 rfl) ?_
    obtain ⟨u118, hu118⟩ : ∃ u, pX2_storeMemory g mem ((g 0) + (pX1_numberOf fn x1)) (g 3) x2 = u := ⟨_, rfl⟩
    have hM := kX2_storeMemory l D cB cI ad g mem loc pf pg pn t fm fn z key ld ((g 0) + (pX1_numberOf fn x1)) (g 3) x2
    rw [hu118] at hM
    refine m_VA X V (w1 := (wM cB cI ad u118.1 u118.2 loc pf pg pn t fm fn z key ld)) (rest := []) (st1 := []) hM okX2_storeMemory gm_294 gm_663 gm_293 ⟨⟨rfl, rfl⟩, ⟨by decide, by decide⟩, Nat.zero_le _, Nat.zero_le _⟩ rfl rfl (wM_fst _ _ _ _ _ _ _ _ _ _ _ _ _ _ _) (wM_fst _ _ _ _ _ _ _ _ _ _ _ _ _ _ _) rfl hl.1 (Nat.le_of_ble_eq_true rfl) dX2_storeOperand_118 rfl rfl (fun H locs V => ?_)
    refine lv_goto (tgt := 124) hx hb dX2_storeOperand_121 (by decide) ?_
    have e9 : pX2_storeOperand g mem loc pf pn fm fn x1 x2 = (u118.1, u118.2, loc, pf, pn) := by rw [pX2_storeOperand, if_neg w_17_5, if_neg w_17_6, if_neg w_17_7, if_neg w_17_8, if_neg w_17_9, if_neg w_17_10, if_neg w_17_11, if_pos w_17_13, hu118, mLet_eq]
    exact m_vret X hr hk V rfl (by rw [e9]) dX2_storeOperand_124
  by_cases w_17_14 : (pX1_modeOf fm x1) = 14
  · refine lv_tableIn (off := 89) (tgt := 106) hx hb dX2_storeOperand_17 (by rw [w_17_14]; decide) (by rw [w_17_14]; decide) (by rw [w_17_14]; rfl) (by decide) ?_
    refine lv_aload_n hx hb dX2_storeOperand_106 rfl (lv_at hl 1 rfl) ?_
    refine lv_aload_n hx hb dX2_storeOperand_107 rfl (lv_at hl 1 rfl) ?_
    refine m_get X V 2 0 6 rfl gin_2 rfl (by decide) rfl gm_97 (v := .int (g 0)) rfl dX2_storeOperand_108 ?_
    refine lv_iload_n hx hb dX2_storeOperand_111 rfl (lv_at hl 0 rfl) ?_
    refine lv_iadd hx hb dX2_storeOperand_112 ?_
    refine lv_aload_n hx hb dX2_storeOperand_113 rfl (lv_at hl 1 rfl) ?_
    refine m_get X V 2 0 9 rfl gin_2 rfl (by decide) rfl gm_100 (v := .int (g 3)) rfl dX2_storeOperand_114 ?_
    refine lv_iload_n hx hb dX2_storeOperand_117 rfl (lv_at hl 3 rfl) ?_
    obtain ⟨u118, hu118⟩ : ∃ u, pX2_storeMemory g mem ((g 0) + (pX1_numberOf fn x1)) (g 3) x2 = u := ⟨_, rfl⟩
    have hM := kX2_storeMemory l D cB cI ad g mem loc pf pg pn t fm fn z key ld ((g 0) + (pX1_numberOf fn x1)) (g 3) x2
    rw [hu118] at hM
    refine m_VA X V (w1 := (wM cB cI ad u118.1 u118.2 loc pf pg pn t fm fn z key ld)) (rest := []) (st1 := []) hM okX2_storeMemory gm_294 gm_663 gm_293 ⟨⟨rfl, rfl⟩, ⟨by decide, by decide⟩, Nat.zero_le _, Nat.zero_le _⟩ rfl rfl (wM_fst _ _ _ _ _ _ _ _ _ _ _ _ _ _ _) (wM_fst _ _ _ _ _ _ _ _ _ _ _ _ _ _ _) rfl hl.1 (Nat.le_of_ble_eq_true rfl) dX2_storeOperand_118 rfl rfl (fun H locs V => ?_)
    refine lv_goto (tgt := 124) hx hb dX2_storeOperand_121 (by decide) ?_
    have e9 : pX2_storeOperand g mem loc pf pn fm fn x1 x2 = (u118.1, u118.2, loc, pf, pn) := by rw [pX2_storeOperand, if_neg w_17_5, if_neg w_17_6, if_neg w_17_7, if_neg w_17_8, if_neg w_17_9, if_neg w_17_10, if_neg w_17_11, if_neg w_17_13, if_pos w_17_14, hu118, mLet_eq]
    exact m_vret X hr hk V rfl (by rw [e9]) dX2_storeOperand_124
  by_cases w_17_15 : (pX1_modeOf fm x1) = 15
  · refine lv_tableIn (off := 89) (tgt := 106) hx hb dX2_storeOperand_17 (by rw [w_17_15]; decide) (by rw [w_17_15]; decide) (by rw [w_17_15]; rfl) (by decide) ?_
    refine lv_aload_n hx hb dX2_storeOperand_106 rfl (lv_at hl 1 rfl) ?_
    refine lv_aload_n hx hb dX2_storeOperand_107 rfl (lv_at hl 1 rfl) ?_
    refine m_get X V 2 0 6 rfl gin_2 rfl (by decide) rfl gm_97 (v := .int (g 0)) rfl dX2_storeOperand_108 ?_
    refine lv_iload_n hx hb dX2_storeOperand_111 rfl (lv_at hl 0 rfl) ?_
    refine lv_iadd hx hb dX2_storeOperand_112 ?_
    refine lv_aload_n hx hb dX2_storeOperand_113 rfl (lv_at hl 1 rfl) ?_
    refine m_get X V 2 0 9 rfl gin_2 rfl (by decide) rfl gm_100 (v := .int (g 3)) rfl dX2_storeOperand_114 ?_
    refine lv_iload_n hx hb dX2_storeOperand_117 rfl (lv_at hl 3 rfl) ?_
    obtain ⟨u118, hu118⟩ : ∃ u, pX2_storeMemory g mem ((g 0) + (pX1_numberOf fn x1)) (g 3) x2 = u := ⟨_, rfl⟩
    have hM := kX2_storeMemory l D cB cI ad g mem loc pf pg pn t fm fn z key ld ((g 0) + (pX1_numberOf fn x1)) (g 3) x2
    rw [hu118] at hM
    refine m_VA X V (w1 := (wM cB cI ad u118.1 u118.2 loc pf pg pn t fm fn z key ld)) (rest := []) (st1 := []) hM okX2_storeMemory gm_294 gm_663 gm_293 ⟨⟨rfl, rfl⟩, ⟨by decide, by decide⟩, Nat.zero_le _, Nat.zero_le _⟩ rfl rfl (wM_fst _ _ _ _ _ _ _ _ _ _ _ _ _ _ _) (wM_fst _ _ _ _ _ _ _ _ _ _ _ _ _ _ _) rfl hl.1 (Nat.le_of_ble_eq_true rfl) dX2_storeOperand_118 rfl rfl (fun H locs V => ?_)
    refine lv_goto (tgt := 124) hx hb dX2_storeOperand_121 (by decide) ?_
    have e9 : pX2_storeOperand g mem loc pf pn fm fn x1 x2 = (u118.1, u118.2, loc, pf, pn) := by rw [pX2_storeOperand, if_neg w_17_5, if_neg w_17_6, if_neg w_17_7, if_neg w_17_8, if_neg w_17_9, if_neg w_17_10, if_neg w_17_11, if_neg w_17_13, if_neg w_17_14, if_pos w_17_15, hu118, mLet_eq]
    exact m_vret X hr hk V rfl (by rw [e9]) dX2_storeOperand_124
  have o_0 := lv_neT w_17_5 (a := 5) rfl
  have o_1 := lv_neT w_17_6 (a := 6) rfl
  have o_2 := lv_neT w_17_7 (a := 7) rfl
  have o_3 := lv_neT w_17_8 (a := 8) rfl
  have o_4 := lv_neT w_17_9 (a := 9) rfl
  have o_5 := lv_neT w_17_10 (a := 10) rfl
  have o_6 := lv_neT w_17_11 (a := 11) rfl
  have o_7 := lv_neT w_17_13 (a := 13) rfl
  have o_8 := lv_neT w_17_14 (a := 14) rfl
  have o_9 := lv_neT w_17_15 (a := 15) rfl
  refine m_tabD (x := (pX1_modeOf fm x1)) (tgt := 124) hx hb dX2_storeOperand_17 (by decide) (by decide) (fun off h1 h2 h3 => by (rcases (show Int32.toInt (pX1_modeOf fm x1) = 12 by omega) with q <;> (rw [q] at h3; exact (Option.some.inj h3).symm))) ?_
  have e9 : pX2_storeOperand g mem loc pf pn fm fn x1 x2 = (g, mem, loc, pf, pn) := by rw [pX2_storeOperand, if_neg w_17_5, if_neg w_17_6, if_neg w_17_7, if_neg w_17_8, if_neg w_17_9, if_neg w_17_10, if_neg w_17_11, if_neg w_17_13, if_neg w_17_14, if_neg w_17_15]
  exact m_vret X hr hk V rfl (by rw [e9]) dX2_storeOperand_124
