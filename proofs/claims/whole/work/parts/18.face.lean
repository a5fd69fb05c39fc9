def pX7_lay (mem : Nat → Int32) (x1 : Int32) (x2 : Int32) (x3 : Int64) : Int32 × (Nat → Int32) := (if x2 < 1 then ((-1), mem) else (if 8 < x2 then ((-1), mem) else (if (pX0_holds 1024 x1 x2) = 0 then ((-1), mem) else (1, (pX0_put mem 1024 x1 x2 x3)))))
theorem okX7_lay : mOk yX7_lay cX7_lay 5 (some .int) 3 := ⟨gm_131, gm_1, by decide +kernel⟩
set_option maxRecDepth 100000 in
set_option maxHeartbeats 4000000 in
theorem kX7_lay (l : Launch) (D : va_G) (cB cI : ClassId) (a : Nat) (ad : Nat → Nat) (i j o q q2 q3 : Nat) (x : Nat) (y : Nat) (wr : Int32) (g : Nat → Int32) (mem : Nat → Int32) (loc : Nat → Int32) (pf : Nat → Int32) (pg : Nat → Int32) (pn : Int32) (t : Nat → Int32) (fm : Nat → Int32) (fn : Nat → Int32) (z : Nat → Int32) (key : Nat → Int32) (ld : Nat → Int32) (lt : Nat → Int32) (lf : Nat → Int32) (lg : Nat → Int32) (tt : Nat → Int32) (tf : Nat → Int32) (tg : Nat → Int32) (x1 : Int32) (x2 : Int32) (x3 : Int64) : mM l D cB cI yX7_lay cX7_lay 5 (some .int) { frames := 1, cells := 0, slots := 0, locals := 28 } [.ref a, .int x1, .int x2, .long x3] (wG cB cI a ad i j o q q2 q3 x y wr g mem loc pf pg pn t fm fn z key ld lt lf lg tt tf tg) (some ((pX7_lay mem x1 x2 x3).1)) (wG cB cI a ad i j o q q2 q3 x y wr g ((pX7_lay mem x1 x2 x3).2) loc pf pg pn t fm fn z key ld lt lf lg tt tf tg) := by
  refine m_start (by decide +kernel) (Nat.le_of_ble_eq_true rfl) ?_
  intro p e s m below meth c A ls X hr hk V hl
  have X : mCx p s m _ c cX7_lay 5 RX7 D cB cI := X
  have hx := X.1.1
  have hb := X.1.2.1
  have hl : lv_has ls 5 [(0, .ref a), (1, .int x1), (2, .int x2), (3, .long x3)] := hl
  refine lv_iload_n hx hb dX7_lay_0 rfl (lv_at hl 2 rfl) ?_
  refine lv_iconst (v := 1) hx hb dX7_lay_1 (by decide) ?_
  refine lv_icmp_lt (tgt := 26) hx hb dX7_lay_2 (by decide) (fun c_2 => ?_) (fun c_2 => ?_)
  · refine lv_iconst (v := (-1)) hx hb dX7_lay_26 (by decide) ?_
    have e9 : pX7_lay mem x1 x2 x3 = ((-1), mem) := by rw [pX7_lay, if_pos c_2]
    exact m_iret X hr hk V (by rw [e9]) (by rw [e9]) dX7_lay_27
  · refine lv_iload_n hx hb dX7_lay_5 rfl (lv_at hl 2 rfl) ?_
    refine lv_bipush (v := 8) hx hb dX7_lay_6 (by decide) ?_
    refine lv_icmp_gt (tgt := 26) hx hb dX7_lay_8 (by decide) (fun c_8 => ?_) (fun c_8 => ?_)
    · refine lv_iconst (v := (-1)) hx hb dX7_lay_26 (by decide) ?_
      have e9 : pX7_lay mem x1 x2 x3 = ((-1), mem) := by rw [pX7_lay, if_neg c_2, if_pos c_8]
      exact m_iret X hr hk V (by rw [e9]) (by rw [e9]) dX7_lay_27
    · refine lv_aload_n hx hb dX7_lay_11 rfl (lv_at hl 0 rfl) ?_
      refine m_get X V 5 0 0 rfl gin_5 rfl (by decide) rfl gm_120 (v := .ref (ad 0)) rfl dX7_lay_12 ?_
      refine m_getN X V 2 1 0 rfl gin_2 rfl (by decide) rfl nf_10 (v := .ref (ad 1)) rfl dX7_lay_15 ?_
      refine lv_iload_n hx hb dX7_lay_18 rfl (lv_at hl 1 rfl) ?_
      refine lv_iload_n hx hb dX7_lay_19 rfl (lv_at hl 2 rfl) ?_
      refine m_VN X V (ws' := (wG cB cI a ad i j o q q2 q3 x y wr g mem loc pf pg pn t fm fn z key ld lt lf lg tt tf tg)) (rest := []) (st1 := [.int (pX0_holds 1024 x1 x2)]) (kX0_holds l D cB cI (ad 1) (ad 2) 1024 mem x1 x2 (by decide)) okX0_holds gm_132 gm_630 nm_8 [2, 3] ⟨⟨rfl, rfl⟩, ⟨by decide, by decide⟩, Nat.zero_le _, Nat.zero_le _⟩ rfl rfl rfl rfl (wB_fst _ _ _ _ _ _) (wB_fst _ _ _ _ _ _) rfl rfl hl.1 (Nat.le_of_ble_eq_true rfl) dX7_lay_20 rfl rfl (fun H locs V => ?_)
      refine lv_if_ne (tgt := 28) hx hb dX7_lay_23 (by decide) (fun c_23 => ?_) (fun c_23 => ?_)
      · refine lv_aload_n hx hb dX7_lay_28 rfl (lv_at hl 0 rfl) ?_
        refine m_get X V 5 0 0 rfl gin_5 rfl (by decide) rfl gm_120 (v := .ref (ad 0)) rfl dX7_lay_29 ?_
        refine m_getN X V 2 1 0 rfl gin_2 rfl (by decide) rfl nf_10 (v := .ref (ad 1)) rfl dX7_lay_32 ?_
        refine lv_iload_n hx hb dX7_lay_35 rfl (lv_at hl 1 rfl) ?_
        refine lv_iload_n hx hb dX7_lay_36 rfl (lv_at hl 2 rfl) ?_
        refine lv_lload_n hx hb dX7_lay_37 rfl (lv_at hl 3 rfl) ?_
        refine m_VN X V (ws' := (wG cB cI a ad i j o q q2 q3 x y wr g (pX0_put mem 1024 x1 x2 x3) loc pf pg pn t fm fn z key ld lt lf lg tt tf tg)) (rest := []) (st1 := []) (kX0_put l D cB cI (ad 1) (ad 2) 1024 mem x1 x2 x3 (by decide)) okX0_put gm_134 gm_631 nm_9 [2, 3] ⟨⟨rfl, rfl⟩, ⟨by decide, by decide⟩, Nat.zero_le _, Nat.zero_le _⟩ rfl rfl rfl rfl (wB_fst _ _ _ _ _ _) (wB_fst _ _ _ _ _ _) rfl rfl hl.1 (Nat.le_of_ble_eq_true rfl) dX7_lay_38 rfl rfl (fun H locs V => ?_)
        refine lv_iconst (v := 1) hx hb dX7_lay_41 (by decide) ?_
        have e9 : pX7_lay mem x1 x2 x3 = (1, (pX0_put mem 1024 x1 x2 x3)) := by rw [pX7_lay, if_neg c_2, if_neg c_8, if_neg c_23]
        exact m_iret X hr hk V (by rw [e9]) (by rw [e9]) dX7_lay_42
      · refine lv_iconst (v := (-1)) hx hb dX7_lay_26 (by decide) ?_
        have e9 : pX7_lay mem x1 x2 x3 = ((-1), mem) := by rw [pX7_lay, if_neg c_2, if_neg c_8, if_pos c_23]
        exact m_iret X hr hk V (by rw [e9]) (by rw [e9]) dX7_lay_27
def pX7_ram (g : Nat → Int32) (x1 : Int32) : Int32 × (Nat → Int32) := (if x1 < 0 then ((-1), g) else (if x1 ≤ 1024 then ((g 0), (upd g 0 x1)) else ((-1), g)))
theorem okX7_ram : mOk yX7_ram cX7_ram 3 (some .int) 1 := ⟨gm_139, gm_1, by decide +kernel⟩
set_option maxRecDepth 100000 in
set_option maxHeartbeats 4000000 in
theorem kX7_ram (l : Launch) (D : va_G) (cB cI : ClassId) (a : Nat) (ad : Nat → Nat) (i j o q q2 q3 : Nat) (x : Nat) (y : Nat) (wr : Int32) (g : Nat → Int32) (mem : Nat → Int32) (loc : Nat → Int32) (pf : Nat → Int32) (pg : Nat → Int32) (pn : Int32) (t : Nat → Int32) (fm : Nat → Int32) (fn : Nat → Int32) (z : Nat → Int32) (key : Nat → Int32) (ld : Nat → Int32) (lt : Nat → Int32) (lf : Nat → Int32) (lg : Nat → Int32) (tt : Nat → Int32) (tf : Nat → Int32) (tg : Nat → Int32) (x1 : Int32) : mM l D cB cI yX7_ram cX7_ram 3 (some .int) { frames := 0, cells := 0, slots := 0, locals := 0 } [.ref a, .int x1] (wG cB cI a ad i j o q q2 q3 x y wr g mem loc pf pg pn t fm fn z key ld lt lf lg tt tf tg) (some ((pX7_ram g x1).1)) (wG cB cI a ad i j o q q2 q3 x y wr ((pX7_ram g x1).2) mem loc pf pg pn t fm fn z key ld lt lf lg tt tf tg) := by
  refine m_start (by decide +kernel) (Nat.le_of_ble_eq_true rfl) ?_
  intro p e s m below meth c A ls X hr hk V hl
  have X : mCx p s m _ c cX7_ram 3 RX7 D cB cI := X
  have hx := X.1.1
  have hb := X.1.2.1
  have hl : lv_has ls 3 [(0, .ref a), (1, .int x1)] := hl
  refine lv_iload_n hx hb dX7_ram_0 rfl (lv_at hl 1 rfl) ?_
  refine lv_if_lt (tgt := 11) hx hb dX7_ram_1 (by decide) (fun c_1 => ?_) (fun c_1 => ?_)
  · refine lv_iconst (v := (-1)) hx hb dX7_ram_11 (by decide) ?_
    have e9 : pX7_ram g x1 = ((-1), g) := by rw [pX7_ram, if_pos c_1]
    exact m_iret X hr hk V (by rw [e9]) (by rw [e9]) dX7_ram_12
  · refine lv_iload_n hx hb dX7_ram_4 rfl (lv_at hl 1 rfl) ?_
    refine lv_sipush (v := 1024) hx hb dX7_ram_5 (by decide) ?_
    refine lv_icmp_le (tgt := 13) hx hb dX7_ram_8 (by decide) (fun c_8 => ?_) (fun c_8 => ?_)
    · refine lv_aload_n hx hb dX7_ram_13 rfl (lv_at hl 0 rfl) ?_
      refine m_get X V 5 0 0 rfl gin_5 rfl (by decide) rfl gm_120 (v := .ref (ad 0)) rfl dX7_ram_14 ?_
      refine m_getN X V 2 1 6 rfl gin_2 rfl (by decide) rfl nf_13 (v := .int (g 0)) rfl dX7_ram_17 ?_
      refine lv_istore_n (lv' := [(2, .int (g 0)), (0, .ref a), (1, .int x1)]) hx hb dX7_ram_20 rfl hl (by decide) rfl (fun ls hl => ?_)
      refine lv_aload_n hx hb dX7_ram_21 rfl (lv_at hl 1 rfl) ?_
      refine m_get X V 5 0 0 rfl gin_5 rfl (by decide) rfl gm_120 (v := .ref (ad 0)) rfl dX7_ram_22 ?_
      refine lv_iload_n hx hb dX7_ram_25 rfl (lv_at hl 2 rfl) ?_
      refine m_putN X V (ws' := (wG cB cI a ad i j o q q2 q3 x y wr (upd g 0 x1) mem loc pf pg pn t fm fn z key ld lt lf lg tt tf tg)) 2 1 6 rfl gin_2 tyX2_ok nmX2 rfl (by decide) rfl nf_13 rfl rfl rfl (Nat.le_of_ble_eq_true rfl) dX7_ram_26 rfl (fun H locs V => ?_)
      refine lv_iload_n hx hb dX7_ram_29 rfl (lv_at hl 0 rfl) ?_
      have e9 : pX7_ram g x1 = ((g 0), (upd g 0 x1)) := by rw [pX7_ram, if_neg c_1, if_pos c_8]
      exact m_iret X hr hk V (by rw [e9]) (by rw [e9]) dX7_ram_30
    · refine lv_iconst (v := (-1)) hx hb dX7_ram_11 (by decide) ?_
      have e9 : pX7_ram g x1 = ((-1), g) := by rw [pX7_ram, if_neg c_1, if_neg c_8]
      exact m_iret X hr hk V (by rw [e9]) (by rw [e9]) dX7_ram_12
def pX7_go (g : Nat → Int32) (x1 : Int32) : Int32 × (Nat → Int32) := ((g 1), (upd (upd g 1 x1) 7 0))
theorem okX7_go : mOk yX7_go cX7_go 3 (some .int) 1 := ⟨gm_143, gm_1, by decide +kernel⟩
set_option maxRecDepth 100000 in
set_option maxHeartbeats 4000000 in
theorem kX7_go (l : Launch) (D : va_G) (cB cI : ClassId) (a : Nat) (ad : Nat → Nat) (i j o q q2 q3 : Nat) (x : Nat) (y : Nat) (wr : Int32) (g : Nat → Int32) (mem : Nat → Int32) (loc : Nat → Int32) (pf : Nat → Int32) (pg : Nat → Int32) (pn : Int32) (t : Nat → Int32) (fm : Nat → Int32) (fn : Nat → Int32) (z : Nat → Int32) (key : Nat → Int32) (ld : Nat → Int32) (lt : Nat → Int32) (lf : Nat → Int32) (lg : Nat → Int32) (tt : Nat → Int32) (tf : Nat → Int32) (tg : Nat → Int32) (x1 : Int32) : mM l D cB cI yX7_go cX7_go 3 (some .int) { frames := 0, cells := 0, slots := 0, locals := 0 } [.ref a, .int x1] (wG cB cI a ad i j o q q2 q3 x y wr g mem loc pf pg pn t fm fn z key ld lt lf lg tt tf tg) (some ((pX7_go g x1).1)) (wG cB cI a ad i j o q q2 q3 x y wr ((pX7_go g x1).2) mem loc pf pg pn t fm fn z key ld lt lf lg tt tf tg) := by
  refine m_start (by decide +kernel) (Nat.le_of_ble_eq_true rfl) ?_
  intro p e s m below meth c A ls X hr hk V hl
  have X : mCx p s m _ c cX7_go 3 RX7 D cB cI := X
  have hx := X.1.1
  have hb := X.1.2.1
  have hl : lv_has ls 3 [(0, .ref a), (1, .int x1)] := hl
  refine lv_aload_n hx hb dX7_go_0 rfl (lv_at hl 0 rfl) ?_
  refine m_get X V 5 0 0 rfl gin_5 rfl (by decide) rfl gm_120 (v := .ref (ad 0)) rfl dX7_go_1 ?_
  refine m_getN X V 2 1 7 rfl gin_2 rfl (by decide) rfl nf_14 (v := .int (g 1)) rfl dX7_go_4 ?_
  refine lv_istore_n (lv' := [(2, .int (g 1)), (0, .ref a), (1, .int x1)]) hx hb dX7_go_7 rfl hl (by decide) rfl (fun ls hl => ?_)
  refine lv_aload_n hx hb dX7_go_8 rfl (lv_at hl 1 rfl) ?_
  refine m_get X V 5 0 0 rfl gin_5 rfl (by decide) rfl gm_120 (v := .ref (ad 0)) rfl dX7_go_9 ?_
  refine lv_iload_n hx hb dX7_go_12 rfl (lv_at hl 2 rfl) ?_
  refine m_putN X V (ws' := (wG cB cI a ad i j o q q2 q3 x y wr (upd g 1 x1) mem loc pf pg pn t fm fn z key ld lt lf lg tt tf tg)) 2 1 7 rfl gin_2 tyX2_ok nmX2 rfl (by decide) rfl nf_14 rfl rfl rfl (Nat.le_of_ble_eq_true rfl) dX7_go_13 rfl (fun H locs V => ?_)
  refine lv_aload_n hx hb dX7_go_16 rfl (lv_at hl 1 rfl) ?_
  refine m_get X V 5 0 0 rfl gin_5 rfl (by decide) rfl gm_120 (v := .ref (ad 0)) rfl dX7_go_17 ?_
  refine lv_iconst (v := 0) hx hb dX7_go_20 (by decide) ?_
  refine m_putN X V (ws' := (wG cB cI a ad i j o q q2 q3 x y wr (upd (upd g 1 x1) 7 0) mem loc pf pg pn t fm fn z key ld lt lf lg tt tf tg)) 2 1 13 rfl gin_2 tyX2_ok nmX2 rfl (by decide) rfl nf_18 rfl rfl rfl (Nat.le_of_ble_eq_true rfl) dX7_go_21 rfl (fun H locs V => ?_)
  refine lv_iload_n hx hb dX7_go_24 rfl (lv_at hl 0 rfl) ?_
  have e9 : pX7_go g x1 = ((g 1), (upd (upd g 1 x1) 7 0)) := by rw [pX7_go]
  exact m_iret X hr hk V (by rw [e9]) (by rw [e9]) dX7_go_25
def pX7_push (pf : Nat → Int32) (pn : Int32) (x1 : Int32) : Int32 × (Nat → Int32) × Int32 := (if (pX3_isFull pn) = 0 then (mLet (pX3_add pf pn x1) (fun (u24 : (Nat → Int32) × Int32) => (u24.2, u24.1, u24.2))) else ((-2), pf, pn))
theorem okX7_push : mOk yX7_push cX7_push 2 (some .int) 1 := ⟨gm_147, gm_1, by decide +kernel⟩
set_option maxRecDepth 100000 in
set_option maxHeartbeats 4000000 in
theorem kX7_push (l : Launch) (D : va_G) (cB cI : ClassId) (a : Nat) (ad : Nat → Nat) (i j o q q2 q3 : Nat) (x : Nat) (y : Nat) (wr : Int32) (g : Nat → Int32) (mem : Nat → Int32) (loc : Nat → Int32) (pf : Nat → Int32) (pg : Nat → Int32) (pn : Int32) (t : Nat → Int32) (fm : Nat → Int32) (fn : Nat → Int32) (z : Nat → Int32) (key : Nat → Int32) (ld : Nat → Int32) (lt : Nat → Int32) (lf : Nat → Int32) (lg : Nat → Int32) (tt : Nat → Int32) (tf : Nat → Int32) (tg : Nat → Int32) (x1 : Int32) : mM l D cB cI yX7_push cX7_push 2 (some .int) { frames := 2, cells := 0, slots := 0, locals := 43 } [.ref a, .int x1] (wG cB cI a ad i j o q q2 q3 x y wr g mem loc pf pg pn t fm fn z key ld lt lf lg tt tf tg) (some ((pX7_push pf pn x1).1)) (wG cB cI a ad i j o q q2 q3 x y wr g mem loc ((pX7_push pf pn x1).2.1) pg ((pX7_push pf pn x1).2.2) t fm fn z key ld lt lf lg tt tf tg) := by
  refine m_start (by decide +kernel) (Nat.le_of_ble_eq_true rfl) ?_
  intro p e s m below meth c A ls X hr hk V hl
  have X : mCx p s m _ c cX7_push 2 RX7 D cB cI := X
  have hx := X.1.1
  have hb := X.1.2.1
  have hl : lv_has ls 2 [(0, .ref a), (1, .int x1)] := hl
  refine lv_aload_n hx hb dX7_push_0 rfl (lv_at hl 0 rfl) ?_
  refine m_get X V 5 0 0 rfl gin_5 rfl (by decide) rfl gm_120 (v := .ref (ad 0)) rfl dX7_push_1 ?_
  refine m_getN X V 2 1 2 rfl gin_2 rfl (by decide) rfl nf_12 (v := .ref (ad 5)) rfl dX7_push_4 ?_
  refine m_VN X V (ws' := (wG cB cI a ad i j o q q2 q3 x y wr g mem loc pf pg pn t fm fn z key ld lt lf lg tt tf tg)) (rest := []) (st1 := [.int (pX3_isFull pn)]) (kX3_isFull l D cB cI (ad 5) (ad 6) (ad 7) pf pg pn) okX3_isFull gm_148 gm_632 nm_10 [6, 7, 8] ⟨⟨rfl, rfl⟩, ⟨by decide, by decide⟩, Nat.zero_le _, Nat.zero_le _⟩ rfl rfl rfl rfl (wP_fst _ _ _ _ _ _ _ _) (wP_fst _ _ _ _ _ _ _ _) rfl rfl hl.1 (Nat.le_of_ble_eq_true rfl) dX7_push_7 rfl rfl (fun H locs V => ?_)
  refine lv_if_eq (tgt := 16) hx hb dX7_push_10 (by decide) (fun c_10 => ?_) (fun c_10 => ?_)
  · refine lv_aload_n hx hb dX7_push_16 rfl (lv_at hl 0 rfl) ?_
    refine m_get X V 5 0 0 rfl gin_5 rfl (by decide) rfl gm_120 (v := .ref (ad 0)) rfl dX7_push_17 ?_
    refine m_getN X V 2 1 2 rfl gin_2 rfl (by decide) rfl nf_12 (v := .ref (ad 5)) rfl dX7_push_20 ?_
    refine lv_iload_n hx hb dX7_push_23 rfl (lv_at hl 1 rfl) ?_
    obtain ⟨u24, hu24⟩ : ∃ u, pX3_add pf pn x1 = u := ⟨_, rfl⟩
    have hM := kX3_add l D cB cI (ad 5) (ad 6) (ad 7) pf pg pn x1
    rw [hu24] at hM
    refine m_VN X V (ws' := (wG cB cI a ad i j o q q2 q3 x y wr g mem loc u24.1 pg u24.2 t fm fn z key ld lt lf lg tt tf tg)) (rest := []) (st1 := []) hM okX3_add gm_150 gm_633 nm_11 [6, 7, 8] ⟨⟨rfl, rfl⟩, ⟨by decide, by decide⟩, Nat.zero_le _, Nat.zero_le _⟩ rfl rfl rfl rfl (wP_fst _ _ _ _ _ _ _ _) (wP_fst _ _ _ _ _ _ _ _) rfl rfl hl.1 (Nat.le_of_ble_eq_true rfl) dX7_push_24 rfl rfl (fun H locs V => ?_)
    refine lv_aload_n hx hb dX7_push_27 rfl (lv_at hl 0 rfl) ?_
    refine m_get X V 5 0 0 rfl gin_5 rfl (by decide) rfl gm_120 (v := .ref (ad 0)) rfl dX7_push_28 ?_
    refine m_getN X V 2 1 2 rfl gin_2 rfl (by decide) rfl nf_12 (v := .ref (ad 5)) rfl dX7_push_31 ?_
    refine m_getN X V 3 6 2 rfl gin_3 rfl (by decide) rfl nf_2 (v := .int u24.2) rfl dX7_push_34 ?_
    have e9 : pX7_push pf pn x1 = (u24.2, u24.1, u24.2) := by rw [pX7_push, if_pos c_10, hu24, mLet_eq]
    exact m_iret X hr hk V (by rw [e9]) (by rw [e9]) dX7_push_37
  · refine lv_bipush (v := (-2)) hx hb dX7_push_13 (by decide) ?_
    have e9 : pX7_push pf pn x1 = ((-2), pf, pn) := by rw [pX7_push, if_neg c_10]
    exact m_iret X hr hk V (by rw [e9]) (by rw [e9]) dX7_push_15
def pX7_clear (loc : Nat → Int32) (pn : Int32) : Int32 × (Nat → Int32) × Int32 := (pn, (pX0_zero loc 64 0 64), (pX3_shrinkTo pn 0))
theorem okX7_clear : mOk yX7_clear cX7_clear 2 (some .int) 0 := ⟨gm_159, gm_1, by decide +kernel⟩
set_option maxRecDepth 100000 in
set_option maxHeartbeats 4000000 in
theorem kX7_clear (l : Launch) (D : va_G) (cB cI : ClassId) (a : Nat) (ad : Nat → Nat) (i j o q q2 q3 : Nat) (x : Nat) (y : Nat) (wr : Int32) (g : Nat → Int32) (mem : Nat → Int32) (loc : Nat → Int32) (pf : Nat → Int32) (pg : Nat → Int32) (pn : Int32) (t : Nat → Int32) (fm : Nat → Int32) (fn : Nat → Int32) (z : Nat → Int32) (key : Nat → Int32) (ld : Nat → Int32) (lt : Nat → Int32) (lf : Nat → Int32) (lg : Nat → Int32) (tt : Nat → Int32) (tf : Nat → Int32) (tg : Nat → Int32) : mM l D cB cI yX7_clear cX7_clear 2 (some .int) { frames := 2, cells := 0, slots := 0, locals := 45 } [.ref a] (wG cB cI a ad i j o q q2 q3 x y wr g mem loc pf pg pn t fm fn z key ld lt lf lg tt tf tg) (some ((pX7_clear loc pn).1)) (wG cB cI a ad i j o q q2 q3 x y wr g mem ((pX7_clear loc pn).2.1) pf pg ((pX7_clear loc pn).2.2) t fm fn z key ld lt lf lg tt tf tg) := by
  refine m_start (by decide +kernel) (Nat.le_of_ble_eq_true rfl) ?_
  intro p e s m below meth c A ls X hr hk V hl
  have X : mCx p s m _ c cX7_clear 2 RX7 D cB cI := X
  have hx := X.1.1
  have hb := X.1.2.1
  have hl : lv_has ls 2 [(0, .ref a)] := hl
  refine lv_aload_n hx hb dX7_clear_0 rfl (lv_at hl 0 rfl) ?_
  refine m_get X V 5 0 0 rfl gin_5 rfl (by decide) rfl gm_120 (v := .ref (ad 0)) rfl dX7_clear_1 ?_
  refine m_getN X V 2 1 2 rfl gin_2 rfl (by decide) rfl nf_12 (v := .ref (ad 5)) rfl dX7_clear_4 ?_
  refine m_getN X V 3 6 2 rfl gin_3 rfl (by decide) rfl nf_2 (v := .int pn) rfl dX7_clear_7 ?_
  refine lv_istore_n (lv' := [(1, .int pn), (0, .ref a)]) hx hb dX7_clear_10 rfl hl (by decide) rfl (fun ls hl => ?_)
  refine lv_aload_n hx hb dX7_clear_11 rfl (lv_at hl 1 rfl) ?_
  refine m_get X V 5 0 0 rfl gin_5 rfl (by decide) rfl gm_120 (v := .ref (ad 0)) rfl dX7_clear_12 ?_
  refine m_getN X V 2 1 2 rfl gin_2 rfl (by decide) rfl nf_12 (v := .ref (ad 5)) rfl dX7_clear_15 ?_
  refine lv_iconst (v := 0) hx hb dX7_clear_18 (by decide) ?_
  refine m_VN X V (ws' := (wG cB cI a ad i j o q q2 q3 x y wr g mem loc pf pg (pX3_shrinkTo pn 0) t fm fn z key ld lt lf lg tt tf tg)) (rest := []) (st1 := []) (kX3_shrinkTo l D cB cI (ad 5) (ad 6) (ad 7) pf pg pn 0) okX3_shrinkTo gm_160 gm_635 nm_12 [6, 7, 8] ⟨⟨rfl, rfl⟩, ⟨by decide, by decide⟩, Nat.zero_le _, Nat.zero_le _⟩ rfl rfl rfl rfl (wP_fst _ _ _ _ _ _ _ _) (wP_fst _ _ _ _ _ _ _ _) rfl rfl hl.1 (Nat.le_of_ble_eq_true rfl) dX7_clear_19 rfl rfl (fun H locs V => ?_)
  refine lv_aload_n hx hb dX7_clear_22 rfl (lv_at hl 1 rfl) ?_
  refine m_get X V 5 0 0 rfl gin_5 rfl (by decide) rfl gm_120 (v := .ref (ad 0)) rfl dX7_clear_23 ?_
  refine m_getN X V 2 1 1 rfl gin_2 rfl (by decide) rfl nf_11 (v := .ref (ad 3)) rfl dX7_clear_26 ?_
  refine lv_iconst (v := 0) hx hb dX7_clear_29 (by decide) ?_
  refine lv_bipush (v := 64) hx hb dX7_clear_30 (by decide) ?_
  refine m_VN X V (ws' := (wG cB cI a ad i j o q q2 q3 x y wr g mem (pX0_zero loc 64 0 64) pf pg (pX3_shrinkTo pn 0) t fm fn z key ld lt lf lg tt tf tg)) (rest := []) (st1 := []) (kX0_zero l D cB cI (ad 3) (ad 4) 64 loc 0 64 (by decide)) okX0_zero gm_165 gm_637 nm_13 [4, 5] ⟨⟨rfl, rfl⟩, ⟨by decide, by decide⟩, Nat.zero_le _, Nat.zero_le _⟩ rfl rfl rfl rfl (wB_fst _ _ _ _ _ _) (wB_fst _ _ _ _ _ _) rfl rfl hl.1 (Nat.le_of_ble_eq_true rfl) dX7_clear_32 rfl rfl (fun H locs V => ?_)
  refine lv_iload_n hx hb dX7_clear_35 rfl (lv_at hl 0 rfl) ?_
  have e9 : pX7_clear loc pn = (pn, (pX0_zero loc 64 0 64), (pX3_shrinkTo pn 0)) := by rw [pX7_clear]
  exact m_iret X hr hk V (by rw [e9]) (by rw [e9]) dX7_clear_36
def pX7_told (g : Nat → Int32) (pn : Int32) (x1 : Int32) : Int32 := (if x1 = 0 then ((g 1)) else (if x1 = 1 then (if (g 7) = 0 then (0) else (1)) else (if x1 = 2 then ((g 4)) else (if x1 = 3 then (pn) else (if x1 = 4 then ((g 0)) else (if x1 = 5 then ((g 5)) else (if x1 = 6 then ((g 6)) else ((-1)))))))))
theorem okX7_told : mOk yX7_told cX7_told 2 (some .int) 1 := ⟨gm_404, gm_1, by decide +kernel⟩
set_option maxRecDepth 100000 in
set_option maxHeartbeats 4000000 in
theorem kX7_told (l : Launch) (D : va_G) (cB cI : ClassId) (a : Nat) (ad : Nat → Nat) (i j o q q2 q3 : Nat) (x : Nat) (y : Nat) (wr : Int32) (g : Nat → Int32) (mem : Nat → Int32) (loc : Nat → Int32) (pf : Nat → Int32) (pg : Nat → Int32) (pn : Int32) (t : Nat → Int32) (fm : Nat → Int32) (fn : Nat → Int32) (z : Nat → Int32) (key : Nat → Int32) (ld : Nat → Int32) (lt : Nat → Int32) (lf : Nat → Int32) (lg : Nat → Int32) (tt : Nat → Int32) (tf : Nat → Int32) (tg : Nat → Int32) (x1 : Int32) : mM l D cB cI yX7_told cX7_told 2 (some .int) { frames := 0, cells := 0, slots := 0, locals := 0 } [.ref a, .int x1] (wG cB cI a ad i j o q q2 q3 x y wr g mem loc pf pg pn t fm fn z key ld lt lf lg tt tf tg) (some (pX7_told g pn x1)) (wG cB cI a ad i j o q q2 q3 x y wr g mem loc pf pg pn t fm fn z key ld lt lf lg tt tf tg) := by
  refine m_start (by decide +kernel) (Nat.le_of_ble_eq_true rfl) ?_
  intro p e s m below meth c A ls X hr hk V hl
  have X : mCx p s m _ c cX7_told 2 RX7 D cB cI := X
  have hx := X.1.1
  have hb := X.1.2.1
  have hl : lv_has ls 2 [(0, .ref a), (1, .int x1)] := hl
  refine lv_iload_n hx hb dX7_told_0 rfl (lv_at hl 1 rfl) ?_
  by_cases w_1_0 : x1 = 0
  · refine lv_tableIn (off := 43) (tgt := 44) hx hb dX7_told_1 (by rw [w_1_0]; decide) (by rw [w_1_0]; decide) (by rw [w_1_0]; rfl) (by decide) ?_
    refine lv_aload_n hx hb dX7_told_44 rfl (lv_at hl 0 rfl) ?_
    refine m_get X V 5 0 0 rfl gin_5 rfl (by decide) rfl gm_120 (v := .ref (ad 0)) rfl dX7_told_45 ?_
    refine m_getN X V 2 1 7 rfl gin_2 rfl (by decide) rfl nf_14 (v := .int (g 1)) rfl dX7_told_48 ?_
    have e9 : pX7_told g pn x1 = ((g 1)) := by rw [pX7_told, if_pos w_1_0]
    exact m_iret X hr hk V (by rw [e9]) rfl dX7_told_51
  by_cases w_1_1 : x1 = 1
  · refine lv_tableIn (off := 51) (tgt := 52) hx hb dX7_told_1 (by rw [w_1_1]; decide) (by rw [w_1_1]; decide) (by rw [w_1_1]; rfl) (by decide) ?_
    refine lv_aload_n hx hb dX7_told_52 rfl (lv_at hl 0 rfl) ?_
    refine m_get X V 5 0 0 rfl gin_5 rfl (by decide) rfl gm_120 (v := .ref (ad 0)) rfl dX7_told_53 ?_
    refine m_getN X V 2 1 13 rfl gin_2 rfl (by decide) rfl nf_18 (v := .int (g 7)) rfl dX7_told_56 ?_
    refine lv_if_eq (tgt := 66) hx hb dX7_told_59 (by decide) (fun c_59 => ?_) (fun c_59 => ?_)
    · refine lv_iconst (v := 0) hx hb dX7_told_66 (by decide) ?_
      have e9 : pX7_told g pn x1 = (0) := by rw [pX7_told, if_neg w_1_0, if_pos w_1_1, if_pos c_59]
      exact m_iret X hr hk V (by rw [e9]) rfl dX7_told_67
    · refine lv_iconst (v := 1) hx hb dX7_told_62 (by decide) ?_
      refine lv_goto (tgt := 67) hx hb dX7_told_63 (by decide) ?_
      have e9 : pX7_told g pn x1 = (1) := by rw [pX7_told, if_neg w_1_0, if_pos w_1_1, if_neg c_59]
      exact m_iret X hr hk V (by rw [e9]) rfl dX7_told_67
  by_cases w_1_2 : x1 = 2
  · refine lv_tableIn (off := 67) (tgt := 68) hx hb dX7_told_1 (by rw [w_1_2]; decide) (by rw [w_1_2]; decide) (by rw [w_1_2]; rfl) (by decide) ?_
    refine lv_aload_n hx hb dX7_told_68 rfl (lv_at hl 0 rfl) ?_
    refine m_get X V 5 0 0 rfl gin_5 rfl (by decide) rfl gm_120 (v := .ref (ad 0)) rfl dX7_told_69 ?_
    refine m_getN X V 2 1 10 rfl gin_2 rfl (by decide) rfl nf_15 (v := .int (g 4)) rfl dX7_told_72 ?_
    have e9 : pX7_told g pn x1 = ((g 4)) := by rw [pX7_told, if_neg w_1_0, if_neg w_1_1, if_pos w_1_2]
    exact m_iret X hr hk V (by rw [e9]) rfl dX7_told_75
  by_cases w_1_3 : x1 = 3
  · refine lv_tableIn (off := 75) (tgt := 76) hx hb dX7_told_1 (by rw [w_1_3]; decide) (by rw [w_1_3]; decide) (by rw [w_1_3]; rfl) (by decide) ?_
    refine lv_aload_n hx hb dX7_told_76 rfl (lv_at hl 0 rfl) ?_
    refine m_get X V 5 0 0 rfl gin_5 rfl (by decide) rfl gm_120 (v := .ref (ad 0)) rfl dX7_told_77 ?_
    refine m_getN X V 2 1 2 rfl gin_2 rfl (by decide) rfl nf_12 (v := .ref (ad 5)) rfl dX7_told_80 ?_
    refine m_getN X V 3 6 2 rfl gin_3 rfl (by decide) rfl nf_2 (v := .int pn) rfl dX7_told_83 ?_
    have e9 : pX7_told g pn x1 = (pn) := by rw [pX7_told, if_neg w_1_0, if_neg w_1_1, if_neg w_1_2, if_pos w_1_3]
    exact m_iret X hr hk V (by rw [e9]) rfl dX7_told_86
  by_cases w_1_4 : x1 = 4
  · refine lv_tableIn (off := 86) (tgt := 87) hx hb dX7_told_1 (by rw [w_1_4]; decide) (by rw [w_1_4]; decide) (by rw [w_1_4]; rfl) (by decide) ?_
    refine lv_aload_n hx hb dX7_told_87 rfl (lv_at hl 0 rfl) ?_
    refine m_get X V 5 0 0 rfl gin_5 rfl (by decide) rfl gm_120 (v := .ref (ad 0)) rfl dX7_told_88 ?_
    refine m_getN X V 2 1 6 rfl gin_2 rfl (by decide) rfl nf_13 (v := .int (g 0)) rfl dX7_told_91 ?_
    have e9 : pX7_told g pn x1 = ((g 0)) := by rw [pX7_told, if_neg w_1_0, if_neg w_1_1, if_neg w_1_2, if_neg w_1_3, if_pos w_1_4]
    exact m_iret X hr hk V (by rw [e9]) rfl dX7_told_94
  by_cases w_1_5 : x1 = 5
  · refine lv_tableIn (off := 94) (tgt := 95) hx hb dX7_told_1 (by rw [w_1_5]; decide) (by rw [w_1_5]; decide) (by rw [w_1_5]; rfl) (by decide) ?_
    refine lv_aload_n hx hb dX7_told_95 rfl (lv_at hl 0 rfl) ?_
    refine m_get X V 5 0 0 rfl gin_5 rfl (by decide) rfl gm_120 (v := .ref (ad 0)) rfl dX7_told_96 ?_
    refine m_getN X V 2 1 11 rfl gin_2 rfl (by decide) rfl nf_16 (v := .int (g 5)) rfl dX7_told_99 ?_
    have e9 : pX7_told g pn x1 = ((g 5)) := by rw [pX7_told, if_neg w_1_0, if_neg w_1_1, if_neg w_1_2, if_neg w_1_3, if_neg w_1_4, if_pos w_1_5]
    exact m_iret X hr hk V (by rw [e9]) rfl dX7_told_102
  by_cases w_1_6 : x1 = 6
  · refine lv_tableIn (off := 102) (tgt := 103) hx hb dX7_told_1 (by rw [w_1_6]; decide) (by rw [w_1_6]; decide) (by rw [w_1_6]; rfl) (by decide) ?_
    refine lv_aload_n hx hb dX7_told_103 rfl (lv_at hl 0 rfl) ?_
    refine m_get X V 5 0 0 rfl gin_5 rfl (by decide) rfl gm_120 (v := .ref (ad 0)) rfl dX7_told_104 ?_
    refine m_getN X V 2 1 12 rfl gin_2 rfl (by decide) rfl nf_17 (v := .int (g 6)) rfl dX7_told_107 ?_
    have e9 : pX7_told g pn x1 = ((g 6)) := by rw [pX7_told, if_neg w_1_0, if_neg w_1_1, if_neg w_1_2, if_neg w_1_3, if_neg w_1_4, if_neg w_1_5, if_pos w_1_6]
    exact m_iret X hr hk V (by rw [e9]) rfl dX7_told_110
  have o_0 := lv_neT w_1_0 (a := 0) rfl
  have o_1 := lv_neT w_1_1 (a := 1) rfl
  have o_2 := lv_neT w_1_2 (a := 2) rfl
  have o_3 := lv_neT w_1_3 (a := 3) rfl
  have o_4 := lv_neT w_1_4 (a := 4) rfl
  have o_5 := lv_neT w_1_5 (a := 5) rfl
  have o_6 := lv_neT w_1_6 (a := 6) rfl
  refine m_tabD (x := x1) (tgt := 111) hx hb dX7_told_1 (by decide) (by decide) (fun off h1 h2 h3 => by omega) ?_
  refine lv_iconst (v := (-1)) hx hb dX7_told_111 (by decide) ?_
  have e9 : pX7_told g pn x1 = ((-1)) := by rw [pX7_told, if_neg w_1_0, if_neg w_1_1, if_neg w_1_2, if_neg w_1_3, if_neg w_1_4, if_neg w_1_5, if_neg w_1_6]
  exact m_iret X hr hk V (by rw [e9]) rfl dX7_told_112
def pX7_octet (mem : Nat → Int32) (x1 : Int32) : Int32 := (if (pX0_holds 1024 x1 1) = 0 then ((-1)) else ((pX0_byteAt mem 1024 x1)))
theorem okX7_octet : mOk yX7_octet cX7_octet 2 (some .int) 1 := ⟨gm_408, gm_1, by decide +kernel⟩
set_option maxRecDepth 100000 in
set_option maxHeartbeats 4000000 in
theorem kX7_octet (l : Launch) (D : va_G) (cB cI : ClassId) (a : Nat) (ad : Nat → Nat) (i j o q q2 q3 : Nat) (x : Nat) (y : Nat) (wr : Int32) (g : Nat → Int32) (mem : Nat → Int32) (loc : Nat → Int32) (pf : Nat → Int32) (pg : Nat → Int32) (pn : Int32) (t : Nat → Int32) (fm : Nat → Int32) (fn : Nat → Int32) (z : Nat → Int32) (key : Nat → Int32) (ld : Nat → Int32) (lt : Nat → Int32) (lf : Nat → Int32) (lg : Nat → Int32) (tt : Nat → Int32) (tf : Nat → Int32) (tg : Nat → Int32) (x1 : Int32) : mM l D cB cI yX7_octet cX7_octet 2 (some .int) { frames := 1, cells := 0, slots := 0, locals := 22 } [.ref a, .int x1] (wG cB cI a ad i j o q q2 q3 x y wr g mem loc pf pg pn t fm fn z key ld lt lf lg tt tf tg) (some (pX7_octet mem x1)) (wG cB cI a ad i j o q q2 q3 x y wr g mem loc pf pg pn t fm fn z key ld lt lf lg tt tf tg) := by
  refine m_start (by decide +kernel) (Nat.le_of_ble_eq_true rfl) ?_
  intro p e s m below meth c A ls X hr hk V hl
  have X : mCx p s m _ c cX7_octet 2 RX7 D cB cI := X
  have hx := X.1.1
  have hb := X.1.2.1
  have hl : lv_has ls 2 [(0, .ref a), (1, .int x1)] := hl
  refine lv_aload_n hx hb dX7_octet_0 rfl (lv_at hl 0 rfl) ?_
  refine m_get X V 5 0 0 rfl gin_5 rfl (by decide) rfl gm_120 (v := .ref (ad 0)) rfl dX7_octet_1 ?_
  refine m_getN X V 2 1 0 rfl gin_2 rfl (by decide) rfl nf_10 (v := .ref (ad 1)) rfl dX7_octet_4 ?_
  refine lv_iload_n hx hb dX7_octet_7 rfl (lv_at hl 1 rfl) ?_
  refine lv_iconst (v := 1) hx hb dX7_octet_8 (by decide) ?_
  refine m_VN X V (ws' := (wG cB cI a ad i j o q q2 q3 x y wr g mem loc pf pg pn t fm fn z key ld lt lf lg tt tf tg)) (rest := []) (st1 := [.int (pX0_holds 1024 x1 1)]) (kX0_holds l D cB cI (ad 1) (ad 2) 1024 mem x1 1 (by decide)) okX0_holds gm_132 gm_630 nm_8 [2, 3] ⟨⟨rfl, rfl⟩, ⟨by decide, by decide⟩, Nat.zero_le _, Nat.zero_le _⟩ rfl rfl rfl rfl (wB_fst _ _ _ _ _ _) (wB_fst _ _ _ _ _ _) rfl rfl hl.1 (Nat.le_of_ble_eq_true rfl) dX7_octet_9 rfl rfl (fun H locs V => ?_)
  refine lv_if_eq (tgt := 29) hx hb dX7_octet_12 (by decide) (fun c_12 => ?_) (fun c_12 => ?_)
  · refine lv_iconst (v := (-1)) hx hb dX7_octet_29 (by decide) ?_
    have e9 : pX7_octet mem x1 = ((-1)) := by rw [pX7_octet, if_pos c_12]
    exact m_iret X hr hk V (by rw [e9]) rfl dX7_octet_30
  · refine lv_aload_n hx hb dX7_octet_15 rfl (lv_at hl 0 rfl) ?_
    refine m_get X V 5 0 0 rfl gin_5 rfl (by decide) rfl gm_120 (v := .ref (ad 0)) rfl dX7_octet_16 ?_
    refine m_getN X V 2 1 0 rfl gin_2 rfl (by decide) rfl nf_10 (v := .ref (ad 1)) rfl dX7_octet_19 ?_
    refine lv_iload_n hx hb dX7_octet_22 rfl (lv_at hl 1 rfl) ?_
    refine m_VN X V (ws' := (wG cB cI a ad i j o q q2 q3 x y wr g mem loc pf pg pn t fm fn z key ld lt lf lg tt tf tg)) (rest := []) (st1 := [.int (pX0_byteAt mem 1024 x1)]) (kX0_byteAt l D cB cI (ad 1) (ad 2) 1024 mem x1 (by decide)) okX0_byteAt gm_177 gm_640 nm_53 [2, 3] ⟨⟨rfl, rfl⟩, ⟨by decide, by decide⟩, Nat.zero_le _, Nat.zero_le _⟩ rfl rfl rfl rfl (wB_fst _ _ _ _ _ _) (wB_fst _ _ _ _ _ _) rfl rfl hl.1 (Nat.le_of_ble_eq_true rfl) dX7_octet_23 rfl rfl (fun H locs V => ?_)
    refine lv_goto (tgt := 30) hx hb dX7_octet_26 (by decide) ?_
    have e9 : pX7_octet mem x1 = ((pX0_byteAt mem 1024 x1)) := by rw [pX7_octet, if_neg c_12]
    exact m_iret X hr hk V (by rw [e9]) rfl dX7_octet_30
def pX7_local (loc : Nat → Int32) (x1 : Int32) : Int32 := (if (pX0_holds 64 x1 4) = 0 then (0) else ((pX0_number loc 64 x1 4)))
theorem okX7_local : mOk yX7_local cX7_local 2 (some .int) 1 := ⟨gm_412, gm_1, by decide +kernel⟩
set_option maxRecDepth 100000 in
set_option maxHeartbeats 4000000 in
theorem kX7_local (l : Launch) (D : va_G) (cB cI : ClassId) (a : Nat) (ad : Nat → Nat) (i j o q q2 q3 : Nat) (x : Nat) (y : Nat) (wr : Int32) (g : Nat → Int32) (mem : Nat → Int32) (loc : Nat → Int32) (pf : Nat → Int32) (pg : Nat → Int32) (pn : Int32) (t : Nat → Int32) (fm : Nat → Int32) (fn : Nat → Int32) (z : Nat → Int32) (key : Nat → Int32) (ld : Nat → Int32) (lt : Nat → Int32) (lf : Nat → Int32) (lg : Nat → Int32) (tt : Nat → Int32) (tf : Nat → Int32) (tg : Nat → Int32) (x1 : Int32) : mM l D cB cI yX7_local cX7_local 2 (some .int) { frames := 2, cells := 0, slots := 0, locals := 45 } [.ref a, .int x1] (wG cB cI a ad i j o q q2 q3 x y wr g mem loc pf pg pn t fm fn z key ld lt lf lg tt tf tg) (some (pX7_local loc x1)) (wG cB cI a ad i j o q q2 q3 x y wr g mem loc pf pg pn t fm fn z key ld lt lf lg tt tf tg) := by
  refine m_start (by decide +kernel) (Nat.le_of_ble_eq_true rfl) ?_
  intro p e s m below meth c A ls X hr hk V hl
  have X : mCx p s m _ c cX7_local 2 RX7 D cB cI := X
  have hx := X.1.1
  have hb := X.1.2.1
  have hl : lv_has ls 2 [(0, .ref a), (1, .int x1)] := hl
  refine lv_aload_n hx hb dX7_local_0 rfl (lv_at hl 0 rfl) ?_
  refine m_get X V 5 0 0 rfl gin_5 rfl (by decide) rfl gm_120 (v := .ref (ad 0)) rfl dX7_local_1 ?_
  refine m_getN X V 2 1 1 rfl gin_2 rfl (by decide) rfl nf_11 (v := .ref (ad 3)) rfl dX7_local_4 ?_
  refine lv_iload_n hx hb dX7_local_7 rfl (lv_at hl 1 rfl) ?_
  refine lv_iconst (v := 4) hx hb dX7_local_8 (by decide) ?_
  refine m_VN X V (ws' := (wG cB cI a ad i j o q q2 q3 x y wr g mem loc pf pg pn t fm fn z key ld lt lf lg tt tf tg)) (rest := []) (st1 := [.int (pX0_holds 64 x1 4)]) (kX0_holds l D cB cI (ad 3) (ad 4) 64 loc x1 4 (by decide)) okX0_holds gm_132 gm_630 nm_8 [4, 5] ⟨⟨rfl, rfl⟩, ⟨by decide, by decide⟩, Nat.zero_le _, Nat.zero_le _⟩ rfl rfl rfl rfl (wB_fst _ _ _ _ _ _) (wB_fst _ _ _ _ _ _) rfl rfl hl.1 (Nat.le_of_ble_eq_true rfl) dX7_local_9 rfl rfl (fun H locs V => ?_)
  refine lv_if_eq (tgt := 30) hx hb dX7_local_12 (by decide) (fun c_12 => ?_) (fun c_12 => ?_)
  · refine lv_iconst (v := 0) hx hb dX7_local_30 (by decide) ?_
    have e9 : pX7_local loc x1 = (0) := by rw [pX7_local, if_pos c_12]
    exact m_iret X hr hk V (by rw [e9]) rfl dX7_local_31
  · refine lv_aload_n hx hb dX7_local_15 rfl (lv_at hl 0 rfl) ?_
    refine m_get X V 5 0 0 rfl gin_5 rfl (by decide) rfl gm_120 (v := .ref (ad 0)) rfl dX7_local_16 ?_
    refine m_getN X V 2 1 1 rfl gin_2 rfl (by decide) rfl nf_11 (v := .ref (ad 3)) rfl dX7_local_19 ?_
    refine lv_iload_n hx hb dX7_local_22 rfl (lv_at hl 1 rfl) ?_
    refine lv_iconst (v := 4) hx hb dX7_local_23 (by decide) ?_
    refine m_VN X V (ws' := (wG cB cI a ad i j o q q2 q3 x y wr g mem loc pf pg pn t fm fn z key ld lt lf lg tt tf tg)) (rest := []) (st1 := [.int (pX0_number loc 64 x1 4)]) (kX0_number l D cB cI (ad 3) (ad 4) 64 loc x1 4 (by decide)) okX0_number gm_182 gm_641 nm_54 [4, 5] ⟨⟨rfl, rfl⟩, ⟨by decide, by decide⟩, Nat.zero_le _, Nat.zero_le _⟩ rfl rfl rfl rfl (wB_fst _ _ _ _ _ _) (wB_fst _ _ _ _ _ _) rfl rfl hl.1 (Nat.le_of_ble_eq_true rfl) dX7_local_24 rfl rfl (fun H locs V => ?_)
    refine lv_goto (tgt := 31) hx hb dX7_local_27 (by decide) ?_
    have e9 : pX7_local loc x1 = ((pX0_number loc 64 x1 4)) := by rw [pX7_local, if_neg c_12]
    exact m_iret X hr hk V (by rw [e9]) rfl dX7_local_31
def pX7_stack (pf : Nat → Int32) (pn : Int32) (x1 : Int32) : Int32 := ((pX3_fromTop pf pn x1))
theorem okX7_stack : mOk yX7_stack cX7_stack 2 (some .int) 1 := ⟨gm_416, gm_1, by decide +kernel⟩
set_option maxRecDepth 100000 in
set_option maxHeartbeats 4000000 in
theorem kX7_stack (l : Launch) (D : va_G) (cB cI : ClassId) (a : Nat) (ad : Nat → Nat) (i j o q q2 q3 : Nat) (x : Nat) (y : Nat) (wr : Int32) (g : Nat → Int32) (mem : Nat → Int32) (loc : Nat → Int32) (pf : Nat → Int32) (pg : Nat → Int32) (pn : Int32) (t : Nat → Int32) (fm : Nat → Int32) (fn : Nat → Int32) (z : Nat → Int32) (key : Nat → Int32) (ld : Nat → Int32) (lt : Nat → Int32) (lf : Nat → Int32) (lg : Nat → Int32) (tt : Nat → Int32) (tf : Nat → Int32) (tg : Nat → Int32) (x1 : Int32) : mM l D cB cI yX7_stack cX7_stack 2 (some .int) { frames := 2, cells := 0, slots := 0, locals := 42 } [.ref a, .int x1] (wG cB cI a ad i j o q q2 q3 x y wr g mem loc pf pg pn t fm fn z key ld lt lf lg tt tf tg) (some (pX7_stack pf pn x1)) (wG cB cI a ad i j o q q2 q3 x y wr g mem loc pf pg pn t fm fn z key ld lt lf lg tt tf tg) := by
  refine m_start (by decide +kernel) (Nat.le_of_ble_eq_true rfl) ?_
  intro p e s m below meth c A ls X hr hk V hl
  have X : mCx p s m _ c cX7_stack 2 RX7 D cB cI := X
  have hx := X.1.1
  have hb := X.1.2.1
  have hl : lv_has ls 2 [(0, .ref a), (1, .int x1)] := hl
  refine lv_aload_n hx hb dX7_stack_0 rfl (lv_at hl 0 rfl) ?_
  refine m_get X V 5 0 0 rfl gin_5 rfl (by decide) rfl gm_120 (v := .ref (ad 0)) rfl dX7_stack_1 ?_
  refine m_getN X V 2 1 2 rfl gin_2 rfl (by decide) rfl nf_12 (v := .ref (ad 5)) rfl dX7_stack_4 ?_
  refine lv_iload_n hx hb dX7_stack_7 rfl (lv_at hl 1 rfl) ?_
  refine m_VN X V (ws' := (wG cB cI a ad i j o q q2 q3 x y wr g mem loc pf pg pn t fm fn z key ld lt lf lg tt tf tg)) (rest := []) (st1 := [.int (pX3_fromTop pf pn x1)]) (kX3_fromTop l D cB cI (ad 5) (ad 6) (ad 7) pf pg pn x1) okX3_fromTop gm_305 gm_667 nm_55 [6, 7, 8] ⟨⟨rfl, rfl⟩, ⟨by decide, by decide⟩, Nat.zero_le _, Nat.zero_le _⟩ rfl rfl rfl rfl (wP_fst _ _ _ _ _ _ _ _) (wP_fst _ _ _ _ _ _ _ _) rfl rfl hl.1 (Nat.le_of_ble_eq_true rfl) dX7_stack_8 rfl rfl (fun H locs V => ?_)
  have e9 : pX7_stack pf pn x1 = ((pX3_fromTop pf pn x1)) := by rw [pX7_stack]
  exact m_iret X hr hk V (by rw [e9]) rfl dX7_stack_11
def pX7_step (g : Nat → Int32) (mem : Nat → Int32) (loc : Nat → Int32) (pf : Nat → Int32) (pg : Nat → Int32) (pn : Int32) (t : Nat → Int32) (fm : Nat → Int32) (fn : Nat → Int32) (z : Nat → Int32) (key : Nat → Int32) (ld : Nat → Int32) : Int32 × (Nat → Int32) × (Nat → Int32) × (Nat → Int32) × (Nat → Int32) × (Nat → Int32) × Int32 × (Nat → Int32) × (Nat → Int32) × (Nat → Int32) × (Nat → Int32) × (Nat → Int32) × (Nat → Int32) := (if (g 7) = 0 then (mLet (pX2_doOne (upd g 5 0) mem loc pf pg pn t fm fn z key ld) (fun (u24 : (Nat → Int32) × (Nat → Int32) × (Nat → Int32) × (Nat → Int32) × (Nat → Int32) × Int32 × (Nat → Int32) × (Nat → Int32) × (Nat → Int32) × (Nat → Int32) × (Nat → Int32) × (Nat → Int32)) => (if (u24.1 5) = 0 then (if (u24.1 7) = 0 then (1, u24.1, u24.2.1, u24.2.2.1, u24.2.2.2.1, u24.2.2.2.2.1, u24.2.2.2.2.2.1, u24.2.2.2.2.2.2.1, u24.2.2.2.2.2.2.2.1, u24.2.2.2.2.2.2.2.2.1, u24.2.2.2.2.2.2.2.2.2.1, u24.2.2.2.2.2.2.2.2.2.2.1, u24.2.2.2.2.2.2.2.2.2.2.2) else (0, u24.1, u24.2.1, u24.2.2.1, u24.2.2.2.1, u24.2.2.2.2.1, u24.2.2.2.2.2.1, u24.2.2.2.2.2.2.1, u24.2.2.2.2.2.2.2.1, u24.2.2.2.2.2.2.2.2.1, u24.2.2.2.2.2.2.2.2.2.1, u24.2.2.2.2.2.2.2.2.2.2.1, u24.2.2.2.2.2.2.2.2.2.2.2)) else (((-10) - (u24.1 5)), u24.1, u24.2.1, u24.2.2.1, u24.2.2.2.1, u24.2.2.2.2.1, u24.2.2.2.2.2.1, u24.2.2.2.2.2.2.1, u24.2.2.2.2.2.2.2.1, u24.2.2.2.2.2.2.2.2.1, u24.2.2.2.2.2.2.2.2.2.1, u24.2.2.2.2.2.2.2.2.2.2.1, u24.2.2.2.2.2.2.2.2.2.2.2)))) else (0, (upd g 5 0), mem, loc, pf, pg, pn, t, fm, fn, z, key, ld))
theorem okX7_step : mOk yX7_step cX7_step 1 (some .int) 0 := ⟨gm_220, gm_1, by decide +kernel⟩
set_option maxRecDepth 100000 in
set_option maxHeartbeats 4000000 in
theorem kX7_step (l : Launch) (D : va_G) (cB cI : ClassId) (a : Nat) (ad : Nat → Nat) (i j o q q2 q3 : Nat) (x : Nat) (y : Nat) (wr : Int32) (g : Nat → Int32) (mem : Nat → Int32) (loc : Nat → Int32) (pf : Nat → Int32) (pg : Nat → Int32) (pn : Int32) (t : Nat → Int32) (fm : Nat → Int32) (fn : Nat → Int32) (z : Nat → Int32) (key : Nat → Int32) (ld : Nat → Int32) (lt : Nat → Int32) (lf : Nat → Int32) (lg : Nat → Int32) (tt : Nat → Int32) (tf : Nat → Int32) (tg : Nat → Int32) (hf : sb_Fit mem) : mM l D cB cI yX7_step cX7_step 1 (some .int) { frames := 7, cells := 0, slots := 0, locals := 155 } [.ref a] (wG cB cI a ad i j o q q2 q3 x y wr g mem loc pf pg pn t fm fn z key ld lt lf lg tt tf tg) (some ((pX7_step g mem loc pf pg pn t fm fn z key ld).1)) (wG cB cI a ad i j o q q2 q3 x y wr ((pX7_step g mem loc pf pg pn t fm fn z key ld).2.1) ((pX7_step g mem loc pf pg pn t fm fn z key ld).2.2.1) ((pX7_step g mem loc pf pg pn t fm fn z key ld).2.2.2.1) ((pX7_step g mem loc pf pg pn t fm fn z key ld).2.2.2.2.1) ((pX7_step g mem loc pf pg pn t fm fn z key ld).2.2.2.2.2.1) ((pX7_step g mem loc pf pg pn t fm fn z key ld).2.2.2.2.2.2.1) ((pX7_step g mem loc pf pg pn t fm fn z key ld).2.2.2.2.2.2.2.1) ((pX7_step g mem loc pf pg pn t fm fn z key ld).2.2.2.2.2.2.2.2.1) ((pX7_step g mem loc pf pg pn t fm fn z key ld).2.2.2.2.2.2.2.2.2.1) ((pX7_step g mem loc pf pg pn t fm fn z key ld).2.2.2.2.2.2.2.2.2.2.1) ((pX7_step g mem loc pf pg pn t fm fn z key ld).2.2.2.2.2.2.2.2.2.2.2.1) ((pX7_step g mem loc pf pg pn t fm fn z key ld).2.2.2.2.2.2.2.2.2.2.2.2) lt lf lg tt tf tg) := by
  refine m_start (by decide +kernel) (Nat.le_of_ble_eq_true rfl) ?_
  intro p e s m below meth c A ls X hr hk V hl
  have X : mCx p s m _ c cX7_step 1 RX7 D cB cI := X
  have hx := X.1.1
  have hb := X.1.2.1
  have hl : lv_has ls 1 [(0, .ref a)] := hl
  refine lv_aload_n hx hb dX7_step_0 rfl (lv_at hl 0 rfl) ?_
  refine m_get X V 5 0 0 rfl gin_5 rfl (by decide) rfl gm_120 (v := .ref (ad 0)) rfl dX7_step_1 ?_
  refine lv_iconst (v := 0) hx hb dX7_step_4 (by decide) ?_
  refine m_putN X V (ws' := (wG cB cI a ad i j o q q2 q3 x y wr (upd g 5 0) mem loc pf pg pn t fm fn z key ld lt lf lg tt tf tg)) 2 1 11 rfl gin_2 tyX2_ok nmX2 rfl (by decide) rfl nf_16 rfl rfl rfl (Nat.le_of_ble_eq_true rfl) dX7_step_5 rfl (fun H locs V => ?_)
  refine lv_aload_n hx hb dX7_step_8 rfl (lv_at hl 0 rfl) ?_
  refine m_get X V 5 0 0 rfl gin_5 rfl (by decide) rfl gm_120 (v := .ref (ad 0)) rfl dX7_step_9 ?_
  refine m_getN X V 2 1 13 rfl gin_2 rfl (by decide) rfl nf_18 (v := .int (g 7)) rfl dX7_step_12 ?_
  refine lv_if_eq (tgt := 20) hx hb dX7_step_15 (by decide) (fun c_15 => ?_) (fun c_15 => ?_)
  · refine lv_aload_n hx hb dX7_step_20 rfl (lv_at hl 0 rfl) ?_
    refine m_get X V 5 0 0 rfl gin_5 rfl (by decide) rfl gm_120 (v := .ref (ad 0)) rfl dX7_step_21 ?_
    obtain ⟨u24, hu24⟩ : ∃ u, pX2_doOne (upd g 5 0) mem loc pf pg pn t fm fn z key ld = u := ⟨_, rfl⟩
    have hM := kX2_doOne l D cB cI ad (upd g 5 0) mem loc pf pg pn t fm fn z key ld hf
    rw [hu24] at hM
    refine m_VN X V (ws' := (wG cB cI a ad i j o q q2 q3 x y wr u24.1 u24.2.1 u24.2.2.1 u24.2.2.2.1 u24.2.2.2.2.1 u24.2.2.2.2.2.1 u24.2.2.2.2.2.2.1 u24.2.2.2.2.2.2.2.1 u24.2.2.2.2.2.2.2.2.1 u24.2.2.2.2.2.2.2.2.2.1 u24.2.2.2.2.2.2.2.2.2.2.1 u24.2.2.2.2.2.2.2.2.2.2.2 lt lf lg tt tf tg)) (rest := []) (st1 := []) hM okX2_doOne gm_221 gm_647 nm_22 [1, 2, 3, 4, 5, 6, 7, 8, 9, 10, 11, 12, 13, 14, 15] ⟨⟨rfl, rfl⟩, ⟨by decide, by decide⟩, Nat.zero_le _, Nat.zero_le _⟩ rfl rfl rfl rfl (wM_fst _ _ _ _ _ _ _ _ _ _ _ _ _ _ _) (wM_fst _ _ _ _ _ _ _ _ _ _ _ _ _ _ _) rfl rfl hl.1 (Nat.le_of_ble_eq_true rfl) dX7_step_24 rfl rfl (fun H locs V => ?_)
    refine lv_aload_n hx hb dX7_step_27 rfl (lv_at hl 0 rfl) ?_
    refine m_get X V 5 0 0 rfl gin_5 rfl (by decide) rfl gm_120 (v := .ref (ad 0)) rfl dX7_step_28 ?_
    refine m_getN X V 2 1 11 rfl gin_2 rfl (by decide) rfl nf_16 (v := .int (u24.1 5)) rfl dX7_step_31 ?_
    refine lv_if_eq (tgt := 48) hx hb dX7_step_34 (by decide) (fun c_34 => ?_) (fun c_34 => ?_)
    · refine lv_aload_n hx hb dX7_step_48 rfl (lv_at hl 0 rfl) ?_
      refine m_get X V 5 0 0 rfl gin_5 rfl (by decide) rfl gm_120 (v := .ref (ad 0)) rfl dX7_step_49 ?_
      refine m_getN X V 2 1 13 rfl gin_2 rfl (by decide) rfl nf_18 (v := .int (u24.1 7)) rfl dX7_step_52 ?_
      refine lv_if_eq (tgt := 62) hx hb dX7_step_55 (by decide) (fun c_55 => ?_) (fun c_55 => ?_)
      · refine lv_iconst (v := 1) hx hb dX7_step_62 (by decide) ?_
        have e9 : pX7_step g mem loc pf pg pn t fm fn z key ld = (1, u24.1, u24.2.1, u24.2.2.1, u24.2.2.2.1, u24.2.2.2.2.1, u24.2.2.2.2.2.1, u24.2.2.2.2.2.2.1, u24.2.2.2.2.2.2.2.1, u24.2.2.2.2.2.2.2.2.1, u24.2.2.2.2.2.2.2.2.2.1, u24.2.2.2.2.2.2.2.2.2.2.1, u24.2.2.2.2.2.2.2.2.2.2.2) := by rw [pX7_step, if_pos c_15, hu24, mLet_eq, if_pos c_34, if_pos c_55]
        exact m_iret X hr hk V (by rw [e9]) (by rw [e9]) dX7_step_63
      · refine lv_iconst (v := 0) hx hb dX7_step_58 (by decide) ?_
        refine lv_goto (tgt := 63) hx hb dX7_step_59 (by decide) ?_
        have e9 : pX7_step g mem loc pf pg pn t fm fn z key ld = (0, u24.1, u24.2.1, u24.2.2.1, u24.2.2.2.1, u24.2.2.2.2.1, u24.2.2.2.2.2.1, u24.2.2.2.2.2.2.1, u24.2.2.2.2.2.2.2.1, u24.2.2.2.2.2.2.2.2.1, u24.2.2.2.2.2.2.2.2.2.1, u24.2.2.2.2.2.2.2.2.2.2.1, u24.2.2.2.2.2.2.2.2.2.2.2) := by rw [pX7_step, if_pos c_15, hu24, mLet_eq, if_pos c_34, if_neg c_55]
        exact m_iret X hr hk V (by rw [e9]) (by rw [e9]) dX7_step_63
    · refine lv_bipush (v := (-10)) hx hb dX7_step_37 (by decide) ?_
      refine lv_aload_n hx hb dX7_step_39 rfl (lv_at hl 0 rfl) ?_
      refine m_get X V 5 0 0 rfl gin_5 rfl (by decide) rfl gm_120 (v := .ref (ad 0)) rfl dX7_step_40 ?_
      refine m_getN X V 2 1 11 rfl gin_2 rfl (by decide) rfl nf_16 (v := .int (u24.1 5)) rfl dX7_step_43 ?_
      refine lv_isub hx hb dX7_step_46 ?_
      have e9 : pX7_step g mem loc pf pg pn t fm fn z key ld = (((-10) - (u24.1 5)), u24.1, u24.2.1, u24.2.2.1, u24.2.2.2.1, u24.2.2.2.2.1, u24.2.2.2.2.2.1, u24.2.2.2.2.2.2.1, u24.2.2.2.2.2.2.2.1, u24.2.2.2.2.2.2.2.2.1, u24.2.2.2.2.2.2.2.2.2.1, u24.2.2.2.2.2.2.2.2.2.2.1, u24.2.2.2.2.2.2.2.2.2.2.2) := by rw [pX7_step, if_pos c_15, hu24, mLet_eq, if_neg c_34]
      exact m_iret X hr hk V (by rw [e9]) (by rw [e9]) dX7_step_47
  · refine lv_iconst (v := 0) hx hb dX7_step_18 (by decide) ?_
    have e9 : pX7_step g mem loc pf pg pn t fm fn z key ld = (0, (upd g 5 0), mem, loc, pf, pg, pn, t, fm, fn, z, key, ld) := by rw [pX7_step, if_neg c_15]
    exact m_iret X hr hk V (by rw [e9]) (by rw [e9]) dX7_step_19
def pX7_run_lp31 (x1 : Int32) : Nat → (Nat → Int32) → (Nat → Int32) → (Nat → Int32) → (Nat → Int32) → (Nat → Int32) → (Int32) → (Nat → Int32) → (Nat → Int32) → (Nat → Int32) → (Nat → Int32) → (Nat → Int32) → (Nat → Int32) → (Int32) → (Int32) → Int32 × (Nat → Int32) × (Nat → Int32) × (Nat → Int32) × (Nat → Int32) × (Nat → Int32) × Int32 × (Nat → Int32) × (Nat → Int32) × (Nat → Int32) × (Nat → Int32) × (Nat → Int32) × (Nat → Int32)
  | 0, g, mem, loc, pf, pg, pn, t, fm, fn, z, key, ld, k2, k3 => (0, g, mem, loc, pf, pg, pn, t, fm, fn, z, key, ld)
  | n_ + 1, g, mem, loc, pf, pg, pn, t, fm, fn, z, key, ld, k2, k3 => (if x1 ≤ k3 then (((g 6) - k2), g, mem, loc, pf, pg, pn, t, fm, fn, z, key, ld) else (if (g 7) = 0 then (if (g 5) = 0 then (mLet (pX2_doOne g mem loc pf pg pn t fm fn z key ld) (fun (u60 : (Nat → Int32) × (Nat → Int32) × (Nat → Int32) × (Nat → Int32) × (Nat → Int32) × Int32 × (Nat → Int32) × (Nat → Int32) × (Nat → Int32) × (Nat → Int32) × (Nat → Int32) × (Nat → Int32)) => (pX7_run_lp31 x1 n_ u60.1 u60.2.1 u60.2.2.1 u60.2.2.2.1 u60.2.2.2.2.1 u60.2.2.2.2.2.1 u60.2.2.2.2.2.2.1 u60.2.2.2.2.2.2.2.1 u60.2.2.2.2.2.2.2.2.1 u60.2.2.2.2.2.2.2.2.2.1 u60.2.2.2.2.2.2.2.2.2.2.1 u60.2.2.2.2.2.2.2.2.2.2.2 k2 (k3 + 1)))) else (((g 6) - k2), g, mem, loc, pf, pg, pn, t, fm, fn, z, key, ld)) else (((g 6) - k2), g, mem, loc, pf, pg, pn, t, fm, fn, z, key, ld)))
def pX7_run (g : Nat → Int32) (mem : Nat → Int32) (loc : Nat → Int32) (pf : Nat → Int32) (pg : Nat → Int32) (pn : Int32) (t : Nat → Int32) (fm : Nat → Int32) (fn : Nat → Int32) (z : Nat → Int32) (key : Nat → Int32) (ld : Nat → Int32) (x1 : Int32) : Int32 × (Nat → Int32) × (Nat → Int32) × (Nat → Int32) × (Nat → Int32) × (Nat → Int32) × Int32 × (Nat → Int32) × (Nat → Int32) × (Nat → Int32) × (Nat → Int32) × (Nat → Int32) × (Nat → Int32) := (if x1 < 0 then ((-1), g, mem, loc, pf, pg, pn, t, fm, fn, z, key, ld) else (if x1 ≤ 2000 then (pX7_run_lp31 x1 ((Int32.toInt x1 - Int32.toInt 0).toNat + 1) (upd g 5 0) mem loc pf pg pn t fm fn z key ld (g 6) 0) else ((-1), g, mem, loc, pf, pg, pn, t, fm, fn, z, key, ld)))
theorem okX7_run : mOk yX7_run cX7_run 4 (some .int) 1 := ⟨gm_400, gm_1, by decide +kernel⟩
set_option maxRecDepth 100000 in
set_option maxHeartbeats 4000000 in
theorem lpX7_run_31 {p : Program} {e : Env} {s : State} {m : MethodId} {args : Array Value} {below : List Frame} {meth : Method} {c : Code} {A : Nat → Prop} {l : Launch} {D : va_G} {cB cI : ClassId} {a : Nat} {ad : Nat → Nat} {i j o q q2 q3 : Nat} {x : Nat} {y : Nat} {wr : Int32} {lt : Nat → Int32} {lf : Nat → Int32} {lg : Nat → Int32} {tt : Nat → Int32} {tf : Nat → Int32} {tg : Nat → Int32} {x1 : Int32} (X : mCx p s m args c cX7_run 4 RX7 D cB cI) (hr : meth.sig.returnType = (some .int)) (hk : meth.locks = false) : ∀ (n_ : Nat) (g : Nat → Int32) (mem : Nat → Int32) (loc : Nat → Int32) (pf : Nat → Int32) (pg : Nat → Int32) (pn : Int32) (t : Nat → Int32) (fm : Nat → Int32) (fn : Nat → Int32) (z : Nat → Int32) (key : Nat → Int32) (ld : Nat → Int32) (k2 : Int32) (k3 : Int32) (H : Heap) (locs : List Loc) (ls : Array Slot), sb_Fit mem → (Int32.toInt x1 - Int32.toInt k3).toNat < n_ → mWd D A s (wG cB cI a ad i j o q q2 q3 x y wr g mem loc pf pg pn t fm fn z key ld lt lf lg tt tf tg) H locs → lv_has ls 4 [(0, .ref a), (1, .int x1), (2, .int k2), (3, .int k3)] → W p l e { frames := 7, cells := 0, slots := 0, locals := 155 } s m args below meth c H locs 0 0 (MQ below (mQ D A (wG cB cI a ad i j o q q2 q3 x y wr ((pX7_run_lp31 x1 n_ g mem loc pf pg pn t fm fn z key ld k2 k3).2.1) ((pX7_run_lp31 x1 n_ g mem loc pf pg pn t fm fn z key ld k2 k3).2.2.1) ((pX7_run_lp31 x1 n_ g mem loc pf pg pn t fm fn z key ld k2 k3).2.2.2.1) ((pX7_run_lp31 x1 n_ g mem loc pf pg pn t fm fn z key ld k2 k3).2.2.2.2.1) ((pX7_run_lp31 x1 n_ g mem loc pf pg pn t fm fn z key ld k2 k3).2.2.2.2.2.1) ((pX7_run_lp31 x1 n_ g mem loc pf pg pn t fm fn z key ld k2 k3).2.2.2.2.2.2.1) ((pX7_run_lp31 x1 n_ g mem loc pf pg pn t fm fn z key ld k2 k3).2.2.2.2.2.2.2.1) ((pX7_run_lp31 x1 n_ g mem loc pf pg pn t fm fn z key ld k2 k3).2.2.2.2.2.2.2.2.1) ((pX7_run_lp31 x1 n_ g mem loc pf pg pn t fm fn z key ld k2 k3).2.2.2.2.2.2.2.2.2.1) ((pX7_run_lp31 x1 n_ g mem loc pf pg pn t fm fn z key ld k2 k3).2.2.2.2.2.2.2.2.2.2.1) ((pX7_run_lp31 x1 n_ g mem loc pf pg pn t fm fn z key ld k2 k3).2.2.2.2.2.2.2.2.2.2.2.1) ((pX7_run_lp31 x1 n_ g mem loc pf pg pn t fm fn z key ld k2 k3).2.2.2.2.2.2.2.2.2.2.2.2) lt lf lg tt tf tg) (some ((pX7_run_lp31 x1 n_ g mem loc pf pg pn t fm fn z key ld k2 k3).1))) args s 0 0 A) (F0 m 31 ls []) := by
  have hx := X.1.1
  have hb := X.1.2.1
  intro n_
  induction n_ with
  | zero =>
    intro g mem loc pf pg pn t fm fn z key ld k2 k3 H locs ls hf hm V hl
    exact absurd hm (Nat.not_lt_zero _)
  | succ n_ ih =>
    intro g mem loc pf pg pn t fm fn z key ld k2 k3 H locs ls hf hm V hl
    refine lv_iload_n hx hb dX7_run_31 rfl (lv_at hl 3 rfl) ?_
    refine lv_iload_n hx hb dX7_run_32 rfl (lv_at hl 1 rfl) ?_
    refine lv_icmp_ge (tgt := 69) hx hb dX7_run_33 (by decide) (fun c_33 => ?_) (fun c_33 => ?_)
    · refine lv_aload_n hx hb dX7_run_69 rfl (lv_at hl 0 rfl) ?_
      refine m_get X V 5 0 0 rfl gin_5 rfl (by decide) rfl gm_120 (v := .ref (ad 0)) rfl dX7_run_70 ?_
      refine m_getN X V 2 1 12 rfl gin_2 rfl (by decide) rfl nf_17 (v := .int (g 6)) rfl dX7_run_73 ?_
      refine lv_iload_n hx hb dX7_run_76 rfl (lv_at hl 2 rfl) ?_
      refine lv_isub hx hb dX7_run_77 ?_
      have e9 : pX7_run_lp31 x1 (n_ + 1) g mem loc pf pg pn t fm fn z key ld k2 k3 = (((g 6) - k2), g, mem, loc, pf, pg, pn, t, fm, fn, z, key, ld) := by rw [pX7_run_lp31, if_pos c_33]
      exact m_iret X hr hk V (by rw [e9]) (by rw [e9]) dX7_run_78
    · refine lv_aload_n hx hb dX7_run_36 rfl (lv_at hl 0 rfl) ?_
      refine m_get X V 5 0 0 rfl gin_5 rfl (by decide) rfl gm_120 (v := .ref (ad 0)) rfl dX7_run_37 ?_
      refine m_getN X V 2 1 13 rfl gin_2 rfl (by decide) rfl nf_18 (v := .int (g 7)) rfl dX7_run_40 ?_
      refine lv_if_ne (tgt := 69) hx hb dX7_run_43 (by decide) (fun c_43 => ?_) (fun c_43 => ?_)
      · refine lv_aload_n hx hb dX7_run_69 rfl (lv_at hl 0 rfl) ?_
        refine m_get X V 5 0 0 rfl gin_5 rfl (by decide) rfl gm_120 (v := .ref (ad 0)) rfl dX7_run_70 ?_
        refine m_getN X V 2 1 12 rfl gin_2 rfl (by decide) rfl nf_17 (v := .int (g 6)) rfl dX7_run_73 ?_
        refine lv_iload_n hx hb dX7_run_76 rfl (lv_at hl 2 rfl) ?_
        refine lv_isub hx hb dX7_run_77 ?_
        have e9 : pX7_run_lp31 x1 (n_ + 1) g mem loc pf pg pn t fm fn z key ld k2 k3 = (((g 6) - k2), g, mem, loc, pf, pg, pn, t, fm, fn, z, key, ld) := by rw [pX7_run_lp31, if_neg c_33, if_neg c_43]
        exact m_iret X hr hk V (by rw [e9]) (by rw [e9]) dX7_run_78
      · refine lv_aload_n hx hb dX7_run_46 rfl (lv_at hl 0 rfl) ?_
        refine m_get X V 5 0 0 rfl gin_5 rfl (by decide) rfl gm_120 (v := .ref (ad 0)) rfl dX7_run_47 ?_
        refine m_getN X V 2 1 11 rfl gin_2 rfl (by decide) rfl nf_16 (v := .int (g 5)) rfl dX7_run_50 ?_
        refine lv_if_ne (tgt := 69) hx hb dX7_run_53 (by decide) (fun c_53 => ?_) (fun c_53 => ?_)
        · refine lv_aload_n hx hb dX7_run_69 rfl (lv_at hl 0 rfl) ?_
          refine m_get X V 5 0 0 rfl gin_5 rfl (by decide) rfl gm_120 (v := .ref (ad 0)) rfl dX7_run_70 ?_
          refine m_getN X V 2 1 12 rfl gin_2 rfl (by decide) rfl nf_17 (v := .int (g 6)) rfl dX7_run_73 ?_
          refine lv_iload_n hx hb dX7_run_76 rfl (lv_at hl 2 rfl) ?_
          refine lv_isub hx hb dX7_run_77 ?_
          have e9 : pX7_run_lp31 x1 (n_ + 1) g mem loc pf pg pn t fm fn z key ld k2 k3 = (((g 6) - k2), g, mem, loc, pf, pg, pn, t, fm, fn, z, key, ld) := by rw [pX7_run_lp31, if_neg c_33, if_pos c_43, if_neg c_53]
          exact m_iret X hr hk V (by rw [e9]) (by rw [e9]) dX7_run_78
        · refine lv_aload_n hx hb dX7_run_56 rfl (lv_at hl 0 rfl) ?_
          refine m_get X V 5 0 0 rfl gin_5 rfl (by decide) rfl gm_120 (v := .ref (ad 0)) rfl dX7_run_57 ?_
          obtain ⟨u60, hu60⟩ : ∃ u, pX2_doOne g mem loc pf pg pn t fm fn z key ld = u := ⟨_, rfl⟩
          have hM := kX2_doOne l D cB cI ad g mem loc pf pg pn t fm fn z key ld hf
          rw [hu60] at hM
          refine m_VN X V (ws' := (wG cB cI a ad i j o q q2 q3 x y wr u60.1 u60.2.1 u60.2.2.1 u60.2.2.2.1 u60.2.2.2.2.1 u60.2.2.2.2.2.1 u60.2.2.2.2.2.2.1 u60.2.2.2.2.2.2.2.1 u60.2.2.2.2.2.2.2.2.1 u60.2.2.2.2.2.2.2.2.2.1 u60.2.2.2.2.2.2.2.2.2.2.1 u60.2.2.2.2.2.2.2.2.2.2.2 lt lf lg tt tf tg)) (rest := []) (st1 := []) hM okX2_doOne gm_221 gm_647 nm_22 [1, 2, 3, 4, 5, 6, 7, 8, 9, 10, 11, 12, 13, 14, 15] ⟨⟨rfl, rfl⟩, ⟨by decide, by decide⟩, Nat.zero_le _, Nat.zero_le _⟩ rfl rfl rfl rfl (wM_fst _ _ _ _ _ _ _ _ _ _ _ _ _ _ _) (wM_fst _ _ _ _ _ _ _ _ _ _ _ _ _ _ _) rfl rfl hl.1 (Nat.le_of_ble_eq_true rfl) dX7_run_60 rfl rfl (fun H locs V => ?_)
          refine lv_iinc (v := (k3 + 1)) (lv' := [(3, .int (k3 + 1)), (0, .ref a), (1, .int x1), (2, .int k2)]) hx hb dX7_run_63 hl (k := 3) rfl rfl (by decide) rfl (fun ls hl => ?_)
          refine lv_goto (tgt := 31) hx hb dX7_run_66 (by decide) ?_
          rw [show pX7_run_lp31 x1 (n_ + 1) g mem loc pf pg pn t fm fn z key ld k2 k3 = pX7_run_lp31 x1 n_ u60.1 u60.2.1 u60.2.2.1 u60.2.2.2.1 u60.2.2.2.2.1 u60.2.2.2.2.2.1 u60.2.2.2.2.2.2.1 u60.2.2.2.2.2.2.2.1 u60.2.2.2.2.2.2.2.2.1 u60.2.2.2.2.2.2.2.2.2.1 u60.2.2.2.2.2.2.2.2.2.2.1 u60.2.2.2.2.2.2.2.2.2.2.2 k2 (k3 + 1) from by rw [pX7_run_lp31, if_neg c_33, if_pos c_43, if_pos c_53, hu60, mLet_eq]]
          exact ih u60.1 u60.2.1 u60.2.2.1 u60.2.2.2.1 u60.2.2.2.2.1 u60.2.2.2.2.2.1 u60.2.2.2.2.2.2.1 u60.2.2.2.2.2.2.2.1 u60.2.2.2.2.2.2.2.2.1 u60.2.2.2.2.2.2.2.2.2.1 u60.2.2.2.2.2.2.2.2.2.2.1 u60.2.2.2.2.2.2.2.2.2.2.2 k2 (k3 + 1) _ _ _ (by rw [← hu60]; exact fit_doOne _ _ _ _ _ _ _ _ _ _ _ hf) (ms_up c_33 hm) V (lv_sub hl [1, 2, 3, 0] rfl)
set_option maxRecDepth 100000 in
set_option maxHeartbeats 4000000 in
theorem kX7_run (l : Launch) (D : va_G) (cB cI : ClassId) (a : Nat) (ad : Nat → Nat) (i j o q q2 q3 : Nat) (x : Nat) (y : Nat) (wr : Int32) (g : Nat → Int32) (mem : Nat → Int32) (loc : Nat → Int32) (pf : Nat → Int32) (pg : Nat → Int32) (pn : Int32) (t : Nat → Int32) (fm : Nat → Int32) (fn : Nat → Int32) (z : Nat → Int32) (key : Nat → Int32) (ld : Nat → Int32) (lt : Nat → Int32) (lf : Nat → Int32) (lg : Nat → Int32) (tt : Nat → Int32) (tf : Nat → Int32) (tg : Nat → Int32) (x1 : Int32) (hf : sb_Fit mem) : mM l D cB cI yX7_run cX7_run 4 (some .int) { frames := 7, cells := 0, slots := 0, locals := 155 } [.ref a, .int x1] (wG cB cI a ad i j o q q2 q3 x y wr g mem loc pf pg pn t fm fn z key ld lt lf lg tt tf tg) (some ((pX7_run g mem loc pf pg pn t fm fn z key ld x1).1)) (wG cB cI a ad i j o q q2 q3 x y wr ((pX7_run g mem loc pf pg pn t fm fn z key ld x1).2.1) ((pX7_run g mem loc pf pg pn t fm fn z key ld x1).2.2.1) ((pX7_run g mem loc pf pg pn t fm fn z key ld x1).2.2.2.1) ((pX7_run g mem loc pf pg pn t fm fn z key ld x1).2.2.2.2.1) ((pX7_run g mem loc pf pg pn t fm fn z key ld x1).2.2.2.2.2.1) ((pX7_run g mem loc pf pg pn t fm fn z key ld x1).2.2.2.2.2.2.1) ((pX7_run g mem loc pf pg pn t fm fn z key ld x1).2.2.2.2.2.2.2.1) ((pX7_run g mem loc pf pg pn t fm fn z key ld x1).2.2.2.2.2.2.2.2.1) ((pX7_run g mem loc pf pg pn t fm fn z key ld x1).2.2.2.2.2.2.2.2.2.1) ((pX7_run g mem loc pf pg pn t fm fn z key ld x1).2.2.2.2.2.2.2.2.2.2.1) ((pX7_run g mem loc pf pg pn t fm fn z key ld x1).2.2.2.2.2.2.2.2.2.2.2.1) ((pX7_run g mem loc pf pg pn t fm fn z key ld x1).2.2.2.2.2.2.2.2.2.2.2.2) lt lf lg tt tf tg) := by
  refine m_start (by decide +kernel) (Nat.le_of_ble_eq_true rfl) ?_
  intro p e s m below meth c A ls X hr hk V hl
  have X : mCx p s m _ c cX7_run 4 RX7 D cB cI := X
  have hx := X.1.1
  have hb := X.1.2.1
  have hl : lv_has ls 4 [(0, .ref a), (1, .int x1)] := hl
  refine lv_iload_n hx hb dX7_run_0 rfl (lv_at hl 1 rfl) ?_
  refine lv_if_lt (tgt := 11) hx hb dX7_run_1 (by decide) (fun c_1 => ?_) (fun c_1 => ?_)
  · refine lv_iconst (v := (-1)) hx hb dX7_run_11 (by decide) ?_
    have e9 : pX7_run g mem loc pf pg pn t fm fn z key ld x1 = ((-1), g, mem, loc, pf, pg, pn, t, fm, fn, z, key, ld) := by rw [pX7_run, if_pos c_1]
    exact m_iret X hr hk V (by rw [e9]) (by rw [e9]) dX7_run_12
  · refine lv_iload_n hx hb dX7_run_4 rfl (lv_at hl 1 rfl) ?_
    refine lv_sipush (v := 2000) hx hb dX7_run_5 (by decide) ?_
    refine lv_icmp_le (tgt := 13) hx hb dX7_run_8 (by decide) (fun c_8 => ?_) (fun c_8 => ?_)
    · refine lv_aload_n hx hb dX7_run_13 rfl (lv_at hl 0 rfl) ?_
      refine m_get X V 5 0 0 rfl gin_5 rfl (by decide) rfl gm_120 (v := .ref (ad 0)) rfl dX7_run_14 ?_
      refine lv_iconst (v := 0) hx hb dX7_run_17 (by decide) ?_
      refine m_putN X V (ws' := (wG cB cI a ad i j o q q2 q3 x y wr (upd g 5 0) mem loc pf pg pn t fm fn z key ld lt lf lg tt tf tg)) 2 1 11 rfl gin_2 tyX2_ok nmX2 rfl (by decide) rfl nf_16 rfl rfl rfl (Nat.le_of_ble_eq_true rfl) dX7_run_18 rfl (fun H locs V => ?_)
      refine lv_aload_n hx hb dX7_run_21 rfl (lv_at hl 0 rfl) ?_
      refine m_get X V 5 0 0 rfl gin_5 rfl (by decide) rfl gm_120 (v := .ref (ad 0)) rfl dX7_run_22 ?_
      refine m_getN X V 2 1 12 rfl gin_2 rfl (by decide) rfl nf_17 (v := .int (g 6)) rfl dX7_run_25 ?_
      refine lv_istore_n (lv' := [(2, .int (g 6)), (0, .ref a), (1, .int x1)]) hx hb dX7_run_28 rfl hl (by decide) rfl (fun ls hl => ?_)
      refine lv_iconst (v := 0) hx hb dX7_run_29 (by decide) ?_
      refine lv_istore_n (lv' := [(3, .int 0), (2, .int (g 6)), (0, .ref a), (1, .int x1)]) hx hb dX7_run_30 rfl hl (by decide) rfl (fun ls hl => ?_)
      rw [show pX7_run g mem loc pf pg pn t fm fn z key ld x1 = (pX7_run_lp31 x1 ((Int32.toInt x1 - Int32.toInt 0).toNat + 1) (upd g 5 0) mem loc pf pg pn t fm fn z key ld (g 6) 0) from by rw [pX7_run, if_neg c_1, if_pos c_8]]
      exact lpX7_run_31 X hr hk  ((Int32.toInt x1 - Int32.toInt 0).toNat + 1) (upd g 5 0) mem loc pf pg pn t fm fn z key ld (g 6) 0 _ _ _ hf (Nat.lt_succ_self _) V (lv_sub hl [2, 3, 1, 0] rfl)
    · refine lv_iconst (v := (-1)) hx hb dX7_run_11 (by decide) ?_
      have e9 : pX7_run g mem loc pf pg pn t fm fn z key ld x1 = ((-1), g, mem, loc, pf, pg, pn, t, fm, fn, z, key, ld) := by rw [pX7_run, if_neg c_1, if_neg c_8]
      exact m_iret X hr hk V (by rw [e9]) (by rw [e9]) dX7_run_12
def pX7_read_0 (wr : Int32) (mem : Nat → Int32) (tt : Nat → Int32) (tf : Nat → Int32) (tg : Nat → Int32) (i : Nat) (q : Nat) (x1 : Int32) : Int32 × Nat × Nat × Int32 × (Nat → Int32) × (Nat → Int32) × (Nat → Int32) := (mLet (pX1_decode tt tf tg mem x1) (fun (u12 : Int32 × (Nat → Int32) × (Nat → Int32) × (Nat → Int32)) => (if u12.1 = 0 then ((u12.2.1 3), q, i, 1, u12.2.1, u12.2.2.1, u12.2.2.2) else (((-10) - u12.1), i, q, wr, u12.2.1, u12.2.2.1, u12.2.2.2))))
theorem okX7_read : mOk yX7_read cX7_read 4 (some .int) 1 := ⟨gm_174, gm_1, by decide +kernel⟩
set_option maxRecDepth 100000 in
set_option maxHeartbeats 4000000 in
theorem kX7_read_0 (l : Launch) (D : va_G) (cB cI : ClassId) (a : Nat) (ad : Nat → Nat) (i j o q q2 q3 : Nat) (wr : Int32) (g : Nat → Int32) (mem : Nat → Int32) (loc : Nat → Int32) (pf : Nat → Int32) (pg : Nat → Int32) (pn : Int32) (t : Nat → Int32) (fm : Nat → Int32) (fn : Nat → Int32) (z : Nat → Int32) (key : Nat → Int32) (ld : Nat → Int32) (lt : Nat → Int32) (lf : Nat → Int32) (lg : Nat → Int32) (tt : Nat → Int32) (tf : Nat → Int32) (tg : Nat → Int32) (x1 : Int32) : mM l D cB cI yX7_read cX7_read 4 (some .int) { frames := 4, cells := 0, slots := 0, locals := 96 } [.ref a, .int x1] (wG cB cI a ad i j o q q2 q3 i q wr g mem loc pf pg pn t fm fn z key ld lt lf lg tt tf tg) (some ((pX7_read_0 wr mem tt tf tg i q x1).1)) (wG cB cI a ad i j o q q2 q3 ((pX7_read_0 wr mem tt tf tg i q x1).2.1) ((pX7_read_0 wr mem tt tf tg i q x1).2.2.1) ((pX7_read_0 wr mem tt tf tg i q x1).2.2.2.1) g mem loc pf pg pn t fm fn z key ld lt lf lg ((pX7_read_0 wr mem tt tf tg i q x1).2.2.2.2.1) ((pX7_read_0 wr mem tt tf tg i q x1).2.2.2.2.2.1) ((pX7_read_0 wr mem tt tf tg i q x1).2.2.2.2.2.2)) := by
  refine m_start (by decide +kernel) (Nat.le_of_ble_eq_true rfl) ?_
  intro p e s m below meth c A ls X hr hk V hl
  have X : mCx p s m _ c cX7_read 4 RX7 D cB cI := X
  have hx := X.1.1
  have hb := X.1.2.1
  have hl : lv_has ls 4 [(0, .ref a), (1, .int x1)] := hl
  refine lv_aload_n hx hb dX7_read_0 rfl (lv_at hl 0 rfl) ?_
  refine m_get X V 5 0 2 rfl gin_5 rfl (by decide) rfl gm_122 (v := .ref q) rfl dX7_read_1 ?_
  refine lv_aload_n hx hb dX7_read_4 rfl (lv_at hl 0 rfl) ?_
  refine m_get X V 5 0 0 rfl gin_5 rfl (by decide) rfl gm_120 (v := .ref (ad 0)) rfl dX7_read_5 ?_
  refine m_getN X V 2 1 0 rfl gin_2 rfl (by decide) rfl nf_10 (v := .ref (ad 1)) rfl dX7_read_8 ?_
  refine lv_iload_n hx hb dX7_read_11 rfl (lv_at hl 1 rfl) ?_
  obtain ⟨u12, hu12⟩ : ∃ u, pX1_decode tt tf tg mem x1 = u := ⟨_, rfl⟩
  have hM := kX1_decode l D cB cI q q2 q3 (ad 1) (ad 2) tt tf tg mem x1
  rw [hu12] at hM
  refine m_VN X V (ws' := (wG cB cI a ad i j o q q2 q3 i q wr g mem loc pf pg pn t fm fn z key ld lt lf lg u12.2.1 u12.2.2.1 u12.2.2.2)) (rest := []) (st1 := [.int u12.1]) hM okX1_decode gm_175 gm_639 nm_14 [19, 20, 21, 2, 3] ⟨⟨rfl, rfl⟩, ⟨by decide, by decide⟩, Nat.zero_le _, Nat.zero_le _⟩ rfl rfl rfl rfl (wFB_fst _ _ _ _ _ _ _ _ _ _ _) (wFB_fst _ _ _ _ _ _ _ _ _ _ _) rfl rfl hl.1 (Nat.le_of_ble_eq_true rfl) dX7_read_12 rfl rfl (fun H locs V => ?_)
  refine lv_istore_n (lv' := [(2, .int u12.1), (0, .ref a), (1, .int x1)]) hx hb dX7_read_15 rfl hl (by decide) rfl (fun ls hl => ?_)
  refine lv_iload_n hx hb dX7_read_16 rfl (lv_at hl 0 rfl) ?_
  refine lv_if_eq (tgt := 25) hx hb dX7_read_17 (by decide) (fun c_17 => ?_) (fun c_17 => ?_)
  · refine lv_aload_n hx hb dX7_read_25 rfl (lv_at hl 1 rfl) ?_
    refine m_get X V 5 0 1 rfl gin_5 rfl (by decide) rfl gm_121 (v := .ref i) rfl dX7_read_26 ?_
    refine lv_astore_n (lv' := [(3, .ref i), (2, .int u12.1), (0, .ref a), (1, .int x1)]) hx hb dX7_read_29 rfl hl (by decide) rfl (fun ls hl => ?_)
    refine lv_aload_n hx hb dX7_read_30 rfl (lv_at hl 2 rfl) ?_
    refine lv_aload_n hx hb dX7_read_31 rfl (lv_at hl 2 rfl) ?_
    refine m_get X V 5 0 2 rfl gin_5 rfl (by decide) rfl gm_122 (v := .ref q) rfl dX7_read_32 ?_
    refine m_put X V (ws' := (wG cB cI a ad i j o q q2 q3 q q wr g mem loc pf pg pn t fm fn z key ld lt lf lg u12.2.1 u12.2.2.1 u12.2.2.2)) 5 0 1 rfl gin_5 tyX7_ok nmX7 rfl (by decide) rfl gm_121 rfl rfl rfl (Nat.le_of_ble_eq_true rfl) dX7_read_35 rfl (fun H locs V => ?_)
    refine lv_aload_n hx hb dX7_read_38 rfl (lv_at hl 2 rfl) ?_
    refine lv_aload_n hx hb dX7_read_39 rfl (lv_at hl 0 rfl) ?_
    refine m_put X V (ws' := (wG cB cI a ad i j o q q2 q3 q i wr g mem loc pf pg pn t fm fn z key ld lt lf lg u12.2.1 u12.2.2.1 u12.2.2.2)) 5 0 2 rfl gin_5 tyX7_ok nmX7 rfl (by decide) rfl gm_122 rfl rfl rfl (Nat.le_of_ble_eq_true rfl) dX7_read_40 rfl (fun H locs V => ?_)
    refine lv_aload_n hx hb dX7_read_43 rfl (lv_at hl 2 rfl) ?_
    refine lv_iconst (v := 1) hx hb dX7_read_44 (by decide) ?_
    refine m_put X V (ws' := (wG cB cI a ad i j o q q2 q3 q i 1 g mem loc pf pg pn t fm fn z key ld lt lf lg u12.2.1 u12.2.2.1 u12.2.2.2)) 5 0 3 rfl gin_5 tyX7_ok nmX7 rfl (by decide) rfl gm_123 rfl rfl rfl (Nat.le_of_ble_eq_true rfl) dX7_read_45 rfl (fun H locs V => ?_)
    refine lv_aload_n hx hb dX7_read_48 rfl (lv_at hl 2 rfl) ?_
    refine m_get X V 5 0 1 rfl gin_5 rfl (by decide) rfl gm_121 (v := .ref q) rfl dX7_read_49 ?_
    refine m_getN X V 1 19 5 rfl gin_1 rfl (by decide) rfl nf_9 (v := .int (u12.2.1 3)) rfl dX7_read_52 ?_
    have e9 : pX7_read_0 wr mem tt tf tg i q x1 = ((u12.2.1 3), q, i, 1, u12.2.1, u12.2.2.1, u12.2.2.2) := by rw [pX7_read_0, hu12, mLet_eq, if_pos c_17]
    exact m_iret X hr hk V (by rw [e9]) (by rw [e9]) dX7_read_55
  · refine lv_bipush (v := (-10)) hx hb dX7_read_20 (by decide) ?_
    refine lv_iload_n hx hb dX7_read_22 rfl (lv_at hl 0 rfl) ?_
    refine lv_isub hx hb dX7_read_23 ?_
    have e9 : pX7_read_0 wr mem tt tf tg i q x1 = (((-10) - u12.1), i, q, wr, u12.2.1, u12.2.2.1, u12.2.2.2) := by rw [pX7_read_0, hu12, mLet_eq, if_neg c_17]
    exact m_iret X hr hk V (by rw [e9]) (by rw [e9]) dX7_read_24
def pX7_read_1 (wr : Int32) (mem : Nat → Int32) (lt : Nat → Int32) (lf : Nat → Int32) (lg : Nat → Int32) (q : Nat) (i : Nat) (x1 : Int32) : Int32 × Nat × Nat × Int32 × (Nat → Int32) × (Nat → Int32) × (Nat → Int32) := (mLet (pX1_decode lt lf lg mem x1) (fun (u12 : Int32 × (Nat → Int32) × (Nat → Int32) × (Nat → Int32)) => (if u12.1 = 0 then ((u12.2.1 3), i, q, 1, u12.2.1, u12.2.2.1, u12.2.2.2) else (((-10) - u12.1), q, i, wr, u12.2.1, u12.2.2.1, u12.2.2.2))))

set_option maxRecDepth 100000 in
set_option maxHeartbeats 4000000 in
theorem kX7_read_1 (l : Launch) (D : va_G) (cB cI : ClassId) (a : Nat) (ad : Nat → Nat) (i j o q q2 q3 : Nat) (wr : Int32) (g : Nat → Int32) (mem : Nat → Int32) (loc : Nat → Int32) (pf : Nat → Int32) (pg : Nat → Int32) (pn : Int32) (t : Nat → Int32) (fm : Nat → Int32) (fn : Nat → Int32) (z : Nat → Int32) (key : Nat → Int32) (ld : Nat → Int32) (lt : Nat → Int32) (lf : Nat → Int32) (lg : Nat → Int32) (tt : Nat → Int32) (tf : Nat → Int32) (tg : Nat → Int32) (x1 : Int32) : mM l D cB cI yX7_read cX7_read 4 (some .int) { frames := 4, cells := 0, slots := 0, locals := 96 } [.ref a, .int x1] (wG cB cI a ad i j o q q2 q3 q i wr g mem loc pf pg pn t fm fn z key ld lt lf lg tt tf tg) (some ((pX7_read_1 wr mem lt lf lg q i x1).1)) (wG cB cI a ad i j o q q2 q3 ((pX7_read_1 wr mem lt lf lg q i x1).2.1) ((pX7_read_1 wr mem lt lf lg q i x1).2.2.1) ((pX7_read_1 wr mem lt lf lg q i x1).2.2.2.1) g mem loc pf pg pn t fm fn z key ld ((pX7_read_1 wr mem lt lf lg q i x1).2.2.2.2.1) ((pX7_read_1 wr mem lt lf lg q i x1).2.2.2.2.2.1) ((pX7_read_1 wr mem lt lf lg q i x1).2.2.2.2.2.2) tt tf tg) := by
  refine m_start (by decide +kernel) (Nat.le_of_ble_eq_true rfl) ?_
  intro p e s m below meth c A ls X hr hk V hl
  have X : mCx p s m _ c cX7_read 4 RX7 D cB cI := X
  have hx := X.1.1
  have hb := X.1.2.1
  have hl : lv_has ls 4 [(0, .ref a), (1, .int x1)] := hl
  refine lv_aload_n hx hb dX7_read_0 rfl (lv_at hl 0 rfl) ?_
  refine m_get X V 5 0 2 rfl gin_5 rfl (by decide) rfl gm_122 (v := .ref i) rfl dX7_read_1 ?_
  refine lv_aload_n hx hb dX7_read_4 rfl (lv_at hl 0 rfl) ?_
  refine m_get X V 5 0 0 rfl gin_5 rfl (by decide) rfl gm_120 (v := .ref (ad 0)) rfl dX7_read_5 ?_
  refine m_getN X V 2 1 0 rfl gin_2 rfl (by decide) rfl nf_10 (v := .ref (ad 1)) rfl dX7_read_8 ?_
  refine lv_iload_n hx hb dX7_read_11 rfl (lv_at hl 1 rfl) ?_
  obtain ⟨u12, hu12⟩ : ∃ u, pX1_decode lt lf lg mem x1 = u := ⟨_, rfl⟩
  have hM := kX1_decode l D cB cI i j o (ad 1) (ad 2) lt lf lg mem x1
  rw [hu12] at hM
  refine m_VN X V (ws' := (wG cB cI a ad i j o q q2 q3 q i wr g mem loc pf pg pn t fm fn z key ld u12.2.1 u12.2.2.1 u12.2.2.2 tt tf tg)) (rest := []) (st1 := [.int u12.1]) hM okX1_decode gm_175 gm_639 nm_14 [16, 17, 18, 2, 3] ⟨⟨rfl, rfl⟩, ⟨by decide, by decide⟩, Nat.zero_le _, Nat.zero_le _⟩ rfl rfl rfl rfl (wFB_fst _ _ _ _ _ _ _ _ _ _ _) (wFB_fst _ _ _ _ _ _ _ _ _ _ _) rfl rfl hl.1 (Nat.le_of_ble_eq_true rfl) dX7_read_12 rfl rfl (fun H locs V => ?_)
  refine lv_istore_n (lv' := [(2, .int u12.1), (0, .ref a), (1, .int x1)]) hx hb dX7_read_15 rfl hl (by decide) rfl (fun ls hl => ?_)
  refine lv_iload_n hx hb dX7_read_16 rfl (lv_at hl 0 rfl) ?_
  refine lv_if_eq (tgt := 25) hx hb dX7_read_17 (by decide) (fun c_17 => ?_) (fun c_17 => ?_)
  · refine lv_aload_n hx hb dX7_read_25 rfl (lv_at hl 1 rfl) ?_
    refine m_get X V 5 0 1 rfl gin_5 rfl (by decide) rfl gm_121 (v := .ref q) rfl dX7_read_26 ?_
    refine lv_astore_n (lv' := [(3, .ref q), (2, .int u12.1), (0, .ref a), (1, .int x1)]) hx hb dX7_read_29 rfl hl (by decide) rfl (fun ls hl => ?_)
    refine lv_aload_n hx hb dX7_read_30 rfl (lv_at hl 2 rfl) ?_
    refine lv_aload_n hx hb dX7_read_31 rfl (lv_at hl 2 rfl) ?_
    refine m_get X V 5 0 2 rfl gin_5 rfl (by decide) rfl gm_122 (v := .ref i) rfl dX7_read_32 ?_
    refine m_put X V (ws' := (wG cB cI a ad i j o q q2 q3 i i wr g mem loc pf pg pn t fm fn z key ld u12.2.1 u12.2.2.1 u12.2.2.2 tt tf tg)) 5 0 1 rfl gin_5 tyX7_ok nmX7 rfl (by decide) rfl gm_121 rfl rfl rfl (Nat.le_of_ble_eq_true rfl) dX7_read_35 rfl (fun H locs V => ?_)
    refine lv_aload_n hx hb dX7_read_38 rfl (lv_at hl 2 rfl) ?_
    refine lv_aload_n hx hb dX7_read_39 rfl (lv_at hl 0 rfl) ?_
    refine m_put X V (ws' := (wG cB cI a ad i j o q q2 q3 i q wr g mem loc pf pg pn t fm fn z key ld u12.2.1 u12.2.2.1 u12.2.2.2 tt tf tg)) 5 0 2 rfl gin_5 tyX7_ok nmX7 rfl (by decide) rfl gm_122 rfl rfl rfl (Nat.le_of_ble_eq_true rfl) dX7_read_40 rfl (fun H locs V => ?_)
    refine lv_aload_n hx hb dX7_read_43 rfl (lv_at hl 2 rfl) ?_
    refine lv_iconst (v := 1) hx hb dX7_read_44 (by decide) ?_
    refine m_put X V (ws' := (wG cB cI a ad i j o q q2 q3 i q 1 g mem loc pf pg pn t fm fn z key ld u12.2.1 u12.2.2.1 u12.2.2.2 tt tf tg)) 5 0 3 rfl gin_5 tyX7_ok nmX7 rfl (by decide) rfl gm_123 rfl rfl rfl (Nat.le_of_ble_eq_true rfl) dX7_read_45 rfl (fun H locs V => ?_)
    refine lv_aload_n hx hb dX7_read_48 rfl (lv_at hl 2 rfl) ?_
    refine m_get X V 5 0 1 rfl gin_5 rfl (by decide) rfl gm_121 (v := .ref i) rfl dX7_read_49 ?_
    refine m_getN X V 1 16 5 rfl gin_1 rfl (by decide) rfl nf_9 (v := .int (u12.2.1 3)) rfl dX7_read_52 ?_
    have e9 : pX7_read_1 wr mem lt lf lg q i x1 = ((u12.2.1 3), i, q, 1, u12.2.1, u12.2.2.1, u12.2.2.2) := by rw [pX7_read_1, hu12, mLet_eq, if_pos c_17]
    exact m_iret X hr hk V (by rw [e9]) (by rw [e9]) dX7_read_55
  · refine lv_bipush (v := (-10)) hx hb dX7_read_20 (by decide) ?_
    refine lv_iload_n hx hb dX7_read_22 rfl (lv_at hl 0 rfl) ?_
    refine lv_isub hx hb dX7_read_23 ?_
    have e9 : pX7_read_1 wr mem lt lf lg q i x1 = (((-10) - u12.1), q, i, wr, u12.2.1, u12.2.2.1, u12.2.2.2) := by rw [pX7_read_1, hu12, mLet_eq, if_neg c_17]
    exact m_iret X hr hk V (by rw [e9]) (by rw [e9]) dX7_read_24
def pX7_row_0 (wr : Int32) (lt : Nat → Int32) (lf : Nat → Int32) (lg : Nat → Int32) (x1 : Int32) : Int32 := (if x1 < 0 then ((-1)) else (if x1 ≤ 1 then (if wr = 0 then ((-2)) else (if x1 = 0 then ((lt 0)) else (if x1 = 1 then ((lt 2)) else (if 20 ≤ x1 then (if (x1 - 20) < (lt 2) then ((pX1_numberOf lg (x1 - 20))) else ((-2))) else (if (x1 - 10) < (lt 2) then ((pX1_modeOf lf (x1 - 10))) else ((-2))))))) else (if 10 ≤ x1 then (if wr = 0 then ((-2)) else (if x1 = 0 then ((lt 0)) else (if x1 = 1 then ((lt 2)) else (if 20 ≤ x1 then (if (x1 - 20) < (lt 2) then ((pX1_numberOf lg (x1 - 20))) else ((-2))) else (if (x1 - 10) < (lt 2) then ((pX1_modeOf lf (x1 - 10))) else ((-2))))))) else ((-1)))))
theorem okX7_row : mOk yX7_row cX7_row 3 (some .int) 1 := ⟨gm_214, gm_1, by decide +kernel⟩
set_option maxRecDepth 100000 in
set_option maxHeartbeats 4000000 in
theorem kX7_row_0 (l : Launch) (D : va_G) (cB cI : ClassId) (a : Nat) (ad : Nat → Nat) (i j o q q2 q3 : Nat) (wr : Int32) (g : Nat → Int32) (mem : Nat → Int32) (loc : Nat → Int32) (pf : Nat → Int32) (pg : Nat → Int32) (pn : Int32) (t : Nat → Int32) (fm : Nat → Int32) (fn : Nat → Int32) (z : Nat → Int32) (key : Nat → Int32) (ld : Nat → Int32) (lt : Nat → Int32) (lf : Nat → Int32) (lg : Nat → Int32) (tt : Nat → Int32) (tf : Nat → Int32) (tg : Nat → Int32) (x1 : Int32) : mM l D cB cI yX7_row cX7_row 3 (some .int) { frames := 1, cells := 0, slots := 0, locals := 21 } [.ref a, .int x1] (wG cB cI a ad i j o q q2 q3 i q wr g mem loc pf pg pn t fm fn z key ld lt lf lg tt tf tg) (some (pX7_row_0 wr lt lf lg x1)) (wG cB cI a ad i j o q q2 q3 i q wr g mem loc pf pg pn t fm fn z key ld lt lf lg tt tf tg) := by
  refine m_start (by decide +kernel) (Nat.le_of_ble_eq_true rfl) ?_
  intro p e s m below meth c A ls X hr hk V hl
  have X : mCx p s m _ c cX7_row 3 RX7 D cB cI := X
  have hx := X.1.1
  have hb := X.1.2.1
  have hl : lv_has ls 3 [(0, .ref a), (1, .int x1)] := hl
  refine lv_iload_n hx hb dX7_row_0 rfl (lv_at hl 1 rfl) ?_
  refine lv_if_lt (tgt := 15) hx hb dX7_row_1 (by decide) (fun c_1 => ?_) (fun c_1 => ?_)
  · refine lv_iconst (v := (-1)) hx hb dX7_row_15 (by decide) ?_
    have e9 : pX7_row_0 wr lt lf lg x1 = ((-1)) := by rw [pX7_row_0, if_pos c_1]
    exact m_iret X hr hk V (by rw [e9]) rfl dX7_row_16
  · refine lv_iload_n hx hb dX7_row_4 rfl (lv_at hl 1 rfl) ?_
    refine lv_iconst (v := 1) hx hb dX7_row_5 (by decide) ?_
    refine lv_icmp_le (tgt := 17) hx hb dX7_row_6 (by decide) (fun c_6 => ?_) (fun c_6 => ?_)
    · refine lv_aload_n hx hb dX7_row_17 rfl (lv_at hl 0 rfl) ?_
      refine m_get X V 5 0 3 rfl gin_5 rfl (by decide) rfl gm_123 (v := .int wr) rfl dX7_row_18 ?_
      refine lv_if_ne (tgt := 27) hx hb dX7_row_21 (by decide) (fun c_21 => ?_) (fun c_21 => ?_)
      · refine lv_iload_n hx hb dX7_row_27 rfl (lv_at hl 1 rfl) ?_
        refine lv_if_ne (tgt := 39) hx hb dX7_row_28 (by decide) (fun c_28 => ?_) (fun c_28 => ?_)
        · refine lv_iload_n hx hb dX7_row_39 rfl (lv_at hl 1 rfl) ?_
          refine lv_iconst (v := 1) hx hb dX7_row_40 (by decide) ?_
          refine lv_icmp_ne (tgt := 52) hx hb dX7_row_41 (by decide) (fun c_41 => ?_) (fun c_41 => ?_)
          · refine lv_iload_n hx hb dX7_row_52 rfl (lv_at hl 1 rfl) ?_
            refine lv_bipush (v := 20) hx hb dX7_row_53 (by decide) ?_
            refine lv_icmp_ge (tgt := 65) hx hb dX7_row_55 (by decide) (fun c_55 => ?_) (fun c_55 => ?_)
            · refine lv_iload_n hx hb dX7_row_65 rfl (lv_at hl 1 rfl) ?_
              refine lv_bipush (v := 20) hx hb dX7_row_66 (by decide) ?_
              refine lv_isub hx hb dX7_row_68 ?_
              refine lv_istore_n (lv' := [(2, .int (x1 - 20)), (0, .ref a), (1, .int x1)]) hx hb dX7_row_69 rfl hl (by decide) rfl (fun ls hl => ?_)
              refine lv_iload_n hx hb dX7_row_70 rfl (lv_at hl 0 rfl) ?_
              refine lv_aload_n hx hb dX7_row_71 rfl (lv_at hl 1 rfl) ?_
              refine m_get X V 5 0 1 rfl gin_5 rfl (by decide) rfl gm_121 (v := .ref i) rfl dX7_row_72 ?_
              refine m_getN X V 1 16 4 rfl gin_1 rfl (by decide) rfl nf_7 (v := .int (lt 2)) rfl dX7_row_75 ?_
              refine lv_icmp_lt (tgt := 84) hx hb dX7_row_78 (by decide) (fun c_78 => ?_) (fun c_78 => ?_)
              · refine lv_iload_n hx hb dX7_row_84 rfl (lv_at hl 2 rfl) ?_
                refine lv_bipush (v := 20) hx hb dX7_row_85 (by decide) ?_
                refine lv_icmp_ge (tgt := 101) hx hb dX7_row_87 (by decide) (fun _ => ?_) (fun h => absurd c_55 h)
                refine lv_aload_n hx hb dX7_row_101 rfl (lv_at hl 1 rfl) ?_
                refine m_get X V 5 0 1 rfl gin_5 rfl (by decide) rfl gm_121 (v := .ref i) rfl dX7_row_102 ?_
                refine lv_iload_n hx hb dX7_row_105 rfl (lv_at hl 0 rfl) ?_
                refine m_VN X V (ws' := (wG cB cI a ad i j o q q2 q3 i q wr g mem loc pf pg pn t fm fn z key ld lt lf lg tt tf tg)) (rest := []) (st1 := [.int (pX1_numberOf lg (x1 - 20))]) (kX1_numberOf l D cB cI i j o lt lf lg (x1 - 20)) okX1_numberOf gm_215 gm_646 nm_21 [16, 17, 18] ⟨⟨rfl, rfl⟩, ⟨by decide, by decide⟩, Nat.zero_le _, Nat.zero_le _⟩ rfl rfl rfl rfl (wF_fst _ _ _ _ _ _ _ _) (wF_fst _ _ _ _ _ _ _ _) rfl rfl hl.1 (Nat.le_of_ble_eq_true rfl) dX7_row_106 rfl rfl (fun H locs V => ?_)
                have e9 : pX7_row_0 wr lt lf lg x1 = ((pX1_numberOf lg (x1 - 20))) := by rw [pX7_row_0, if_neg c_1, if_pos c_6, if_neg c_21, if_neg c_28, if_neg c_41, if_pos c_55, if_pos c_78]
                exact m_iret X hr hk V (by rw [e9]) rfl dX7_row_109
              · refine lv_bipush (v := (-2)) hx hb dX7_row_81 (by decide) ?_
                have e9 : pX7_row_0 wr lt lf lg x1 = ((-2)) := by rw [pX7_row_0, if_neg c_1, if_pos c_6, if_neg c_21, if_neg c_28, if_neg c_41, if_pos c_55, if_neg c_78]
                exact m_iret X hr hk V (by rw [e9]) rfl dX7_row_83
            · refine lv_iload_n hx hb dX7_row_58 rfl (lv_at hl 1 rfl) ?_
              refine lv_bipush (v := 10) hx hb dX7_row_59 (by decide) ?_
              refine lv_isub hx hb dX7_row_61 ?_
              refine lv_goto (tgt := 69) hx hb dX7_row_62 (by decide) ?_
              refine lv_istore_n (lv' := [(2, .int (x1 - 10)), (0, .ref a), (1, .int x1)]) hx hb dX7_row_69 rfl hl (by decide) rfl (fun ls hl => ?_)
              refine lv_iload_n hx hb dX7_row_70 rfl (lv_at hl 0 rfl) ?_
              refine lv_aload_n hx hb dX7_row_71 rfl (lv_at hl 1 rfl) ?_
              refine m_get X V 5 0 1 rfl gin_5 rfl (by decide) rfl gm_121 (v := .ref i) rfl dX7_row_72 ?_
              refine m_getN X V 1 16 4 rfl gin_1 rfl (by decide) rfl nf_7 (v := .int (lt 2)) rfl dX7_row_75 ?_
              refine lv_icmp_lt (tgt := 84) hx hb dX7_row_78 (by decide) (fun c_78 => ?_) (fun c_78 => ?_)
              · refine lv_iload_n hx hb dX7_row_84 rfl (lv_at hl 2 rfl) ?_
                refine lv_bipush (v := 20) hx hb dX7_row_85 (by decide) ?_
                refine lv_icmp_ge (tgt := 101) hx hb dX7_row_87 (by decide) (fun h => absurd h c_55) (fun _ => ?_)
                refine lv_aload_n hx hb dX7_row_90 rfl (lv_at hl 1 rfl) ?_
                refine m_get X V 5 0 1 rfl gin_5 rfl (by decide) rfl gm_121 (v := .ref i) rfl dX7_row_91 ?_
                refine lv_iload_n hx hb dX7_row_94 rfl (lv_at hl 0 rfl) ?_
                refine m_VN X V (ws' := (wG cB cI a ad i j o q q2 q3 i q wr g mem loc pf pg pn t fm fn z key ld lt lf lg tt tf tg)) (rest := []) (st1 := [.int (pX1_modeOf lf (x1 - 10))]) (kX1_modeOf l D cB cI i j o lt lf lg (x1 - 10)) okX1_modeOf gm_200 gm_644 nm_20 [16, 17, 18] ⟨⟨rfl, rfl⟩, ⟨by decide, by decide⟩, Nat.zero_le _, Nat.zero_le _⟩ rfl rfl rfl rfl (wF_fst _ _ _ _ _ _ _ _) (wF_fst _ _ _ _ _ _ _ _) rfl rfl hl.1 (Nat.le_of_ble_eq_true rfl) dX7_row_95 rfl rfl (fun H locs V => ?_)
                refine lv_goto (tgt := 109) hx hb dX7_row_98 (by decide) ?_
                have e9 : pX7_row_0 wr lt lf lg x1 = ((pX1_modeOf lf (x1 - 10))) := by rw [pX7_row_0, if_neg c_1, if_pos c_6, if_neg c_21, if_neg c_28, if_neg c_41, if_neg c_55, if_pos c_78]
                exact m_iret X hr hk V (by rw [e9]) rfl dX7_row_109
              · refine lv_bipush (v := (-2)) hx hb dX7_row_81 (by decide) ?_
                have e9 : pX7_row_0 wr lt lf lg x1 = ((-2)) := by rw [pX7_row_0, if_neg c_1, if_pos c_6, if_neg c_21, if_neg c_28, if_neg c_41, if_neg c_55, if_neg c_78]
                exact m_iret X hr hk V (by rw [e9]) rfl dX7_row_83
          · refine lv_aload_n hx hb dX7_row_44 rfl (lv_at hl 0 rfl) ?_
            refine m_get X V 5 0 1 rfl gin_5 rfl (by decide) rfl gm_121 (v := .ref i) rfl dX7_row_45 ?_
            refine m_getN X V 1 16 4 rfl gin_1 rfl (by decide) rfl nf_7 (v := .int (lt 2)) rfl dX7_row_48 ?_
            have e9 : pX7_row_0 wr lt lf lg x1 = ((lt 2)) := by rw [pX7_row_0, if_neg c_1, if_pos c_6, if_neg c_21, if_neg c_28, if_pos c_41]
            exact m_iret X hr hk V (by rw [e9]) rfl dX7_row_51
        · refine lv_aload_n hx hb dX7_row_31 rfl (lv_at hl 0 rfl) ?_
          refine m_get X V 5 0 1 rfl gin_5 rfl (by decide) rfl gm_121 (v := .ref i) rfl dX7_row_32 ?_
          refine m_getN X V 1 16 2 rfl gin_1 rfl (by decide) rfl nf_4 (v := .int (lt 0)) rfl dX7_row_35 ?_
          have e9 : pX7_row_0 wr lt lf lg x1 = ((lt 0)) := by rw [pX7_row_0, if_neg c_1, if_pos c_6, if_neg c_21, if_pos c_28]
          exact m_iret X hr hk V (by rw [e9]) rfl dX7_row_38
      · refine lv_bipush (v := (-2)) hx hb dX7_row_24 (by decide) ?_
        have e9 : pX7_row_0 wr lt lf lg x1 = ((-2)) := by rw [pX7_row_0, if_neg c_1, if_pos c_6, if_pos c_21]
        exact m_iret X hr hk V (by rw [e9]) rfl dX7_row_26
    · refine lv_iload_n hx hb dX7_row_9 rfl (lv_at hl 1 rfl) ?_
      refine lv_bipush (v := 10) hx hb dX7_row_10 (by decide) ?_
      refine lv_icmp_ge (tgt := 17) hx hb dX7_row_12 (by decide) (fun c_12 => ?_) (fun c_12 => ?_)
      · refine lv_aload_n hx hb dX7_row_17 rfl (lv_at hl 0 rfl) ?_
        refine m_get X V 5 0 3 rfl gin_5 rfl (by decide) rfl gm_123 (v := .int wr) rfl dX7_row_18 ?_
        refine lv_if_ne (tgt := 27) hx hb dX7_row_21 (by decide) (fun c_21 => ?_) (fun c_21 => ?_)
        · refine lv_iload_n hx hb dX7_row_27 rfl (lv_at hl 1 rfl) ?_
          refine lv_if_ne (tgt := 39) hx hb dX7_row_28 (by decide) (fun c_28 => ?_) (fun c_28 => ?_)
          · refine lv_iload_n hx hb dX7_row_39 rfl (lv_at hl 1 rfl) ?_
            refine lv_iconst (v := 1) hx hb dX7_row_40 (by decide) ?_
            refine lv_icmp_ne (tgt := 52) hx hb dX7_row_41 (by decide) (fun c_41 => ?_) (fun c_41 => ?_)
            · refine lv_iload_n hx hb dX7_row_52 rfl (lv_at hl 1 rfl) ?_
              refine lv_bipush (v := 20) hx hb dX7_row_53 (by decide) ?_
              refine lv_icmp_ge (tgt := 65) hx hb dX7_row_55 (by decide) (fun c_55 => ?_) (fun c_55 => ?_)
              · refine lv_iload_n hx hb dX7_row_65 rfl (lv_at hl 1 rfl) ?_
                refine lv_bipush (v := 20) hx hb dX7_row_66 (by decide) ?_
                refine lv_isub hx hb dX7_row_68 ?_
                refine lv_istore_n (lv' := [(2, .int (x1 - 20)), (0, .ref a), (1, .int x1)]) hx hb dX7_row_69 rfl hl (by decide) rfl (fun ls hl => ?_)
                refine lv_iload_n hx hb dX7_row_70 rfl (lv_at hl 0 rfl) ?_
                refine lv_aload_n hx hb dX7_row_71 rfl (lv_at hl 1 rfl) ?_
                refine m_get X V 5 0 1 rfl gin_5 rfl (by decide) rfl gm_121 (v := .ref i) rfl dX7_row_72 ?_
                refine m_getN X V 1 16 4 rfl gin_1 rfl (by decide) rfl nf_7 (v := .int (lt 2)) rfl dX7_row_75 ?_
                refine lv_icmp_lt (tgt := 84) hx hb dX7_row_78 (by decide) (fun c_78 => ?_) (fun c_78 => ?_)
                · refine lv_iload_n hx hb dX7_row_84 rfl (lv_at hl 2 rfl) ?_
                  refine lv_bipush (v := 20) hx hb dX7_row_85 (by decide) ?_
                  refine lv_icmp_ge (tgt := 101) hx hb dX7_row_87 (by decide) (fun _ => ?_) (fun h => absurd c_55 h)
                  refine lv_aload_n hx hb dX7_row_101 rfl (lv_at hl 1 rfl) ?_
                  refine m_get X V 5 0 1 rfl gin_5 rfl (by decide) rfl gm_121 (v := .ref i) rfl dX7_row_102 ?_
                  refine lv_iload_n hx hb dX7_row_105 rfl (lv_at hl 0 rfl) ?_
                  refine m_VN X V (ws' := (wG cB cI a ad i j o q q2 q3 i q wr g mem loc pf pg pn t fm fn z key ld lt lf lg tt tf tg)) (rest := []) (st1 := [.int (pX1_numberOf lg (x1 - 20))]) (kX1_numberOf l D cB cI i j o lt lf lg (x1 - 20)) okX1_numberOf gm_215 gm_646 nm_21 [16, 17, 18] ⟨⟨rfl, rfl⟩, ⟨by decide, by decide⟩, Nat.zero_le _, Nat.zero_le _⟩ rfl rfl rfl rfl (wF_fst _ _ _ _ _ _ _ _) (wF_fst _ _ _ _ _ _ _ _) rfl rfl hl.1 (Nat.le_of_ble_eq_true rfl) dX7_row_106 rfl rfl (fun H locs V => ?_)
                  have e9 : pX7_row_0 wr lt lf lg x1 = ((pX1_numberOf lg (x1 - 20))) := by rw [pX7_row_0, if_neg c_1, if_neg c_6, if_pos c_12, if_neg c_21, if_neg c_28, if_neg c_41, if_pos c_55, if_pos c_78]
                  exact m_iret X hr hk V (by rw [e9]) rfl dX7_row_109
                · refine lv_bipush (v := (-2)) hx hb dX7_row_81 (by decide) ?_
                  have e9 : pX7_row_0 wr lt lf lg x1 = ((-2)) := by rw [pX7_row_0, if_neg c_1, if_neg c_6, if_pos c_12, if_neg c_21, if_neg c_28, if_neg c_41, if_pos c_55, if_neg c_78]
                  exact m_iret X hr hk V (by rw [e9]) rfl dX7_row_83
              · refine lv_iload_n hx hb dX7_row_58 rfl (lv_at hl 1 rfl) ?_
                refine lv_bipush (v := 10) hx hb dX7_row_59 (by decide) ?_
                refine lv_isub hx hb dX7_row_61 ?_
                refine lv_goto (tgt := 69) hx hb dX7_row_62 (by decide) ?_
                refine lv_istore_n (lv' := [(2, .int (x1 - 10)), (0, .ref a), (1, .int x1)]) hx hb dX7_row_69 rfl hl (by decide) rfl (fun ls hl => ?_)
                refine lv_iload_n hx hb dX7_row_70 rfl (lv_at hl 0 rfl) ?_
                refine lv_aload_n hx hb dX7_row_71 rfl (lv_at hl 1 rfl) ?_
                refine m_get X V 5 0 1 rfl gin_5 rfl (by decide) rfl gm_121 (v := .ref i) rfl dX7_row_72 ?_
                refine m_getN X V 1 16 4 rfl gin_1 rfl (by decide) rfl nf_7 (v := .int (lt 2)) rfl dX7_row_75 ?_
                refine lv_icmp_lt (tgt := 84) hx hb dX7_row_78 (by decide) (fun c_78 => ?_) (fun c_78 => ?_)
                · refine lv_iload_n hx hb dX7_row_84 rfl (lv_at hl 2 rfl) ?_
                  refine lv_bipush (v := 20) hx hb dX7_row_85 (by decide) ?_
                  refine lv_icmp_ge (tgt := 101) hx hb dX7_row_87 (by decide) (fun h => absurd h c_55) (fun _ => ?_)
                  refine lv_aload_n hx hb dX7_row_90 rfl (lv_at hl 1 rfl) ?_
                  refine m_get X V 5 0 1 rfl gin_5 rfl (by decide) rfl gm_121 (v := .ref i) rfl dX7_row_91 ?_
                  refine lv_iload_n hx hb dX7_row_94 rfl (lv_at hl 0 rfl) ?_
                  refine m_VN X V (ws' := (wG cB cI a ad i j o q q2 q3 i q wr g mem loc pf pg pn t fm fn z key ld lt lf lg tt tf tg)) (rest := []) (st1 := [.int (pX1_modeOf lf (x1 - 10))]) (kX1_modeOf l D cB cI i j o lt lf lg (x1 - 10)) okX1_modeOf gm_200 gm_644 nm_20 [16, 17, 18] ⟨⟨rfl, rfl⟩, ⟨by decide, by decide⟩, Nat.zero_le _, Nat.zero_le _⟩ rfl rfl rfl rfl (wF_fst _ _ _ _ _ _ _ _) (wF_fst _ _ _ _ _ _ _ _) rfl rfl hl.1 (Nat.le_of_ble_eq_true rfl) dX7_row_95 rfl rfl (fun H locs V => ?_)
                  refine lv_goto (tgt := 109) hx hb dX7_row_98 (by decide) ?_
                  have e9 : pX7_row_0 wr lt lf lg x1 = ((pX1_modeOf lf (x1 - 10))) := by rw [pX7_row_0, if_neg c_1, if_neg c_6, if_pos c_12, if_neg c_21, if_neg c_28, if_neg c_41, if_neg c_55, if_pos c_78]
                  exact m_iret X hr hk V (by rw [e9]) rfl dX7_row_109
                · refine lv_bipush (v := (-2)) hx hb dX7_row_81 (by decide) ?_
                  have e9 : pX7_row_0 wr lt lf lg x1 = ((-2)) := by rw [pX7_row_0, if_neg c_1, if_neg c_6, if_pos c_12, if_neg c_21, if_neg c_28, if_neg c_41, if_neg c_55, if_neg c_78]
                  exact m_iret X hr hk V (by rw [e9]) rfl dX7_row_83
            · refine lv_aload_n hx hb dX7_row_44 rfl (lv_at hl 0 rfl) ?_
              refine m_get X V 5 0 1 rfl gin_5 rfl (by decide) rfl gm_121 (v := .ref i) rfl dX7_row_45 ?_
              refine m_getN X V 1 16 4 rfl gin_1 rfl (by decide) rfl nf_7 (v := .int (lt 2)) rfl dX7_row_48 ?_
              have e9 : pX7_row_0 wr lt lf lg x1 = ((lt 2)) := by rw [pX7_row_0, if_neg c_1, if_neg c_6, if_pos c_12, if_neg c_21, if_neg c_28, if_pos c_41]
              exact m_iret X hr hk V (by rw [e9]) rfl dX7_row_51
          · refine lv_aload_n hx hb dX7_row_31 rfl (lv_at hl 0 rfl) ?_
            refine m_get X V 5 0 1 rfl gin_5 rfl (by decide) rfl gm_121 (v := .ref i) rfl dX7_row_32 ?_
            refine m_getN X V 1 16 2 rfl gin_1 rfl (by decide) rfl nf_4 (v := .int (lt 0)) rfl dX7_row_35 ?_
            have e9 : pX7_row_0 wr lt lf lg x1 = ((lt 0)) := by rw [pX7_row_0, if_neg c_1, if_neg c_6, if_pos c_12, if_neg c_21, if_pos c_28]
            exact m_iret X hr hk V (by rw [e9]) rfl dX7_row_38
        · refine lv_bipush (v := (-2)) hx hb dX7_row_24 (by decide) ?_
          have e9 : pX7_row_0 wr lt lf lg x1 = ((-2)) := by rw [pX7_row_0, if_neg c_1, if_neg c_6, if_pos c_12, if_pos c_21]
          exact m_iret X hr hk V (by rw [e9]) rfl dX7_row_26
      · refine lv_iconst (v := (-1)) hx hb dX7_row_15 (by decide) ?_
        have e9 : pX7_row_0 wr lt lf lg x1 = ((-1)) := by rw [pX7_row_0, if_neg c_1, if_neg c_6, if_neg c_12]
        exact m_iret X hr hk V (by rw [e9]) rfl dX7_row_16
def pX7_row_1 (wr : Int32) (tt : Nat → Int32) (tf : Nat → Int32) (tg : Nat → Int32) (x1 : Int32) : Int32 := (if x1 < 0 then ((-1)) else (if x1 ≤ 1 then (if wr = 0 then ((-2)) else (if x1 = 0 then ((tt 0)) else (if x1 = 1 then ((tt 2)) else (if 20 ≤ x1 then (if (x1 - 20) < (tt 2) then ((pX1_numberOf tg (x1 - 20))) else ((-2))) else (if (x1 - 10) < (tt 2) then ((pX1_modeOf tf (x1 - 10))) else ((-2))))))) else (if 10 ≤ x1 then (if wr = 0 then ((-2)) else (if x1 = 0 then ((tt 0)) else (if x1 = 1 then ((tt 2)) else (if 20 ≤ x1 then (if (x1 - 20) < (tt 2) then ((pX1_numberOf tg (x1 - 20))) else ((-2))) else (if (x1 - 10) < (tt 2) then ((pX1_modeOf tf (x1 - 10))) else ((-2))))))) else ((-1)))))

set_option maxRecDepth 100000 in
set_option maxHeartbeats 4000000 in
theorem kX7_row_1 (l : Launch) (D : va_G) (cB cI : ClassId) (a : Nat) (ad : Nat → Nat) (i j o q q2 q3 : Nat) (wr : Int32) (g : Nat → Int32) (mem : Nat → Int32) (loc : Nat → Int32) (pf : Nat → Int32) (pg : Nat → Int32) (pn : Int32) (t : Nat → Int32) (fm : Nat → Int32) (fn : Nat → Int32) (z : Nat → Int32) (key : Nat → Int32) (ld : Nat → Int32) (lt : Nat → Int32) (lf : Nat → Int32) (lg : Nat → Int32) (tt : Nat → Int32) (tf : Nat → Int32) (tg : Nat → Int32) (x1 : Int32) : mM l D cB cI yX7_row cX7_row 3 (some .int) { frames := 1, cells := 0, slots := 0, locals := 21 } [.ref a, .int x1] (wG cB cI a ad i j o q q2 q3 q i wr g mem loc pf pg pn t fm fn z key ld lt lf lg tt tf tg) (some (pX7_row_1 wr tt tf tg x1)) (wG cB cI a ad i j o q q2 q3 q i wr g mem loc pf pg pn t fm fn z key ld lt lf lg tt tf tg) := by
  refine m_start (by decide +kernel) (Nat.le_of_ble_eq_true rfl) ?_
  intro p e s m below meth c A ls X hr hk V hl
  have X : mCx p s m _ c cX7_row 3 RX7 D cB cI := X
  have hx := X.1.1
  have hb := X.1.2.1
  have hl : lv_has ls 3 [(0, .ref a), (1, .int x1)] := hl
  refine lv_iload_n hx hb dX7_row_0 rfl (lv_at hl 1 rfl) ?_
  refine lv_if_lt (tgt := 15) hx hb dX7_row_1 (by decide) (fun c_1 => ?_) (fun c_1 => ?_)
  · refine lv_iconst (v := (-1)) hx hb dX7_row_15 (by decide) ?_
    have e9 : pX7_row_1 wr tt tf tg x1 = ((-1)) := by rw [pX7_row_1, if_pos c_1]
    exact m_iret X hr hk V (by rw [e9]) rfl dX7_row_16
  · refine lv_iload_n hx hb dX7_row_4 rfl (lv_at hl 1 rfl) ?_
    refine lv_iconst (v := 1) hx hb dX7_row_5 (by decide) ?_
    refine lv_icmp_le (tgt := 17) hx hb dX7_row_6 (by decide) (fun c_6 => ?_) (fun c_6 => ?_)
    · refine lv_aload_n hx hb dX7_row_17 rfl (lv_at hl 0 rfl) ?_
      refine m_get X V 5 0 3 rfl gin_5 rfl (by decide) rfl gm_123 (v := .int wr) rfl dX7_row_18 ?_
      refine lv_if_ne (tgt := 27) hx hb dX7_row_21 (by decide) (fun c_21 => ?_) (fun c_21 => ?_)
      · refine lv_iload_n hx hb dX7_row_27 rfl (lv_at hl 1 rfl) ?_
        refine lv_if_ne (tgt := 39) hx hb dX7_row_28 (by decide) (fun c_28 => ?_) (fun c_28 => ?_)
        · refine lv_iload_n hx hb dX7_row_39 rfl (lv_at hl 1 rfl) ?_
          refine lv_iconst (v := 1) hx hb dX7_row_40 (by decide) ?_
          refine lv_icmp_ne (tgt := 52) hx hb dX7_row_41 (by decide) (fun c_41 => ?_) (fun c_41 => ?_)
          · refine lv_iload_n hx hb dX7_row_52 rfl (lv_at hl 1 rfl) ?_
            refine lv_bipush (v := 20) hx hb dX7_row_53 (by decide) ?_
            refine lv_icmp_ge (tgt := 65) hx hb dX7_row_55 (by decide) (fun c_55 => ?_) (fun c_55 => ?_)
            · refine lv_iload_n hx hb dX7_row_65 rfl (lv_at hl 1 rfl) ?_
              refine lv_bipush (v := 20) hx hb dX7_row_66 (by decide) ?_
              refine lv_isub hx hb dX7_row_68 ?_
              refine lv_istore_n (lv' := [(2, .int (x1 - 20)), (0, .ref a), (1, .int x1)]) hx hb dX7_row_69 rfl hl (by decide) rfl (fun ls hl => ?_)
              refine lv_iload_n hx hb dX7_row_70 rfl (lv_at hl 0 rfl) ?_
              refine lv_aload_n hx hb dX7_row_71 rfl (lv_at hl 1 rfl) ?_
              refine m_get X V 5 0 1 rfl gin_5 rfl (by decide) rfl gm_121 (v := .ref q) rfl dX7_row_72 ?_
              refine m_getN X V 1 19 4 rfl gin_1 rfl (by decide) rfl nf_7 (v := .int (tt 2)) rfl dX7_row_75 ?_
              refine lv_icmp_lt (tgt := 84) hx hb dX7_row_78 (by decide) (fun c_78 => ?_) (fun c_78 => ?_)
              · refine lv_iload_n hx hb dX7_row_84 rfl (lv_at hl 2 rfl) ?_
                refine lv_bipush (v := 20) hx hb dX7_row_85 (by decide) ?_
                refine lv_icmp_ge (tgt := 101) hx hb dX7_row_87 (by decide) (fun _ => ?_) (fun h => absurd c_55 h)
                refine lv_aload_n hx hb dX7_row_101 rfl (lv_at hl 1 rfl) ?_
                refine m_get X V 5 0 1 rfl gin_5 rfl (by decide) rfl gm_121 (v := .ref q) rfl dX7_row_102 ?_
                refine lv_iload_n hx hb dX7_row_105 rfl (lv_at hl 0 rfl) ?_
                refine m_VN X V (ws' := (wG cB cI a ad i j o q q2 q3 q i wr g mem loc pf pg pn t fm fn z key ld lt lf lg tt tf tg)) (rest := []) (st1 := [.int (pX1_numberOf tg (x1 - 20))]) (kX1_numberOf l D cB cI q q2 q3 tt tf tg (x1 - 20)) okX1_numberOf gm_215 gm_646 nm_21 [19, 20, 21] ⟨⟨rfl, rfl⟩, ⟨by decide, by decide⟩, Nat.zero_le _, Nat.zero_le _⟩ rfl rfl rfl rfl (wF_fst _ _ _ _ _ _ _ _) (wF_fst _ _ _ _ _ _ _ _) rfl rfl hl.1 (Nat.le_of_ble_eq_true rfl) dX7_row_106 rfl rfl (fun H locs V => ?_)
                have e9 : pX7_row_1 wr tt tf tg x1 = ((pX1_numberOf tg (x1 - 20))) := by rw [pX7_row_1, if_neg c_1, if_pos c_6, if_neg c_21, if_neg c_28, if_neg c_41, if_pos c_55, if_pos c_78]
                exact m_iret X hr hk V (by rw [e9]) rfl dX7_row_109
              · refine lv_bipush (v := (-2)) hx hb dX7_row_81 (by decide) ?_
                have e9 : pX7_row_1 wr tt tf tg x1 = ((-2)) := by rw [pX7_row_1, if_neg c_1, if_pos c_6, if_neg c_21, if_neg c_28, if_neg c_41, if_pos c_55, if_neg c_78]
                exact m_iret X hr hk V (by rw [e9]) rfl dX7_row_83
            · refine lv_iload_n hx hb dX7_row_58 rfl (lv_at hl 1 rfl) ?_
              refine lv_bipush (v := 10) hx hb dX7_row_59 (by decide) ?_
              refine lv_isub hx hb dX7_row_61 ?_
              refine lv_goto (tgt := 69) hx hb dX7_row_62 (by decide) ?_
              refine lv_istore_n (lv' := [(2, .int (x1 - 10)), (0, .ref a), (1, .int x1)]) hx hb dX7_row_69 rfl hl (by decide) rfl (fun ls hl => ?_)
              refine lv_iload_n hx hb dX7_row_70 rfl (lv_at hl 0 rfl) ?_
              refine lv_aload_n hx hb dX7_row_71 rfl (lv_at hl 1 rfl) ?_
              refine m_get X V 5 0 1 rfl gin_5 rfl (by decide) rfl gm_121 (v := .ref q) rfl dX7_row_72 ?_
              refine m_getN X V 1 19 4 rfl gin_1 rfl (by decide) rfl nf_7 (v := .int (tt 2)) rfl dX7_row_75 ?_
              refine lv_icmp_lt (tgt := 84) hx hb dX7_row_78 (by decide) (fun c_78 => ?_) (fun c_78 => ?_)
              · refine lv_iload_n hx hb dX7_row_84 rfl (lv_at hl 2 rfl) ?_
                refine lv_bipush (v := 20) hx hb dX7_row_85 (by decide) ?_
                refine lv_icmp_ge (tgt := 101) hx hb dX7_row_87 (by decide) (fun h => absurd h c_55) (fun _ => ?_)
                refine lv_aload_n hx hb dX7_row_90 rfl (lv_at hl 1 rfl) ?_
                refine m_get X V 5 0 1 rfl gin_5 rfl (by decide) rfl gm_121 (v := .ref q) rfl dX7_row_91 ?_
                refine lv_iload_n hx hb dX7_row_94 rfl (lv_at hl 0 rfl) ?_
                refine m_VN X V (ws' := (wG cB cI a ad i j o q q2 q3 q i wr g mem loc pf pg pn t fm fn z key ld lt lf lg tt tf tg)) (rest := []) (st1 := [.int (pX1_modeOf tf (x1 - 10))]) (kX1_modeOf l D cB cI q q2 q3 tt tf tg (x1 - 10)) okX1_modeOf gm_200 gm_644 nm_20 [19, 20, 21] ⟨⟨rfl, rfl⟩, ⟨by decide, by decide⟩, Nat.zero_le _, Nat.zero_le _⟩ rfl rfl rfl rfl (wF_fst _ _ _ _ _ _ _ _) (wF_fst _ _ _ _ _ _ _ _) rfl rfl hl.1 (Nat.le_of_ble_eq_true rfl) dX7_row_95 rfl rfl (fun H locs V => ?_)
                refine lv_goto (tgt := 109) hx hb dX7_row_98 (by decide) ?_
                have e9 : pX7_row_1 wr tt tf tg x1 = ((pX1_modeOf tf (x1 - 10))) := by rw [pX7_row_1, if_neg c_1, if_pos c_6, if_neg c_21, if_neg c_28, if_neg c_41, if_neg c_55, if_pos c_78]
                exact m_iret X hr hk V (by rw [e9]) rfl dX7_row_109
              · refine lv_bipush (v := (-2)) hx hb dX7_row_81 (by decide) ?_
                have e9 : pX7_row_1 wr tt tf tg x1 = ((-2)) := by rw [pX7_row_1, if_neg c_1, if_pos c_6, if_neg c_21, if_neg c_28, if_neg c_41, if_neg c_55, if_neg c_78]
                exact m_iret X hr hk V (by rw [e9]) rfl dX7_row_83
          · refine lv_aload_n hx hb dX7_row_44 rfl (lv_at hl 0 rfl) ?_
            refine m_get X V 5 0 1 rfl gin_5 rfl (by decide) rfl gm_121 (v := .ref q) rfl dX7_row_45 ?_
            refine m_getN X V 1 19 4 rfl gin_1 rfl (by decide) rfl nf_7 (v := .int (tt 2)) rfl dX7_row_48 ?_
            have e9 : pX7_row_1 wr tt tf tg x1 = ((tt 2)) := by rw [pX7_row_1, if_neg c_1, if_pos c_6, if_neg c_21, if_neg c_28, if_pos c_41]
            exact m_iret X hr hk V (by rw [e9]) rfl dX7_row_51
        · refine lv_aload_n hx hb dX7_row_31 rfl (lv_at hl 0 rfl) ?_
          refine m_get X V 5 0 1 rfl gin_5 rfl (by decide) rfl gm_121 (v := .ref q) rfl dX7_row_32 ?_
          refine m_getN X V 1 19 2 rfl gin_1 rfl (by decide) rfl nf_4 (v := .int (tt 0)) rfl dX7_row_35 ?_
          have e9 : pX7_row_1 wr tt tf tg x1 = ((tt 0)) := by rw [pX7_row_1, if_neg c_1, if_pos c_6, if_neg c_21, if_pos c_28]
          exact m_iret X hr hk V (by rw [e9]) rfl dX7_row_38
      · refine lv_bipush (v := (-2)) hx hb dX7_row_24 (by decide) ?_
        have e9 : pX7_row_1 wr tt tf tg x1 = ((-2)) := by rw [pX7_row_1, if_neg c_1, if_pos c_6, if_pos c_21]
        exact m_iret X hr hk V (by rw [e9]) rfl dX7_row_26
    · refine lv_iload_n hx hb dX7_row_9 rfl (lv_at hl 1 rfl) ?_
      refine lv_bipush (v := 10) hx hb dX7_row_10 (by decide) ?_
      refine lv_icmp_ge (tgt := 17) hx hb dX7_row_12 (by decide) (fun c_12 => ?_) (fun c_12 => ?_)
      · refine lv_aload_n hx hb dX7_row_17 rfl (lv_at hl 0 rfl) ?_
        refine m_get X V 5 0 3 rfl gin_5 rfl (by decide) rfl gm_123 (v := .int wr) rfl dX7_row_18 ?_
        refine lv_if_ne (tgt := 27) hx hb dX7_row_21 (by decide) (fun c_21 => ?_) (fun c_21 => ?_)
        · refine lv_iload_n hx hb dX7_row_27 rfl (lv_at hl 1 rfl) ?_
          refine lv_if_ne (tgt := 39) hx hb dX7_row_28 (by decide) (fun c_28 => ?_) (fun c_28 => ?_)
          · refine lv_iload_n hx hb dX7_row_39 rfl (lv_at hl 1 rfl) ?_
            refine lv_iconst (v := 1) hx hb dX7_row_40 (by decide) ?_
            refine lv_icmp_ne (tgt := 52) hx hb dX7_row_41 (by decide) (fun c_41 => ?_) (fun c_41 => ?_)
            · refine lv_iload_n hx hb dX7_row_52 rfl (lv_at hl 1 rfl) ?_
              refine lv_bipush (v := 20) hx hb dX7_row_53 (by decide) ?_
              refine lv_icmp_ge (tgt := 65) hx hb dX7_row_55 (by decide) (fun c_55 => ?_) (fun c_55 => ?_)
              · refine lv_iload_n hx hb dX7_row_65 rfl (lv_at hl 1 rfl) ?_
                refine lv_bipush (v := 20) hx hb dX7_row_66 (by decide) ?_
                refine lv_isub hx hb dX7_row_68 ?_
                refine lv_istore_n (lv' := [(2, .int (x1 - 20)), (0, .ref a), (1, .int x1)]) hx hb dX7_row_69 rfl hl (by decide) rfl (fun ls hl => ?_)
                refine lv_iload_n hx hb dX7_row_70 rfl (lv_at hl 0 rfl) ?_
                refine lv_aload_n hx hb dX7_row_71 rfl (lv_at hl 1 rfl) ?_
                refine m_get X V 5 0 1 rfl gin_5 rfl (by decide) rfl gm_121 (v := .ref q) rfl dX7_row_72 ?_
                refine m_getN X V 1 19 4 rfl gin_1 rfl (by decide) rfl nf_7 (v := .int (tt 2)) rfl dX7_row_75 ?_
                refine lv_icmp_lt (tgt := 84) hx hb dX7_row_78 (by decide) (fun c_78 => ?_) (fun c_78 => ?_)
                · refine lv_iload_n hx hb dX7_row_84 rfl (lv_at hl 2 rfl) ?_
                  refine lv_bipush (v := 20) hx hb dX7_row_85 (by decide) ?_
                  refine lv_icmp_ge (tgt := 101) hx hb dX7_row_87 (by decide) (fun _ => ?_) (fun h => absurd c_55 h)
                  refine lv_aload_n hx hb dX7_row_101 rfl (lv_at hl 1 rfl) ?_
                  refine m_get X V 5 0 1 rfl gin_5 rfl (by decide) rfl gm_121 (v := .ref q) rfl dX7_row_102 ?_
                  refine lv_iload_n hx hb dX7_row_105 rfl (lv_at hl 0 rfl) ?_
                  refine m_VN X V (ws' := (wG cB cI a ad i j o q q2 q3 q i wr g mem loc pf pg pn t fm fn z key ld lt lf lg tt tf tg)) (rest := []) (st1 := [.int (pX1_numberOf tg (x1 - 20))]) (kX1_numberOf l D cB cI q q2 q3 tt tf tg (x1 - 20)) okX1_numberOf gm_215 gm_646 nm_21 [19, 20, 21] ⟨⟨rfl, rfl⟩, ⟨by decide, by decide⟩, Nat.zero_le _, Nat.zero_le _⟩ rfl rfl rfl rfl (wF_fst _ _ _ _ _ _ _ _) (wF_fst _ _ _ _ _ _ _ _) rfl rfl hl.1 (Nat.le_of_ble_eq_true rfl) dX7_row_106 rfl rfl (fun H locs V => ?_)
                  have e9 : pX7_row_1 wr tt tf tg x1 = ((pX1_numberOf tg (x1 - 20))) := by rw [pX7_row_1, if_neg c_1, if_neg c_6, if_pos c_12, if_neg c_21, if_neg c_28, if_neg c_41, if_pos c_55, if_pos c_78]
                  exact m_iret X hr hk V (by rw [e9]) rfl dX7_row_109
                · refine lv_bipush (v := (-2)) hx hb dX7_row_81 (by decide) ?_
                  have e9 : pX7_row_1 wr tt tf tg x1 = ((-2)) := by rw [pX7_row_1, if_neg c_1, if_neg c_6, if_pos c_12, if_neg c_21, if_neg c_28, if_neg c_41, if_pos c_55, if_neg c_78]
                  exact m_iret X hr hk V (by rw [e9]) rfl dX7_row_83
              · refine lv_iload_n hx hb dX7_row_58 rfl (lv_at hl 1 rfl) ?_
                refine lv_bipush (v := 10) hx hb dX7_row_59 (by decide) ?_
                refine lv_isub hx hb dX7_row_61 ?_
                refine lv_goto (tgt := 69) hx hb dX7_row_62 (by decide) ?_
                refine lv_istore_n (lv' := [(2, .int (x1 - 10)), (0, .ref a), (1, .int x1)]) hx hb dX7_row_69 rfl hl (by decide) rfl (fun ls hl => ?_)
                refine lv_iload_n hx hb dX7_row_70 rfl (lv_at hl 0 rfl) ?_
                refine lv_aload_n hx hb dX7_row_71 rfl (lv_at hl 1 rfl) ?_
                refine m_get X V 5 0 1 rfl gin_5 rfl (by decide) rfl gm_121 (v := .ref q) rfl dX7_row_72 ?_
                refine m_getN X V 1 19 4 rfl gin_1 rfl (by decide) rfl nf_7 (v := .int (tt 2)) rfl dX7_row_75 ?_
                refine lv_icmp_lt (tgt := 84) hx hb dX7_row_78 (by decide) (fun c_78 => ?_) (fun c_78 => ?_)
                · refine lv_iload_n hx hb dX7_row_84 rfl (lv_at hl 2 rfl) ?_
                  refine lv_bipush (v := 20) hx hb dX7_row_85 (by decide) ?_
                  refine lv_icmp_ge (tgt := 101) hx hb dX7_row_87 (by decide) (fun h => absurd h c_55) (fun _ => ?_)
                  refine lv_aload_n hx hb dX7_row_90 rfl (lv_at hl 1 rfl) ?_
                  refine m_get X V 5 0 1 rfl gin_5 rfl (by decide) rfl gm_121 (v := .ref q) rfl dX7_row_91 ?_
                  refine lv_iload_n hx hb dX7_row_94 rfl (lv_at hl 0 rfl) ?_
                  refine m_VN X V (ws' := (wG cB cI a ad i j o q q2 q3 q i wr g mem loc pf pg pn t fm fn z key ld lt lf lg tt tf tg)) (rest := []) (st1 := [.int (pX1_modeOf tf (x1 - 10))]) (kX1_modeOf l D cB cI q q2 q3 tt tf tg (x1 - 10)) okX1_modeOf gm_200 gm_644 nm_20 [19, 20, 21] ⟨⟨rfl, rfl⟩, ⟨by decide, by decide⟩, Nat.zero_le _, Nat.zero_le _⟩ rfl rfl rfl rfl (wF_fst _ _ _ _ _ _ _ _) (wF_fst _ _ _ _ _ _ _ _) rfl rfl hl.1 (Nat.le_of_ble_eq_true rfl) dX7_row_95 rfl rfl (fun H locs V => ?_)
                  refine lv_goto (tgt := 109) hx hb dX7_row_98 (by decide) ?_
                  have e9 : pX7_row_1 wr tt tf tg x1 = ((pX1_modeOf tf (x1 - 10))) := by rw [pX7_row_1, if_neg c_1, if_neg c_6, if_pos c_12, if_neg c_21, if_neg c_28, if_neg c_41, if_neg c_55, if_pos c_78]
                  exact m_iret X hr hk V (by rw [e9]) rfl dX7_row_109
                · refine lv_bipush (v := (-2)) hx hb dX7_row_81 (by decide) ?_
                  have e9 : pX7_row_1 wr tt tf tg x1 = ((-2)) := by rw [pX7_row_1, if_neg c_1, if_neg c_6, if_pos c_12, if_neg c_21, if_neg c_28, if_neg c_41, if_neg c_55, if_neg c_78]
                  exact m_iret X hr hk V (by rw [e9]) rfl dX7_row_83
            · refine lv_aload_n hx hb dX7_row_44 rfl (lv_at hl 0 rfl) ?_
              refine m_get X V 5 0 1 rfl gin_5 rfl (by decide) rfl gm_121 (v := .ref q) rfl dX7_row_45 ?_
              refine m_getN X V 1 19 4 rfl gin_1 rfl (by decide) rfl nf_7 (v := .int (tt 2)) rfl dX7_row_48 ?_
              have e9 : pX7_row_1 wr tt tf tg x1 = ((tt 2)) := by rw [pX7_row_1, if_neg c_1, if_neg c_6, if_pos c_12, if_neg c_21, if_neg c_28, if_pos c_41]
              exact m_iret X hr hk V (by rw [e9]) rfl dX7_row_51
          · refine lv_aload_n hx hb dX7_row_31 rfl (lv_at hl 0 rfl) ?_
            refine m_get X V 5 0 1 rfl gin_5 rfl (by decide) rfl gm_121 (v := .ref q) rfl dX7_row_32 ?_
            refine m_getN X V 1 19 2 rfl gin_1 rfl (by decide) rfl nf_4 (v := .int (tt 0)) rfl dX7_row_35 ?_
            have e9 : pX7_row_1 wr tt tf tg x1 = ((tt 0)) := by rw [pX7_row_1, if_neg c_1, if_neg c_6, if_pos c_12, if_neg c_21, if_pos c_28]
            exact m_iret X hr hk V (by rw [e9]) rfl dX7_row_38
        · refine lv_bipush (v := (-2)) hx hb dX7_row_24 (by decide) ?_
          have e9 : pX7_row_1 wr tt tf tg x1 = ((-2)) := by rw [pX7_row_1, if_neg c_1, if_neg c_6, if_pos c_12, if_pos c_21]
          exact m_iret X hr hk V (by rw [e9]) rfl dX7_row_26
      · refine lv_iconst (v := (-1)) hx hb dX7_row_15 (by decide) ?_
        have e9 : pX7_row_1 wr tt tf tg x1 = ((-1)) := by rw [pX7_row_1, if_neg c_1, if_neg c_6, if_neg c_12]
        exact m_iret X hr hk V (by rw [e9]) rfl dX7_row_16
