def pX2_perform (g : Nat → Int32) (mem : Nat → Int32) (pf : Nat → Int32) (pg : Nat → Int32) (pn : Int32) (t : Nat → Int32) (z : Nat → Int32) (key : Nat → Int32) (ld : Nat → Int32) (x1 : Int32) : Int32 × (Nat → Int32) × (Nat → Int32) × (Nat → Int32) × (Nat → Int32) × Int32 × (Nat → Int32) × (Nat → Int32) := (if (x1 >>> (4 &&& 31)) = 1 then (mLet (pX2_reckon g x1 (pX2_load ld 0) (pX2_load ld 1)) (fun (u124 : Int32 × (Nat → Int32)) => (u124.1, u124.2, mem, pf, pg, pn, z, key))) else (if (x1 >>> (4 &&& 31)) = 2 then (mLet (pX4_branches x1 (pX2_load ld 0) (pX2_load ld 1)) (fun (u132 : Int32) => (mLet (pX2_branchIf g t ld u132) (fun (u135 : Int32 × (Nat → Int32)) => (u135.1, u135.2, mem, pf, pg, pn, z, key))))) else (if (x1 >>> (4 &&& 31)) = 3 then (mLet (pX2_end g (pX2_load ld 0)) (fun (u141 : Int32 × (Nat → Int32)) => (u141.1, u141.2, mem, pf, pg, pn, z, key))) else (if (x1 >>> (4 &&& 31)) = 4 then (if 72 ≤ x1 then (mLet (pX2_array g mem ld x1 (pX2_load ld 0) (pX2_load ld 1)) (fun (u164 : Int32 × (Nat → Int32) × (Nat → Int32)) => (u164.1, u164.2.1, u164.2.2, pf, pg, pn, z, key))) else (mLet (pX4_result x1 (pX2_load ld 0) (pX2_load ld 1)) (fun (u154 : Int32) => (u154, g, mem, pf, pg, pn, z, key)))) else (if (x1 >>> (4 &&& 31)) = 5 then (mLet (pX2_onPile g pf pg pn x1 (pX2_load ld 0) (pX2_load ld 1)) (fun (u172 : Int32 × (Nat → Int32) × (Nat → Int32) × (Nat → Int32) × Int32) => (u172.1, u172.2.1, mem, u172.2.2.1, u172.2.2.2.1, u172.2.2.2.2, z, key))) else (if (x1 >>> (4 &&& 31)) = 16 then (if x1 = 260 then (mLet (pX2_jump g (pX2_load ld 0)) (fun (u185 : Int32 × (Nat → Int32)) => (u185.1, u185.2, mem, pf, pg, pn, z, key))) else ((pX4_ability (pX2_load ld 0)), g, mem, pf, pg, pn, z, key)) else (if (x1 >>> (4 &&& 31)) = 18 then (mLet (pX2_end g 0) (fun (u198 : Int32 × (Nat → Int32)) => (u198.1, u198.2, mem, pf, pg, pn, z, key))) else (if (x1 >>> (4 &&& 31)) = 21 then (mLet (pX2_searchTable g mem z key ld x1) (fun (u204 : Int32 × (Nat → Int32) × (Nat → Int32) × (Nat → Int32)) => (u204.1, u204.2.1, mem, pf, pg, pn, u204.2.2.1, u204.2.2.2))) else (if (x1 >>> (4 &&& 31)) = 23 then (if x1 = 368 then (mLet (pX2_zeroBlock g mem (pX2_load ld 0) (pX2_load ld 1)) (fun (u218 : Int32 × (Nat → Int32) × (Nat → Int32)) => (u218.1, u218.2.1, u218.2.2, pf, pg, pn, z, key))) else (mLet (pX2_copyBlock g mem (pX2_load ld 0) (pX2_load ld 1) (pX2_load ld 2)) (fun (u232 : Int32 × (Nat → Int32) × (Nat → Int32)) => (u232.1, u232.2.1, u232.2.2, pf, pg, pn, z, key)))) else (0, g, mem, pf, pg, pn, z, key))))))))))
theorem okX2_perform : mOk yX2_perform cX2_perform 4 (some .int) 1 := ⟨gm_251, gm_4, by decide +kernel⟩
set_option maxRecDepth 100000 in
set_option maxHeartbeats 4000000 in
theorem kX2_perform (l : Launch) (D : va_G) (cB cI : ClassId) (ad : Nat → Nat) (g : Nat → Int32) (mem : Nat → Int32) (loc : Nat → Int32) (pf : Nat → Int32) (pg : Nat → Int32) (pn : Int32) (t : Nat → Int32) (fm : Nat → Int32) (fn : Nat → Int32) (z : Nat → Int32) (key : Nat → Int32) (ld : Nat → Int32) (x1 : Int32) (hf : sb_Fit mem) : mM l D cB cI yX2_perform cX2_perform 4 (some .int) { frames := 5, cells := 0, slots := 0, locals := 110 } [.ref (ad 0), .int x1] (wM cB cI ad g mem loc pf pg pn t fm fn z key ld) (some ((pX2_perform g mem pf pg pn t z key ld x1).1)) (wM cB cI ad ((pX2_perform g mem pf pg pn t z key ld x1).2.1) ((pX2_perform g mem pf pg pn t z key ld x1).2.2.1) loc ((pX2_perform g mem pf pg pn t z key ld x1).2.2.2.1) ((pX2_perform g mem pf pg pn t z key ld x1).2.2.2.2.1) ((pX2_perform g mem pf pg pn t z key ld x1).2.2.2.2.2.1) t fm fn ((pX2_perform g mem pf pg pn t z key ld x1).2.2.2.2.2.2.1) ((pX2_perform g mem pf pg pn t z key ld x1).2.2.2.2.2.2.2) ld) := by
  refine m_start (by decide +kernel) (Nat.le_of_ble_eq_true rfl) ?_
  intro p e s m below meth c A ls X hr hk V hl
  have X : mCx p s m _ c cX2_perform 4 RX2 D cB cI := X
  have hx := X.1.1
  have hb := X.1.2.1
  have hl : lv_has ls 4 [(0, .ref (ad 0)), (1, .int x1)] := hl
  refine lv_aload_n hx hb dX2_perform_0 rfl (lv_at hl 0 rfl) ?_
  refine lv_iconst (v := 0) hx hb dX2_perform_1 (by decide) ?_
  refine m_VA X V (w1 := (wM cB cI ad g mem loc pf pg pn t fm fn z key ld)) (rest := []) (st1 := [.int (pX2_load ld 0)]) (kX2_load l D cB cI ad g mem loc pf pg pn t fm fn z key ld 0) okX2_load gm_253 gm_657 gm_252 ⟨⟨rfl, rfl⟩, ⟨by decide, by decide⟩, Nat.zero_le _, Nat.zero_le _⟩ rfl rfl (wM_fst _ _ _ _ _ _ _ _ _ _ _ _ _ _ _) (wM_fst _ _ _ _ _ _ _ _ _ _ _ _ _ _ _) rfl hl.1 (Nat.le_of_ble_eq_true rfl) dX2_perform_2 rfl rfl (fun H locs V => ?_)
  refine lv_istore_n (lv' := [(2, .int (pX2_load ld 0)), (0, .ref (ad 0)), (1, .int x1)]) hx hb dX2_perform_5 rfl hl (by decide) rfl (fun ls hl => ?_)
  refine lv_aload_n hx hb dX2_perform_6 rfl (lv_at hl 1 rfl) ?_
  refine lv_iconst (v := 1) hx hb dX2_perform_7 (by decide) ?_
  refine m_VA X V (w1 := (wM cB cI ad g mem loc pf pg pn t fm fn z key ld)) (rest := []) (st1 := [.int (pX2_load ld 1)]) (kX2_load l D cB cI ad g mem loc pf pg pn t fm fn z key ld 1) okX2_load gm_253 gm_657 gm_252 ⟨⟨rfl, rfl⟩, ⟨by decide, by decide⟩, Nat.zero_le _, Nat.zero_le _⟩ rfl rfl (wM_fst _ _ _ _ _ _ _ _ _ _ _ _ _ _ _) (wM_fst _ _ _ _ _ _ _ _ _ _ _ _ _ _ _) rfl hl.1 (Nat.le_of_ble_eq_true rfl) dX2_perform_8 rfl rfl (fun H locs V => ?_)
  refine lv_istore_n (lv' := [(3, .int (pX2_load ld 1)), (2, .int (pX2_load ld 0)), (0, .ref (ad 0)), (1, .int x1)]) hx hb dX2_perform_11 rfl hl (by decide) rfl (fun ls hl => ?_)
  refine lv_iload_n hx hb dX2_perform_12 rfl (lv_at hl 3 rfl) ?_
  refine lv_iconst (v := 4) hx hb dX2_perform_13 (by decide) ?_
  refine lv_ishr hx hb dX2_perform_14 ?_
  by_cases w_15_1 : (x1 >>> (4 &&& 31)) = 1
  · refine lv_tableIn (off := 105) (tgt := 120) hx hb dX2_perform_15 (by rw [w_15_1]; decide) (by rw [w_15_1]; decide) (by rw [w_15_1]; rfl) (by decide) ?_
    refine lv_aload_n hx hb dX2_perform_120 rfl (lv_at hl 2 rfl) ?_
    refine lv_iload_n hx hb dX2_perform_121 rfl (lv_at hl 3 rfl) ?_
    refine lv_iload_n hx hb dX2_perform_122 rfl (lv_at hl 1 rfl) ?_
    refine lv_iload_n hx hb dX2_perform_123 rfl (lv_at hl 0 rfl) ?_
    obtain ⟨u124, hu124⟩ : ∃ u, pX2_reckon g x1 (pX2_load ld 0) (pX2_load ld 1) = u := ⟨_, rfl⟩
    have hM := kX2_reckon l D cB cI ad g mem loc pf pg pn t fm fn z key ld x1 (pX2_load ld 0) (pX2_load ld 1)
    rw [hu124] at hM
    refine m_VA X V (w1 := (wM cB cI ad u124.2 mem loc pf pg pn t fm fn z key ld)) (rest := []) (st1 := [.int u124.1]) hM okX2_reckon gm_256 gm_658 gm_255 ⟨⟨rfl, rfl⟩, ⟨by decide, by decide⟩, Nat.zero_le _, Nat.zero_le _⟩ rfl rfl (wM_fst _ _ _ _ _ _ _ _ _ _ _ _ _ _ _) (wM_fst _ _ _ _ _ _ _ _ _ _ _ _ _ _ _) rfl hl.1 (Nat.le_of_ble_eq_true rfl) dX2_perform_124 rfl rfl (fun H locs V => ?_)
    have e9 : pX2_perform g mem pf pg pn t z key ld x1 = (u124.1, u124.2, mem, pf, pg, pn, z, key) := by rw [pX2_perform, if_pos w_15_1, hu124, mLet_eq]
    exact m_iret X hr hk V (by rw [e9]) (by rw [e9]) dX2_perform_127
  by_cases w_15_2 : (x1 >>> (4 &&& 31)) = 2
  · refine lv_tableIn (off := 113) (tgt := 128) hx hb dX2_perform_15 (by rw [w_15_2]; decide) (by rw [w_15_2]; decide) (by rw [w_15_2]; rfl) (by decide) ?_
    refine lv_aload_n hx hb dX2_perform_128 rfl (lv_at hl 2 rfl) ?_
    refine lv_iload_n hx hb dX2_perform_129 rfl (lv_at hl 3 rfl) ?_
    refine lv_iload_n hx hb dX2_perform_130 rfl (lv_at hl 1 rfl) ?_
    refine lv_iload_n hx hb dX2_perform_131 rfl (lv_at hl 0 rfl) ?_
    obtain ⟨u132, hu132⟩ : ∃ u, pX4_branches x1 (pX2_load ld 0) (pX2_load ld 1) = u := ⟨_, rfl⟩
    have hM := kX4_branches l D cB cI x1 (pX2_load ld 0) (pX2_load ld 1)
    rw [hu132] at hM
    refine m_SN X V (rest := [.ref (ad 0)]) (st1 := [.int u132, .ref (ad 0)]) hM okX4_branches gm_263 nm_31 ⟨⟨rfl, rfl⟩, ⟨by decide, by decide⟩, Nat.zero_le _, Nat.zero_le _⟩ rfl hl.1 (Nat.le_of_ble_eq_true rfl) dX2_perform_132 rfl rfl (fun H locs V => ?_)
    obtain ⟨u135, hu135⟩ : ∃ u, pX2_branchIf g t ld u132 = u := ⟨_, rfl⟩
    have hM := kX2_branchIf l D cB cI ad g mem loc pf pg pn t fm fn z key ld u132
    rw [hu135] at hM
    refine m_VA X V (w1 := (wM cB cI ad u135.2 mem loc pf pg pn t fm fn z key ld)) (rest := []) (st1 := [.int u135.1]) hM okX2_branchIf gm_273 gm_659 gm_272 ⟨⟨rfl, rfl⟩, ⟨by decide, by decide⟩, Nat.zero_le _, Nat.zero_le _⟩ rfl rfl (wM_fst _ _ _ _ _ _ _ _ _ _ _ _ _ _ _) (wM_fst _ _ _ _ _ _ _ _ _ _ _ _ _ _ _) rfl hl.1 (Nat.le_of_ble_eq_true rfl) dX2_perform_135 rfl rfl (fun H locs V => ?_)
    have e9 : pX2_perform g mem pf pg pn t z key ld x1 = (u135.1, u135.2, mem, pf, pg, pn, z, key) := by rw [pX2_perform, if_neg w_15_1, if_pos w_15_2, hu132, mLet_eq, hu135, mLet_eq]
    exact m_iret X hr hk V (by rw [e9]) (by rw [e9]) dX2_perform_138
  by_cases w_15_3 : (x1 >>> (4 &&& 31)) = 3
  · refine lv_tableIn (off := 124) (tgt := 139) hx hb dX2_perform_15 (by rw [w_15_3]; decide) (by rw [w_15_3]; decide) (by rw [w_15_3]; rfl) (by decide) ?_
    refine lv_aload_n hx hb dX2_perform_139 rfl (lv_at hl 2 rfl) ?_
    refine lv_iload_n hx hb dX2_perform_140 rfl (lv_at hl 1 rfl) ?_
    obtain ⟨u141, hu141⟩ : ∃ u, pX2_end g (pX2_load ld 0) = u := ⟨_, rfl⟩
    have hM := kX2_end l D cB cI ad g mem loc pf pg pn t fm fn z key ld (pX2_load ld 0)
    rw [hu141] at hM
    refine m_VA X V (w1 := (wM cB cI ad u141.2 mem loc pf pg pn t fm fn z key ld)) (rest := []) (st1 := [.int u141.1]) hM okX2_end gm_276 gm_660 gm_275 ⟨⟨rfl, rfl⟩, ⟨by decide, by decide⟩, Nat.zero_le _, Nat.zero_le _⟩ rfl rfl (wM_fst _ _ _ _ _ _ _ _ _ _ _ _ _ _ _) (wM_fst _ _ _ _ _ _ _ _ _ _ _ _ _ _ _) rfl hl.1 (Nat.le_of_ble_eq_true rfl) dX2_perform_141 rfl rfl (fun H locs V => ?_)
    have e9 : pX2_perform g mem pf pg pn t z key ld x1 = (u141.1, u141.2, mem, pf, pg, pn, z, key) := by rw [pX2_perform, if_neg w_15_1, if_neg w_15_2, if_pos w_15_3, hu141, mLet_eq]
    exact m_iret X hr hk V (by rw [e9]) (by rw [e9]) dX2_perform_144
  by_cases w_15_4 : (x1 >>> (4 &&& 31)) = 4
  · refine lv_tableIn (off := 130) (tgt := 145) hx hb dX2_perform_15 (by rw [w_15_4]; decide) (by rw [w_15_4]; decide) (by rw [w_15_4]; rfl) (by decide) ?_
    refine lv_iload_n hx hb dX2_perform_145 rfl (lv_at hl 3 rfl) ?_
    refine lv_bipush (v := 72) hx hb dX2_perform_146 (by decide) ?_
    refine lv_icmp_ge (tgt := 160) hx hb dX2_perform_148 (by decide) (fun c_148 => ?_) (fun c_148 => ?_)
    · refine lv_aload_n hx hb dX2_perform_160 rfl (lv_at hl 2 rfl) ?_
      refine lv_iload_n hx hb dX2_perform_161 rfl (lv_at hl 3 rfl) ?_
      refine lv_iload_n hx hb dX2_perform_162 rfl (lv_at hl 1 rfl) ?_
      refine lv_iload_n hx hb dX2_perform_163 rfl (lv_at hl 0 rfl) ?_
      obtain ⟨u164, hu164⟩ : ∃ u, pX2_array g mem ld x1 (pX2_load ld 0) (pX2_load ld 1) = u := ⟨_, rfl⟩
      have hM := kX2_array l D cB cI ad g mem loc pf pg pn t fm fn z key ld x1 (pX2_load ld 0) (pX2_load ld 1)
      rw [hu164] at hM
      refine m_VA X V (w1 := (wM cB cI ad u164.2.1 u164.2.2 loc pf pg pn t fm fn z key ld)) (rest := []) (st1 := [.int u164.1]) hM okX2_array gm_282 gm_662 gm_281 ⟨⟨rfl, rfl⟩, ⟨by decide, by decide⟩, Nat.zero_le _, Nat.zero_le _⟩ rfl rfl (wM_fst _ _ _ _ _ _ _ _ _ _ _ _ _ _ _) (wM_fst _ _ _ _ _ _ _ _ _ _ _ _ _ _ _) rfl hl.1 (Nat.le_of_ble_eq_true rfl) dX2_perform_164 rfl rfl (fun H locs V => ?_)
      have e9 : pX2_perform g mem pf pg pn t z key ld x1 = (u164.1, u164.2.1, u164.2.2, pf, pg, pn, z, key) := by rw [pX2_perform, if_neg w_15_1, if_neg w_15_2, if_neg w_15_3, if_pos w_15_4, if_pos c_148, hu164, mLet_eq]
      exact m_iret X hr hk V (by rw [e9]) (by rw [e9]) dX2_perform_167
    · refine lv_iload_n hx hb dX2_perform_151 rfl (lv_at hl 3 rfl) ?_
      refine lv_iload_n hx hb dX2_perform_152 rfl (lv_at hl 1 rfl) ?_
      refine lv_iload_n hx hb dX2_perform_153 rfl (lv_at hl 0 rfl) ?_
      obtain ⟨u154, hu154⟩ : ∃ u, pX4_result x1 (pX2_load ld 0) (pX2_load ld 1) = u := ⟨_, rfl⟩
      have hM := kX4_result l D cB cI x1 (pX2_load ld 0) (pX2_load ld 1)
      rw [hu154] at hM
      refine m_SN X V (rest := []) (st1 := [.int u154]) hM okX4_result gm_258 nm_30 ⟨⟨rfl, rfl⟩, ⟨by decide, by decide⟩, Nat.zero_le _, Nat.zero_le _⟩ rfl hl.1 (Nat.le_of_ble_eq_true rfl) dX2_perform_154 rfl rfl (fun H locs V => ?_)
      refine lv_goto (tgt := 167) hx hb dX2_perform_157 (by decide) ?_
      have e9 : pX2_perform g mem pf pg pn t z key ld x1 = (u154, g, mem, pf, pg, pn, z, key) := by rw [pX2_perform, if_neg w_15_1, if_neg w_15_2, if_neg w_15_3, if_pos w_15_4, if_neg c_148, hu154, mLet_eq]
      exact m_iret X hr hk V (by rw [e9]) (by rw [e9]) dX2_perform_167
  by_cases w_15_5 : (x1 >>> (4 &&& 31)) = 5
  · refine lv_tableIn (off := 153) (tgt := 168) hx hb dX2_perform_15 (by rw [w_15_5]; decide) (by rw [w_15_5]; decide) (by rw [w_15_5]; rfl) (by decide) ?_
    refine lv_aload_n hx hb dX2_perform_168 rfl (lv_at hl 2 rfl) ?_
    refine lv_iload_n hx hb dX2_perform_169 rfl (lv_at hl 3 rfl) ?_
    refine lv_iload_n hx hb dX2_perform_170 rfl (lv_at hl 1 rfl) ?_
    refine lv_iload_n hx hb dX2_perform_171 rfl (lv_at hl 0 rfl) ?_
    obtain ⟨u172, hu172⟩ : ∃ u, pX2_onPile g pf pg pn x1 (pX2_load ld 0) (pX2_load ld 1) = u := ⟨_, rfl⟩
    have hM := kX2_onPile l D cB cI ad g mem loc pf pg pn t fm fn z key ld x1 (pX2_load ld 0) (pX2_load ld 1)
    rw [hu172] at hM
    refine m_VA X V (w1 := (wM cB cI ad u172.2.1 mem loc u172.2.2.1 u172.2.2.2.1 u172.2.2.2.2 t fm fn z key ld)) (rest := []) (st1 := [.int u172.1]) hM okX2_onPile gm_300 gm_665 gm_299 ⟨⟨rfl, rfl⟩, ⟨by decide, by decide⟩, Nat.zero_le _, Nat.zero_le _⟩ rfl rfl (wM_fst _ _ _ _ _ _ _ _ _ _ _ _ _ _ _) (wM_fst _ _ _ _ _ _ _ _ _ _ _ _ _ _ _) rfl hl.1 (Nat.le_of_ble_eq_true rfl) dX2_perform_172 rfl rfl (fun H locs V => ?_)
    have e9 : pX2_perform g mem pf pg pn t z key ld x1 = (u172.1, u172.2.1, mem, u172.2.2.1, u172.2.2.2.1, u172.2.2.2.2, z, key) := by rw [pX2_perform, if_neg w_15_1, if_neg w_15_2, if_neg w_15_3, if_neg w_15_4, if_pos w_15_5, hu172, mLet_eq]
    exact m_iret X hr hk V (by rw [e9]) (by rw [e9]) dX2_perform_175
  by_cases w_15_16 : (x1 >>> (4 &&& 31)) = 16
  · refine lv_tableIn (off := 161) (tgt := 176) hx hb dX2_perform_15 (by rw [w_15_16]; decide) (by rw [w_15_16]; decide) (by rw [w_15_16]; rfl) (by decide) ?_
    refine lv_iload_n hx hb dX2_perform_176 rfl (lv_at hl 3 rfl) ?_
    refine lv_sipush (v := 260) hx hb dX2_perform_177 (by decide) ?_
    refine lv_icmp_ne (tgt := 191) hx hb dX2_perform_180 (by decide) (fun c_180 => ?_) (fun c_180 => ?_)
    · refine lv_iload_n hx hb dX2_perform_191 rfl (lv_at hl 1 rfl) ?_
      refine m_SN X V (rest := []) (st1 := [.int (pX4_ability (pX2_load ld 0))]) (kX4_ability l D cB cI (pX2_load ld 0)) okX4_ability gm_326 nm_39 ⟨⟨rfl, rfl⟩, ⟨by decide, by decide⟩, Nat.zero_le _, Nat.zero_le _⟩ rfl hl.1 (Nat.le_of_ble_eq_true rfl) dX2_perform_192 rfl rfl (fun H locs V => ?_)
      have e9 : pX2_perform g mem pf pg pn t z key ld x1 = ((pX4_ability (pX2_load ld 0)), g, mem, pf, pg, pn, z, key) := by rw [pX2_perform, if_neg w_15_1, if_neg w_15_2, if_neg w_15_3, if_neg w_15_4, if_neg w_15_5, if_pos w_15_16, if_neg c_180]
      exact m_iret X hr hk V (by rw [e9]) (by rw [e9]) dX2_perform_195
    · refine lv_aload_n hx hb dX2_perform_183 rfl (lv_at hl 2 rfl) ?_
      refine lv_iload_n hx hb dX2_perform_184 rfl (lv_at hl 1 rfl) ?_
      obtain ⟨u185, hu185⟩ : ∃ u, pX2_jump g (pX2_load ld 0) = u := ⟨_, rfl⟩
      have hM := kX2_jump l D cB cI ad g mem loc pf pg pn t fm fn z key ld (pX2_load ld 0)
      rw [hu185] at hM
      refine m_VA X V (w1 := (wM cB cI ad u185.2 mem loc pf pg pn t fm fn z key ld)) (rest := []) (st1 := [.int u185.1]) hM okX2_jump gm_279 gm_661 gm_278 ⟨⟨rfl, rfl⟩, ⟨by decide, by decide⟩, Nat.zero_le _, Nat.zero_le _⟩ rfl rfl (wM_fst _ _ _ _ _ _ _ _ _ _ _ _ _ _ _) (wM_fst _ _ _ _ _ _ _ _ _ _ _ _ _ _ _) rfl hl.1 (Nat.le_of_ble_eq_true rfl) dX2_perform_185 rfl rfl (fun H locs V => ?_)
      refine lv_goto (tgt := 195) hx hb dX2_perform_188 (by decide) ?_
      have e9 : pX2_perform g mem pf pg pn t z key ld x1 = (u185.1, u185.2, mem, pf, pg, pn, z, key) := by rw [pX2_perform, if_neg w_15_1, if_neg w_15_2, if_neg w_15_3, if_neg w_15_4, if_neg w_15_5, if_pos w_15_16, if_pos c_180, hu185, mLet_eq]
      exact m_iret X hr hk V (by rw [e9]) (by rw [e9]) dX2_perform_195
  by_cases w_15_18 : (x1 >>> (4 &&& 31)) = 18
  · refine lv_tableIn (off := 181) (tgt := 196) hx hb dX2_perform_15 (by rw [w_15_18]; decide) (by rw [w_15_18]; decide) (by rw [w_15_18]; rfl) (by decide) ?_
    refine lv_aload_n hx hb dX2_perform_196 rfl (lv_at hl 2 rfl) ?_
    refine lv_iconst (v := 0) hx hb dX2_perform_197 (by decide) ?_
    obtain ⟨u198, hu198⟩ : ∃ u, pX2_end g 0 = u := ⟨_, rfl⟩
    have hM := kX2_end l D cB cI ad g mem loc pf pg pn t fm fn z key ld 0
    rw [hu198] at hM
    refine m_VA X V (w1 := (wM cB cI ad u198.2 mem loc pf pg pn t fm fn z key ld)) (rest := []) (st1 := [.int u198.1]) hM okX2_end gm_276 gm_660 gm_275 ⟨⟨rfl, rfl⟩, ⟨by decide, by decide⟩, Nat.zero_le _, Nat.zero_le _⟩ rfl rfl (wM_fst _ _ _ _ _ _ _ _ _ _ _ _ _ _ _) (wM_fst _ _ _ _ _ _ _ _ _ _ _ _ _ _ _) rfl hl.1 (Nat.le_of_ble_eq_true rfl) dX2_perform_198 rfl rfl (fun H locs V => ?_)
    have e9 : pX2_perform g mem pf pg pn t z key ld x1 = (u198.1, u198.2, mem, pf, pg, pn, z, key) := by rw [pX2_perform, if_neg w_15_1, if_neg w_15_2, if_neg w_15_3, if_neg w_15_4, if_neg w_15_5, if_neg w_15_16, if_pos w_15_18, hu198, mLet_eq]
    exact m_iret X hr hk V (by rw [e9]) (by rw [e9]) dX2_perform_201
  by_cases w_15_21 : (x1 >>> (4 &&& 31)) = 21
  · refine lv_tableIn (off := 187) (tgt := 202) hx hb dX2_perform_15 (by rw [w_15_21]; decide) (by rw [w_15_21]; decide) (by rw [w_15_21]; rfl) (by decide) ?_
    refine lv_aload_n hx hb dX2_perform_202 rfl (lv_at hl 2 rfl) ?_
    refine lv_iload_n hx hb dX2_perform_203 rfl (lv_at hl 3 rfl) ?_
    obtain ⟨u204, hu204⟩ : ∃ u, pX2_searchTable g mem z key ld x1 = u := ⟨_, rfl⟩
    have hM := kX2_searchTable l D cB cI ad g mem loc pf pg pn t fm fn z key ld x1
    rw [hu204] at hM
    refine m_VA X V (w1 := (wM cB cI ad u204.2.1 mem loc pf pg pn t fm fn u204.2.2.1 u204.2.2.2 ld)) (rest := []) (st1 := [.int u204.1]) hM okX2_searchTable gm_331 gm_674 gm_330 ⟨⟨rfl, rfl⟩, ⟨by decide, by decide⟩, Nat.zero_le _, Nat.zero_le _⟩ rfl rfl (wM_fst _ _ _ _ _ _ _ _ _ _ _ _ _ _ _) (wM_fst _ _ _ _ _ _ _ _ _ _ _ _ _ _ _) rfl hl.1 (Nat.le_of_ble_eq_true rfl) dX2_perform_204 rfl rfl (fun H locs V => ?_)
    have e9 : pX2_perform g mem pf pg pn t z key ld x1 = (u204.1, u204.2.1, mem, pf, pg, pn, u204.2.2.1, u204.2.2.2) := by rw [pX2_perform, if_neg w_15_1, if_neg w_15_2, if_neg w_15_3, if_neg w_15_4, if_neg w_15_5, if_neg w_15_16, if_neg w_15_18, if_pos w_15_21, hu204, mLet_eq]
    exact m_iret X hr hk V (by rw [e9]) (by rw [e9]) dX2_perform_207
  by_cases w_15_23 : (x1 >>> (4 &&& 31)) = 23
  · refine lv_tableIn (off := 193) (tgt := 208) hx hb dX2_perform_15 (by rw [w_15_23]; decide) (by rw [w_15_23]; decide) (by rw [w_15_23]; rfl) (by decide) ?_
    refine lv_iload_n hx hb dX2_perform_208 rfl (lv_at hl 3 rfl) ?_
    refine lv_sipush (v := 368) hx hb dX2_perform_209 (by decide) ?_
    refine lv_icmp_ne (tgt := 224) hx hb dX2_perform_212 (by decide) (fun c_212 => ?_) (fun c_212 => ?_)
    · refine lv_aload_n hx hb dX2_perform_224 rfl (lv_at hl 2 rfl) ?_
      refine lv_iload_n hx hb dX2_perform_225 rfl (lv_at hl 1 rfl) ?_
      refine lv_iload_n hx hb dX2_perform_226 rfl (lv_at hl 0 rfl) ?_
      refine lv_aload_n hx hb dX2_perform_227 rfl (lv_at hl 2 rfl) ?_
      refine lv_iconst (v := 2) hx hb dX2_perform_228 (by decide) ?_
      refine m_VA X V (w1 := (wM cB cI ad g mem loc pf pg pn t fm fn z key ld)) (rest := [.int (pX2_load ld 1), .int (pX2_load ld 0), .ref (ad 0)]) (st1 := [.int (pX2_load ld 2), .int (pX2_load ld 1), .int (pX2_load ld 0), .ref (ad 0)]) (kX2_load l D cB cI ad g mem loc pf pg pn t fm fn z key ld 2) okX2_load gm_253 gm_657 gm_252 ⟨⟨rfl, rfl⟩, ⟨by decide, by decide⟩, Nat.zero_le _, Nat.zero_le _⟩ rfl rfl (wM_fst _ _ _ _ _ _ _ _ _ _ _ _ _ _ _) (wM_fst _ _ _ _ _ _ _ _ _ _ _ _ _ _ _) rfl hl.1 (Nat.le_of_ble_eq_true rfl) dX2_perform_229 rfl rfl (fun H locs V => ?_)
      obtain ⟨u232, hu232⟩ : ∃ u, pX2_copyBlock g mem (pX2_load ld 0) (pX2_load ld 1) (pX2_load ld 2) = u := ⟨_, rfl⟩
      have hM := kX2_copyBlock l D cB cI ad g mem loc pf pg pn t fm fn z key ld (pX2_load ld 0) (pX2_load ld 1) (pX2_load ld 2) hf
      rw [hu232] at hM
      refine m_VA X V (w1 := (wM cB cI ad u232.2.1 u232.2.2 loc pf pg pn t fm fn z key ld)) (rest := []) (st1 := [.int u232.1]) hM okX2_copyBlock gm_379 gm_691 gm_378 ⟨⟨rfl, rfl⟩, ⟨by decide, by decide⟩, Nat.zero_le _, Nat.zero_le _⟩ rfl rfl (wM_fst _ _ _ _ _ _ _ _ _ _ _ _ _ _ _) (wM_fst _ _ _ _ _ _ _ _ _ _ _ _ _ _ _) rfl hl.1 (Nat.le_of_ble_eq_true rfl) dX2_perform_232 rfl rfl (fun H locs V => ?_)
      have e9 : pX2_perform g mem pf pg pn t z key ld x1 = (u232.1, u232.2.1, u232.2.2, pf, pg, pn, z, key) := by rw [pX2_perform, if_neg w_15_1, if_neg w_15_2, if_neg w_15_3, if_neg w_15_4, if_neg w_15_5, if_neg w_15_16, if_neg w_15_18, if_neg w_15_21, if_pos w_15_23, if_neg c_212, hu232, mLet_eq]
      exact m_iret X hr hk V (by rw [e9]) (by rw [e9]) dX2_perform_235
    · refine lv_aload_n hx hb dX2_perform_215 rfl (lv_at hl 2 rfl) ?_
      refine lv_iload_n hx hb dX2_perform_216 rfl (lv_at hl 1 rfl) ?_
      refine lv_iload_n hx hb dX2_perform_217 rfl (lv_at hl 0 rfl) ?_
      obtain ⟨u218, hu218⟩ : ∃ u, pX2_zeroBlock g mem (pX2_load ld 0) (pX2_load ld 1) = u := ⟨_, rfl⟩
      have hM := kX2_zeroBlock l D cB cI ad g mem loc pf pg pn t fm fn z key ld (pX2_load ld 0) (pX2_load ld 1)
      rw [hu218] at hM
      refine m_VA X V (w1 := (wM cB cI ad u218.2.1 u218.2.2 loc pf pg pn t fm fn z key ld)) (rest := []) (st1 := [.int u218.1]) hM okX2_zeroBlock gm_376 gm_690 gm_375 ⟨⟨rfl, rfl⟩, ⟨by decide, by decide⟩, Nat.zero_le _, Nat.zero_le _⟩ rfl rfl (wM_fst _ _ _ _ _ _ _ _ _ _ _ _ _ _ _) (wM_fst _ _ _ _ _ _ _ _ _ _ _ _ _ _ _) rfl hl.1 (Nat.le_of_ble_eq_true rfl) dX2_perform_218 rfl rfl (fun H locs V => ?_)
      refine lv_goto (tgt := 235) hx hb dX2_perform_221 (by decide) ?_
      have e9 : pX2_perform g mem pf pg pn t z key ld x1 = (u218.1, u218.2.1, u218.2.2, pf, pg, pn, z, key) := by rw [pX2_perform, if_neg w_15_1, if_neg w_15_2, if_neg w_15_3, if_neg w_15_4, if_neg w_15_5, if_neg w_15_16, if_neg w_15_18, if_neg w_15_21, if_pos w_15_23, if_pos c_212, hu218, mLet_eq]
      exact m_iret X hr hk V (by rw [e9]) (by rw [e9]) dX2_perform_235
  have o_0 := lv_neT w_15_1 (a := 1) rfl
  have o_1 := lv_neT w_15_2 (a := 2) rfl
  have o_2 := lv_neT w_15_3 (a := 3) rfl
  have o_3 := lv_neT w_15_4 (a := 4) rfl
  have o_4 := lv_neT w_15_5 (a := 5) rfl
  have o_5 := lv_neT w_15_16 (a := 16) rfl
  have o_6 := lv_neT w_15_18 (a := 18) rfl
  have o_7 := lv_neT w_15_21 (a := 21) rfl
  have o_8 := lv_neT w_15_23 (a := 23) rfl
  refine m_tabD (x := (x1 >>> (4 &&& 31))) (tgt := 236) hx hb dX2_perform_15 (by decide) (by decide) (fun off h1 h2 h3 => by (rcases (show Int32.toInt (x1 >>> (4 &&& 31)) = 6 ∨ Int32.toInt (x1 >>> (4 &&& 31)) = 7 ∨ Int32.toInt (x1 >>> (4 &&& 31)) = 8 ∨ Int32.toInt (x1 >>> (4 &&& 31)) = 9 ∨ Int32.toInt (x1 >>> (4 &&& 31)) = 10 ∨ Int32.toInt (x1 >>> (4 &&& 31)) = 11 ∨ Int32.toInt (x1 >>> (4 &&& 31)) = 12 ∨ Int32.toInt (x1 >>> (4 &&& 31)) = 13 ∨ Int32.toInt (x1 >>> (4 &&& 31)) = 14 ∨ Int32.toInt (x1 >>> (4 &&& 31)) = 15 ∨ Int32.toInt (x1 >>> (4 &&& 31)) = 17 ∨ Int32.toInt (x1 >>> (4 &&& 31)) = 19 ∨ Int32.toInt (x1 >>> (4 &&& 31)) = 20 ∨ Int32.toInt (x1 >>> (4 &&& 31)) = 22 by omega) with q | q | q | q | q | q | q | q | q | q | q | q | q | q <;> (rw [q] at h3; exact (Option.some.inj h3).symm))) ?_
  refine lv_iconst (v := 0) hx hb dX2_perform_236 (by decide) ?_
  have e9 : pX2_perform g mem pf pg pn t z key ld x1 = (0, g, mem, pf, pg, pn, z, key) := by rw [pX2_perform, if_neg w_15_1, if_neg w_15_2, if_neg w_15_3, if_neg w_15_4, if_neg w_15_5, if_neg w_15_16, if_neg w_15_18, if_neg w_15_21, if_neg w_15_23]
  exact m_iret X hr hk V (by rw [e9]) (by rw [e9]) dX2_perform_237
def pX2_doOne (g : Nat → Int32) (mem : Nat → Int32) (loc : Nat → Int32) (pf : Nat → Int32) (pg : Nat → Int32) (pn : Int32) (t : Nat → Int32) (fm : Nat → Int32) (fn : Nat → Int32) (z : Nat → Int32) (key : Nat → Int32) (ld : Nat → Int32) : (Nat → Int32) × (Nat → Int32) × (Nat → Int32) × (Nat → Int32) × (Nat → Int32) × Int32 × (Nat → Int32) × (Nat → Int32) × (Nat → Int32) × (Nat → Int32) × (Nat → Int32) × (Nat → Int32) := (mLet (pX1_decode t fm fn mem (g 1)) (fun (u13 : Int32 × (Nat → Int32) × (Nat → Int32) × (Nat → Int32)) => (if u13.1 = 0 then (mLet (pX2_loadAll (upd (upd (upd g 2 ((g 1) + (u13.2.1 3))) 3 (pX6_widthOf (u13.2.1 0))) 5 u13.1) mem loc pf pn u13.2.1 u13.2.2.1 u13.2.2.2 ld) (fun (u66 : (Nat → Int32) × Int32 × (Nat → Int32)) => (if (u66.1 5) = 0 then (mLet (pX2_perform u66.1 mem pf pg u66.2.1 u13.2.1 z key u66.2.2 (u13.2.1 0)) (fun (u84 : Int32 × (Nat → Int32) × (Nat → Int32) × (Nat → Int32) × (Nat → Int32) × Int32 × (Nat → Int32) × (Nat → Int32)) => (if (u84.2.1 5) = 0 then (if (u13.2.1 2) ≤ (u13.2.1 1) then ((upd (upd u84.2.1 1 (u84.2.1 2)) 6 ((u84.2.1 6) + 1)), u84.2.2.1, loc, u84.2.2.2.1, u84.2.2.2.2.1, u84.2.2.2.2.2.1, u13.2.1, u13.2.2.1, u13.2.2.2, u84.2.2.2.2.2.2.1, u84.2.2.2.2.2.2.2, u66.2.2) else (mLet (pX2_storeOperand u84.2.1 u84.2.2.1 loc u84.2.2.2.1 u84.2.2.2.2.2.1 u13.2.2.1 u13.2.2.2 (u13.2.1 1) u84.1) (fun (u125 : (Nat → Int32) × (Nat → Int32) × (Nat → Int32) × (Nat → Int32) × Int32) => (if (u125.1 5) = 0 then ((upd (upd u125.1 1 (u125.1 2)) 6 ((u125.1 6) + 1)), u125.2.1, u125.2.2.1, u125.2.2.2.1, u84.2.2.2.2.1, u125.2.2.2.2, u13.2.1, u13.2.2.1, u13.2.2.2, u84.2.2.2.2.2.2.1, u84.2.2.2.2.2.2.2, u66.2.2) else (u125.1, u125.2.1, u125.2.2.1, u125.2.2.2.1, u84.2.2.2.2.1, (pX3_growBack u125.2.2.2.2 pn), u13.2.1, u13.2.2.1, u13.2.2.2, u84.2.2.2.2.2.2.1, u84.2.2.2.2.2.2.2, u66.2.2))))) else (mLet (pX3_growBack u84.2.2.2.2.2.1 pn) (fun (u140 : Int32) => (u84.2.1, u84.2.2.1, loc, u84.2.2.2.1, u84.2.2.2.2.1, u140, u13.2.1, u13.2.2.1, u13.2.2.2, u84.2.2.2.2.2.2.1, u84.2.2.2.2.2.2.2, u66.2.2)))))) else (u66.1, mem, loc, pf, pg, (pX3_growBack u66.2.1 pn), u13.2.1, u13.2.2.1, u13.2.2.2, z, key, u66.2.2)))) else ((upd g 5 u13.1), mem, loc, pf, pg, pn, u13.2.1, u13.2.2.1, u13.2.2.2, z, key, ld))))
theorem okX2_doOne : mOk yX2_doOne cX2_doOne 3 none 0 := ⟨gm_222, gm_4, by decide +kernel⟩
set_option maxRecDepth 100000 in
set_option maxHeartbeats 4000000 in
theorem kX2_doOne (l : Launch) (D : va_G) (cB cI : ClassId) (ad : Nat → Nat) (g : Nat → Int32) (mem : Nat → Int32) (loc : Nat → Int32) (pf : Nat → Int32) (pg : Nat → Int32) (pn : Int32) (t : Nat → Int32) (fm : Nat → Int32) (fn : Nat → Int32) (z : Nat → Int32) (key : Nat → Int32) (ld : Nat → Int32) (hf : sb_Fit mem) : mM l D cB cI yX2_doOne cX2_doOne 3 none { frames := 6, cells := 0, slots := 0, locals := 133 } [.ref (ad 0)] (wM cB cI ad g mem loc pf pg pn t fm fn z key ld) none (wM cB cI ad ((pX2_doOne g mem loc pf pg pn t fm fn z key ld).1) ((pX2_doOne g mem loc pf pg pn t fm fn z key ld).2.1) ((pX2_doOne g mem loc pf pg pn t fm fn z key ld).2.2.1) ((pX2_doOne g mem loc pf pg pn t fm fn z key ld).2.2.2.1) ((pX2_doOne g mem loc pf pg pn t fm fn z key ld).2.2.2.2.1) ((pX2_doOne g mem loc pf pg pn t fm fn z key ld).2.2.2.2.2.1) ((pX2_doOne g mem loc pf pg pn t fm fn z key ld).2.2.2.2.2.2.1) ((pX2_doOne g mem loc pf pg pn t fm fn z key ld).2.2.2.2.2.2.2.1) ((pX2_doOne g mem loc pf pg pn t fm fn z key ld).2.2.2.2.2.2.2.2.1) ((pX2_doOne g mem loc pf pg pn t fm fn z key ld).2.2.2.2.2.2.2.2.2.1) ((pX2_doOne g mem loc pf pg pn t fm fn z key ld).2.2.2.2.2.2.2.2.2.2.1) ((pX2_doOne g mem loc pf pg pn t fm fn z key ld).2.2.2.2.2.2.2.2.2.2.2)) := by
  refine m_start (by decide +kernel) (Nat.le_of_ble_eq_true rfl) ?_
  intro p e s m below meth c A ls X hr hk V hl
  have X : mCx p s m _ c cX2_doOne 3 RX2 D cB cI := X
  have hx := X.1.1
  have hb := X.1.2.1
  have hl : lv_has ls 3 [(0, .ref (ad 0))] := hl
  refine lv_aload_n hx hb dX2_doOne_0 rfl (lv_at hl 0 rfl) ?_
  refine lv_aload_n hx hb dX2_doOne_1 rfl (lv_at hl 0 rfl) ?_
  refine m_get X V 2 0 3 rfl gin_2 rfl (by decide) rfl gm_94 (v := .ref (ad 8)) rfl dX2_doOne_2 ?_
  refine lv_aload_n hx hb dX2_doOne_5 rfl (lv_at hl 0 rfl) ?_
  refine m_get X V 2 0 0 rfl gin_2 rfl (by decide) rfl gm_91 (v := .ref (ad 1)) rfl dX2_doOne_6 ?_
  refine lv_aload_n hx hb dX2_doOne_9 rfl (lv_at hl 0 rfl) ?_
  refine m_get X V 2 0 7 rfl gin_2 rfl (by decide) rfl gm_98 (v := .int (g 1)) rfl dX2_doOne_10 ?_
  obtain ⟨u13, hu13⟩ : ∃ u, pX1_decode t fm fn mem (g 1) = u := ⟨_, rfl⟩
  have hM := kX1_decode l D cB cI (ad 8) (ad 9) (ad 10) (ad 1) (ad 2) t fm fn mem (g 1)
  rw [hu13] at hM
  refine m_VN X V (ws' := (wM cB cI ad g mem loc pf pg pn u13.2.1 u13.2.2.1 u13.2.2.2 z key ld)) (rest := [.ref (ad 0)]) (st1 := [.int u13.1, .ref (ad 0)]) hM okX1_decode gm_175 gm_639 nm_23 [8, 9, 10, 1, 2] ⟨⟨rfl, rfl⟩, ⟨by decide, by decide⟩, Nat.zero_le _, Nat.zero_le _⟩ rfl rfl rfl rfl (wFB_fst _ _ _ _ _ _ _ _ _ _ _) (wFB_fst _ _ _ _ _ _ _ _ _ _ _) rfl rfl hl.1 (Nat.le_of_ble_eq_true rfl) dX2_doOne_13 rfl rfl (fun H locs V => ?_)
  refine m_put X V (ws' := (wM cB cI ad (upd g 5 u13.1) mem loc pf pg pn u13.2.1 u13.2.2.1 u13.2.2.2 z key ld)) 2 0 11 rfl gin_2 tyX2_ok nmX2 rfl (by decide) rfl gm_102 rfl rfl rfl (Nat.le_of_ble_eq_true rfl) dX2_doOne_16 rfl (fun H locs V => ?_)
  refine lv_aload_n hx hb dX2_doOne_19 rfl (lv_at hl 0 rfl) ?_
  refine m_get X V 2 0 11 rfl gin_2 rfl (by decide) rfl gm_102 (v := .int u13.1) rfl dX2_doOne_20 ?_
  refine lv_if_eq (tgt := 27) hx hb dX2_doOne_23 (by decide) (fun c_23 => ?_) (fun c_23 => ?_)
  · refine lv_aload_n hx hb dX2_doOne_27 rfl (lv_at hl 0 rfl) ?_
    refine m_get X V 2 0 2 rfl gin_2 rfl (by decide) rfl gm_93 (v := .ref (ad 5)) rfl dX2_doOne_28 ?_
    refine m_getN X V 3 5 2 rfl gin_3 rfl (by decide) rfl nf_1 (v := .int pn) rfl dX2_doOne_31 ?_
    refine lv_istore_n (lv' := [(1, .int pn), (0, .ref (ad 0))]) hx hb dX2_doOne_34 rfl hl (by decide) rfl (fun ls hl => ?_)
    refine lv_aload_n hx hb dX2_doOne_35 rfl (lv_at hl 1 rfl) ?_
    refine lv_aload_n hx hb dX2_doOne_36 rfl (lv_at hl 1 rfl) ?_
    refine m_get X V 2 0 7 rfl gin_2 rfl (by decide) rfl gm_98 (v := .int (g 1)) rfl dX2_doOne_37 ?_
    refine lv_aload_n hx hb dX2_doOne_40 rfl (lv_at hl 1 rfl) ?_
    refine m_get X V 2 0 3 rfl gin_2 rfl (by decide) rfl gm_94 (v := .ref (ad 8)) rfl dX2_doOne_41 ?_
    refine m_getN X V 1 8 5 rfl gin_1 rfl (by decide) rfl nf_8 (v := .int (u13.2.1 3)) rfl dX2_doOne_44 ?_
    refine lv_iadd hx hb dX2_doOne_47 ?_
    refine m_put X V (ws' := (wM cB cI ad (upd (upd g 2 ((g 1) + (u13.2.1 3))) 5 u13.1) mem loc pf pg pn u13.2.1 u13.2.2.1 u13.2.2.2 z key ld)) 2 0 8 rfl gin_2 tyX2_ok nmX2 rfl (by decide) rfl gm_99 rfl rfl rfl (Nat.le_of_ble_eq_true rfl) dX2_doOne_48 rfl (fun H locs V => ?_)
    refine lv_aload_n hx hb dX2_doOne_51 rfl (lv_at hl 1 rfl) ?_
    refine lv_aload_n hx hb dX2_doOne_52 rfl (lv_at hl 1 rfl) ?_
    refine m_get X V 2 0 3 rfl gin_2 rfl (by decide) rfl gm_94 (v := .ref (ad 8)) rfl dX2_doOne_53 ?_
    refine m_getN X V 1 8 2 rfl gin_1 rfl (by decide) rfl nf_3 (v := .int (u13.2.1 0)) rfl dX2_doOne_56 ?_
    refine m_SN X V (rest := [.ref (ad 0)]) (st1 := [.int (pX6_widthOf (u13.2.1 0)), .ref (ad 0)]) (kX6_widthOf l D cB cI (u13.2.1 0)) okX6_widthOf gm_223 nm_24 ⟨⟨rfl, rfl⟩, ⟨by decide, by decide⟩, Nat.zero_le _, Nat.zero_le _⟩ rfl hl.1 (Nat.le_of_ble_eq_true rfl) dX2_doOne_59 rfl rfl (fun H locs V => ?_)
    refine m_put X V (ws' := (wM cB cI ad (upd (upd (upd g 2 ((g 1) + (u13.2.1 3))) 3 (pX6_widthOf (u13.2.1 0))) 5 u13.1) mem loc pf pg pn u13.2.1 u13.2.2.1 u13.2.2.2 z key ld)) 2 0 9 rfl gin_2 tyX2_ok nmX2 rfl (by decide) rfl gm_100 rfl rfl rfl (Nat.le_of_ble_eq_true rfl) dX2_doOne_62 rfl (fun H locs V => ?_)
    refine lv_aload_n hx hb dX2_doOne_65 rfl (lv_at hl 1 rfl) ?_
    obtain ⟨u66, hu66⟩ : ∃ u, pX2_loadAll (upd (upd (upd g 2 ((g 1) + (u13.2.1 3))) 3 (pX6_widthOf (u13.2.1 0))) 5 u13.1) mem loc pf pn u13.2.1 u13.2.2.1 u13.2.2.2 ld = u := ⟨_, rfl⟩
    have hM := kX2_loadAll l D cB cI ad (upd (upd (upd g 2 ((g 1) + (u13.2.1 3))) 3 (pX6_widthOf (u13.2.1 0))) 5 u13.1) mem loc pf pg pn u13.2.1 u13.2.2.1 u13.2.2.2 z key ld
    rw [hu66] at hM
    refine m_VA X V (w1 := (wM cB cI ad u66.1 mem loc pf pg u66.2.1 u13.2.1 u13.2.2.1 u13.2.2.2 z key u66.2.2)) (rest := []) (st1 := []) hM okX2_loadAll gm_226 gm_648 gm_225 ⟨⟨rfl, rfl⟩, ⟨by decide, by decide⟩, Nat.zero_le _, Nat.zero_le _⟩ rfl rfl (wM_fst _ _ _ _ _ _ _ _ _ _ _ _ _ _ _) (wM_fst _ _ _ _ _ _ _ _ _ _ _ _ _ _ _) rfl hl.1 (Nat.le_of_ble_eq_true rfl) dX2_doOne_66 rfl rfl (fun H locs V => ?_)
    refine lv_aload_n hx hb dX2_doOne_69 rfl (lv_at hl 1 rfl) ?_
    refine m_get X V 2 0 11 rfl gin_2 rfl (by decide) rfl gm_102 (v := .int (u66.1 5)) rfl dX2_doOne_70 ?_
    refine lv_if_ne (tgt := 90) hx hb dX2_doOne_73 (by decide) (fun c_73 => ?_) (fun c_73 => ?_)
    · refine lv_iconst (v := 0) hx hb dX2_doOne_90 (by decide) ?_
      refine lv_istore_n (lv' := [(2, .int 0), (1, .int pn), (0, .ref (ad 0))]) hx hb dX2_doOne_91 rfl hl (by decide) rfl (fun ls hl => ?_)
      refine lv_aload_n hx hb dX2_doOne_92 rfl (lv_at hl 2 rfl) ?_
      refine m_get X V 2 0 11 rfl gin_2 rfl (by decide) rfl gm_102 (v := .int (u66.1 5)) rfl dX2_doOne_93 ?_
      refine lv_if_ne (tgt := 128) hx hb dX2_doOne_96 (by decide) (fun _ => ?_) (fun h => absurd h c_73)
      refine lv_aload_n hx hb dX2_doOne_128 rfl (lv_at hl 2 rfl) ?_
      refine m_get X V 2 0 11 rfl gin_2 rfl (by decide) rfl gm_102 (v := .int (u66.1 5)) rfl dX2_doOne_129 ?_
      refine lv_if_eq (tgt := 144) hx hb dX2_doOne_132 (by decide) (fun h => absurd h c_73) (fun _ => ?_)
      refine lv_aload_n hx hb dX2_doOne_135 rfl (lv_at hl 2 rfl) ?_
      refine m_get X V 2 0 2 rfl gin_2 rfl (by decide) rfl gm_93 (v := .ref (ad 5)) rfl dX2_doOne_136 ?_
      refine lv_iload_n hx hb dX2_doOne_139 rfl (lv_at hl 1 rfl) ?_
      refine m_VN X V (ws' := (wM cB cI ad u66.1 mem loc pf pg (pX3_growBack u66.2.1 pn) u13.2.1 u13.2.2.1 u13.2.2.2 z key u66.2.2)) (rest := []) (st1 := []) (kX3_growBack l D cB cI (ad 5) (ad 6) (ad 7) pf pg u66.2.1 pn) okX3_growBack gm_395 gm_696 nm_52 [5, 6, 7] ⟨⟨rfl, rfl⟩, ⟨by decide, by decide⟩, Nat.zero_le _, Nat.zero_le _⟩ rfl rfl rfl rfl (wP_fst _ _ _ _ _ _ _ _) (wP_fst _ _ _ _ _ _ _ _) rfl rfl hl.1 (Nat.le_of_ble_eq_true rfl) dX2_doOne_140 rfl rfl (fun H locs V => ?_)
      have e9 : pX2_doOne g mem loc pf pg pn t fm fn z key ld = (u66.1, mem, loc, pf, pg, (pX3_growBack u66.2.1 pn), u13.2.1, u13.2.2.1, u13.2.2.2, z, key, u66.2.2) := by rw [pX2_doOne, hu13, mLet_eq, if_pos c_23, hu66, mLet_eq, if_neg c_73]
      exact m_vret X hr hk V rfl (by rw [e9]) dX2_doOne_143
    · refine lv_aload_n hx hb dX2_doOne_76 rfl (lv_at hl 1 rfl) ?_
      refine lv_aload_n hx hb dX2_doOne_77 rfl (lv_at hl 1 rfl) ?_
      refine m_get X V 2 0 3 rfl gin_2 rfl (by decide) rfl gm_94 (v := .ref (ad 8)) rfl dX2_doOne_78 ?_
      refine m_getN X V 1 8 2 rfl gin_1 rfl (by decide) rfl nf_3 (v := .int (u13.2.1 0)) rfl dX2_doOne_81 ?_
      obtain ⟨u84, hu84⟩ : ∃ u, pX2_perform u66.1 mem pf pg u66.2.1 u13.2.1 z key u66.2.2 (u13.2.1 0) = u := ⟨_, rfl⟩
      have hM := kX2_perform l D cB cI ad u66.1 mem loc pf pg u66.2.1 u13.2.1 u13.2.2.1 u13.2.2.2 z key u66.2.2 (u13.2.1 0) hf
      rw [hu84] at hM
      refine m_VA X V (w1 := (wM cB cI ad u84.2.1 u84.2.2.1 loc u84.2.2.2.1 u84.2.2.2.2.1 u84.2.2.2.2.2.1 u13.2.1 u13.2.2.1 u13.2.2.2 u84.2.2.2.2.2.2.1 u84.2.2.2.2.2.2.2 u66.2.2)) (rest := []) (st1 := [.int u84.1]) hM okX2_perform gm_250 gm_656 gm_249 ⟨⟨rfl, rfl⟩, ⟨by decide, by decide⟩, Nat.zero_le _, Nat.zero_le _⟩ rfl rfl (wM_fst _ _ _ _ _ _ _ _ _ _ _ _ _ _ _) (wM_fst _ _ _ _ _ _ _ _ _ _ _ _ _ _ _) rfl hl.1 (Nat.le_of_ble_eq_true rfl) dX2_doOne_84 rfl rfl (fun H locs V => ?_)
      refine lv_goto (tgt := 91) hx hb dX2_doOne_87 (by decide) ?_
      refine lv_istore_n (lv' := [(2, .int u84.1), (1, .int pn), (0, .ref (ad 0))]) hx hb dX2_doOne_91 rfl hl (by decide) rfl (fun ls hl => ?_)
      refine lv_aload_n hx hb dX2_doOne_92 rfl (lv_at hl 2 rfl) ?_
      refine m_get X V 2 0 11 rfl gin_2 rfl (by decide) rfl gm_102 (v := .int (u84.2.1 5)) rfl dX2_doOne_93 ?_
      refine lv_if_ne (tgt := 128) hx hb dX2_doOne_96 (by decide) (fun c_96 => ?_) (fun c_96 => ?_)
      · refine lv_aload_n hx hb dX2_doOne_128 rfl (lv_at hl 2 rfl) ?_
        refine m_get X V 2 0 11 rfl gin_2 rfl (by decide) rfl gm_102 (v := .int (u84.2.1 5)) rfl dX2_doOne_129 ?_
        refine lv_if_eq (tgt := 144) hx hb dX2_doOne_132 (by decide) (fun h => absurd h c_96) (fun _ => ?_)
        refine lv_aload_n hx hb dX2_doOne_135 rfl (lv_at hl 2 rfl) ?_
        refine m_get X V 2 0 2 rfl gin_2 rfl (by decide) rfl gm_93 (v := .ref (ad 5)) rfl dX2_doOne_136 ?_
        refine lv_iload_n hx hb dX2_doOne_139 rfl (lv_at hl 1 rfl) ?_
        obtain ⟨u140, hu140⟩ : ∃ u, pX3_growBack u84.2.2.2.2.2.1 pn = u := ⟨_, rfl⟩
        have hM := kX3_growBack l D cB cI (ad 5) (ad 6) (ad 7) u84.2.2.2.1 u84.2.2.2.2.1 u84.2.2.2.2.2.1 pn
        rw [hu140] at hM
        refine m_VN X V (ws' := (wM cB cI ad u84.2.1 u84.2.2.1 loc u84.2.2.2.1 u84.2.2.2.2.1 u140 u13.2.1 u13.2.2.1 u13.2.2.2 u84.2.2.2.2.2.2.1 u84.2.2.2.2.2.2.2 u66.2.2)) (rest := []) (st1 := []) hM okX3_growBack gm_395 gm_696 nm_52 [5, 6, 7] ⟨⟨rfl, rfl⟩, ⟨by decide, by decide⟩, Nat.zero_le _, Nat.zero_le _⟩ rfl rfl rfl rfl (wP_fst _ _ _ _ _ _ _ _) (wP_fst _ _ _ _ _ _ _ _) rfl rfl hl.1 (Nat.le_of_ble_eq_true rfl) dX2_doOne_140 rfl rfl (fun H locs V => ?_)
        have e9 : pX2_doOne g mem loc pf pg pn t fm fn z key ld = (u84.2.1, u84.2.2.1, loc, u84.2.2.2.1, u84.2.2.2.2.1, u140, u13.2.1, u13.2.2.1, u13.2.2.2, u84.2.2.2.2.2.2.1, u84.2.2.2.2.2.2.2, u66.2.2) := by rw [pX2_doOne, hu13, mLet_eq, if_pos c_23, hu66, mLet_eq, if_pos c_73, hu84, mLet_eq, if_neg c_96, hu140, mLet_eq]
        exact m_vret X hr hk V rfl (by rw [e9]) dX2_doOne_143
      · refine lv_aload_n hx hb dX2_doOne_99 rfl (lv_at hl 2 rfl) ?_
        refine m_get X V 2 0 3 rfl gin_2 rfl (by decide) rfl gm_94 (v := .ref (ad 8)) rfl dX2_doOne_100 ?_
        refine m_getN X V 1 8 4 rfl gin_1 rfl (by decide) rfl nf_6 (v := .int (u13.2.1 2)) rfl dX2_doOne_103 ?_
        refine lv_aload_n hx hb dX2_doOne_106 rfl (lv_at hl 2 rfl) ?_
        refine m_get X V 2 0 3 rfl gin_2 rfl (by decide) rfl gm_94 (v := .ref (ad 8)) rfl dX2_doOne_107 ?_
        refine m_getN X V 1 8 3 rfl gin_1 rfl (by decide) rfl nf_5 (v := .int (u13.2.1 1)) rfl dX2_doOne_110 ?_
        refine lv_icmp_le (tgt := 128) hx hb dX2_doOne_113 (by decide) (fun c_113 => ?_) (fun c_113 => ?_)
        · refine lv_aload_n hx hb dX2_doOne_128 rfl (lv_at hl 2 rfl) ?_
          refine m_get X V 2 0 11 rfl gin_2 rfl (by decide) rfl gm_102 (v := .int (u84.2.1 5)) rfl dX2_doOne_129 ?_
          refine lv_if_eq (tgt := 144) hx hb dX2_doOne_132 (by decide) (fun _ => ?_) (fun h => absurd c_96 h)
          refine lv_aload_n hx hb dX2_doOne_144 rfl (lv_at hl 2 rfl) ?_
          refine lv_aload_n hx hb dX2_doOne_145 rfl (lv_at hl 2 rfl) ?_
          refine m_get X V 2 0 8 rfl gin_2 rfl (by decide) rfl gm_99 (v := .int (u84.2.1 2)) rfl dX2_doOne_146 ?_
          refine m_put X V (ws' := (wM cB cI ad (upd u84.2.1 1 (u84.2.1 2)) u84.2.2.1 loc u84.2.2.2.1 u84.2.2.2.2.1 u84.2.2.2.2.2.1 u13.2.1 u13.2.2.1 u13.2.2.2 u84.2.2.2.2.2.2.1 u84.2.2.2.2.2.2.2 u66.2.2)) 2 0 7 rfl gin_2 tyX2_ok nmX2 rfl (by decide) rfl gm_98 rfl rfl rfl (Nat.le_of_ble_eq_true rfl) dX2_doOne_149 rfl (fun H locs V => ?_)
          refine lv_aload_n hx hb dX2_doOne_152 rfl (lv_at hl 2 rfl) ?_
          refine lv_dup hx hb dX2_doOne_153 rfl ?_
          refine m_get X V 2 0 12 rfl gin_2 rfl (by decide) rfl gm_103 (v := .int (u84.2.1 6)) rfl dX2_doOne_154 ?_
          refine lv_iconst (v := 1) hx hb dX2_doOne_157 (by decide) ?_
          refine lv_iadd hx hb dX2_doOne_158 ?_
          refine m_put X V (ws' := (wM cB cI ad (upd (upd u84.2.1 1 (u84.2.1 2)) 6 ((u84.2.1 6) + 1)) u84.2.2.1 loc u84.2.2.2.1 u84.2.2.2.2.1 u84.2.2.2.2.2.1 u13.2.1 u13.2.2.1 u13.2.2.2 u84.2.2.2.2.2.2.1 u84.2.2.2.2.2.2.2 u66.2.2)) 2 0 12 rfl gin_2 tyX2_ok nmX2 rfl (by decide) rfl gm_103 rfl rfl rfl (Nat.le_of_ble_eq_true rfl) dX2_doOne_159 rfl (fun H locs V => ?_)
          have e9 : pX2_doOne g mem loc pf pg pn t fm fn z key ld = ((upd (upd u84.2.1 1 (u84.2.1 2)) 6 ((u84.2.1 6) + 1)), u84.2.2.1, loc, u84.2.2.2.1, u84.2.2.2.2.1, u84.2.2.2.2.2.1, u13.2.1, u13.2.2.1, u13.2.2.2, u84.2.2.2.2.2.2.1, u84.2.2.2.2.2.2.2, u66.2.2) := by rw [pX2_doOne, hu13, mLet_eq, if_pos c_23, hu66, mLet_eq, if_pos c_73, hu84, mLet_eq, if_pos c_96, if_pos c_113]
          exact m_vret X hr hk V rfl (by rw [e9]) dX2_doOne_162
        · refine lv_aload_n hx hb dX2_doOne_116 rfl (lv_at hl 2 rfl) ?_
          refine lv_aload_n hx hb dX2_doOne_117 rfl (lv_at hl 2 rfl) ?_
          refine m_get X V 2 0 3 rfl gin_2 rfl (by decide) rfl gm_94 (v := .ref (ad 8)) rfl dX2_doOne_118 ?_
          refine m_getN X V 1 8 3 rfl gin_1 rfl (by decide) rfl nf_5 (v := .int (u13.2.1 1)) rfl dX2_doOne_121 ?_
          refine lv_iload_n hx hb dX2_doOne_124 rfl (lv_at hl 0 rfl) ?_
          obtain ⟨u125, hu125⟩ : ∃ u, pX2_storeOperand u84.2.1 u84.2.2.1 loc u84.2.2.2.1 u84.2.2.2.2.2.1 u13.2.2.1 u13.2.2.2 (u13.2.1 1) u84.1 = u := ⟨_, rfl⟩
          have hM := kX2_storeOperand l D cB cI ad u84.2.1 u84.2.2.1 loc u84.2.2.2.1 u84.2.2.2.2.1 u84.2.2.2.2.2.1 u13.2.1 u13.2.2.1 u13.2.2.2 u84.2.2.2.2.2.2.1 u84.2.2.2.2.2.2.2 u66.2.2 (u13.2.1 1) u84.1
          rw [hu125] at hM
          refine m_VA X V (w1 := (wM cB cI ad u125.1 u125.2.1 u125.2.2.1 u125.2.2.2.1 u84.2.2.2.2.1 u125.2.2.2.2 u13.2.1 u13.2.2.1 u13.2.2.2 u84.2.2.2.2.2.2.1 u84.2.2.2.2.2.2.2 u66.2.2)) (rest := []) (st1 := []) hM okX2_storeOperand gm_387 gm_693 gm_386 ⟨⟨rfl, rfl⟩, ⟨by decide, by decide⟩, Nat.zero_le _, Nat.zero_le _⟩ rfl rfl (wM_fst _ _ _ _ _ _ _ _ _ _ _ _ _ _ _) (wM_fst _ _ _ _ _ _ _ _ _ _ _ _ _ _ _) rfl hl.1 (Nat.le_of_ble_eq_true rfl) dX2_doOne_125 rfl rfl (fun H locs V => ?_)
          refine lv_aload_n hx hb dX2_doOne_128 rfl (lv_at hl 2 rfl) ?_
          refine m_get X V 2 0 11 rfl gin_2 rfl (by decide) rfl gm_102 (v := .int (u125.1 5)) rfl dX2_doOne_129 ?_
          refine lv_if_eq (tgt := 144) hx hb dX2_doOne_132 (by decide) (fun c_132 => ?_) (fun c_132 => ?_)
          · refine lv_aload_n hx hb dX2_doOne_144 rfl (lv_at hl 2 rfl) ?_
            refine lv_aload_n hx hb dX2_doOne_145 rfl (lv_at hl 2 rfl) ?_
            refine m_get X V 2 0 8 rfl gin_2 rfl (by decide) rfl gm_99 (v := .int (u125.1 2)) rfl dX2_doOne_146 ?_
            refine m_put X V (ws' := (wM cB cI ad (upd u125.1 1 (u125.1 2)) u125.2.1 u125.2.2.1 u125.2.2.2.1 u84.2.2.2.2.1 u125.2.2.2.2 u13.2.1 u13.2.2.1 u13.2.2.2 u84.2.2.2.2.2.2.1 u84.2.2.2.2.2.2.2 u66.2.2)) 2 0 7 rfl gin_2 tyX2_ok nmX2 rfl (by decide) rfl gm_98 rfl rfl rfl (Nat.le_of_ble_eq_true rfl) dX2_doOne_149 rfl (fun H locs V => ?_)
            refine lv_aload_n hx hb dX2_doOne_152 rfl (lv_at hl 2 rfl) ?_
            refine lv_dup hx hb dX2_doOne_153 rfl ?_
            refine m_get X V 2 0 12 rfl gin_2 rfl (by decide) rfl gm_103 (v := .int (u125.1 6)) rfl dX2_doOne_154 ?_
            refine lv_iconst (v := 1) hx hb dX2_doOne_157 (by decide) ?_
            refine lv_iadd hx hb dX2_doOne_158 ?_
            refine m_put X V (ws' := (wM cB cI ad (upd (upd u125.1 1 (u125.1 2)) 6 ((u125.1 6) + 1)) u125.2.1 u125.2.2.1 u125.2.2.2.1 u84.2.2.2.2.1 u125.2.2.2.2 u13.2.1 u13.2.2.1 u13.2.2.2 u84.2.2.2.2.2.2.1 u84.2.2.2.2.2.2.2 u66.2.2)) 2 0 12 rfl gin_2 tyX2_ok nmX2 rfl (by decide) rfl gm_103 rfl rfl rfl (Nat.le_of_ble_eq_true rfl) dX2_doOne_159 rfl (fun H locs V => ?_)
            have e9 : pX2_doOne g mem loc pf pg pn t fm fn z key ld = ((upd (upd u125.1 1 (u125.1 2)) 6 ((u125.1 6) + 1)), u125.2.1, u125.2.2.1, u125.2.2.2.1, u84.2.2.2.2.1, u125.2.2.2.2, u13.2.1, u13.2.2.1, u13.2.2.2, u84.2.2.2.2.2.2.1, u84.2.2.2.2.2.2.2, u66.2.2) := by rw [pX2_doOne, hu13, mLet_eq, if_pos c_23, hu66, mLet_eq, if_pos c_73, hu84, mLet_eq, if_pos c_96, if_neg c_113, hu125, mLet_eq, if_pos c_132]
            exact m_vret X hr hk V rfl (by rw [e9]) dX2_doOne_162
          · refine lv_aload_n hx hb dX2_doOne_135 rfl (lv_at hl 2 rfl) ?_
            refine m_get X V 2 0 2 rfl gin_2 rfl (by decide) rfl gm_93 (v := .ref (ad 5)) rfl dX2_doOne_136 ?_
            refine lv_iload_n hx hb dX2_doOne_139 rfl (lv_at hl 1 rfl) ?_
            refine m_VN X V (ws' := (wM cB cI ad u125.1 u125.2.1 u125.2.2.1 u125.2.2.2.1 u84.2.2.2.2.1 (pX3_growBack u125.2.2.2.2 pn) u13.2.1 u13.2.2.1 u13.2.2.2 u84.2.2.2.2.2.2.1 u84.2.2.2.2.2.2.2 u66.2.2)) (rest := []) (st1 := []) (kX3_growBack l D cB cI (ad 5) (ad 6) (ad 7) u125.2.2.2.1 u84.2.2.2.2.1 u125.2.2.2.2 pn) okX3_growBack gm_395 gm_696 nm_52 [5, 6, 7] ⟨⟨rfl, rfl⟩, ⟨by decide, by decide⟩, Nat.zero_le _, Nat.zero_le _⟩ rfl rfl rfl rfl (wP_fst _ _ _ _ _ _ _ _) (wP_fst _ _ _ _ _ _ _ _) rfl rfl hl.1 (Nat.le_of_ble_eq_true rfl) dX2_doOne_140 rfl rfl (fun H locs V => ?_)
            have e9 : pX2_doOne g mem loc pf pg pn t fm fn z key ld = (u125.1, u125.2.1, u125.2.2.1, u125.2.2.2.1, u84.2.2.2.2.1, (pX3_growBack u125.2.2.2.2 pn), u13.2.1, u13.2.2.1, u13.2.2.2, u84.2.2.2.2.2.2.1, u84.2.2.2.2.2.2.2, u66.2.2) := by rw [pX2_doOne, hu13, mLet_eq, if_pos c_23, hu66, mLet_eq, if_pos c_73, hu84, mLet_eq, if_pos c_96, if_neg c_113, hu125, mLet_eq, if_neg c_132]
            exact m_vret X hr hk V rfl (by rw [e9]) dX2_doOne_143
  · have e9 : pX2_doOne g mem loc pf pg pn t fm fn z key ld = ((upd g 5 u13.1), mem, loc, pf, pg, pn, u13.2.1, u13.2.2.1, u13.2.2.2, z, key, ld) := by rw [pX2_doOne, hu13, mLet_eq, if_neg c_23]
    exact m_vret X hr hk V rfl (by rw [e9]) dX2_doOne_26
