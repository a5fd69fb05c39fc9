theorem ne_of_pos {x : Int32} (h : 0 < x.toInt) : ¬ x = 0 := fun e => by rw [e] at h; exact absurd h (by decide)
theorem rem_bd {a b : Int32} (h : 0 < b.toInt) : -b.toInt < (a - a / b * b).toInt ∧ (a - a / b * b).toInt < b.toInt := by
  have h0 := i32_le a
  have h1 := i32_ge a
  have h2 := i32_le b
  have hd : (a / b).toInt = (a.toInt.tdiv b.toInt).bmod (2 ^ 32) := Int32.toInt_div a b
  have ht := Int.tmod_add_mul_tdiv a.toInt b.toInt
  have l1 := Int.tmod_lt_of_pos a.toInt h
  have l2 := Int.lt_tmod_of_pos a.toInt h
  have e : (a - a / b * b).toInt = a.toInt.tmod b.toInt := by
    rw [Int32.toInt_sub, Int32.toInt_mul, hd]
    have : a.toInt.tmod b.toInt = a.toInt - b.toInt * a.toInt.tdiv b.toInt := by omega
    rw [Int.bmod_mul_bmod, Int.sub_bmod_bmod, Int.mul_comm, ← this]
    exact Int.bmod_eq_of_le (by omega) (by omega)
  omega
def pX8_load (v : Nat → Int32) (qm : Nat → Int32) (ql : Nat → Int32) (qs : Nat → Int32) (qd : Nat → Int32) (qn : Nat → Int32) (qo : Nat → Int32) (x1 : Int32) (x2 : Int32) : Int32 × (Nat → Int32) × (Nat → Int32) := (if 4 ≤ (qd (Int32.toNatClampNeg x1)) then (if (qd (Int32.toNatClampNeg x1)) = 8 then (if (v 0) = 0 then (4, v, qo) else (mLet (pX8_lowest (qs (Int32.toNatClampNeg ((v 0) - 1))) x2) (fun (u82 : Int32) => (0, (upd v 0 ((v 0) - 1)), (upd qo (Int32.toNatClampNeg x1) u82))))) else (if (qd (Int32.toNatClampNeg x1)) ≤ 8 then (if (qd (Int32.toNatClampNeg x1)) ≤ 12 then (if (pX8_isIn (qn (Int32.toNatClampNeg x1)) x2) = 0 then (1, v, qo) else (mLet (pX8_numberAt qm (qn (Int32.toNatClampNeg x1)) x2) (fun (u172 : Int32) => (0, v, (upd qo (Int32.toNatClampNeg x1) u172))))) else (if (pX8_isIn ((v 2) + (qn (Int32.toNatClampNeg x1))) x2) = 0 then (1, v, qo) else (mLet (pX8_numberAt qm ((v 2) + (qn (Int32.toNatClampNeg x1))) x2) (fun (u172 : Int32) => (0, v, (upd qo (Int32.toNatClampNeg x1) u172)))))) else (if 12 ≤ (qd (Int32.toNatClampNeg x1)) then (if (qd (Int32.toNatClampNeg x1)) ≤ 12 then (if (pX8_isIn (qn (Int32.toNatClampNeg x1)) x2) = 0 then (1, v, qo) else (mLet (pX8_numberAt qm (qn (Int32.toNatClampNeg x1)) x2) (fun (u172 : Int32) => (0, v, (upd qo (Int32.toNatClampNeg x1) u172))))) else (if (pX8_isIn ((v 2) + (qn (Int32.toNatClampNeg x1))) x2) = 0 then (1, v, qo) else (mLet (pX8_numberAt qm ((v 2) + (qn (Int32.toNatClampNeg x1))) x2) (fun (u172 : Int32) => (0, v, (upd qo (Int32.toNatClampNeg x1) u172)))))) else (if (qn (Int32.toNatClampNeg x1)) < 0 then (7, v, qo) else (if (qn (Int32.toNatClampNeg x1)) ≤ (64 - x2) then (mLet (pX8_localAt ql (qn (Int32.toNatClampNeg x1)) x2) (fun (u126 : Int32) => (0, v, (upd qo (Int32.toNatClampNeg x1) u126)))) else (7, v, qo)))))) else (if (qd (Int32.toNatClampNeg x1)) = 0 then (0, v, (upd qo (Int32.toNatClampNeg x1) (pX8_lowest 0 x2))) else (mLet (pX8_lowest (qn (Int32.toNatClampNeg x1)) x2) (fun (u36 : Int32) => (0, v, (upd qo (Int32.toNatClampNeg x1) u36))))))
theorem okX8_load : mOk yX8_load cX8_load 6 (some .int) 2 := ⟨gm_535, gm_8, by decide +kernel⟩
set_option maxRecDepth 100000 in
set_option maxHeartbeats 4000000 in
theorem kX8_load (l : Launch) (D : va_G) (cB cI : ClassId) (bd : Nat → Nat) (v : Nat → Int32) (qm : Nat → Int32) (ql : Nat → Int32) (qs : Nat → Int32) (qk : Nat → Int32) (qd : Nat → Int32) (qn : Nat → Int32) (qe : Nat → Int32) (qf : Nat → Int32) (qo : Nat → Int32) (qt : Nat → Int32) (qi : Nat → Int32) (qy : Nat → Int32) (x1 : Int32) (x2 : Int32) (hk8 : 0 ≤ Int32.toInt x1 ∧ Int32.toInt x1 < 8) (hw : 1 ≤ Int32.toInt x2 ∧ Int32.toInt x2 ≤ 4) (ht : 0 ≤ Int32.toInt (v 0) ∧ Int32.toInt (v 0) ≤ 40) : mM l D cB cI yX8_load cX8_load 6 (some .int) { frames := 1, cells := 0, slots := 0, locals := 24 } [.ref (bd 0), .int x1, .int x2] (wR cB cI bd v qm ql qs qk qd qn qe qf qo qt qi qy) (some ((pX8_load v qm ql qs qd qn qo x1 x2).1)) (wR cB cI bd ((pX8_load v qm ql qs qd qn qo x1 x2).2.1) qm ql qs qk qd qn qe qf ((pX8_load v qm ql qs qd qn qo x1 x2).2.2) qt qi qy) := by
  refine m_start (by decide +kernel) (Nat.le_of_ble_eq_true rfl) ?_
  intro p e s m below meth c A ls X hr hk V hl
  have X : mCx p s m _ c cX8_load 6 RX8 D cB cI := X
  have hx := X.1.1
  have hb := X.1.2.1
  have hl : lv_has ls 6 [(0, .ref (bd 0)), (1, .int x1), (2, .int x2)] := hl
  refine lv_aload_n hx hb dX8_load_0 rfl (lv_at hl 0 rfl) ?_
  refine m_get X V 6 0 13 rfl gin_6 rfl (by decide) rfl gm_436 (v := .ref (bd 5)) rfl dX8_load_1 ?_
  refine lv_iload_n hx hb dX8_load_4 rfl (lv_at hl 1 rfl) ?_
  refine m_iald X V 5 rfl (by rw [vp_in_iff]; omega) dX8_load_5 ?_
  refine lv_istore_n (lv' := [(3, .int (qd (Int32.toNatClampNeg x1))), (0, .ref (bd 0)), (1, .int x1), (2, .int x2)]) hx hb dX8_load_6 rfl hl (by decide) rfl (fun ls hl => ?_)
  refine lv_aload_n hx hb dX8_load_7 rfl (lv_at hl 1 rfl) ?_
  refine m_get X V 6 0 14 rfl gin_6 rfl (by decide) rfl gm_437 (v := .ref (bd 6)) rfl dX8_load_8 ?_
  refine lv_iload_n hx hb dX8_load_11 rfl (lv_at hl 2 rfl) ?_
  refine m_iald X V 6 rfl (by rw [vp_in_iff]; omega) dX8_load_12 ?_
  refine lv_istore (lv' := [(4, .int (qn (Int32.toNatClampNeg x1))), (3, .int (qd (Int32.toNatClampNeg x1))), (0, .ref (bd 0)), (1, .int x1), (2, .int x2)]) hx hb dX8_load_13 hl (by decide) rfl (fun ls hl => ?_)
  refine lv_iload_n hx hb dX8_load_15 rfl (lv_at hl 1 rfl) ?_
  refine lv_iconst (v := 4) hx hb dX8_load_16 (by decide) ?_
  refine lv_icmp_ge (tgt := 42) hx hb dX8_load_17 (by decide) (fun c_17 => ?_) (fun c_17 => ?_)
  · refine lv_iload_n hx hb dX8_load_42 rfl (lv_at hl 1 rfl) ?_
    refine lv_bipush (v := 8) hx hb dX8_load_43 (by decide) ?_
    refine lv_icmp_ne (tgt := 88) hx hb dX8_load_45 (by decide) (fun c_45 => ?_) (fun c_45 => ?_)
    · refine lv_iload_n hx hb dX8_load_88 rfl (lv_at hl 1 rfl) ?_
      refine lv_bipush (v := 8) hx hb dX8_load_89 (by decide) ?_
      refine lv_icmp_le (tgt := 132) hx hb dX8_load_91 (by decide) (fun c_91 => ?_) (fun c_91 => ?_)
      · refine lv_iload_n hx hb dX8_load_132 rfl (lv_at hl 1 rfl) ?_
        refine lv_bipush (v := 12) hx hb dX8_load_133 (by decide) ?_
        refine lv_icmp_le (tgt := 148) hx hb dX8_load_135 (by decide) (fun c_135 => ?_) (fun c_135 => ?_)
        · refine lv_iload hx hb dX8_load_148 (lv_at hl 0 rfl) ?_
          refine lv_istore (lv' := [(5, .int (qn (Int32.toNatClampNeg x1))), (4, .int (qn (Int32.toNatClampNeg x1))), (3, .int (qd (Int32.toNatClampNeg x1))), (0, .ref (bd 0)), (1, .int x1), (2, .int x2)]) hx hb dX8_load_150 hl (by decide) rfl (fun ls hl => ?_)
          refine lv_iload hx hb dX8_load_152 (lv_at hl 0 rfl) ?_
          refine lv_iload_n hx hb dX8_load_154 rfl (lv_at hl 5 rfl) ?_
          refine m_S X V (rest := []) (st1 := [.int (pX8_isIn (qn (Int32.toNatClampNeg x1)) x2)]) (kX8_isIn l D cB cI (qn (Int32.toNatClampNeg x1)) x2) okX8_isIn gm_544 gm_543 ⟨⟨rfl, rfl⟩, ⟨by decide, by decide⟩, Nat.zero_le _, Nat.zero_le _⟩ rfl hl.1 (Nat.le_of_ble_eq_true rfl) dX8_load_155 rfl rfl (fun H locs V => ?_)
          refine lv_if_ne (tgt := 163) hx hb dX8_load_158 (by decide) (fun c_158 => ?_) (fun c_158 => ?_)
          · refine lv_aload_n hx hb dX8_load_163 rfl (lv_at hl 3 rfl) ?_
            refine m_get X V 6 0 21 rfl gin_6 rfl (by decide) rfl gm_444 (v := .ref (bd 9)) rfl dX8_load_164 ?_
            refine lv_iload_n hx hb dX8_load_167 rfl (lv_at hl 4 rfl) ?_
            refine lv_aload_n hx hb dX8_load_168 rfl (lv_at hl 3 rfl) ?_
            refine lv_iload hx hb dX8_load_169 (lv_at hl 0 rfl) ?_
            refine lv_iload_n hx hb dX8_load_171 rfl (lv_at hl 5 rfl) ?_
            obtain ⟨u172, hu172⟩ : ∃ u, pX8_numberAt qm (qn (Int32.toNatClampNeg x1)) x2 = u := ⟨_, rfl⟩
            have hM := kX8_numberAt l D cB cI bd v qm ql qs qk qd qn qe qf qo qt qi qy (qn (Int32.toNatClampNeg x1)) x2 (show 0 ≤ Int32.toInt (qn (Int32.toNatClampNeg x1)) ∧ Int32.toInt (qn (Int32.toNatClampNeg x1)) + Int32.toInt x2 ≤ 1024 by have e_1 : Int32.toInt 4 = 4 := rfl; have f_3 : Int32.toInt 4 ≤ Int32.toInt (qd (Int32.toNatClampNeg x1)) := Int32.le_iff_toInt_le.mp c_17; have e_4 : Int32.toInt 8 = 8 := rfl; have f_5 : ¬ Int32.toInt (qd (Int32.toNatClampNeg x1)) = Int32.toInt 8 := fun q => c_45 (Int32.toInt_inj.mp q); have f_6 : Int32.toInt (qd (Int32.toNatClampNeg x1)) ≤ Int32.toInt 8 := Int32.le_iff_toInt_le.mp c_91; have e_7 : Int32.toInt 12 = 12 := rfl; have f_8 : Int32.toInt (qd (Int32.toNatClampNeg x1)) ≤ Int32.toInt 12 := Int32.le_iff_toInt_le.mp c_135; have f_10 := isIn_spec (a := (qn (Int32.toNatClampNeg x1))) (n := x2) (by omega) c_158; omega)
            rw [hu172] at hM
            refine m_VA X V (w1 := (wR cB cI bd v qm ql qs qk qd qn qe qf qo qt qi qy)) (rest := [.int x1, .ref (bd 9)]) (st1 := [.int u172, .int x1, .ref (bd 9)]) hM okX8_numberAt gm_510 gm_698 gm_509 ⟨⟨rfl, rfl⟩, ⟨by decide, by decide⟩, Nat.zero_le _, Nat.zero_le _⟩ rfl rfl (wR_fst _ _ _ _ _ _ _ _ _ _ _ _ _ _ _ _) (wR_fst _ _ _ _ _ _ _ _ _ _ _ _ _ _ _ _) rfl hl.1 (Nat.le_of_ble_eq_true rfl) dX8_load_172 rfl rfl (fun H locs V => ?_)
            refine m_iast X V (ws' := (wR cB cI bd v qm ql qs qk qd qn qe qf (upd qo (Int32.toNatClampNeg x1) u172) qt qi qy)) 9 rfl (by have e_1 : Int32.toInt 4 = 4 := rfl; have f_3 : Int32.toInt 4 ≤ Int32.toInt (qd (Int32.toNatClampNeg x1)) := Int32.le_iff_toInt_le.mp c_17; have e_4 : Int32.toInt 8 = 8 := rfl; have f_5 : ¬ Int32.toInt (qd (Int32.toNatClampNeg x1)) = Int32.toInt 8 := fun q => c_45 (Int32.toInt_inj.mp q); have f_6 : Int32.toInt (qd (Int32.toNatClampNeg x1)) ≤ Int32.toInt 8 := Int32.le_iff_toInt_le.mp c_91; have e_7 : Int32.toInt 12 = 12 := rfl; have f_8 : Int32.toInt (qd (Int32.toNatClampNeg x1)) ≤ Int32.toInt 12 := Int32.le_iff_toInt_le.mp c_135; have f_10 := isIn_spec (a := (qn (Int32.toNatClampNeg x1))) (n := x2) (by omega) c_158; rw [vp_in_iff]; omega) dX8_load_175 rfl (fun H locs V => ?_)
            refine lv_iconst (v := 0) hx hb dX8_load_176 (by decide) ?_
            have e9 : pX8_load v qm ql qs qd qn qo x1 x2 = (0, v, (upd qo (Int32.toNatClampNeg x1) u172)) := by rw [pX8_load, if_pos c_17, if_neg c_45, if_pos c_91, if_pos c_135, if_neg c_158, hu172, mLet_eq]
            exact m_iret X hr hk V (by rw [e9]) (by rw [e9]) dX8_load_177
          · refine lv_iconst (v := 1) hx hb dX8_load_161 (by decide) ?_
            have e9 : pX8_load v qm ql qs qd qn qo x1 x2 = (1, v, qo) := by rw [pX8_load, if_pos c_17, if_neg c_45, if_pos c_91, if_pos c_135, if_pos c_158]
            exact m_iret X hr hk V (by rw [e9]) (by rw [e9]) dX8_load_162
        · refine lv_aload_n hx hb dX8_load_138 rfl (lv_at hl 2 rfl) ?_
          refine m_get X V 6 0 6 rfl gin_6 rfl (by decide) rfl gm_429 (v := .int (v 2)) rfl dX8_load_139 ?_
          refine lv_iload hx hb dX8_load_142 (lv_at hl 0 rfl) ?_
          refine lv_iadd hx hb dX8_load_144 ?_
          refine lv_goto (tgt := 150) hx hb dX8_load_145 (by decide) ?_
          refine lv_istore (lv' := [(5, .int ((v 2) + (qn (Int32.toNatClampNeg x1)))), (4, .int (qn (Int32.toNatClampNeg x1))), (3, .int (qd (Int32.toNatClampNeg x1))), (0, .ref (bd 0)), (1, .int x1), (2, .int x2)]) hx hb dX8_load_150 hl (by decide) rfl (fun ls hl => ?_)
          refine lv_iload hx hb dX8_load_152 (lv_at hl 0 rfl) ?_
          refine lv_iload_n hx hb dX8_load_154 rfl (lv_at hl 5 rfl) ?_
          refine m_S X V (rest := []) (st1 := [.int (pX8_isIn ((v 2) + (qn (Int32.toNatClampNeg x1))) x2)]) (kX8_isIn l D cB cI ((v 2) + (qn (Int32.toNatClampNeg x1))) x2) okX8_isIn gm_544 gm_543 ⟨⟨rfl, rfl⟩, ⟨by decide, by decide⟩, Nat.zero_le _, Nat.zero_le _⟩ rfl hl.1 (Nat.le_of_ble_eq_true rfl) dX8_load_155 rfl rfl (fun H locs V => ?_)
          refine lv_if_ne (tgt := 163) hx hb dX8_load_158 (by decide) (fun c_158 => ?_) (fun c_158 => ?_)
          · refine lv_aload_n hx hb dX8_load_163 rfl (lv_at hl 3 rfl) ?_
            refine m_get X V 6 0 21 rfl gin_6 rfl (by decide) rfl gm_444 (v := .ref (bd 9)) rfl dX8_load_164 ?_
            refine lv_iload_n hx hb dX8_load_167 rfl (lv_at hl 4 rfl) ?_
            refine lv_aload_n hx hb dX8_load_168 rfl (lv_at hl 3 rfl) ?_
            refine lv_iload hx hb dX8_load_169 (lv_at hl 0 rfl) ?_
            refine lv_iload_n hx hb dX8_load_171 rfl (lv_at hl 5 rfl) ?_
            obtain ⟨u172, hu172⟩ : ∃ u, pX8_numberAt qm ((v 2) + (qn (Int32.toNatClampNeg x1))) x2 = u := ⟨_, rfl⟩
            have hM := kX8_numberAt l D cB cI bd v qm ql qs qk qd qn qe qf qo qt qi qy ((v 2) + (qn (Int32.toNatClampNeg x1))) x2 (show 0 ≤ Int32.toInt ((v 2) + (qn (Int32.toNatClampNeg x1))) ∧ Int32.toInt ((v 2) + (qn (Int32.toNatClampNeg x1))) + Int32.toInt x2 ≤ 1024 by have e_1 : Int32.toInt 4 = 4 := rfl; have f_3 : Int32.toInt 4 ≤ Int32.toInt (qd (Int32.toNatClampNeg x1)) := Int32.le_iff_toInt_le.mp c_17; have e_4 : Int32.toInt 8 = 8 := rfl; have f_5 : ¬ Int32.toInt (qd (Int32.toNatClampNeg x1)) = Int32.toInt 8 := fun q => c_45 (Int32.toInt_inj.mp q); have f_6 : Int32.toInt (qd (Int32.toNatClampNeg x1)) ≤ Int32.toInt 8 := Int32.le_iff_toInt_le.mp c_91; have e_7 : Int32.toInt 12 = 12 := rfl; have f_8 : ¬ Int32.toInt (qd (Int32.toNatClampNeg x1)) ≤ Int32.toInt 12 := fun q => c_135 (Int32.le_iff_toInt_le.mpr q); have f_10 := isIn_spec (a := ((v 2) + (qn (Int32.toNatClampNeg x1)))) (n := x2) (by omega) c_158; omega)
            rw [hu172] at hM
            refine m_VA X V (w1 := (wR cB cI bd v qm ql qs qk qd qn qe qf qo qt qi qy)) (rest := [.int x1, .ref (bd 9)]) (st1 := [.int u172, .int x1, .ref (bd 9)]) hM okX8_numberAt gm_510 gm_698 gm_509 ⟨⟨rfl, rfl⟩, ⟨by decide, by decide⟩, Nat.zero_le _, Nat.zero_le _⟩ rfl rfl (wR_fst _ _ _ _ _ _ _ _ _ _ _ _ _ _ _ _) (wR_fst _ _ _ _ _ _ _ _ _ _ _ _ _ _ _ _) rfl hl.1 (Nat.le_of_ble_eq_true rfl) dX8_load_172 rfl rfl (fun H locs V => ?_)
            refine m_iast X V (ws' := (wR cB cI bd v qm ql qs qk qd qn qe qf (upd qo (Int32.toNatClampNeg x1) u172) qt qi qy)) 9 rfl (by have e_1 : Int32.toInt 4 = 4 := rfl; have f_3 : Int32.toInt 4 ≤ Int32.toInt (qd (Int32.toNatClampNeg x1)) := Int32.le_iff_toInt_le.mp c_17; have e_4 : Int32.toInt 8 = 8 := rfl; have f_5 : ¬ Int32.toInt (qd (Int32.toNatClampNeg x1)) = Int32.toInt 8 := fun q => c_45 (Int32.toInt_inj.mp q); have f_6 : Int32.toInt (qd (Int32.toNatClampNeg x1)) ≤ Int32.toInt 8 := Int32.le_iff_toInt_le.mp c_91; have e_7 : Int32.toInt 12 = 12 := rfl; have f_8 : ¬ Int32.toInt (qd (Int32.toNatClampNeg x1)) ≤ Int32.toInt 12 := fun q => c_135 (Int32.le_iff_toInt_le.mpr q); have f_10 := isIn_spec (a := ((v 2) + (qn (Int32.toNatClampNeg x1)))) (n := x2) (by omega) c_158; rw [vp_in_iff]; omega) dX8_load_175 rfl (fun H locs V => ?_)
            refine lv_iconst (v := 0) hx hb dX8_load_176 (by decide) ?_
            have e9 : pX8_load v qm ql qs qd qn qo x1 x2 = (0, v, (upd qo (Int32.toNatClampNeg x1) u172)) := by rw [pX8_load, if_pos c_17, if_neg c_45, if_pos c_91, if_neg c_135, if_neg c_158, hu172, mLet_eq]
            exact m_iret X hr hk V (by rw [e9]) (by rw [e9]) dX8_load_177
          · refine lv_iconst (v := 1) hx hb dX8_load_161 (by decide) ?_
            have e9 : pX8_load v qm ql qs qd qn qo x1 x2 = (1, v, qo) := by rw [pX8_load, if_pos c_17, if_neg c_45, if_pos c_91, if_neg c_135, if_pos c_158]
            exact m_iret X hr hk V (by rw [e9]) (by rw [e9]) dX8_load_162
      · refine lv_iload_n hx hb dX8_load_94 rfl (lv_at hl 1 rfl) ?_
        refine lv_bipush (v := 12) hx hb dX8_load_95 (by decide) ?_
        refine lv_icmp_ge (tgt := 132) hx hb dX8_load_97 (by decide) (fun c_97 => ?_) (fun c_97 => ?_)
        · refine lv_iload_n hx hb dX8_load_132 rfl (lv_at hl 1 rfl) ?_
          refine lv_bipush (v := 12) hx hb dX8_load_133 (by decide) ?_
          refine lv_icmp_le (tgt := 148) hx hb dX8_load_135 (by decide) (fun c_135 => ?_) (fun c_135 => ?_)
          · refine lv_iload hx hb dX8_load_148 (lv_at hl 0 rfl) ?_
            refine lv_istore (lv' := [(5, .int (qn (Int32.toNatClampNeg x1))), (4, .int (qn (Int32.toNatClampNeg x1))), (3, .int (qd (Int32.toNatClampNeg x1))), (0, .ref (bd 0)), (1, .int x1), (2, .int x2)]) hx hb dX8_load_150 hl (by decide) rfl (fun ls hl => ?_)
            refine lv_iload hx hb dX8_load_152 (lv_at hl 0 rfl) ?_
            refine lv_iload_n hx hb dX8_load_154 rfl (lv_at hl 5 rfl) ?_
            refine m_S X V (rest := []) (st1 := [.int (pX8_isIn (qn (Int32.toNatClampNeg x1)) x2)]) (kX8_isIn l D cB cI (qn (Int32.toNatClampNeg x1)) x2) okX8_isIn gm_544 gm_543 ⟨⟨rfl, rfl⟩, ⟨by decide, by decide⟩, Nat.zero_le _, Nat.zero_le _⟩ rfl hl.1 (Nat.le_of_ble_eq_true rfl) dX8_load_155 rfl rfl (fun H locs V => ?_)
            refine lv_if_ne (tgt := 163) hx hb dX8_load_158 (by decide) (fun c_158 => ?_) (fun c_158 => ?_)
            · refine lv_aload_n hx hb dX8_load_163 rfl (lv_at hl 3 rfl) ?_
              refine m_get X V 6 0 21 rfl gin_6 rfl (by decide) rfl gm_444 (v := .ref (bd 9)) rfl dX8_load_164 ?_
              refine lv_iload_n hx hb dX8_load_167 rfl (lv_at hl 4 rfl) ?_
              refine lv_aload_n hx hb dX8_load_168 rfl (lv_at hl 3 rfl) ?_
              refine lv_iload hx hb dX8_load_169 (lv_at hl 0 rfl) ?_
              refine lv_iload_n hx hb dX8_load_171 rfl (lv_at hl 5 rfl) ?_
              obtain ⟨u172, hu172⟩ : ∃ u, pX8_numberAt qm (qn (Int32.toNatClampNeg x1)) x2 = u := ⟨_, rfl⟩
              have hM := kX8_numberAt l D cB cI bd v qm ql qs qk qd qn qe qf qo qt qi qy (qn (Int32.toNatClampNeg x1)) x2 (show 0 ≤ Int32.toInt (qn (Int32.toNatClampNeg x1)) ∧ Int32.toInt (qn (Int32.toNatClampNeg x1)) + Int32.toInt x2 ≤ 1024 by have e_1 : Int32.toInt 4 = 4 := rfl; have f_3 : Int32.toInt 4 ≤ Int32.toInt (qd (Int32.toNatClampNeg x1)) := Int32.le_iff_toInt_le.mp c_17; have e_4 : Int32.toInt 8 = 8 := rfl; have f_5 : ¬ Int32.toInt (qd (Int32.toNatClampNeg x1)) = Int32.toInt 8 := fun q => c_45 (Int32.toInt_inj.mp q); have f_6 : ¬ Int32.toInt (qd (Int32.toNatClampNeg x1)) ≤ Int32.toInt 8 := fun q => c_91 (Int32.le_iff_toInt_le.mpr q); have e_7 : Int32.toInt 12 = 12 := rfl; have f_8 : Int32.toInt 12 ≤ Int32.toInt (qd (Int32.toNatClampNeg x1)) := Int32.le_iff_toInt_le.mp c_97; have f_9 : Int32.toInt (qd (Int32.toNatClampNeg x1)) ≤ Int32.toInt 12 := Int32.le_iff_toInt_le.mp c_135; have f_11 := isIn_spec (a := (qn (Int32.toNatClampNeg x1))) (n := x2) (by omega) c_158; omega)
              rw [hu172] at hM
              refine m_VA X V (w1 := (wR cB cI bd v qm ql qs qk qd qn qe qf qo qt qi qy)) (rest := [.int x1, .ref (bd 9)]) (st1 := [.int u172, .int x1, .ref (bd 9)]) hM okX8_numberAt gm_510 gm_698 gm_509 ⟨⟨rfl, rfl⟩, ⟨by decide, by decide⟩, Nat.zero_le _, Nat.zero_le _⟩ rfl rfl (wR_fst _ _ _ _ _ _ _ _ _ _ _ _ _ _ _ _) (wR_fst _ _ _ _ _ _ _ _ _ _ _ _ _ _ _ _) rfl hl.1 (Nat.le_of_ble_eq_true rfl) dX8_load_172 rfl rfl (fun H locs V => ?_)
              refine m_iast X V (ws' := (wR cB cI bd v qm ql qs qk qd qn qe qf (upd qo (Int32.toNatClampNeg x1) u172) qt qi qy)) 9 rfl (by have e_1 : Int32.toInt 4 = 4 := rfl; have f_3 : Int32.toInt 4 ≤ Int32.toInt (qd (Int32.toNatClampNeg x1)) := Int32.le_iff_toInt_le.mp c_17; have e_4 : Int32.toInt 8 = 8 := rfl; have f_5 : ¬ Int32.toInt (qd (Int32.toNatClampNeg x1)) = Int32.toInt 8 := fun q => c_45 (Int32.toInt_inj.mp q); have f_6 : ¬ Int32.toInt (qd (Int32.toNatClampNeg x1)) ≤ Int32.toInt 8 := fun q => c_91 (Int32.le_iff_toInt_le.mpr q); have e_7 : Int32.toInt 12 = 12 := rfl; have f_8 : Int32.toInt 12 ≤ Int32.toInt (qd (Int32.toNatClampNeg x1)) := Int32.le_iff_toInt_le.mp c_97; have f_9 : Int32.toInt (qd (Int32.toNatClampNeg x1)) ≤ Int32.toInt 12 := Int32.le_iff_toInt_le.mp c_135; have f_11 := isIn_spec (a := (qn (Int32.toNatClampNeg x1))) (n := x2) (by omega) c_158; rw [vp_in_iff]; omega) dX8_load_175 rfl (fun H locs V => ?_)
              refine lv_iconst (v := 0) hx hb dX8_load_176 (by decide) ?_
              have e9 : pX8_load v qm ql qs qd qn qo x1 x2 = (0, v, (upd qo (Int32.toNatClampNeg x1) u172)) := by rw [pX8_load, if_pos c_17, if_neg c_45, if_neg c_91, if_pos c_97, if_pos c_135, if_neg c_158, hu172, mLet_eq]
              exact m_iret X hr hk V (by rw [e9]) (by rw [e9]) dX8_load_177
            · refine lv_iconst (v := 1) hx hb dX8_load_161 (by decide) ?_
              have e9 : pX8_load v qm ql qs qd qn qo x1 x2 = (1, v, qo) := by rw [pX8_load, if_pos c_17, if_neg c_45, if_neg c_91, if_pos c_97, if_pos c_135, if_pos c_158]
              exact m_iret X hr hk V (by rw [e9]) (by rw [e9]) dX8_load_162
          · refine lv_aload_n hx hb dX8_load_138 rfl (lv_at hl 2 rfl) ?_
            refine m_get X V 6 0 6 rfl gin_6 rfl (by decide) rfl gm_429 (v := .int (v 2)) rfl dX8_load_139 ?_
            refine lv_iload hx hb dX8_load_142 (lv_at hl 0 rfl) ?_
            refine lv_iadd hx hb dX8_load_144 ?_
            refine lv_goto (tgt := 150) hx hb dX8_load_145 (by decide) ?_
            refine lv_istore (lv' := [(5, .int ((v 2) + (qn (Int32.toNatClampNeg x1)))), (4, .int (qn (Int32.toNatClampNeg x1))), (3, .int (qd (Int32.toNatClampNeg x1))), (0, .ref (bd 0)), (1, .int x1), (2, .int x2)]) hx hb dX8_load_150 hl (by decide) rfl (fun ls hl => ?_)
            refine lv_iload hx hb dX8_load_152 (lv_at hl 0 rfl) ?_
            refine lv_iload_n hx hb dX8_load_154 rfl (lv_at hl 5 rfl) ?_
            refine m_S X V (rest := []) (st1 := [.int (pX8_isIn ((v 2) + (qn (Int32.toNatClampNeg x1))) x2)]) (kX8_isIn l D cB cI ((v 2) + (qn (Int32.toNatClampNeg x1))) x2) okX8_isIn gm_544 gm_543 ⟨⟨rfl, rfl⟩, ⟨by decide, by decide⟩, Nat.zero_le _, Nat.zero_le _⟩ rfl hl.1 (Nat.le_of_ble_eq_true rfl) dX8_load_155 rfl rfl (fun H locs V => ?_)
            refine lv_if_ne (tgt := 163) hx hb dX8_load_158 (by decide) (fun c_158 => ?_) (fun c_158 => ?_)
            · refine lv_aload_n hx hb dX8_load_163 rfl (lv_at hl 3 rfl) ?_
              refine m_get X V 6 0 21 rfl gin_6 rfl (by decide) rfl gm_444 (v := .ref (bd 9)) rfl dX8_load_164 ?_
              refine lv_iload_n hx hb dX8_load_167 rfl (lv_at hl 4 rfl) ?_
              refine lv_aload_n hx hb dX8_load_168 rfl (lv_at hl 3 rfl) ?_
              refine lv_iload hx hb dX8_load_169 (lv_at hl 0 rfl) ?_
              refine lv_iload_n hx hb dX8_load_171 rfl (lv_at hl 5 rfl) ?_
              obtain ⟨u172, hu172⟩ : ∃ u, pX8_numberAt qm ((v 2) + (qn (Int32.toNatClampNeg x1))) x2 = u := ⟨_, rfl⟩
              have hM := kX8_numberAt l D cB cI bd v qm ql qs qk qd qn qe qf qo qt qi qy ((v 2) + (qn (Int32.toNatClampNeg x1))) x2 (show 0 ≤ Int32.toInt ((v 2) + (qn (Int32.toNatClampNeg x1))) ∧ Int32.toInt ((v 2) + (qn (Int32.toNatClampNeg x1))) + Int32.toInt x2 ≤ 1024 by have e_1 : Int32.toInt 4 = 4 := rfl; have f_3 : Int32.toInt 4 ≤ Int32.toInt (qd (Int32.toNatClampNeg x1)) := Int32.le_iff_toInt_le.mp c_17; have e_4 : Int32.toInt 8 = 8 := rfl; have f_5 : ¬ Int32.toInt (qd (Int32.toNatClampNeg x1)) = Int32.toInt 8 := fun q => c_45 (Int32.toInt_inj.mp q); have f_6 : ¬ Int32.toInt (qd (Int32.toNatClampNeg x1)) ≤ Int32.toInt 8 := fun q => c_91 (Int32.le_iff_toInt_le.mpr q); have e_7 : Int32.toInt 12 = 12 := rfl; have f_8 : Int32.toInt 12 ≤ Int32.toInt (qd (Int32.toNatClampNeg x1)) := Int32.le_iff_toInt_le.mp c_97; have f_9 : ¬ Int32.toInt (qd (Int32.toNatClampNeg x1)) ≤ Int32.toInt 12 := fun q => c_135 (Int32.le_iff_toInt_le.mpr q); have f_11 := isIn_spec (a := ((v 2) + (qn (Int32.toNatClampNeg x1)))) (n := x2) (by omega) c_158; omega)
              rw [hu172] at hM
              refine m_VA X V (w1 := (wR cB cI bd v qm ql qs qk qd qn qe qf qo qt qi qy)) (rest := [.int x1, .ref (bd 9)]) (st1 := [.int u172, .int x1, .ref (bd 9)]) hM okX8_numberAt gm_510 gm_698 gm_509 ⟨⟨rfl, rfl⟩, ⟨by decide, by decide⟩, Nat.zero_le _, Nat.zero_le _⟩ rfl rfl (wR_fst _ _ _ _ _ _ _ _ _ _ _ _ _ _ _ _) (wR_fst _ _ _ _ _ _ _ _ _ _ _ _ _ _ _ _) rfl hl.1 (Nat.le_of_ble_eq_true rfl) dX8_load_172 rfl rfl (fun H locs V => ?_)
              refine m_iast X V (ws' := (wR cB cI bd v qm ql qs qk qd qn qe qf (upd qo (Int32.toNatClampNeg x1) u172) qt qi qy)) 9 rfl (by have e_1 : Int32.toInt 4 = 4 := rfl; have f_3 : Int32.toInt 4 ≤ Int32.toInt (qd (Int32.toNatClampNeg x1)) := Int32.le_iff_toInt_le.mp c_17; have e_4 : Int32.toInt 8 = 8 := rfl; have f_5 : ¬ Int32.toInt (qd (Int32.toNatClampNeg x1)) = Int32.toInt 8 := fun q => c_45 (Int32.toInt_inj.mp q); have f_6 : ¬ Int32.toInt (qd (Int32.toNatClampNeg x1)) ≤ Int32.toInt 8 := fun q => c_91 (Int32.le_iff_toInt_le.mpr q); have e_7 : Int32.toInt 12 = 12 := rfl; have f_8 : Int32.toInt 12 ≤ Int32.toInt (qd (Int32.toNatClampNeg x1)) := Int32.le_iff_toInt_le.mp c_97; have f_9 : ¬ Int32.toInt (qd (Int32.toNatClampNeg x1)) ≤ Int32.toInt 12 := fun q => c_135 (Int32.le_iff_toInt_le.mpr q); have f_11 := isIn_spec (a := ((v 2) + (qn (Int32.toNatClampNeg x1)))) (n := x2) (by omega) c_158; rw [vp_in_iff]; omega) dX8_load_175 rfl (fun H locs V => ?_)
              refine lv_iconst (v := 0) hx hb dX8_load_176 (by decide) ?_
              have e9 : pX8_load v qm ql qs qd qn qo x1 x2 = (0, v, (upd qo (Int32.toNatClampNeg x1) u172)) := by rw [pX8_load, if_pos c_17, if_neg c_45, if_neg c_91, if_pos c_97, if_neg c_135, if_neg c_158, hu172, mLet_eq]
              exact m_iret X hr hk V (by rw [e9]) (by rw [e9]) dX8_load_177
            · refine lv_iconst (v := 1) hx hb dX8_load_161 (by decide) ?_
              have e9 : pX8_load v qm ql qs qd qn qo x1 x2 = (1, v, qo) := by rw [pX8_load, if_pos c_17, if_neg c_45, if_neg c_91, if_pos c_97, if_neg c_135, if_pos c_158]
              exact m_iret X hr hk V (by rw [e9]) (by rw [e9]) dX8_load_162
        · refine lv_iload hx hb dX8_load_100 (lv_at hl 0 rfl) ?_
          refine lv_if_lt (tgt := 114) hx hb dX8_load_102 (by decide) (fun c_102 => ?_) (fun c_102 => ?_)
          · refine lv_bipush (v := 7) hx hb dX8_load_114 (by decide) ?_
            have e9 : pX8_load v qm ql qs qd qn qo x1 x2 = (7, v, qo) := by rw [pX8_load, if_pos c_17, if_neg c_45, if_neg c_91, if_neg c_97, if_pos c_102]
            exact m_iret X hr hk V (by rw [e9]) (by rw [e9]) dX8_load_116
          · refine lv_iload hx hb dX8_load_105 (lv_at hl 0 rfl) ?_
            refine lv_bipush (v := 64) hx hb dX8_load_107 (by decide) ?_
            refine lv_iload_n hx hb dX8_load_109 rfl (lv_at hl 4 rfl) ?_
            refine lv_isub hx hb dX8_load_110 ?_
            refine lv_icmp_le (tgt := 117) hx hb dX8_load_111 (by decide) (fun c_111 => ?_) (fun c_111 => ?_)
            · refine lv_aload_n hx hb dX8_load_117 rfl (lv_at hl 2 rfl) ?_
              refine m_get X V 6 0 21 rfl gin_6 rfl (by decide) rfl gm_444 (v := .ref (bd 9)) rfl dX8_load_118 ?_
              refine lv_iload_n hx hb dX8_load_121 rfl (lv_at hl 3 rfl) ?_
              refine lv_aload_n hx hb dX8_load_122 rfl (lv_at hl 2 rfl) ?_
              refine lv_iload hx hb dX8_load_123 (lv_at hl 0 rfl) ?_
              refine lv_iload_n hx hb dX8_load_125 rfl (lv_at hl 4 rfl) ?_
              obtain ⟨u126, hu126⟩ : ∃ u, pX8_localAt ql (qn (Int32.toNatClampNeg x1)) x2 = u := ⟨_, rfl⟩
              have hM := kX8_localAt l D cB cI bd v qm ql qs qk qd qn qe qf qo qt qi qy (qn (Int32.toNatClampNeg x1)) x2 (show 0 ≤ Int32.toInt (qn (Int32.toNatClampNeg x1)) ∧ Int32.toInt (qn (Int32.toNatClampNeg x1)) + Int32.toInt x2 ≤ 64 by have e_1 : Int32.toInt 4 = 4 := rfl; have f_3 : Int32.toInt 4 ≤ Int32.toInt (qd (Int32.toNatClampNeg x1)) := Int32.le_iff_toInt_le.mp c_17; have e_4 : Int32.toInt 8 = 8 := rfl; have f_5 : ¬ Int32.toInt (qd (Int32.toNatClampNeg x1)) = Int32.toInt 8 := fun q => c_45 (Int32.toInt_inj.mp q); have f_6 : ¬ Int32.toInt (qd (Int32.toNatClampNeg x1)) ≤ Int32.toInt 8 := fun q => c_91 (Int32.le_iff_toInt_le.mpr q); have e_7 : Int32.toInt 12 = 12 := rfl; have f_8 : ¬ Int32.toInt 12 ≤ Int32.toInt (qd (Int32.toNatClampNeg x1)) := fun q => c_97 (Int32.le_iff_toInt_le.mpr q); have e_10 : Int32.toInt 0 = 0 := rfl; have f_11 : ¬ Int32.toInt (qn (Int32.toNatClampNeg x1)) < Int32.toInt 0 := fun q => c_102 (Int32.lt_iff_toInt_lt.mpr q); have e_12 : Int32.toInt 64 = 64 := rfl; have e_14 : Int32.toInt (64 - x2) = Int32.toInt 64 - Int32.toInt x2 := ti_sub (by omega) (by omega); have f_15 : Int32.toInt (qn (Int32.toNatClampNeg x1)) ≤ Int32.toInt (64 - x2) := Int32.le_iff_toInt_le.mp c_111; omega)
              rw [hu126] at hM
              refine m_VA X V (w1 := (wR cB cI bd v qm ql qs qk qd qn qe qf qo qt qi qy)) (rest := [.int x1, .ref (bd 9)]) (st1 := [.int u126, .int x1, .ref (bd 9)]) hM okX8_localAt gm_541 gm_701 gm_540 ⟨⟨rfl, rfl⟩, ⟨by decide, by decide⟩, Nat.zero_le _, Nat.zero_le _⟩ rfl rfl (wR_fst _ _ _ _ _ _ _ _ _ _ _ _ _ _ _ _) (wR_fst _ _ _ _ _ _ _ _ _ _ _ _ _ _ _ _) rfl hl.1 (Nat.le_of_ble_eq_true rfl) dX8_load_126 rfl rfl (fun H locs V => ?_)
              refine m_iast X V (ws' := (wR cB cI bd v qm ql qs qk qd qn qe qf (upd qo (Int32.toNatClampNeg x1) u126) qt qi qy)) 9 rfl (by have e_1 : Int32.toInt 4 = 4 := rfl; have f_3 : Int32.toInt 4 ≤ Int32.toInt (qd (Int32.toNatClampNeg x1)) := Int32.le_iff_toInt_le.mp c_17; have e_4 : Int32.toInt 8 = 8 := rfl; have f_5 : ¬ Int32.toInt (qd (Int32.toNatClampNeg x1)) = Int32.toInt 8 := fun q => c_45 (Int32.toInt_inj.mp q); have f_6 : ¬ Int32.toInt (qd (Int32.toNatClampNeg x1)) ≤ Int32.toInt 8 := fun q => c_91 (Int32.le_iff_toInt_le.mpr q); have e_7 : Int32.toInt 12 = 12 := rfl; have f_8 : ¬ Int32.toInt 12 ≤ Int32.toInt (qd (Int32.toNatClampNeg x1)) := fun q => c_97 (Int32.le_iff_toInt_le.mpr q); have e_10 : Int32.toInt 0 = 0 := rfl; have f_11 : ¬ Int32.toInt (qn (Int32.toNatClampNeg x1)) < Int32.toInt 0 := fun q => c_102 (Int32.lt_iff_toInt_lt.mpr q); have e_12 : Int32.toInt 64 = 64 := rfl; have e_14 : Int32.toInt (64 - x2) = Int32.toInt 64 - Int32.toInt x2 := ti_sub (by omega) (by omega); have f_15 : Int32.toInt (qn (Int32.toNatClampNeg x1)) ≤ Int32.toInt (64 - x2) := Int32.le_iff_toInt_le.mp c_111; rw [vp_in_iff]; omega) dX8_load_129 rfl (fun H locs V => ?_)
              refine lv_iconst (v := 0) hx hb dX8_load_130 (by decide) ?_
              have e9 : pX8_load v qm ql qs qd qn qo x1 x2 = (0, v, (upd qo (Int32.toNatClampNeg x1) u126)) := by rw [pX8_load, if_pos c_17, if_neg c_45, if_neg c_91, if_neg c_97, if_neg c_102, if_pos c_111, hu126, mLet_eq]
              exact m_iret X hr hk V (by rw [e9]) (by rw [e9]) dX8_load_131
            · refine lv_bipush (v := 7) hx hb dX8_load_114 (by decide) ?_
              have e9 : pX8_load v qm ql qs qd qn qo x1 x2 = (7, v, qo) := by rw [pX8_load, if_pos c_17, if_neg c_45, if_neg c_91, if_neg c_97, if_neg c_102, if_neg c_111]
              exact m_iret X hr hk V (by rw [e9]) (by rw [e9]) dX8_load_116
    · refine lv_aload_n hx hb dX8_load_48 rfl (lv_at hl 2 rfl) ?_
      refine m_get X V 6 0 4 rfl gin_6 rfl (by decide) rfl gm_427 (v := .int (v 0)) rfl dX8_load_49 ?_
      refine lv_if_ne (tgt := 57) hx hb dX8_load_52 (by decide) (fun c_52 => ?_) (fun c_52 => ?_)
      · refine lv_aload_n hx hb dX8_load_57 rfl (lv_at hl 2 rfl) ?_
        refine lv_dup hx hb dX8_load_58 rfl ?_
        refine m_get X V 6 0 4 rfl gin_6 rfl (by decide) rfl gm_427 (v := .int (v 0)) rfl dX8_load_59 ?_
        refine lv_iconst (v := 1) hx hb dX8_load_62 (by decide) ?_
        refine lv_isub hx hb dX8_load_63 ?_
        refine m_put X V (ws' := (wR cB cI bd (upd v 0 ((v 0) - 1)) qm ql qs qk qd qn qe qf qo qt qi qy)) 6 0 4 rfl gin_6 tyX8_ok nmX8 rfl (by decide) rfl gm_427 rfl rfl rfl (Nat.le_of_ble_eq_true rfl) dX8_load_64 rfl (fun H locs V => ?_)
        refine lv_aload_n hx hb dX8_load_67 rfl (lv_at hl 2 rfl) ?_
        refine m_get X V 6 0 21 rfl gin_6 rfl (by decide) rfl gm_444 (v := .ref (bd 9)) rfl dX8_load_68 ?_
        refine lv_iload_n hx hb dX8_load_71 rfl (lv_at hl 3 rfl) ?_
        refine lv_aload_n hx hb dX8_load_72 rfl (lv_at hl 2 rfl) ?_
        refine m_get X V 6 0 2 rfl gin_6 rfl (by decide) rfl gm_425 (v := .ref (bd 3)) rfl dX8_load_73 ?_
        refine lv_aload_n hx hb dX8_load_76 rfl (lv_at hl 2 rfl) ?_
        refine m_get X V 6 0 4 rfl gin_6 rfl (by decide) rfl gm_427 (v := .int ((v 0) - 1)) rfl dX8_load_77 ?_
        refine m_iald X V 3 rfl (by have e_2 : Int32.toInt 0 = 0 := rfl; have f_3 : ¬ Int32.toInt (v 0) = Int32.toInt 0 := fun q => c_52 (Int32.toInt_inj.mp q); have e_4 : Int32.toInt 1 = 1 := rfl; have e_5 : Int32.toInt ((v 0) - 1) = Int32.toInt (v 0) - Int32.toInt 1 := ti_sub (by omega) (by omega); rw [vp_in_iff]; omega) dX8_load_80 ?_
        refine lv_iload_n hx hb dX8_load_81 rfl (lv_at hl 4 rfl) ?_
        obtain ⟨u82, hu82⟩ : ∃ u, pX8_lowest (qs (Int32.toNatClampNeg ((v 0) - 1))) x2 = u := ⟨_, rfl⟩
        have hM := kX8_lowest l D cB cI (qs (Int32.toNatClampNeg ((v 0) - 1))) x2
        rw [hu82] at hM
        refine m_S X V (rest := [.int x1, .ref (bd 9)]) (st1 := [.int u82, .int x1, .ref (bd 9)]) hM okX8_lowest gm_537 gm_536 ⟨⟨rfl, rfl⟩, ⟨by decide, by decide⟩, Nat.zero_le _, Nat.zero_le _⟩ rfl hl.1 (Nat.le_of_ble_eq_true rfl) dX8_load_82 rfl rfl (fun H locs V => ?_)
        refine m_iast X V (ws' := (wR cB cI bd (upd v 0 ((v 0) - 1)) qm ql qs qk qd qn qe qf (upd qo (Int32.toNatClampNeg x1) u82) qt qi qy)) 9 rfl (by have e_1 : Int32.toInt 4 = 4 := rfl; have f_3 : Int32.toInt 4 ≤ Int32.toInt (qd (Int32.toNatClampNeg x1)) := Int32.le_iff_toInt_le.mp c_17; have e_4 : Int32.toInt 8 = 8 := rfl; have f_5 : Int32.toInt (qd (Int32.toNatClampNeg x1)) = Int32.toInt 8 := congrArg Int32.toInt c_45; rw [vp_in_iff]; omega) dX8_load_85 rfl (fun H locs V => ?_)
        refine lv_iconst (v := 0) hx hb dX8_load_86 (by decide) ?_
        have e9 : pX8_load v qm ql qs qd qn qo x1 x2 = (0, (upd v 0 ((v 0) - 1)), (upd qo (Int32.toNatClampNeg x1) u82)) := by rw [pX8_load, if_pos c_17, if_pos c_45, if_neg c_52, hu82, mLet_eq]
        exact m_iret X hr hk V (by rw [e9]) (by rw [e9]) dX8_load_87
      · refine lv_iconst (v := 4) hx hb dX8_load_55 (by decide) ?_
        have e9 : pX8_load v qm ql qs qd qn qo x1 x2 = (4, v, qo) := by rw [pX8_load, if_pos c_17, if_pos c_45, if_pos c_52]
        exact m_iret X hr hk V (by rw [e9]) (by rw [e9]) dX8_load_56
  · refine lv_aload_n hx hb dX8_load_20 rfl (lv_at hl 2 rfl) ?_
    refine m_get X V 6 0 21 rfl gin_6 rfl (by decide) rfl gm_444 (v := .ref (bd 9)) rfl dX8_load_21 ?_
    refine lv_iload_n hx hb dX8_load_24 rfl (lv_at hl 3 rfl) ?_
    refine lv_iload_n hx hb dX8_load_25 rfl (lv_at hl 1 rfl) ?_
    refine lv_if_ne (tgt := 33) hx hb dX8_load_26 (by decide) (fun c_26 => ?_) (fun c_26 => ?_)
    · refine lv_iload hx hb dX8_load_33 (lv_at hl 0 rfl) ?_
      refine lv_iload_n hx hb dX8_load_35 rfl (lv_at hl 4 rfl) ?_
      obtain ⟨u36, hu36⟩ : ∃ u, pX8_lowest (qn (Int32.toNatClampNeg x1)) x2 = u := ⟨_, rfl⟩
      have hM := kX8_lowest l D cB cI (qn (Int32.toNatClampNeg x1)) x2
      rw [hu36] at hM
      refine m_S X V (rest := [.int x1, .ref (bd 9)]) (st1 := [.int u36, .int x1, .ref (bd 9)]) hM okX8_lowest gm_537 gm_536 ⟨⟨rfl, rfl⟩, ⟨by decide, by decide⟩, Nat.zero_le _, Nat.zero_le _⟩ rfl hl.1 (Nat.le_of_ble_eq_true rfl) dX8_load_36 rfl rfl (fun H locs V => ?_)
      refine m_iast X V (ws' := (wR cB cI bd v qm ql qs qk qd qn qe qf (upd qo (Int32.toNatClampNeg x1) u36) qt qi qy)) 9 rfl (by have e_1 : Int32.toInt 4 = 4 := rfl; have f_3 : ¬ Int32.toInt 4 ≤ Int32.toInt (qd (Int32.toNatClampNeg x1)) := fun q => c_17 (Int32.le_iff_toInt_le.mpr q); have e_4 : Int32.toInt 0 = 0 := rfl; have f_5 : ¬ Int32.toInt (qd (Int32.toNatClampNeg x1)) = Int32.toInt 0 := fun q => c_26 (Int32.toInt_inj.mp q); rw [vp_in_iff]; omega) dX8_load_39 rfl (fun H locs V => ?_)
      refine lv_iconst (v := 0) hx hb dX8_load_40 (by decide) ?_
      have e9 : pX8_load v qm ql qs qd qn qo x1 x2 = (0, v, (upd qo (Int32.toNatClampNeg x1) u36)) := by rw [pX8_load, if_neg c_17, if_neg c_26, hu36, mLet_eq]
      exact m_iret X hr hk V (by rw [e9]) (by rw [e9]) dX8_load_41
    · refine lv_iconst (v := 0) hx hb dX8_load_29 (by decide) ?_
      refine lv_goto (tgt := 35) hx hb dX8_load_30 (by decide) ?_
      refine lv_iload_n hx hb dX8_load_35 rfl (lv_at hl 4 rfl) ?_
      refine m_S X V (rest := [.int x1, .ref (bd 9)]) (st1 := [.int (pX8_lowest 0 x2), .int x1, .ref (bd 9)]) (kX8_lowest l D cB cI 0 x2) okX8_lowest gm_537 gm_536 ⟨⟨rfl, rfl⟩, ⟨by decide, by decide⟩, Nat.zero_le _, Nat.zero_le _⟩ rfl hl.1 (Nat.le_of_ble_eq_true rfl) dX8_load_36 rfl rfl (fun H locs V => ?_)
      refine m_iast X V (ws' := (wR cB cI bd v qm ql qs qk qd qn qe qf (upd qo (Int32.toNatClampNeg x1) (pX8_lowest 0 x2)) qt qi qy)) 9 rfl (by have e_1 : Int32.toInt 4 = 4 := rfl; have f_3 : ¬ Int32.toInt 4 ≤ Int32.toInt (qd (Int32.toNatClampNeg x1)) := fun q => c_17 (Int32.le_iff_toInt_le.mpr q); have e_4 : Int32.toInt 0 = 0 := rfl; have f_5 : Int32.toInt (qd (Int32.toNatClampNeg x1)) = Int32.toInt 0 := congrArg Int32.toInt c_26; rw [vp_in_iff]; omega) dX8_load_39 rfl (fun H locs V => ?_)
      refine lv_iconst (v := 0) hx hb dX8_load_40 (by decide) ?_
      have e9 : pX8_load v qm ql qs qd qn qo x1 x2 = (0, v, (upd qo (Int32.toNatClampNeg x1) (pX8_lowest 0 x2))) := by rw [pX8_load, if_neg c_17, if_pos c_26]
      exact m_iret X hr hk V (by rw [e9]) (by rw [e9]) dX8_load_41
def pX8_lays_lp24 (x1 : Int32) (x2 : Int32) (x3 : Int32) : Nat → (Nat → Int32) → (Int32) → Int32 × (Nat → Int32)
  | 0, qm, k4 => (0, qm)
  | n_ + 1, qm, k4 => (if x2 ≤ k4 then (0, qm) else (pX8_lays_lp24 x1 x2 x3 n_ (upd qm (Int32.toNatClampNeg (x1 + k4)) ((x3 >>> ((8 * ((x2 - 1) - k4)) &&& 31)) &&& 255)) (k4 + 1)))
def pX8_lays (v : Nat → Int32) (qm : Nat → Int32) (x1 : Int32) (x2 : Int32) (x3 : Int32) : Int32 × (Nat → Int32) := (if (pX8_isIn x1 x2) = 0 then (1, qm) else (if (v 2) ≤ x1 then (pX8_lays_lp24 x1 x2 x3 ((Int32.toInt x2 - Int32.toInt 0).toNat + 1) qm 0) else (8, qm)))
theorem okX8_lays : mOk yX8_lays cX8_lays 5 (some .int) 3 := ⟨gm_570, gm_8, by decide +kernel⟩
set_option maxRecDepth 100000 in
set_option maxHeartbeats 4000000 in
theorem lpX8_lays_24 {p : Program} {e : Env} {s : State} {m : MethodId} {args : Array Value} {below : List Frame} {meth : Method} {c : Code} {A : Nat → Prop} {l : Launch} {D : va_G} {cB cI : ClassId} {bd : Nat → Nat} {v : Nat → Int32} {ql : Nat → Int32} {qs : Nat → Int32} {qk : Nat → Int32} {qd : Nat → Int32} {qn : Nat → Int32} {qe : Nat → Int32} {qf : Nat → Int32} {qo : Nat → Int32} {qt : Nat → Int32} {qi : Nat → Int32} {qy : Nat → Int32} {x1 : Int32} {x2 : Int32} {x3 : Int32} (X : mCx p s m args c cX8_lays 5 RX8 D cB cI) (hr : meth.sig.returnType = (some .int)) (hk : meth.locks = false) (hw : 0 ≤ Int32.toInt x2 ∧ Int32.toInt x2 ≤ 1024) : ∀ (n_ : Nat) (qm : Nat → Int32) (k4 : Int32) (H : Heap) (locs : List Loc) (ls : Array Slot), (0 ≤ Int32.toInt k4) → (0 ≤ Int32.toInt x1 ∧ Int32.toInt x1 + Int32.toInt x2 ≤ 1024) → (Int32.toInt x2 - Int32.toInt k4).toNat < n_ → mWd D A s (wR cB cI bd v qm ql qs qk qd qn qe qf qo qt qi qy) H locs → lv_has ls 5 [(0, .ref (bd 0)), (1, .int x1), (2, .int x2), (3, .int x3), (4, .int k4)] → W p l e { frames := 1, cells := 0, slots := 0, locals := 21 } s m args below meth c H locs 0 0 (MQ below (mQ D A (wR cB cI bd v ((pX8_lays_lp24 x1 x2 x3 n_ qm k4).2) ql qs qk qd qn qe qf qo qt qi qy) (some ((pX8_lays_lp24 x1 x2 x3 n_ qm k4).1))) args s 0 0 A) (F0 m 24 ls []) := by
  have hx := X.1.1
  have hb := X.1.2.1
  intro n_
  induction n_ with
  | zero =>
    intro qm k4 H locs ls hk4 hi hm V hl
    exact absurd hm (Nat.not_lt_zero _)
  | succ n_ ih =>
    intro qm k4 H locs ls hk4 hi hm V hl
    refine lv_iload hx hb dX8_lays_24 (lv_at hl 4 rfl) ?_
    refine lv_iload_n hx hb dX8_lays_26 rfl (lv_at hl 2 rfl) ?_
    refine lv_icmp_ge (tgt := 60) hx hb dX8_lays_27 (by decide) (fun c_27 => ?_) (fun c_27 => ?_)
    · refine lv_iconst (v := 0) hx hb dX8_lays_60 (by decide) ?_
      have e9 : pX8_lays_lp24 x1 x2 x3 (n_ + 1) qm k4 = (0, qm) := by rw [pX8_lays_lp24, if_pos c_27]
      exact m_iret X hr hk V (by rw [e9]) (by rw [e9]) dX8_lays_61
    · refine lv_aload_n hx hb dX8_lays_30 rfl (lv_at hl 0 rfl) ?_
      refine m_get X V 6 0 0 rfl gin_6 rfl (by decide) rfl gm_423 (v := .ref (bd 1)) rfl dX8_lays_31 ?_
      refine lv_iload_n hx hb dX8_lays_34 rfl (lv_at hl 1 rfl) ?_
      refine lv_iload hx hb dX8_lays_35 (lv_at hl 4 rfl) ?_
      refine lv_iadd hx hb dX8_lays_37 ?_
      refine lv_iload_n hx hb dX8_lays_38 rfl (lv_at hl 3 rfl) ?_
      refine lv_bipush (v := 8) hx hb dX8_lays_39 (by decide) ?_
      refine lv_iload_n hx hb dX8_lays_41 rfl (lv_at hl 2 rfl) ?_
      refine lv_iconst (v := 1) hx hb dX8_lays_42 (by decide) ?_
      refine lv_isub hx hb dX8_lays_43 ?_
      refine lv_iload hx hb dX8_lays_44 (lv_at hl 4 rfl) ?_
      refine lv_isub hx hb dX8_lays_46 ?_
      refine lv_imul hx hb dX8_lays_47 ?_
      refine lv_ishr hx hb dX8_lays_48 ?_
      refine lv_sipush (v := 255) hx hb dX8_lays_49 (by decide) ?_
      refine lv_iand hx hb dX8_lays_52 ?_
      refine m_iast X V (ws' := (wR cB cI bd v (upd qm (Int32.toNatClampNeg (x1 + k4)) ((x3 >>> ((8 * ((x2 - 1) - k4)) &&& 31)) &&& 255)) ql qs qk qd qn qe qf qo qt qi qy)) 1 rfl (by have f_3 : ¬ Int32.toInt x2 ≤ Int32.toInt k4 := fun q => c_27 (Int32.le_iff_toInt_le.mpr q); have e_5 : Int32.toInt (x1 + k4) = Int32.toInt x1 + Int32.toInt k4 := ti_add (by omega) (by omega); rw [vp_in_iff]; omega) dX8_lays_53 rfl (fun H locs V => ?_)
      refine lv_iinc (v := (k4 + 1)) (lv' := [(4, .int (k4 + 1)), (0, .ref (bd 0)), (1, .int x1), (2, .int x2), (3, .int x3)]) hx hb dX8_lays_54 hl (k := 4) rfl rfl (by decide) rfl (fun ls hl => ?_)
      refine lv_goto (tgt := 24) hx hb dX8_lays_57 (by decide) ?_
      rw [show pX8_lays_lp24 x1 x2 x3 (n_ + 1) qm k4 = pX8_lays_lp24 x1 x2 x3 n_ (upd qm (Int32.toNatClampNeg (x1 + k4)) ((x3 >>> ((8 * ((x2 - 1) - k4)) &&& 31)) &&& 255)) (k4 + 1) from by rw [pX8_lays_lp24, if_neg c_27]]
      exact ih (upd qm (Int32.toNatClampNeg (x1 + k4)) ((x3 >>> ((8 * ((x2 - 1) - k4)) &&& 31)) &&& 255)) (k4 + 1) _ _ _ (show 0 ≤ Int32.toInt (k4 + 1) by have f_3 : ¬ Int32.toInt x2 ≤ Int32.toInt k4 := fun q => c_27 (Int32.le_iff_toInt_le.mpr q); have e_4 : Int32.toInt 1 = 1 := rfl; have e_5 : Int32.toInt (k4 + 1) = Int32.toInt k4 + Int32.toInt 1 := ti_add (by omega) (by omega); omega) (show 0 ≤ Int32.toInt x1 ∧ Int32.toInt x1 + Int32.toInt x2 ≤ 1024 by have f_3 : ¬ Int32.toInt x2 ≤ Int32.toInt k4 := fun q => c_27 (Int32.le_iff_toInt_le.mpr q); have e_4 : Int32.toInt 1 = 1 := rfl; have e_5 : Int32.toInt (k4 + 1) = Int32.toInt k4 + Int32.toInt 1 := ti_add (by omega) (by omega); omega) (ms_up c_27 hm) V (lv_sub hl [1, 2, 3, 4, 0] rfl)
set_option maxRecDepth 100000 in
set_option maxHeartbeats 4000000 in
theorem kX8_lays (l : Launch) (D : va_G) (cB cI : ClassId) (bd : Nat → Nat) (v : Nat → Int32) (qm : Nat → Int32) (ql : Nat → Int32) (qs : Nat → Int32) (qk : Nat → Int32) (qd : Nat → Int32) (qn : Nat → Int32) (qe : Nat → Int32) (qf : Nat → Int32) (qo : Nat → Int32) (qt : Nat → Int32) (qi : Nat → Int32) (qy : Nat → Int32) (x1 : Int32) (x2 : Int32) (x3 : Int32) (hw : 0 ≤ Int32.toInt x2 ∧ Int32.toInt x2 ≤ 1024) : mM l D cB cI yX8_lays cX8_lays 5 (some .int) { frames := 1, cells := 0, slots := 0, locals := 21 } [.ref (bd 0), .int x1, .int x2, .int x3] (wR cB cI bd v qm ql qs qk qd qn qe qf qo qt qi qy) (some ((pX8_lays v qm x1 x2 x3).1)) (wR cB cI bd v ((pX8_lays v qm x1 x2 x3).2) ql qs qk qd qn qe qf qo qt qi qy) := by
  refine m_start (by decide +kernel) (Nat.le_of_ble_eq_true rfl) ?_
  intro p e s m below meth c A ls X hr hk V hl
  have X : mCx p s m _ c cX8_lays 5 RX8 D cB cI := X
  have hx := X.1.1
  have hb := X.1.2.1
  have hl : lv_has ls 5 [(0, .ref (bd 0)), (1, .int x1), (2, .int x2), (3, .int x3)] := hl
  refine lv_iload_n hx hb dX8_lays_0 rfl (lv_at hl 1 rfl) ?_
  refine lv_iload_n hx hb dX8_lays_1 rfl (lv_at hl 2 rfl) ?_
  refine m_S X V (rest := []) (st1 := [.int (pX8_isIn x1 x2)]) (kX8_isIn l D cB cI x1 x2) okX8_isIn gm_544 gm_543 ⟨⟨rfl, rfl⟩, ⟨by decide, by decide⟩, Nat.zero_le _, Nat.zero_le _⟩ rfl hl.1 (Nat.le_of_ble_eq_true rfl) dX8_lays_2 rfl rfl (fun H locs V => ?_)
  refine lv_if_ne (tgt := 10) hx hb dX8_lays_5 (by decide) (fun c_5 => ?_) (fun c_5 => ?_)
  · refine lv_iload_n hx hb dX8_lays_10 rfl (lv_at hl 1 rfl) ?_
    refine lv_aload_n hx hb dX8_lays_11 rfl (lv_at hl 0 rfl) ?_
    refine m_get X V 6 0 6 rfl gin_6 rfl (by decide) rfl gm_429 (v := .int (v 2)) rfl dX8_lays_12 ?_
    refine lv_icmp_ge (tgt := 21) hx hb dX8_lays_15 (by decide) (fun c_15 => ?_) (fun c_15 => ?_)
    · refine lv_iconst (v := 0) hx hb dX8_lays_21 (by decide) ?_
      refine lv_istore (lv' := [(4, .int 0), (0, .ref (bd 0)), (1, .int x1), (2, .int x2), (3, .int x3)]) hx hb dX8_lays_22 hl (by decide) rfl (fun ls hl => ?_)
      rw [show pX8_lays v qm x1 x2 x3 = (pX8_lays_lp24 x1 x2 x3 ((Int32.toInt x2 - Int32.toInt 0).toNat + 1) qm 0) from by rw [pX8_lays, if_neg c_5, if_pos c_15]]
      exact lpX8_lays_24 X hr hk hw ((Int32.toInt x2 - Int32.toInt 0).toNat + 1) qm 0 _ _ _ (show 0 ≤ Int32.toInt 0 by have z_0 : Int32.toInt 0 = 0 := rfl; omega) (show 0 ≤ Int32.toInt x1 ∧ Int32.toInt x1 + Int32.toInt x2 ≤ 1024 by have f_2 := isIn_spec (a := x1) (n := x2) (by omega) c_5; have f_4 : Int32.toInt (v 2) ≤ Int32.toInt x1 := Int32.le_iff_toInt_le.mp c_15; omega) (Nat.lt_succ_self _) V (lv_sub hl [1, 2, 3, 4, 0] rfl)
    · refine lv_bipush (v := 8) hx hb dX8_lays_18 (by decide) ?_
      have e9 : pX8_lays v qm x1 x2 x3 = (8, qm) := by rw [pX8_lays, if_neg c_5, if_neg c_15]
      exact m_iret X hr hk V (by rw [e9]) (by rw [e9]) dX8_lays_20
  · refine lv_iconst (v := 1) hx hb dX8_lays_8 (by decide) ?_
    have e9 : pX8_lays v qm x1 x2 x3 = (1, qm) := by rw [pX8_lays, if_pos c_5]
    exact m_iret X hr hk V (by rw [e9]) (by rw [e9]) dX8_lays_9
def pX8_store_lp101 (x2 : Int32) (x3 : Int32) : Nat → (Nat → Int32) → (Nat → Int32) → (Nat → Int32) → (Nat → Int32) → (Int32) → (Int32) → Int32 × (Nat → Int32) × (Nat → Int32) × (Nat → Int32) × (Nat → Int32)
  | 0, v, qm, ql, qs, k5, k6 => (0, v, qm, ql, qs)
  | n_ + 1, v, qm, ql, qs, k5, k6 => (if x2 ≤ k6 then (0, v, qm, ql, qs) else (pX8_store_lp101 x2 x3 n_ v qm (upd ql (Int32.toNatClampNeg (k5 + k6)) ((x3 >>> ((8 * ((x2 - 1) - k6)) &&& 31)) &&& 255)) qs k5 (k6 + 1)))
def pX8_store (v : Nat → Int32) (qm : Nat → Int32) (ql : Nat → Int32) (qs : Nat → Int32) (qd : Nat → Int32) (qn : Nat → Int32) (x1 : Int32) (x2 : Int32) (x3 : Int32) : Int32 × (Nat → Int32) × (Nat → Int32) × (Nat → Int32) × (Nat → Int32) := (if (qd (Int32.toNatClampNeg x1)) = 0 then (0, v, qm, ql, qs) else (if (qd (Int32.toNatClampNeg x1)) = 8 then (if (v 0) = 40 then (5, v, qm, ql, qs) else (0, (upd v 0 ((v 0) + 1)), qm, ql, (upd qs (Int32.toNatClampNeg (v 0)) (pX8_lowest x3 x2)))) else (if (qd (Int32.toNatClampNeg x1)) ≤ 8 then (if (qd (Int32.toNatClampNeg x1)) ≤ 12 then (mLet (pX8_lays v qm (qn (Int32.toNatClampNeg x1)) x2 x3) (fun (u162 : Int32 × (Nat → Int32)) => (u162.1, v, u162.2, ql, qs))) else (mLet (pX8_lays v qm ((v 2) + (qn (Int32.toNatClampNeg x1))) x2 x3) (fun (u162 : Int32 × (Nat → Int32)) => (u162.1, v, u162.2, ql, qs)))) else (if 12 ≤ (qd (Int32.toNatClampNeg x1)) then (if (qd (Int32.toNatClampNeg x1)) ≤ 12 then (mLet (pX8_lays v qm (qn (Int32.toNatClampNeg x1)) x2 x3) (fun (u162 : Int32 × (Nat → Int32)) => (u162.1, v, u162.2, ql, qs))) else (mLet (pX8_lays v qm ((v 2) + (qn (Int32.toNatClampNeg x1))) x2 x3) (fun (u162 : Int32 × (Nat → Int32)) => (u162.1, v, u162.2, ql, qs)))) else (if (qn (Int32.toNatClampNeg x1)) < 0 then (7, v, qm, ql, qs) else (if (qn (Int32.toNatClampNeg x1)) ≤ (64 - x2) then (pX8_store_lp101 x2 x3 ((Int32.toInt x2 - Int32.toInt 0).toNat + 1) v qm ql qs (qn (Int32.toNatClampNeg x1)) 0) else (7, v, qm, ql, qs)))))))
theorem okX8_store : mOk yX8_store cX8_store 7 (some .int) 3 := ⟨gm_608, gm_8, by decide +kernel⟩
set_option maxRecDepth 100000 in
set_option maxHeartbeats 4000000 in
theorem lpX8_store_101 {p : Program} {e : Env} {s : State} {m : MethodId} {args : Array Value} {below : List Frame} {meth : Method} {c : Code} {A : Nat → Prop} {l : Launch} {D : va_G} {cB cI : ClassId} {bd : Nat → Nat} {qk : Nat → Int32} {qd : Nat → Int32} {qn : Nat → Int32} {qe : Nat → Int32} {qf : Nat → Int32} {qo : Nat → Int32} {qt : Nat → Int32} {qi : Nat → Int32} {qy : Nat → Int32} {x1 : Int32} {x2 : Int32} {x3 : Int32} (X : mCx p s m args c cX8_store 7 RX8 D cB cI) (hr : meth.sig.returnType = (some .int)) (hk : meth.locks = false) (hk8 : 0 ≤ Int32.toInt x1 ∧ Int32.toInt x1 < 8) (hw : 1 ≤ Int32.toInt x2 ∧ Int32.toInt x2 ≤ 4) : ∀ (n_ : Nat) (v : Nat → Int32) (qm : Nat → Int32) (ql : Nat → Int32) (qs : Nat → Int32) (k5 : Int32) (k6 : Int32) (H : Heap) (locs : List Loc) (ls : Array Slot), (0 ≤ Int32.toInt k6) → (0 ≤ Int32.toInt k5 ∧ Int32.toInt k5 + Int32.toInt x2 ≤ 64) → (Int32.toInt x2 - Int32.toInt k6).toNat < n_ → mWd D A s (wR cB cI bd v qm ql qs qk qd qn qe qf qo qt qi qy) H locs → lv_has ls 7 [(0, .ref (bd 0)), (2, .int x2), (3, .int x3), (5, .int k5), (6, .int k6)] → W p l e { frames := 2, cells := 0, slots := 0, locals := 45 } s m args below meth c H locs 0 0 (MQ below (mQ D A (wR cB cI bd ((pX8_store_lp101 x2 x3 n_ v qm ql qs k5 k6).2.1) ((pX8_store_lp101 x2 x3 n_ v qm ql qs k5 k6).2.2.1) ((pX8_store_lp101 x2 x3 n_ v qm ql qs k5 k6).2.2.2.1) ((pX8_store_lp101 x2 x3 n_ v qm ql qs k5 k6).2.2.2.2) qk qd qn qe qf qo qt qi qy) (some ((pX8_store_lp101 x2 x3 n_ v qm ql qs k5 k6).1))) args s 0 0 A) (F0 m 101 ls []) := by
  have hx := X.1.1
  have hb := X.1.2.1
  intro n_
  induction n_ with
  | zero =>
    intro v qm ql qs k5 k6 H locs ls hk6 hi hm V hl
    exact absurd hm (Nat.not_lt_zero _)
  | succ n_ ih =>
    intro v qm ql qs k5 k6 H locs ls hk6 hi hm V hl
    refine lv_iload hx hb dX8_store_101 (lv_at hl 4 rfl) ?_
    refine lv_iload_n hx hb dX8_store_103 rfl (lv_at hl 1 rfl) ?_
    refine lv_icmp_ge (tgt := 138) hx hb dX8_store_104 (by decide) (fun c_104 => ?_) (fun c_104 => ?_)
    · refine lv_iconst (v := 0) hx hb dX8_store_138 (by decide) ?_
      have e9 : pX8_store_lp101 x2 x3 (n_ + 1) v qm ql qs k5 k6 = (0, v, qm, ql, qs) := by rw [pX8_store_lp101, if_pos c_104]
      exact m_iret X hr hk V (by rw [e9]) (by rw [e9]) dX8_store_139
    · refine lv_aload_n hx hb dX8_store_107 rfl (lv_at hl 0 rfl) ?_
      refine m_get X V 6 0 1 rfl gin_6 rfl (by decide) rfl gm_424 (v := .ref (bd 2)) rfl dX8_store_108 ?_
      refine lv_iload hx hb dX8_store_111 (lv_at hl 3 rfl) ?_
      refine lv_iload hx hb dX8_store_113 (lv_at hl 4 rfl) ?_
      refine lv_iadd hx hb dX8_store_115 ?_
      refine lv_iload_n hx hb dX8_store_116 rfl (lv_at hl 2 rfl) ?_
      refine lv_bipush (v := 8) hx hb dX8_store_117 (by decide) ?_
      refine lv_iload_n hx hb dX8_store_119 rfl (lv_at hl 1 rfl) ?_
      refine lv_iconst (v := 1) hx hb dX8_store_120 (by decide) ?_
      refine lv_isub hx hb dX8_store_121 ?_
      refine lv_iload hx hb dX8_store_122 (lv_at hl 4 rfl) ?_
      refine lv_isub hx hb dX8_store_124 ?_
      refine lv_imul hx hb dX8_store_125 ?_
      refine lv_ishr hx hb dX8_store_126 ?_
      refine lv_sipush (v := 255) hx hb dX8_store_127 (by decide) ?_
      refine lv_iand hx hb dX8_store_130 ?_
      refine m_iast X V (ws' := (wR cB cI bd v qm (upd ql (Int32.toNatClampNeg (k5 + k6)) ((x3 >>> ((8 * ((x2 - 1) - k6)) &&& 31)) &&& 255)) qs qk qd qn qe qf qo qt qi qy)) 2 rfl (by have f_3 : ¬ Int32.toInt x2 ≤ Int32.toInt k6 := fun q => c_104 (Int32.le_iff_toInt_le.mpr q); have e_5 : Int32.toInt (k5 + k6) = Int32.toInt k5 + Int32.toInt k6 := ti_add (by omega) (by omega); rw [vp_in_iff]; omega) dX8_store_131 rfl (fun H locs V => ?_)
      refine lv_iinc (v := (k6 + 1)) (lv' := [(6, .int (k6 + 1)), (0, .ref (bd 0)), (2, .int x2), (3, .int x3), (5, .int k5)]) hx hb dX8_store_132 hl (k := 4) rfl rfl (by decide) rfl (fun ls hl => ?_)
      refine lv_goto (tgt := 101) hx hb dX8_store_135 (by decide) ?_
      rw [show pX8_store_lp101 x2 x3 (n_ + 1) v qm ql qs k5 k6 = pX8_store_lp101 x2 x3 n_ v qm (upd ql (Int32.toNatClampNeg (k5 + k6)) ((x3 >>> ((8 * ((x2 - 1) - k6)) &&& 31)) &&& 255)) qs k5 (k6 + 1) from by rw [pX8_store_lp101, if_neg c_104]]
      exact ih v qm (upd ql (Int32.toNatClampNeg (k5 + k6)) ((x3 >>> ((8 * ((x2 - 1) - k6)) &&& 31)) &&& 255)) qs k5 (k6 + 1) _ _ _ (show 0 ≤ Int32.toInt (k6 + 1) by have f_3 : ¬ Int32.toInt x2 ≤ Int32.toInt k6 := fun q => c_104 (Int32.le_iff_toInt_le.mpr q); have e_4 : Int32.toInt 1 = 1 := rfl; have e_5 : Int32.toInt (k6 + 1) = Int32.toInt k6 + Int32.toInt 1 := ti_add (by omega) (by omega); omega) (show 0 ≤ Int32.toInt k5 ∧ Int32.toInt k5 + Int32.toInt x2 ≤ 64 by have f_3 : ¬ Int32.toInt x2 ≤ Int32.toInt k6 := fun q => c_104 (Int32.le_iff_toInt_le.mpr q); have e_4 : Int32.toInt 1 = 1 := rfl; have e_5 : Int32.toInt (k6 + 1) = Int32.toInt k6 + Int32.toInt 1 := ti_add (by omega) (by omega); omega) (ms_up c_104 hm) V (lv_sub hl [1, 2, 3, 4, 0] rfl)
set_option maxRecDepth 100000 in
set_option maxHeartbeats 4000000 in
theorem kX8_store (l : Launch) (D : va_G) (cB cI : ClassId) (bd : Nat → Nat) (v : Nat → Int32) (qm : Nat → Int32) (ql : Nat → Int32) (qs : Nat → Int32) (qk : Nat → Int32) (qd : Nat → Int32) (qn : Nat → Int32) (qe : Nat → Int32) (qf : Nat → Int32) (qo : Nat → Int32) (qt : Nat → Int32) (qi : Nat → Int32) (qy : Nat → Int32) (x1 : Int32) (x2 : Int32) (x3 : Int32) (hk8 : 0 ≤ Int32.toInt x1 ∧ Int32.toInt x1 < 8) (hw : 1 ≤ Int32.toInt x2 ∧ Int32.toInt x2 ≤ 4) (ht : 0 ≤ Int32.toInt (v 0) ∧ Int32.toInt (v 0) ≤ 40) : mM l D cB cI yX8_store cX8_store 7 (some .int) { frames := 2, cells := 0, slots := 0, locals := 45 } [.ref (bd 0), .int x1, .int x2, .int x3] (wR cB cI bd v qm ql qs qk qd qn qe qf qo qt qi qy) (some ((pX8_store v qm ql qs qd qn x1 x2 x3).1)) (wR cB cI bd ((pX8_store v qm ql qs qd qn x1 x2 x3).2.1) ((pX8_store v qm ql qs qd qn x1 x2 x3).2.2.1) ((pX8_store v qm ql qs qd qn x1 x2 x3).2.2.2.1) ((pX8_store v qm ql qs qd qn x1 x2 x3).2.2.2.2) qk qd qn qe qf qo qt qi qy) := by
  refine m_start (by decide +kernel) (Nat.le_of_ble_eq_true rfl) ?_
  intro p e s m below meth c A ls X hr hk V hl
  have X : mCx p s m _ c cX8_store 7 RX8 D cB cI := X
  have hx := X.1.1
  have hb := X.1.2.1
  have hl : lv_has ls 7 [(0, .ref (bd 0)), (1, .int x1), (2, .int x2), (3, .int x3)] := hl
  refine lv_aload_n hx hb dX8_store_0 rfl (lv_at hl 0 rfl) ?_
  refine m_get X V 6 0 13 rfl gin_6 rfl (by decide) rfl gm_436 (v := .ref (bd 5)) rfl dX8_store_1 ?_
  refine lv_iload_n hx hb dX8_store_4 rfl (lv_at hl 1 rfl) ?_
  refine m_iald X V 5 rfl (by rw [vp_in_iff]; omega) dX8_store_5 ?_
  refine lv_istore (lv' := [(4, .int (qd (Int32.toNatClampNeg x1))), (0, .ref (bd 0)), (1, .int x1), (2, .int x2), (3, .int x3)]) hx hb dX8_store_6 hl (by decide) rfl (fun ls hl => ?_)
  refine lv_aload_n hx hb dX8_store_8 rfl (lv_at hl 1 rfl) ?_
  refine m_get X V 6 0 14 rfl gin_6 rfl (by decide) rfl gm_437 (v := .ref (bd 6)) rfl dX8_store_9 ?_
  refine lv_iload_n hx hb dX8_store_12 rfl (lv_at hl 2 rfl) ?_
  refine m_iald X V 6 rfl (by rw [vp_in_iff]; omega) dX8_store_13 ?_
  refine lv_istore (lv' := [(5, .int (qn (Int32.toNatClampNeg x1))), (4, .int (qd (Int32.toNatClampNeg x1))), (0, .ref (bd 0)), (1, .int x1), (2, .int x2), (3, .int x3)]) hx hb dX8_store_14 hl (by decide) rfl (fun ls hl => ?_)
  refine lv_iload hx hb dX8_store_16 (lv_at hl 1 rfl) ?_
  refine lv_if_ne (tgt := 23) hx hb dX8_store_18 (by decide) (fun c_18 => ?_) (fun c_18 => ?_)
  · refine lv_iload hx hb dX8_store_23 (lv_at hl 1 rfl) ?_
    refine lv_bipush (v := 8) hx hb dX8_store_25 (by decide) ?_
    refine lv_icmp_ne (tgt := 67) hx hb dX8_store_27 (by decide) (fun c_27 => ?_) (fun c_27 => ?_)
    · refine lv_iload hx hb dX8_store_67 (lv_at hl 1 rfl) ?_
      refine lv_bipush (v := 8) hx hb dX8_store_69 (by decide) ?_
      refine lv_icmp_le (tgt := 140) hx hb dX8_store_71 (by decide) (fun c_71 => ?_) (fun c_71 => ?_)
      · refine lv_aload_n hx hb dX8_store_140 rfl (lv_at hl 2 rfl) ?_
        refine lv_iload hx hb dX8_store_141 (lv_at hl 1 rfl) ?_
        refine lv_bipush (v := 12) hx hb dX8_store_143 (by decide) ?_
        refine lv_icmp_le (tgt := 158) hx hb dX8_store_145 (by decide) (fun c_145 => ?_) (fun c_145 => ?_)
        · refine lv_iload hx hb dX8_store_158 (lv_at hl 0 rfl) ?_
          refine lv_iload_n hx hb dX8_store_160 rfl (lv_at hl 4 rfl) ?_
          refine lv_iload_n hx hb dX8_store_161 rfl (lv_at hl 5 rfl) ?_
          obtain ⟨u162, hu162⟩ : ∃ u, pX8_lays v qm (qn (Int32.toNatClampNeg x1)) x2 x3 = u := ⟨_, rfl⟩
          have hM := kX8_lays l D cB cI bd v qm ql qs qk qd qn qe qf qo qt qi qy (qn (Int32.toNatClampNeg x1)) x2 x3 (show 0 ≤ Int32.toInt x2 ∧ Int32.toInt x2 ≤ 1024 by omega)
          rw [hu162] at hM
          refine m_VA X V (w1 := (wR cB cI bd v u162.2 ql qs qk qd qn qe qf qo qt qi qy)) (rest := []) (st1 := [.int u162.1]) hM okX8_lays gm_569 gm_707 gm_568 ⟨⟨rfl, rfl⟩, ⟨by decide, by decide⟩, Nat.zero_le _, Nat.zero_le _⟩ rfl rfl (wR_fst _ _ _ _ _ _ _ _ _ _ _ _ _ _ _ _) (wR_fst _ _ _ _ _ _ _ _ _ _ _ _ _ _ _ _) rfl hl.1 (Nat.le_of_ble_eq_true rfl) dX8_store_162 rfl rfl (fun H locs V => ?_)
          have e9 : pX8_store v qm ql qs qd qn x1 x2 x3 = (u162.1, v, u162.2, ql, qs) := by rw [pX8_store, if_neg c_18, if_neg c_27, if_pos c_71, if_pos c_145, hu162, mLet_eq]
          exact m_iret X hr hk V (by rw [e9]) (by rw [e9]) dX8_store_165
        · refine lv_aload_n hx hb dX8_store_148 rfl (lv_at hl 2 rfl) ?_
          refine m_get X V 6 0 6 rfl gin_6 rfl (by decide) rfl gm_429 (v := .int (v 2)) rfl dX8_store_149 ?_
          refine lv_iload hx hb dX8_store_152 (lv_at hl 0 rfl) ?_
          refine lv_iadd hx hb dX8_store_154 ?_
          refine lv_goto (tgt := 160) hx hb dX8_store_155 (by decide) ?_
          refine lv_iload_n hx hb dX8_store_160 rfl (lv_at hl 4 rfl) ?_
          refine lv_iload_n hx hb dX8_store_161 rfl (lv_at hl 5 rfl) ?_
          obtain ⟨u162, hu162⟩ : ∃ u, pX8_lays v qm ((v 2) + (qn (Int32.toNatClampNeg x1))) x2 x3 = u := ⟨_, rfl⟩
          have hM := kX8_lays l D cB cI bd v qm ql qs qk qd qn qe qf qo qt qi qy ((v 2) + (qn (Int32.toNatClampNeg x1))) x2 x3 (show 0 ≤ Int32.toInt x2 ∧ Int32.toInt x2 ≤ 1024 by omega)
          rw [hu162] at hM
          refine m_VA X V (w1 := (wR cB cI bd v u162.2 ql qs qk qd qn qe qf qo qt qi qy)) (rest := []) (st1 := [.int u162.1]) hM okX8_lays gm_569 gm_707 gm_568 ⟨⟨rfl, rfl⟩, ⟨by decide, by decide⟩, Nat.zero_le _, Nat.zero_le _⟩ rfl rfl (wR_fst _ _ _ _ _ _ _ _ _ _ _ _ _ _ _ _) (wR_fst _ _ _ _ _ _ _ _ _ _ _ _ _ _ _ _) rfl hl.1 (Nat.le_of_ble_eq_true rfl) dX8_store_162 rfl rfl (fun H locs V => ?_)
          have e9 : pX8_store v qm ql qs qd qn x1 x2 x3 = (u162.1, v, u162.2, ql, qs) := by rw [pX8_store, if_neg c_18, if_neg c_27, if_pos c_71, if_neg c_145, hu162, mLet_eq]
          exact m_iret X hr hk V (by rw [e9]) (by rw [e9]) dX8_store_165
      · refine lv_iload hx hb dX8_store_74 (lv_at hl 1 rfl) ?_
        refine lv_bipush (v := 12) hx hb dX8_store_76 (by decide) ?_
        refine lv_icmp_ge (tgt := 140) hx hb dX8_store_78 (by decide) (fun c_78 => ?_) (fun c_78 => ?_)
        · refine lv_aload_n hx hb dX8_store_140 rfl (lv_at hl 2 rfl) ?_
          refine lv_iload hx hb dX8_store_141 (lv_at hl 1 rfl) ?_
          refine lv_bipush (v := 12) hx hb dX8_store_143 (by decide) ?_
          refine lv_icmp_le (tgt := 158) hx hb dX8_store_145 (by decide) (fun c_145 => ?_) (fun c_145 => ?_)
          · refine lv_iload hx hb dX8_store_158 (lv_at hl 0 rfl) ?_
            refine lv_iload_n hx hb dX8_store_160 rfl (lv_at hl 4 rfl) ?_
            refine lv_iload_n hx hb dX8_store_161 rfl (lv_at hl 5 rfl) ?_
            obtain ⟨u162, hu162⟩ : ∃ u, pX8_lays v qm (qn (Int32.toNatClampNeg x1)) x2 x3 = u := ⟨_, rfl⟩
            have hM := kX8_lays l D cB cI bd v qm ql qs qk qd qn qe qf qo qt qi qy (qn (Int32.toNatClampNeg x1)) x2 x3 (show 0 ≤ Int32.toInt x2 ∧ Int32.toInt x2 ≤ 1024 by omega)
            rw [hu162] at hM
            refine m_VA X V (w1 := (wR cB cI bd v u162.2 ql qs qk qd qn qe qf qo qt qi qy)) (rest := []) (st1 := [.int u162.1]) hM okX8_lays gm_569 gm_707 gm_568 ⟨⟨rfl, rfl⟩, ⟨by decide, by decide⟩, Nat.zero_le _, Nat.zero_le _⟩ rfl rfl (wR_fst _ _ _ _ _ _ _ _ _ _ _ _ _ _ _ _) (wR_fst _ _ _ _ _ _ _ _ _ _ _ _ _ _ _ _) rfl hl.1 (Nat.le_of_ble_eq_true rfl) dX8_store_162 rfl rfl (fun H locs V => ?_)
            have e9 : pX8_store v qm ql qs qd qn x1 x2 x3 = (u162.1, v, u162.2, ql, qs) := by rw [pX8_store, if_neg c_18, if_neg c_27, if_neg c_71, if_pos c_78, if_pos c_145, hu162, mLet_eq]
            exact m_iret X hr hk V (by rw [e9]) (by rw [e9]) dX8_store_165
          · refine lv_aload_n hx hb dX8_store_148 rfl (lv_at hl 2 rfl) ?_
            refine m_get X V 6 0 6 rfl gin_6 rfl (by decide) rfl gm_429 (v := .int (v 2)) rfl dX8_store_149 ?_
            refine lv_iload hx hb dX8_store_152 (lv_at hl 0 rfl) ?_
            refine lv_iadd hx hb dX8_store_154 ?_
            refine lv_goto (tgt := 160) hx hb dX8_store_155 (by decide) ?_
            refine lv_iload_n hx hb dX8_store_160 rfl (lv_at hl 4 rfl) ?_
            refine lv_iload_n hx hb dX8_store_161 rfl (lv_at hl 5 rfl) ?_
            obtain ⟨u162, hu162⟩ : ∃ u, pX8_lays v qm ((v 2) + (qn (Int32.toNatClampNeg x1))) x2 x3 = u := ⟨_, rfl⟩
            have hM := kX8_lays l D cB cI bd v qm ql qs qk qd qn qe qf qo qt qi qy ((v 2) + (qn (Int32.toNatClampNeg x1))) x2 x3 (show 0 ≤ Int32.toInt x2 ∧ Int32.toInt x2 ≤ 1024 by omega)
            rw [hu162] at hM
            refine m_VA X V (w1 := (wR cB cI bd v u162.2 ql qs qk qd qn qe qf qo qt qi qy)) (rest := []) (st1 := [.int u162.1]) hM okX8_lays gm_569 gm_707 gm_568 ⟨⟨rfl, rfl⟩, ⟨by decide, by decide⟩, Nat.zero_le _, Nat.zero_le _⟩ rfl rfl (wR_fst _ _ _ _ _ _ _ _ _ _ _ _ _ _ _ _) (wR_fst _ _ _ _ _ _ _ _ _ _ _ _ _ _ _ _) rfl hl.1 (Nat.le_of_ble_eq_true rfl) dX8_store_162 rfl rfl (fun H locs V => ?_)
            have e9 : pX8_store v qm ql qs qd qn x1 x2 x3 = (u162.1, v, u162.2, ql, qs) := by rw [pX8_store, if_neg c_18, if_neg c_27, if_neg c_71, if_pos c_78, if_neg c_145, hu162, mLet_eq]
            exact m_iret X hr hk V (by rw [e9]) (by rw [e9]) dX8_store_165
        · refine lv_iload hx hb dX8_store_81 (lv_at hl 0 rfl) ?_
          refine lv_if_lt (tgt := 95) hx hb dX8_store_83 (by decide) (fun c_83 => ?_) (fun c_83 => ?_)
          · refine lv_bipush (v := 7) hx hb dX8_store_95 (by decide) ?_
            have e9 : pX8_store v qm ql qs qd qn x1 x2 x3 = (7, v, qm, ql, qs) := by rw [pX8_store, if_neg c_18, if_neg c_27, if_neg c_71, if_neg c_78, if_pos c_83]
            exact m_iret X hr hk V (by rw [e9]) (by rw [e9]) dX8_store_97
          · refine lv_iload hx hb dX8_store_86 (lv_at hl 0 rfl) ?_
            refine lv_bipush (v := 64) hx hb dX8_store_88 (by decide) ?_
            refine lv_iload_n hx hb dX8_store_90 rfl (lv_at hl 4 rfl) ?_
            refine lv_isub hx hb dX8_store_91 ?_
            refine lv_icmp_le (tgt := 98) hx hb dX8_store_92 (by decide) (fun c_92 => ?_) (fun c_92 => ?_)
            · refine lv_iconst (v := 0) hx hb dX8_store_98 (by decide) ?_
              refine lv_istore (lv' := [(6, .int 0), (5, .int (qn (Int32.toNatClampNeg x1))), (4, .int (qd (Int32.toNatClampNeg x1))), (0, .ref (bd 0)), (1, .int x1), (2, .int x2), (3, .int x3)]) hx hb dX8_store_99 hl (by decide) rfl (fun ls hl => ?_)
              rw [show pX8_store v qm ql qs qd qn x1 x2 x3 = (pX8_store_lp101 x2 x3 ((Int32.toInt x2 - Int32.toInt 0).toNat + 1) v qm ql qs (qn (Int32.toNatClampNeg x1)) 0) from by rw [pX8_store, if_neg c_18, if_neg c_27, if_neg c_71, if_neg c_78, if_neg c_83, if_pos c_92]]
              exact lpX8_store_101 X hr hk hk8 hw ((Int32.toInt x2 - Int32.toInt 0).toNat + 1) v qm ql qs (qn (Int32.toNatClampNeg x1)) 0 _ _ _ (show 0 ≤ Int32.toInt 0 by have z_0 : Int32.toInt 0 = 0 := rfl; omega) (show 0 ≤ Int32.toInt (qn (Int32.toNatClampNeg x1)) ∧ Int32.toInt (qn (Int32.toNatClampNeg x1)) + Int32.toInt x2 ≤ 64 by have e_2 : Int32.toInt 0 = 0 := rfl; have f_3 : ¬ Int32.toInt (qd (Int32.toNatClampNeg x1)) = Int32.toInt 0 := fun q => c_18 (Int32.toInt_inj.mp q); have e_4 : Int32.toInt 8 = 8 := rfl; have f_5 : ¬ Int32.toInt (qd (Int32.toNatClampNeg x1)) = Int32.toInt 8 := fun q => c_27 (Int32.toInt_inj.mp q); have f_6 : ¬ Int32.toInt (qd (Int32.toNatClampNeg x1)) ≤ Int32.toInt 8 := fun q => c_71 (Int32.le_iff_toInt_le.mpr q); have e_7 : Int32.toInt 12 = 12 := rfl; have f_8 : ¬ Int32.toInt 12 ≤ Int32.toInt (qd (Int32.toNatClampNeg x1)) := fun q => c_78 (Int32.le_iff_toInt_le.mpr q); have f_10 : ¬ Int32.toInt (qn (Int32.toNatClampNeg x1)) < Int32.toInt 0 := fun q => c_83 (Int32.lt_iff_toInt_lt.mpr q); have e_11 : Int32.toInt 64 = 64 := rfl; have e_13 : Int32.toInt (64 - x2) = Int32.toInt 64 - Int32.toInt x2 := ti_sub (by omega) (by omega); have f_14 : Int32.toInt (qn (Int32.toNatClampNeg x1)) ≤ Int32.toInt (64 - x2) := Int32.le_iff_toInt_le.mp c_92; omega) (Nat.lt_succ_self _) V (lv_sub hl [3, 5, 6, 1, 0] rfl)
            · refine lv_bipush (v := 7) hx hb dX8_store_95 (by decide) ?_
              have e9 : pX8_store v qm ql qs qd qn x1 x2 x3 = (7, v, qm, ql, qs) := by rw [pX8_store, if_neg c_18, if_neg c_27, if_neg c_71, if_neg c_78, if_neg c_83, if_neg c_92]
              exact m_iret X hr hk V (by rw [e9]) (by rw [e9]) dX8_store_97
    · refine lv_aload_n hx hb dX8_store_30 rfl (lv_at hl 2 rfl) ?_
      refine m_get X V 6 0 4 rfl gin_6 rfl (by decide) rfl gm_427 (v := .int (v 0)) rfl dX8_store_31 ?_
      refine lv_bipush (v := 40) hx hb dX8_store_34 (by decide) ?_
      refine lv_icmp_ne (tgt := 41) hx hb dX8_store_36 (by decide) (fun c_36 => ?_) (fun c_36 => ?_)
      · refine lv_aload_n hx hb dX8_store_41 rfl (lv_at hl 2 rfl) ?_
        refine m_get X V 6 0 2 rfl gin_6 rfl (by decide) rfl gm_425 (v := .ref (bd 3)) rfl dX8_store_42 ?_
        refine lv_aload_n hx hb dX8_store_45 rfl (lv_at hl 2 rfl) ?_
        refine m_get X V 6 0 4 rfl gin_6 rfl (by decide) rfl gm_427 (v := .int (v 0)) rfl dX8_store_46 ?_
        refine lv_iload_n hx hb dX8_store_49 rfl (lv_at hl 5 rfl) ?_
        refine lv_iload_n hx hb dX8_store_50 rfl (lv_at hl 4 rfl) ?_
        refine m_S X V (rest := [.int (v 0), .ref (bd 3)]) (st1 := [.int (pX8_lowest x3 x2), .int (v 0), .ref (bd 3)]) (kX8_lowest l D cB cI x3 x2) okX8_lowest gm_537 gm_536 ⟨⟨rfl, rfl⟩, ⟨by decide, by decide⟩, Nat.zero_le _, Nat.zero_le _⟩ rfl hl.1 (Nat.le_of_ble_eq_true rfl) dX8_store_51 rfl rfl (fun H locs V => ?_)
        refine m_iast X V (ws' := (wR cB cI bd v qm ql (upd qs (Int32.toNatClampNeg (v 0)) (pX8_lowest x3 x2)) qk qd qn qe qf qo qt qi qy)) 3 rfl (by have e_2 : Int32.toInt 40 = 40 := rfl; have f_3 : ¬ Int32.toInt (v 0) = Int32.toInt 40 := fun q => c_36 (Int32.toInt_inj.mp q); rw [vp_in_iff]; omega) dX8_store_54 rfl (fun H locs V => ?_)
        refine lv_aload_n hx hb dX8_store_55 rfl (lv_at hl 2 rfl) ?_
        refine lv_dup hx hb dX8_store_56 rfl ?_
        refine m_get X V 6 0 4 rfl gin_6 rfl (by decide) rfl gm_427 (v := .int (v 0)) rfl dX8_store_57 ?_
        refine lv_iconst (v := 1) hx hb dX8_store_60 (by decide) ?_
        refine lv_iadd hx hb dX8_store_61 ?_
        refine m_put X V (ws' := (wR cB cI bd (upd v 0 ((v 0) + 1)) qm ql (upd qs (Int32.toNatClampNeg (v 0)) (pX8_lowest x3 x2)) qk qd qn qe qf qo qt qi qy)) 6 0 4 rfl gin_6 tyX8_ok nmX8 rfl (by decide) rfl gm_427 rfl rfl rfl (Nat.le_of_ble_eq_true rfl) dX8_store_62 rfl (fun H locs V => ?_)
        refine lv_iconst (v := 0) hx hb dX8_store_65 (by decide) ?_
        have e9 : pX8_store v qm ql qs qd qn x1 x2 x3 = (0, (upd v 0 ((v 0) + 1)), qm, ql, (upd qs (Int32.toNatClampNeg (v 0)) (pX8_lowest x3 x2))) := by rw [pX8_store, if_neg c_18, if_pos c_27, if_neg c_36]
        exact m_iret X hr hk V (by rw [e9]) (by rw [e9]) dX8_store_66
      · refine lv_iconst (v := 5) hx hb dX8_store_39 (by decide) ?_
        have e9 : pX8_store v qm ql qs qd qn x1 x2 x3 = (5, v, qm, ql, qs) := by rw [pX8_store, if_neg c_18, if_pos c_27, if_pos c_36]
        exact m_iret X hr hk V (by rw [e9]) (by rw [e9]) dX8_store_40
  · refine lv_iconst (v := 0) hx hb dX8_store_21 (by decide) ?_
    have e9 : pX8_store v qm ql qs qd qn x1 x2 x3 = (0, v, qm, ql, qs) := by rw [pX8_store, if_pos c_18]
    exact m_iret X hr hk V (by rw [e9]) (by rw [e9]) dX8_store_22
def pX8_items (v : Nat → Int32) (qm : Nat → Int32) (x1 : Int32) (x2 : Int32) (x3 : Int32) : Int32 × (Nat → Int32) × (Nat → Int32) := (if (v 7) = 72 then (if (v 7) < 76 then (if (pX8_isIn (x1 + (4 * x2)) 4) = 0 then (1, v, qm) else (mLet (pX8_numberAt qm (x1 + (4 * x2)) 4) (fun (u229 : Int32) => (if (v 7) = 75 then (mLet (pX8_gives v ((u229 >>> ((x2 &&& 7) &&& 31)) &&& 1)) (fun (u256 : Int32 × (Nat → Int32)) => (u256.1, u256.2, qm))) else (mLet (pX8_gives v u229) (fun (u256 : Int32 × (Nat → Int32)) => (u256.1, u256.2, qm))))))) else (if (v 7) = 79 then (if (pX8_isIn (x1 + (4 * x2)) 1) = 0 then (mLet (pX8_lays v qm (x1 + (4 * x2)) 4 x3) (fun (u208 : Int32 × (Nat → Int32)) => (u208.1, v, u208.2))) else (if x3 = 0 then (mLet (pX8_lays v qm (x1 + (4 * x2)) 4 ((qm (Int32.toNatClampNeg (x1 + (4 * x2)))) &&& (((1 : Int32) <<< ((x2 &&& 7) &&& 31)) ^^^ (-1)))) (fun (u208 : Int32 × (Nat → Int32)) => (u208.1, v, u208.2))) else (mLet (pX8_lays v qm (x1 + (4 * x2)) 4 ((qm (Int32.toNatClampNeg (x1 + (4 * x2)))) ||| ((1 : Int32) <<< ((x2 &&& 7) &&& 31)))) (fun (u208 : Int32 × (Nat → Int32)) => (u208.1, v, u208.2))))) else (mLet (pX8_lays v qm (x1 + (4 * x2)) 4 x3) (fun (u208 : Int32 × (Nat → Int32)) => (u208.1, v, u208.2))))) else (if (v 7) = 76 then (if (v 7) < 76 then (if (pX8_isIn (x1 + (4 * x2)) 4) = 0 then (1, v, qm) else (mLet (pX8_numberAt qm (x1 + (4 * x2)) 4) (fun (u229 : Int32) => (if (v 7) = 75 then (mLet (pX8_gives v ((u229 >>> ((x2 &&& 7) &&& 31)) &&& 1)) (fun (u256 : Int32 × (Nat → Int32)) => (u256.1, u256.2, qm))) else (mLet (pX8_gives v u229) (fun (u256 : Int32 × (Nat → Int32)) => (u256.1, u256.2, qm))))))) else (if (v 7) = 79 then (if (pX8_isIn (x1 + (4 * x2)) 1) = 0 then (mLet (pX8_lays v qm (x1 + (4 * x2)) 4 x3) (fun (u208 : Int32 × (Nat → Int32)) => (u208.1, v, u208.2))) else (if x3 = 0 then (mLet (pX8_lays v qm (x1 + (4 * x2)) 4 ((qm (Int32.toNatClampNeg (x1 + (4 * x2)))) &&& (((1 : Int32) <<< ((x2 &&& 7) &&& 31)) ^^^ (-1)))) (fun (u208 : Int32 × (Nat → Int32)) => (u208.1, v, u208.2))) else (mLet (pX8_lays v qm (x1 + (4 * x2)) 4 ((qm (Int32.toNatClampNeg (x1 + (4 * x2)))) ||| ((1 : Int32) <<< ((x2 &&& 7) &&& 31)))) (fun (u208 : Int32 × (Nat → Int32)) => (u208.1, v, u208.2))))) else (mLet (pX8_lays v qm (x1 + (4 * x2)) 4 x3) (fun (u208 : Int32 × (Nat → Int32)) => (u208.1, v, u208.2))))) else (if (v 7) = 73 then (if (v 7) < 76 then (if (pX8_isIn (x1 + (2 * x2)) 2) = 0 then (1, v, qm) else (mLet (pX8_numberAt qm (x1 + (2 * x2)) 2) (fun (u229 : Int32) => (if (v 7) = 75 then (mLet (pX8_gives v ((u229 >>> ((x2 &&& 7) &&& 31)) &&& 1)) (fun (u256 : Int32 × (Nat → Int32)) => (u256.1, u256.2, qm))) else (mLet (pX8_gives v u229) (fun (u256 : Int32 × (Nat → Int32)) => (u256.1, u256.2, qm))))))) else (if (v 7) = 79 then (if (pX8_isIn (x1 + (2 * x2)) 1) = 0 then (mLet (pX8_lays v qm (x1 + (2 * x2)) 2 x3) (fun (u208 : Int32 × (Nat → Int32)) => (u208.1, v, u208.2))) else (if x3 = 0 then (mLet (pX8_lays v qm (x1 + (2 * x2)) 2 ((qm (Int32.toNatClampNeg (x1 + (2 * x2)))) &&& (((1 : Int32) <<< ((x2 &&& 7) &&& 31)) ^^^ (-1)))) (fun (u208 : Int32 × (Nat → Int32)) => (u208.1, v, u208.2))) else (mLet (pX8_lays v qm (x1 + (2 * x2)) 2 ((qm (Int32.toNatClampNeg (x1 + (2 * x2)))) ||| ((1 : Int32) <<< ((x2 &&& 7) &&& 31)))) (fun (u208 : Int32 × (Nat → Int32)) => (u208.1, v, u208.2))))) else (mLet (pX8_lays v qm (x1 + (2 * x2)) 2 x3) (fun (u208 : Int32 × (Nat → Int32)) => (u208.1, v, u208.2))))) else (if (v 7) = 77 then (if (v 7) < 76 then (if (pX8_isIn (x1 + (2 * x2)) 2) = 0 then (1, v, qm) else (mLet (pX8_numberAt qm (x1 + (2 * x2)) 2) (fun (u229 : Int32) => (if (v 7) = 75 then (mLet (pX8_gives v ((u229 >>> ((x2 &&& 7) &&& 31)) &&& 1)) (fun (u256 : Int32 × (Nat → Int32)) => (u256.1, u256.2, qm))) else (mLet (pX8_gives v u229) (fun (u256 : Int32 × (Nat → Int32)) => (u256.1, u256.2, qm))))))) else (if (v 7) = 79 then (if (pX8_isIn (x1 + (2 * x2)) 1) = 0 then (mLet (pX8_lays v qm (x1 + (2 * x2)) 2 x3) (fun (u208 : Int32 × (Nat → Int32)) => (u208.1, v, u208.2))) else (if x3 = 0 then (mLet (pX8_lays v qm (x1 + (2 * x2)) 2 ((qm (Int32.toNatClampNeg (x1 + (2 * x2)))) &&& (((1 : Int32) <<< ((x2 &&& 7) &&& 31)) ^^^ (-1)))) (fun (u208 : Int32 × (Nat → Int32)) => (u208.1, v, u208.2))) else (mLet (pX8_lays v qm (x1 + (2 * x2)) 2 ((qm (Int32.toNatClampNeg (x1 + (2 * x2)))) ||| ((1 : Int32) <<< ((x2 &&& 7) &&& 31)))) (fun (u208 : Int32 × (Nat → Int32)) => (u208.1, v, u208.2))))) else (mLet (pX8_lays v qm (x1 + (2 * x2)) 2 x3) (fun (u208 : Int32 × (Nat → Int32)) => (u208.1, v, u208.2))))) else (if (v 7) = 74 then (if (v 7) < 76 then (if (pX8_isIn (x1 + x2) 1) = 0 then (1, v, qm) else (if (v 7) = 75 then (mLet (pX8_gives v (((pX8_numberAt qm (x1 + x2) 1) >>> ((x2 &&& 7) &&& 31)) &&& 1)) (fun (u256 : Int32 × (Nat → Int32)) => (u256.1, u256.2, qm))) else (mLet (pX8_gives v (pX8_numberAt qm (x1 + x2) 1)) (fun (u256 : Int32 × (Nat → Int32)) => (u256.1, u256.2, qm))))) else (if (v 7) = 79 then (if (pX8_isIn (x1 + x2) 1) = 0 then (mLet (pX8_lays v qm (x1 + x2) 1 x3) (fun (u208 : Int32 × (Nat → Int32)) => (u208.1, v, u208.2))) else (if x3 = 0 then (mLet (pX8_lays v qm (x1 + x2) 1 ((qm (Int32.toNatClampNeg (x1 + x2))) &&& (((1 : Int32) <<< ((x2 &&& 7) &&& 31)) ^^^ (-1)))) (fun (u208 : Int32 × (Nat → Int32)) => (u208.1, v, u208.2))) else (mLet (pX8_lays v qm (x1 + x2) 1 ((qm (Int32.toNatClampNeg (x1 + x2))) ||| ((1 : Int32) <<< ((x2 &&& 7) &&& 31)))) (fun (u208 : Int32 × (Nat → Int32)) => (u208.1, v, u208.2))))) else (mLet (pX8_lays v qm (x1 + x2) 1 x3) (fun (u208 : Int32 × (Nat → Int32)) => (u208.1, v, u208.2))))) else (if (v 7) = 78 then (if (v 7) < 76 then (if (pX8_isIn (x1 + x2) 1) = 0 then (1, v, qm) else (if (v 7) = 75 then (mLet (pX8_gives v (((pX8_numberAt qm (x1 + x2) 1) >>> ((x2 &&& 7) &&& 31)) &&& 1)) (fun (u256 : Int32 × (Nat → Int32)) => (u256.1, u256.2, qm))) else (mLet (pX8_gives v (pX8_numberAt qm (x1 + x2) 1)) (fun (u256 : Int32 × (Nat → Int32)) => (u256.1, u256.2, qm))))) else (if (v 7) = 79 then (if (pX8_isIn (x1 + x2) 1) = 0 then (mLet (pX8_lays v qm (x1 + x2) 1 x3) (fun (u208 : Int32 × (Nat → Int32)) => (u208.1, v, u208.2))) else (if x3 = 0 then (mLet (pX8_lays v qm (x1 + x2) 1 ((qm (Int32.toNatClampNeg (x1 + x2))) &&& (((1 : Int32) <<< ((x2 &&& 7) &&& 31)) ^^^ (-1)))) (fun (u208 : Int32 × (Nat → Int32)) => (u208.1, v, u208.2))) else (mLet (pX8_lays v qm (x1 + x2) 1 ((qm (Int32.toNatClampNeg (x1 + x2))) ||| ((1 : Int32) <<< ((x2 &&& 7) &&& 31)))) (fun (u208 : Int32 × (Nat → Int32)) => (u208.1, v, u208.2))))) else (mLet (pX8_lays v qm (x1 + x2) 1 x3) (fun (u208 : Int32 × (Nat → Int32)) => (u208.1, v, u208.2))))) else (if (v 7) < 76 then (if (pX8_isIn (x1 + (x2 >>> (3 &&& 31))) 1) = 0 then (1, v, qm) else (mLet (pX8_numberAt qm (x1 + (x2 >>> (3 &&& 31))) 1) (fun (u229 : Int32) => (if (v 7) = 75 then (mLet (pX8_gives v ((u229 >>> ((x2 &&& 7) &&& 31)) &&& 1)) (fun (u256 : Int32 × (Nat → Int32)) => (u256.1, u256.2, qm))) else (mLet (pX8_gives v u229) (fun (u256 : Int32 × (Nat → Int32)) => (u256.1, u256.2, qm))))))) else (if (v 7) = 79 then (if (pX8_isIn (x1 + (x2 >>> (3 &&& 31))) 1) = 0 then (mLet (pX8_lays v qm (x1 + (x2 >>> (3 &&& 31))) 1 x3) (fun (u208 : Int32 × (Nat → Int32)) => (u208.1, v, u208.2))) else (if x3 = 0 then (mLet (pX8_lays v qm (x1 + (x2 >>> (3 &&& 31))) 1 ((qm (Int32.toNatClampNeg (x1 + (x2 >>> (3 &&& 31))))) &&& (((1 : Int32) <<< ((x2 &&& 7) &&& 31)) ^^^ (-1)))) (fun (u208 : Int32 × (Nat → Int32)) => (u208.1, v, u208.2))) else (mLet (pX8_lays v qm (x1 + (x2 >>> (3 &&& 31))) 1 ((qm (Int32.toNatClampNeg (x1 + (x2 >>> (3 &&& 31))))) ||| ((1 : Int32) <<< ((x2 &&& 7) &&& 31)))) (fun (u208 : Int32 × (Nat → Int32)) => (u208.1, v, u208.2))))) else (mLet (pX8_lays v qm (x1 + (x2 >>> (3 &&& 31))) 1 x3) (fun (u208 : Int32 × (Nat → Int32)) => (u208.1, v, u208.2)))))))))))
theorem okX8_items : mOk yX8_items cX8_items 8 (some .int) 3 := ⟨gm_567, gm_8, by decide +kernel⟩
set_option maxRecDepth 100000 in
set_option maxHeartbeats 4000000 in
theorem kX8_items (l : Launch) (D : va_G) (cB cI : ClassId) (bd : Nat → Nat) (v : Nat → Int32) (qm : Nat → Int32) (ql : Nat → Int32) (qs : Nat → Int32) (qk : Nat → Int32) (qd : Nat → Int32) (qn : Nat → Int32) (qe : Nat → Int32) (qf : Nat → Int32) (qo : Nat → Int32) (qt : Nat → Int32) (qi : Nat → Int32) (qy : Nat → Int32) (x1 : Int32) (x2 : Int32) (x3 : Int32) : mM l D cB cI yX8_items cX8_items 8 (some .int) { frames := 2, cells := 0, slots := 0, locals := 45 } [.ref (bd 0), .int x1, .int x2, .int x3] (wR cB cI bd v qm ql qs qk qd qn qe qf qo qt qi qy) (some ((pX8_items v qm x1 x2 x3).1)) (wR cB cI bd ((pX8_items v qm x1 x2 x3).2.1) ((pX8_items v qm x1 x2 x3).2.2) ql qs qk qd qn qe qf qo qt qi qy) := by
  refine m_start (by decide +kernel) (Nat.le_of_ble_eq_true rfl) ?_
  intro p e s m below meth c A ls X hr hk V hl
  have X : mCx p s m _ c cX8_items 8 RX8 D cB cI := X
  have hx := X.1.1
  have hb := X.1.2.1
  have hl : lv_has ls 8 [(0, .ref (bd 0)), (1, .int x1), (2, .int x2), (3, .int x3)] := hl
  refine lv_aload_n hx hb dX8_items_0 rfl (lv_at hl 0 rfl) ?_
  refine m_get X V 6 0 11 rfl gin_6 rfl (by decide) rfl gm_434 (v := .int (v 7)) rfl dX8_items_1 ?_
  refine lv_bipush (v := 72) hx hb dX8_items_4 (by decide) ?_
  refine lv_icmp_eq (tgt := 18) hx hb dX8_items_6 (by decide) (fun c_6 => ?_) (fun c_6 => ?_)
  · refine lv_iload_n hx hb dX8_items_18 rfl (lv_at hl 1 rfl) ?_
    refine lv_iconst (v := 4) hx hb dX8_items_19 (by decide) ?_
    refine lv_iload_n hx hb dX8_items_20 rfl (lv_at hl 2 rfl) ?_
    refine lv_imul hx hb dX8_items_21 ?_
    refine lv_iadd hx hb dX8_items_22 ?_
    refine lv_goto (tgt := 81) hx hb dX8_items_23 (by decide) ?_
    refine lv_istore (lv' := [(4, .int (x1 + (4 * x2))), (0, .ref (bd 0)), (1, .int x1), (2, .int x2), (3, .int x3)]) hx hb dX8_items_81 hl (by decide) rfl (fun ls hl => ?_)
    refine lv_aload_n hx hb dX8_items_83 rfl (lv_at hl 1 rfl) ?_
    refine m_get X V 6 0 11 rfl gin_6 rfl (by decide) rfl gm_434 (v := .int (v 7)) rfl dX8_items_84 ?_
    refine lv_bipush (v := 72) hx hb dX8_items_87 (by decide) ?_
    refine lv_icmp_eq (tgt := 101) hx hb dX8_items_89 (by decide) (fun _ => ?_) (fun h => absurd c_6 h)
    refine lv_iconst (v := 4) hx hb dX8_items_101 (by decide) ?_
    refine lv_goto (tgt := 128) hx hb dX8_items_102 (by decide) ?_
    refine lv_istore (lv' := [(5, .int 4), (4, .int (x1 + (4 * x2))), (0, .ref (bd 0)), (1, .int x1), (2, .int x2), (3, .int x3)]) hx hb dX8_items_128 hl (by decide) rfl (fun ls hl => ?_)
    refine lv_iload_n hx hb dX8_items_130 rfl (lv_at hl 4 rfl) ?_
    refine lv_bipush (v := 7) hx hb dX8_items_131 (by decide) ?_
    refine lv_iand hx hb dX8_items_133 ?_
    refine lv_istore (lv' := [(6, .int (x2 &&& 7)), (5, .int 4), (4, .int (x1 + (4 * x2))), (0, .ref (bd 0)), (1, .int x1), (2, .int x2), (3, .int x3)]) hx hb dX8_items_134 hl (by decide) rfl (fun ls hl => ?_)
    refine lv_aload_n hx hb dX8_items_136 rfl (lv_at hl 3 rfl) ?_
    refine m_get X V 6 0 11 rfl gin_6 rfl (by decide) rfl gm_434 (v := .int (v 7)) rfl dX8_items_137 ?_
    refine lv_bipush (v := 76) hx hb dX8_items_140 (by decide) ?_
    refine lv_icmp_lt (tgt := 212) hx hb dX8_items_142 (by decide) (fun c_142 => ?_) (fun c_142 => ?_)
    · refine lv_iload hx hb dX8_items_212 (lv_at hl 2 rfl) ?_
      refine lv_iload hx hb dX8_items_214 (lv_at hl 1 rfl) ?_
      refine m_S X V (rest := []) (st1 := [.int (pX8_isIn (x1 + (4 * x2)) 4)]) (kX8_isIn l D cB cI (x1 + (4 * x2)) 4) okX8_isIn gm_544 gm_543 ⟨⟨rfl, rfl⟩, ⟨by decide, by decide⟩, Nat.zero_le _, Nat.zero_le _⟩ rfl hl.1 (Nat.le_of_ble_eq_true rfl) dX8_items_216 rfl rfl (fun H locs V => ?_)
      refine lv_if_ne (tgt := 224) hx hb dX8_items_219 (by decide) (fun c_219 => ?_) (fun c_219 => ?_)
      · refine lv_aload_n hx hb dX8_items_224 rfl (lv_at hl 3 rfl) ?_
        refine lv_iload hx hb dX8_items_225 (lv_at hl 2 rfl) ?_
        refine lv_iload hx hb dX8_items_227 (lv_at hl 1 rfl) ?_
        obtain ⟨u229, hu229⟩ : ∃ u, pX8_numberAt qm (x1 + (4 * x2)) 4 = u := ⟨_, rfl⟩
        have hM := kX8_numberAt l D cB cI bd v qm ql qs qk qd qn qe qf qo qt qi qy (x1 + (4 * x2)) 4 (show 0 ≤ Int32.toInt (x1 + (4 * x2)) ∧ Int32.toInt (x1 + (4 * x2)) + Int32.toInt 4 ≤ 1024 by have z_0 : Int32.toInt 4 = 4 := rfl; have e_1 : Int32.toInt 4 = 4 := rfl; have f_2 := isIn_spec (a := (x1 + (4 * x2))) (n := 4) (by omega) c_219; omega)
        rw [hu229] at hM
        refine m_VA X V (w1 := (wR cB cI bd v qm ql qs qk qd qn qe qf qo qt qi qy)) (rest := []) (st1 := [.int u229]) hM okX8_numberAt gm_510 gm_698 gm_509 ⟨⟨rfl, rfl⟩, ⟨by decide, by decide⟩, Nat.zero_le _, Nat.zero_le _⟩ rfl rfl (wR_fst _ _ _ _ _ _ _ _ _ _ _ _ _ _ _ _) (wR_fst _ _ _ _ _ _ _ _ _ _ _ _ _ _ _ _) rfl hl.1 (Nat.le_of_ble_eq_true rfl) dX8_items_229 rfl rfl (fun H locs V => ?_)
        refine lv_istore (lv' := [(7, .int u229), (6, .int (x2 &&& 7)), (5, .int 4), (4, .int (x1 + (4 * x2))), (0, .ref (bd 0)), (1, .int x1), (2, .int x2), (3, .int x3)]) hx hb dX8_items_232 hl (by decide) rfl (fun ls hl => ?_)
        refine lv_aload_n hx hb dX8_items_234 rfl (lv_at hl 4 rfl) ?_
        refine lv_aload_n hx hb dX8_items_235 rfl (lv_at hl 4 rfl) ?_
        refine m_get X V 6 0 11 rfl gin_6 rfl (by decide) rfl gm_434 (v := .int (v 7)) rfl dX8_items_236 ?_
        refine lv_bipush (v := 75) hx hb dX8_items_239 (by decide) ?_
        refine lv_icmp_ne (tgt := 254) hx hb dX8_items_241 (by decide) (fun c_241 => ?_) (fun c_241 => ?_)
        · refine lv_iload hx hb dX8_items_254 (lv_at hl 0 rfl) ?_
          obtain ⟨u256, hu256⟩ : ∃ u, pX8_gives v u229 = u := ⟨_, rfl⟩
          have hM := kX8_gives l D cB cI bd v qm ql qs qk qd qn qe qf qo qt qi qy u229
          rw [hu256] at hM
          refine m_VA X V (w1 := (wR cB cI bd u256.2 qm ql qs qk qd qn qe qf qo qt qi qy)) (rest := []) (st1 := [.int u256.1]) hM okX8_gives gm_553 gm_704 gm_552 ⟨⟨rfl, rfl⟩, ⟨by decide, by decide⟩, Nat.zero_le _, Nat.zero_le _⟩ rfl rfl (wR_fst _ _ _ _ _ _ _ _ _ _ _ _ _ _ _ _) (wR_fst _ _ _ _ _ _ _ _ _ _ _ _ _ _ _ _) rfl hl.1 (Nat.le_of_ble_eq_true rfl) dX8_items_256 rfl rfl (fun H locs V => ?_)
          have e9 : pX8_items v qm x1 x2 x3 = (u256.1, u256.2, qm) := by rw [pX8_items, if_pos c_6, if_pos c_142, if_neg c_219, hu229, mLet_eq, if_neg c_241, hu256, mLet_eq]
          exact m_iret X hr hk V (by rw [e9]) (by rw [e9]) dX8_items_259
        · refine lv_iload hx hb dX8_items_244 (lv_at hl 0 rfl) ?_
          refine lv_iload hx hb dX8_items_246 (lv_at hl 1 rfl) ?_
          refine lv_ishr hx hb dX8_items_248 ?_
          refine lv_iconst (v := 1) hx hb dX8_items_249 (by decide) ?_
          refine lv_iand hx hb dX8_items_250 ?_
          refine lv_goto (tgt := 256) hx hb dX8_items_251 (by decide) ?_
          obtain ⟨u256, hu256⟩ : ∃ u, pX8_gives v ((u229 >>> ((x2 &&& 7) &&& 31)) &&& 1) = u := ⟨_, rfl⟩
          have hM := kX8_gives l D cB cI bd v qm ql qs qk qd qn qe qf qo qt qi qy ((u229 >>> ((x2 &&& 7) &&& 31)) &&& 1)
          rw [hu256] at hM
          refine m_VA X V (w1 := (wR cB cI bd u256.2 qm ql qs qk qd qn qe qf qo qt qi qy)) (rest := []) (st1 := [.int u256.1]) hM okX8_gives gm_553 gm_704 gm_552 ⟨⟨rfl, rfl⟩, ⟨by decide, by decide⟩, Nat.zero_le _, Nat.zero_le _⟩ rfl rfl (wR_fst _ _ _ _ _ _ _ _ _ _ _ _ _ _ _ _) (wR_fst _ _ _ _ _ _ _ _ _ _ _ _ _ _ _ _) rfl hl.1 (Nat.le_of_ble_eq_true rfl) dX8_items_256 rfl rfl (fun H locs V => ?_)
          have e9 : pX8_items v qm x1 x2 x3 = (u256.1, u256.2, qm) := by rw [pX8_items, if_pos c_6, if_pos c_142, if_neg c_219, hu229, mLet_eq, if_pos c_241, hu256, mLet_eq]
          exact m_iret X hr hk V (by rw [e9]) (by rw [e9]) dX8_items_259
      · refine lv_iconst (v := 1) hx hb dX8_items_222 (by decide) ?_
        have e9 : pX8_items v qm x1 x2 x3 = (1, v, qm) := by rw [pX8_items, if_pos c_6, if_pos c_142, if_pos c_219]
        exact m_iret X hr hk V (by rw [e9]) (by rw [e9]) dX8_items_223
    · refine lv_iload_n hx hb dX8_items_145 rfl (lv_at hl 6 rfl) ?_
      refine lv_istore (lv' := [(7, .int x3), (6, .int (x2 &&& 7)), (5, .int 4), (4, .int (x1 + (4 * x2))), (0, .ref (bd 0)), (1, .int x1), (2, .int x2), (3, .int x3)]) hx hb dX8_items_146 hl (by decide) rfl (fun ls hl => ?_)
      refine lv_aload_n hx hb dX8_items_148 rfl (lv_at hl 4 rfl) ?_
      refine m_get X V 6 0 11 rfl gin_6 rfl (by decide) rfl gm_434 (v := .int (v 7)) rfl dX8_items_149 ?_
      refine lv_bipush (v := 79) hx hb dX8_items_152 (by decide) ?_
      refine lv_icmp_ne (tgt := 201) hx hb dX8_items_154 (by decide) (fun c_154 => ?_) (fun c_154 => ?_)
      · refine lv_aload_n hx hb dX8_items_201 rfl (lv_at hl 4 rfl) ?_
        refine lv_iload hx hb dX8_items_202 (lv_at hl 3 rfl) ?_
        refine lv_iload hx hb dX8_items_204 (lv_at hl 2 rfl) ?_
        refine lv_iload hx hb dX8_items_206 (lv_at hl 0 rfl) ?_
        obtain ⟨u208, hu208⟩ : ∃ u, pX8_lays v qm (x1 + (4 * x2)) 4 x3 = u := ⟨_, rfl⟩
        have hM := kX8_lays l D cB cI bd v qm ql qs qk qd qn qe qf qo qt qi qy (x1 + (4 * x2)) 4 x3 (show 0 ≤ Int32.toInt 4 ∧ Int32.toInt 4 ≤ 1024 by have z_0 : Int32.toInt 4 = 4 := rfl; have e_1 : Int32.toInt 4 = 4 := rfl; omega)
        rw [hu208] at hM
        refine m_VA X V (w1 := (wR cB cI bd v u208.2 ql qs qk qd qn qe qf qo qt qi qy)) (rest := []) (st1 := [.int u208.1]) hM okX8_lays gm_569 gm_707 gm_568 ⟨⟨rfl, rfl⟩, ⟨by decide, by decide⟩, Nat.zero_le _, Nat.zero_le _⟩ rfl rfl (wR_fst _ _ _ _ _ _ _ _ _ _ _ _ _ _ _ _) (wR_fst _ _ _ _ _ _ _ _ _ _ _ _ _ _ _ _) rfl hl.1 (Nat.le_of_ble_eq_true rfl) dX8_items_208 rfl rfl (fun H locs V => ?_)
        have e9 : pX8_items v qm x1 x2 x3 = (u208.1, v, u208.2) := by rw [pX8_items, if_pos c_6, if_neg c_142, if_neg c_154, hu208, mLet_eq]
        exact m_iret X hr hk V (by rw [e9]) (by rw [e9]) dX8_items_211
      · refine lv_iload hx hb dX8_items_157 (lv_at hl 3 rfl) ?_
        refine lv_iconst (v := 1) hx hb dX8_items_159 (by decide) ?_
        refine m_S X V (rest := []) (st1 := [.int (pX8_isIn (x1 + (4 * x2)) 1)]) (kX8_isIn l D cB cI (x1 + (4 * x2)) 1) okX8_isIn gm_544 gm_543 ⟨⟨rfl, rfl⟩, ⟨by decide, by decide⟩, Nat.zero_le _, Nat.zero_le _⟩ rfl hl.1 (Nat.le_of_ble_eq_true rfl) dX8_items_160 rfl rfl (fun H locs V => ?_)
        refine lv_if_eq (tgt := 201) hx hb dX8_items_163 (by decide) (fun c_163 => ?_) (fun c_163 => ?_)
        · refine lv_aload_n hx hb dX8_items_201 rfl (lv_at hl 4 rfl) ?_
          refine lv_iload hx hb dX8_items_202 (lv_at hl 3 rfl) ?_
          refine lv_iload hx hb dX8_items_204 (lv_at hl 2 rfl) ?_
          refine lv_iload hx hb dX8_items_206 (lv_at hl 0 rfl) ?_
          obtain ⟨u208, hu208⟩ : ∃ u, pX8_lays v qm (x1 + (4 * x2)) 4 x3 = u := ⟨_, rfl⟩
          have hM := kX8_lays l D cB cI bd v qm ql qs qk qd qn qe qf qo qt qi qy (x1 + (4 * x2)) 4 x3 (show 0 ≤ Int32.toInt 4 ∧ Int32.toInt 4 ≤ 1024 by have z_0 : Int32.toInt 4 = 4 := rfl; have e_1 : Int32.toInt 4 = 4 := rfl; omega)
          rw [hu208] at hM
          refine m_VA X V (w1 := (wR cB cI bd v u208.2 ql qs qk qd qn qe qf qo qt qi qy)) (rest := []) (st1 := [.int u208.1]) hM okX8_lays gm_569 gm_707 gm_568 ⟨⟨rfl, rfl⟩, ⟨by decide, by decide⟩, Nat.zero_le _, Nat.zero_le _⟩ rfl rfl (wR_fst _ _ _ _ _ _ _ _ _ _ _ _ _ _ _ _) (wR_fst _ _ _ _ _ _ _ _ _ _ _ _ _ _ _ _) rfl hl.1 (Nat.le_of_ble_eq_true rfl) dX8_items_208 rfl rfl (fun H locs V => ?_)
          have e9 : pX8_items v qm x1 x2 x3 = (u208.1, v, u208.2) := by rw [pX8_items, if_pos c_6, if_neg c_142, if_pos c_154, if_pos c_163, hu208, mLet_eq]
          exact m_iret X hr hk V (by rw [e9]) (by rw [e9]) dX8_items_211
        · refine lv_iload_n hx hb dX8_items_166 rfl (lv_at hl 7 rfl) ?_
          refine lv_if_eq (tgt := 185) hx hb dX8_items_167 (by decide) (fun c_167 => ?_) (fun c_167 => ?_)
          · refine lv_aload_n hx hb dX8_items_185 rfl (lv_at hl 4 rfl) ?_
            refine m_get X V 6 0 0 rfl gin_6 rfl (by decide) rfl gm_423 (v := .ref (bd 1)) rfl dX8_items_186 ?_
            refine lv_iload hx hb dX8_items_189 (lv_at hl 3 rfl) ?_
            refine m_iald X V 1 rfl (by have e_1 : Int32.toInt 1 = 1 := rfl; have f_2 := isIn_spec (a := (x1 + (4 * x2))) (n := 1) (by omega) c_163; rw [vp_in_iff]; omega) dX8_items_191 ?_
            refine lv_iconst (v := 1) hx hb dX8_items_192 (by decide) ?_
            refine lv_iload hx hb dX8_items_193 (lv_at hl 1 rfl) ?_
            refine lv_ishl hx hb dX8_items_195 ?_
            refine lv_iconst (v := (-1)) hx hb dX8_items_196 (by decide) ?_
            refine lv_ixor hx hb dX8_items_197 ?_
            refine lv_iand hx hb dX8_items_198 ?_
            refine lv_istore (lv' := [(7, .int ((qm (Int32.toNatClampNeg (x1 + (4 * x2)))) &&& (((1 : Int32) <<< ((x2 &&& 7) &&& 31)) ^^^ (-1)))), (6, .int (x2 &&& 7)), (5, .int 4), (4, .int (x1 + (4 * x2))), (0, .ref (bd 0)), (1, .int x1), (2, .int x2), (3, .int x3)]) hx hb dX8_items_199 hl (by decide) rfl (fun ls hl => ?_)
            refine lv_aload_n hx hb dX8_items_201 rfl (lv_at hl 4 rfl) ?_
            refine lv_iload hx hb dX8_items_202 (lv_at hl 3 rfl) ?_
            refine lv_iload hx hb dX8_items_204 (lv_at hl 2 rfl) ?_
            refine lv_iload hx hb dX8_items_206 (lv_at hl 0 rfl) ?_
            obtain ⟨u208, hu208⟩ : ∃ u, pX8_lays v qm (x1 + (4 * x2)) 4 ((qm (Int32.toNatClampNeg (x1 + (4 * x2)))) &&& (((1 : Int32) <<< ((x2 &&& 7) &&& 31)) ^^^ (-1))) = u := ⟨_, rfl⟩
            have hM := kX8_lays l D cB cI bd v qm ql qs qk qd qn qe qf qo qt qi qy (x1 + (4 * x2)) 4 ((qm (Int32.toNatClampNeg (x1 + (4 * x2)))) &&& (((1 : Int32) <<< ((x2 &&& 7) &&& 31)) ^^^ (-1))) (show 0 ≤ Int32.toInt 4 ∧ Int32.toInt 4 ≤ 1024 by have z_0 : Int32.toInt 4 = 4 := rfl; have e_1 : Int32.toInt 4 = 4 := rfl; omega)
            rw [hu208] at hM
            refine m_VA X V (w1 := (wR cB cI bd v u208.2 ql qs qk qd qn qe qf qo qt qi qy)) (rest := []) (st1 := [.int u208.1]) hM okX8_lays gm_569 gm_707 gm_568 ⟨⟨rfl, rfl⟩, ⟨by decide, by decide⟩, Nat.zero_le _, Nat.zero_le _⟩ rfl rfl (wR_fst _ _ _ _ _ _ _ _ _ _ _ _ _ _ _ _) (wR_fst _ _ _ _ _ _ _ _ _ _ _ _ _ _ _ _) rfl hl.1 (Nat.le_of_ble_eq_true rfl) dX8_items_208 rfl rfl (fun H locs V => ?_)
            have e9 : pX8_items v qm x1 x2 x3 = (u208.1, v, u208.2) := by rw [pX8_items, if_pos c_6, if_neg c_142, if_pos c_154, if_neg c_163, if_pos c_167, hu208, mLet_eq]
            exact m_iret X hr hk V (by rw [e9]) (by rw [e9]) dX8_items_211
          · refine lv_aload_n hx hb dX8_items_170 rfl (lv_at hl 4 rfl) ?_
            refine m_get X V 6 0 0 rfl gin_6 rfl (by decide) rfl gm_423 (v := .ref (bd 1)) rfl dX8_items_171 ?_
            refine lv_iload hx hb dX8_items_174 (lv_at hl 3 rfl) ?_
            refine m_iald X V 1 rfl (by have e_1 : Int32.toInt 1 = 1 := rfl; have f_2 := isIn_spec (a := (x1 + (4 * x2))) (n := 1) (by omega) c_163; rw [vp_in_iff]; omega) dX8_items_176 ?_
            refine lv_iconst (v := 1) hx hb dX8_items_177 (by decide) ?_
            refine lv_iload hx hb dX8_items_178 (lv_at hl 1 rfl) ?_
            refine lv_ishl hx hb dX8_items_180 ?_
            refine lv_ior hx hb dX8_items_181 ?_
            refine lv_goto (tgt := 199) hx hb dX8_items_182 (by decide) ?_
            refine lv_istore (lv' := [(7, .int ((qm (Int32.toNatClampNeg (x1 + (4 * x2)))) ||| ((1 : Int32) <<< ((x2 &&& 7) &&& 31)))), (6, .int (x2 &&& 7)), (5, .int 4), (4, .int (x1 + (4 * x2))), (0, .ref (bd 0)), (1, .int x1), (2, .int x2), (3, .int x3)]) hx hb dX8_items_199 hl (by decide) rfl (fun ls hl => ?_)
            refine lv_aload_n hx hb dX8_items_201 rfl (lv_at hl 4 rfl) ?_
            refine lv_iload hx hb dX8_items_202 (lv_at hl 3 rfl) ?_
            refine lv_iload hx hb dX8_items_204 (lv_at hl 2 rfl) ?_
            refine lv_iload hx hb dX8_items_206 (lv_at hl 0 rfl) ?_
            obtain ⟨u208, hu208⟩ : ∃ u, pX8_lays v qm (x1 + (4 * x2)) 4 ((qm (Int32.toNatClampNeg (x1 + (4 * x2)))) ||| ((1 : Int32) <<< ((x2 &&& 7) &&& 31))) = u := ⟨_, rfl⟩
            have hM := kX8_lays l D cB cI bd v qm ql qs qk qd qn qe qf qo qt qi qy (x1 + (4 * x2)) 4 ((qm (Int32.toNatClampNeg (x1 + (4 * x2)))) ||| ((1 : Int32) <<< ((x2 &&& 7) &&& 31))) (show 0 ≤ Int32.toInt 4 ∧ Int32.toInt 4 ≤ 1024 by have z_0 : Int32.toInt 4 = 4 := rfl; have e_1 : Int32.toInt 4 = 4 := rfl; omega)
            rw [hu208] at hM
            refine m_VA X V (w1 := (wR cB cI bd v u208.2 ql qs qk qd qn qe qf qo qt qi qy)) (rest := []) (st1 := [.int u208.1]) hM okX8_lays gm_569 gm_707 gm_568 ⟨⟨rfl, rfl⟩, ⟨by decide, by decide⟩, Nat.zero_le _, Nat.zero_le _⟩ rfl rfl (wR_fst _ _ _ _ _ _ _ _ _ _ _ _ _ _ _ _) (wR_fst _ _ _ _ _ _ _ _ _ _ _ _ _ _ _ _) rfl hl.1 (Nat.le_of_ble_eq_true rfl) dX8_items_208 rfl rfl (fun H locs V => ?_)
            have e9 : pX8_items v qm x1 x2 x3 = (u208.1, v, u208.2) := by rw [pX8_items, if_pos c_6, if_neg c_142, if_pos c_154, if_neg c_163, if_neg c_167, hu208, mLet_eq]
            exact m_iret X hr hk V (by rw [e9]) (by rw [e9]) dX8_items_211
  · refine lv_aload_n hx hb dX8_items_9 rfl (lv_at hl 0 rfl) ?_
    refine m_get X V 6 0 11 rfl gin_6 rfl (by decide) rfl gm_434 (v := .int (v 7)) rfl dX8_items_10 ?_
    refine lv_bipush (v := 76) hx hb dX8_items_13 (by decide) ?_
    refine lv_icmp_ne (tgt := 26) hx hb dX8_items_15 (by decide) (fun c_15 => ?_) (fun c_15 => ?_)
    · refine lv_aload_n hx hb dX8_items_26 rfl (lv_at hl 0 rfl) ?_
      refine m_get X V 6 0 11 rfl gin_6 rfl (by decide) rfl gm_434 (v := .int (v 7)) rfl dX8_items_27 ?_
      refine lv_bipush (v := 73) hx hb dX8_items_30 (by decide) ?_
      refine lv_icmp_eq (tgt := 44) hx hb dX8_items_32 (by decide) (fun c_32 => ?_) (fun c_32 => ?_)
      · refine lv_iload_n hx hb dX8_items_44 rfl (lv_at hl 1 rfl) ?_
        refine lv_iconst (v := 2) hx hb dX8_items_45 (by decide) ?_
        refine lv_iload_n hx hb dX8_items_46 rfl (lv_at hl 2 rfl) ?_
        refine lv_imul hx hb dX8_items_47 ?_
        refine lv_iadd hx hb dX8_items_48 ?_
        refine lv_goto (tgt := 81) hx hb dX8_items_49 (by decide) ?_
        refine lv_istore (lv' := [(4, .int (x1 + (2 * x2))), (0, .ref (bd 0)), (1, .int x1), (2, .int x2), (3, .int x3)]) hx hb dX8_items_81 hl (by decide) rfl (fun ls hl => ?_)
        refine lv_aload_n hx hb dX8_items_83 rfl (lv_at hl 1 rfl) ?_
        refine m_get X V 6 0 11 rfl gin_6 rfl (by decide) rfl gm_434 (v := .int (v 7)) rfl dX8_items_84 ?_
        refine lv_bipush (v := 72) hx hb dX8_items_87 (by decide) ?_
        refine lv_icmp_eq (tgt := 101) hx hb dX8_items_89 (by decide) (fun h => absurd h c_6) (fun _ => ?_)
        refine lv_aload_n hx hb dX8_items_92 rfl (lv_at hl 1 rfl) ?_
        refine m_get X V 6 0 11 rfl gin_6 rfl (by decide) rfl gm_434 (v := .int (v 7)) rfl dX8_items_93 ?_
        refine lv_bipush (v := 76) hx hb dX8_items_96 (by decide) ?_
        refine lv_icmp_ne (tgt := 105) hx hb dX8_items_98 (by decide) (fun _ => ?_) (fun h => absurd h c_15)
        refine lv_aload_n hx hb dX8_items_105 rfl (lv_at hl 1 rfl) ?_
        refine m_get X V 6 0 11 rfl gin_6 rfl (by decide) rfl gm_434 (v := .int (v 7)) rfl dX8_items_106 ?_
        refine lv_bipush (v := 73) hx hb dX8_items_109 (by decide) ?_
        refine lv_icmp_eq (tgt := 123) hx hb dX8_items_111 (by decide) (fun _ => ?_) (fun h => absurd c_32 h)
        refine lv_iconst (v := 2) hx hb dX8_items_123 (by decide) ?_
        refine lv_goto (tgt := 128) hx hb dX8_items_124 (by decide) ?_
        refine lv_istore (lv' := [(5, .int 2), (4, .int (x1 + (2 * x2))), (0, .ref (bd 0)), (1, .int x1), (2, .int x2), (3, .int x3)]) hx hb dX8_items_128 hl (by decide) rfl (fun ls hl => ?_)
        refine lv_iload_n hx hb dX8_items_130 rfl (lv_at hl 4 rfl) ?_
        refine lv_bipush (v := 7) hx hb dX8_items_131 (by decide) ?_
        refine lv_iand hx hb dX8_items_133 ?_
        refine lv_istore (lv' := [(6, .int (x2 &&& 7)), (5, .int 2), (4, .int (x1 + (2 * x2))), (0, .ref (bd 0)), (1, .int x1), (2, .int x2), (3, .int x3)]) hx hb dX8_items_134 hl (by decide) rfl (fun ls hl => ?_)
        refine lv_aload_n hx hb dX8_items_136 rfl (lv_at hl 3 rfl) ?_
        refine m_get X V 6 0 11 rfl gin_6 rfl (by decide) rfl gm_434 (v := .int (v 7)) rfl dX8_items_137 ?_
        refine lv_bipush (v := 76) hx hb dX8_items_140 (by decide) ?_
        refine lv_icmp_lt (tgt := 212) hx hb dX8_items_142 (by decide) (fun c_142 => ?_) (fun c_142 => ?_)
        · refine lv_iload hx hb dX8_items_212 (lv_at hl 2 rfl) ?_
          refine lv_iload hx hb dX8_items_214 (lv_at hl 1 rfl) ?_
          refine m_S X V (rest := []) (st1 := [.int (pX8_isIn (x1 + (2 * x2)) 2)]) (kX8_isIn l D cB cI (x1 + (2 * x2)) 2) okX8_isIn gm_544 gm_543 ⟨⟨rfl, rfl⟩, ⟨by decide, by decide⟩, Nat.zero_le _, Nat.zero_le _⟩ rfl hl.1 (Nat.le_of_ble_eq_true rfl) dX8_items_216 rfl rfl (fun H locs V => ?_)
          refine lv_if_ne (tgt := 224) hx hb dX8_items_219 (by decide) (fun c_219 => ?_) (fun c_219 => ?_)
          · refine lv_aload_n hx hb dX8_items_224 rfl (lv_at hl 3 rfl) ?_
            refine lv_iload hx hb dX8_items_225 (lv_at hl 2 rfl) ?_
            refine lv_iload hx hb dX8_items_227 (lv_at hl 1 rfl) ?_
            obtain ⟨u229, hu229⟩ : ∃ u, pX8_numberAt qm (x1 + (2 * x2)) 2 = u := ⟨_, rfl⟩
            have hM := kX8_numberAt l D cB cI bd v qm ql qs qk qd qn qe qf qo qt qi qy (x1 + (2 * x2)) 2 (show 0 ≤ Int32.toInt (x1 + (2 * x2)) ∧ Int32.toInt (x1 + (2 * x2)) + Int32.toInt 2 ≤ 1024 by have z_0 : Int32.toInt 2 = 2 := rfl; have e_1 : Int32.toInt 2 = 2 := rfl; have f_2 := isIn_spec (a := (x1 + (2 * x2))) (n := 2) (by omega) c_219; omega)
            rw [hu229] at hM
            refine m_VA X V (w1 := (wR cB cI bd v qm ql qs qk qd qn qe qf qo qt qi qy)) (rest := []) (st1 := [.int u229]) hM okX8_numberAt gm_510 gm_698 gm_509 ⟨⟨rfl, rfl⟩, ⟨by decide, by decide⟩, Nat.zero_le _, Nat.zero_le _⟩ rfl rfl (wR_fst _ _ _ _ _ _ _ _ _ _ _ _ _ _ _ _) (wR_fst _ _ _ _ _ _ _ _ _ _ _ _ _ _ _ _) rfl hl.1 (Nat.le_of_ble_eq_true rfl) dX8_items_229 rfl rfl (fun H locs V => ?_)
            refine lv_istore (lv' := [(7, .int u229), (6, .int (x2 &&& 7)), (5, .int 2), (4, .int (x1 + (2 * x2))), (0, .ref (bd 0)), (1, .int x1), (2, .int x2), (3, .int x3)]) hx hb dX8_items_232 hl (by decide) rfl (fun ls hl => ?_)
            refine lv_aload_n hx hb dX8_items_234 rfl (lv_at hl 4 rfl) ?_
            refine lv_aload_n hx hb dX8_items_235 rfl (lv_at hl 4 rfl) ?_
            refine m_get X V 6 0 11 rfl gin_6 rfl (by decide) rfl gm_434 (v := .int (v 7)) rfl dX8_items_236 ?_
            refine lv_bipush (v := 75) hx hb dX8_items_239 (by decide) ?_
            refine lv_icmp_ne (tgt := 254) hx hb dX8_items_241 (by decide) (fun c_241 => ?_) (fun c_241 => ?_)
            · refine lv_iload hx hb dX8_items_254 (lv_at hl 0 rfl) ?_
              obtain ⟨u256, hu256⟩ : ∃ u, pX8_gives v u229 = u := ⟨_, rfl⟩
              have hM := kX8_gives l D cB cI bd v qm ql qs qk qd qn qe qf qo qt qi qy u229
              rw [hu256] at hM
              refine m_VA X V (w1 := (wR cB cI bd u256.2 qm ql qs qk qd qn qe qf qo qt qi qy)) (rest := []) (st1 := [.int u256.1]) hM okX8_gives gm_553 gm_704 gm_552 ⟨⟨rfl, rfl⟩, ⟨by decide, by decide⟩, Nat.zero_le _, Nat.zero_le _⟩ rfl rfl (wR_fst _ _ _ _ _ _ _ _ _ _ _ _ _ _ _ _) (wR_fst _ _ _ _ _ _ _ _ _ _ _ _ _ _ _ _) rfl hl.1 (Nat.le_of_ble_eq_true rfl) dX8_items_256 rfl rfl (fun H locs V => ?_)
              have e9 : pX8_items v qm x1 x2 x3 = (u256.1, u256.2, qm) := by rw [pX8_items, if_neg c_6, if_neg c_15, if_pos c_32, if_pos c_142, if_neg c_219, hu229, mLet_eq, if_neg c_241, hu256, mLet_eq]
              exact m_iret X hr hk V (by rw [e9]) (by rw [e9]) dX8_items_259
            · refine lv_iload hx hb dX8_items_244 (lv_at hl 0 rfl) ?_
              refine lv_iload hx hb dX8_items_246 (lv_at hl 1 rfl) ?_
              refine lv_ishr hx hb dX8_items_248 ?_
              refine lv_iconst (v := 1) hx hb dX8_items_249 (by decide) ?_
              refine lv_iand hx hb dX8_items_250 ?_
              refine lv_goto (tgt := 256) hx hb dX8_items_251 (by decide) ?_
              obtain ⟨u256, hu256⟩ : ∃ u, pX8_gives v ((u229 >>> ((x2 &&& 7) &&& 31)) &&& 1) = u := ⟨_, rfl⟩
              have hM := kX8_gives l D cB cI bd v qm ql qs qk qd qn qe qf qo qt qi qy ((u229 >>> ((x2 &&& 7) &&& 31)) &&& 1)
              rw [hu256] at hM
              refine m_VA X V (w1 := (wR cB cI bd u256.2 qm ql qs qk qd qn qe qf qo qt qi qy)) (rest := []) (st1 := [.int u256.1]) hM okX8_gives gm_553 gm_704 gm_552 ⟨⟨rfl, rfl⟩, ⟨by decide, by decide⟩, Nat.zero_le _, Nat.zero_le _⟩ rfl rfl (wR_fst _ _ _ _ _ _ _ _ _ _ _ _ _ _ _ _) (wR_fst _ _ _ _ _ _ _ _ _ _ _ _ _ _ _ _) rfl hl.1 (Nat.le_of_ble_eq_true rfl) dX8_items_256 rfl rfl (fun H locs V => ?_)
              have e9 : pX8_items v qm x1 x2 x3 = (u256.1, u256.2, qm) := by rw [pX8_items, if_neg c_6, if_neg c_15, if_pos c_32, if_pos c_142, if_neg c_219, hu229, mLet_eq, if_pos c_241, hu256, mLet_eq]
              exact m_iret X hr hk V (by rw [e9]) (by rw [e9]) dX8_items_259
          · refine lv_iconst (v := 1) hx hb dX8_items_222 (by decide) ?_
            have e9 : pX8_items v qm x1 x2 x3 = (1, v, qm) := by rw [pX8_items, if_neg c_6, if_neg c_15, if_pos c_32, if_pos c_142, if_pos c_219]
            exact m_iret X hr hk V (by rw [e9]) (by rw [e9]) dX8_items_223
        · refine lv_iload_n hx hb dX8_items_145 rfl (lv_at hl 6 rfl) ?_
          refine lv_istore (lv' := [(7, .int x3), (6, .int (x2 &&& 7)), (5, .int 2), (4, .int (x1 + (2 * x2))), (0, .ref (bd 0)), (1, .int x1), (2, .int x2), (3, .int x3)]) hx hb dX8_items_146 hl (by decide) rfl (fun ls hl => ?_)
          refine lv_aload_n hx hb dX8_items_148 rfl (lv_at hl 4 rfl) ?_
          refine m_get X V 6 0 11 rfl gin_6 rfl (by decide) rfl gm_434 (v := .int (v 7)) rfl dX8_items_149 ?_
          refine lv_bipush (v := 79) hx hb dX8_items_152 (by decide) ?_
          refine lv_icmp_ne (tgt := 201) hx hb dX8_items_154 (by decide) (fun c_154 => ?_) (fun c_154 => ?_)
          · refine lv_aload_n hx hb dX8_items_201 rfl (lv_at hl 4 rfl) ?_
            refine lv_iload hx hb dX8_items_202 (lv_at hl 3 rfl) ?_
            refine lv_iload hx hb dX8_items_204 (lv_at hl 2 rfl) ?_
            refine lv_iload hx hb dX8_items_206 (lv_at hl 0 rfl) ?_
            obtain ⟨u208, hu208⟩ : ∃ u, pX8_lays v qm (x1 + (2 * x2)) 2 x3 = u := ⟨_, rfl⟩
            have hM := kX8_lays l D cB cI bd v qm ql qs qk qd qn qe qf qo qt qi qy (x1 + (2 * x2)) 2 x3 (show 0 ≤ Int32.toInt 2 ∧ Int32.toInt 2 ≤ 1024 by have z_0 : Int32.toInt 2 = 2 := rfl; have e_1 : Int32.toInt 2 = 2 := rfl; omega)
            rw [hu208] at hM
            refine m_VA X V (w1 := (wR cB cI bd v u208.2 ql qs qk qd qn qe qf qo qt qi qy)) (rest := []) (st1 := [.int u208.1]) hM okX8_lays gm_569 gm_707 gm_568 ⟨⟨rfl, rfl⟩, ⟨by decide, by decide⟩, Nat.zero_le _, Nat.zero_le _⟩ rfl rfl (wR_fst _ _ _ _ _ _ _ _ _ _ _ _ _ _ _ _) (wR_fst _ _ _ _ _ _ _ _ _ _ _ _ _ _ _ _) rfl hl.1 (Nat.le_of_ble_eq_true rfl) dX8_items_208 rfl rfl (fun H locs V => ?_)
            have e9 : pX8_items v qm x1 x2 x3 = (u208.1, v, u208.2) := by rw [pX8_items, if_neg c_6, if_neg c_15, if_pos c_32, if_neg c_142, if_neg c_154, hu208, mLet_eq]
            exact m_iret X hr hk V (by rw [e9]) (by rw [e9]) dX8_items_211
          · refine lv_iload hx hb dX8_items_157 (lv_at hl 3 rfl) ?_
            refine lv_iconst (v := 1) hx hb dX8_items_159 (by decide) ?_
            refine m_S X V (rest := []) (st1 := [.int (pX8_isIn (x1 + (2 * x2)) 1)]) (kX8_isIn l D cB cI (x1 + (2 * x2)) 1) okX8_isIn gm_544 gm_543 ⟨⟨rfl, rfl⟩, ⟨by decide, by decide⟩, Nat.zero_le _, Nat.zero_le _⟩ rfl hl.1 (Nat.le_of_ble_eq_true rfl) dX8_items_160 rfl rfl (fun H locs V => ?_)
            refine lv_if_eq (tgt := 201) hx hb dX8_items_163 (by decide) (fun c_163 => ?_) (fun c_163 => ?_)
            · refine lv_aload_n hx hb dX8_items_201 rfl (lv_at hl 4 rfl) ?_
              refine lv_iload hx hb dX8_items_202 (lv_at hl 3 rfl) ?_
              refine lv_iload hx hb dX8_items_204 (lv_at hl 2 rfl) ?_
              refine lv_iload hx hb dX8_items_206 (lv_at hl 0 rfl) ?_
              obtain ⟨u208, hu208⟩ : ∃ u, pX8_lays v qm (x1 + (2 * x2)) 2 x3 = u := ⟨_, rfl⟩
              have hM := kX8_lays l D cB cI bd v qm ql qs qk qd qn qe qf qo qt qi qy (x1 + (2 * x2)) 2 x3 (show 0 ≤ Int32.toInt 2 ∧ Int32.toInt 2 ≤ 1024 by have z_0 : Int32.toInt 2 = 2 := rfl; have e_1 : Int32.toInt 2 = 2 := rfl; omega)
              rw [hu208] at hM
              refine m_VA X V (w1 := (wR cB cI bd v u208.2 ql qs qk qd qn qe qf qo qt qi qy)) (rest := []) (st1 := [.int u208.1]) hM okX8_lays gm_569 gm_707 gm_568 ⟨⟨rfl, rfl⟩, ⟨by decide, by decide⟩, Nat.zero_le _, Nat.zero_le _⟩ rfl rfl (wR_fst _ _ _ _ _ _ _ _ _ _ _ _ _ _ _ _) (wR_fst _ _ _ _ _ _ _ _ _ _ _ _ _ _ _ _) rfl hl.1 (Nat.le_of_ble_eq_true rfl) dX8_items_208 rfl rfl (fun H locs V => ?_)
              have e9 : pX8_items v qm x1 x2 x3 = (u208.1, v, u208.2) := by rw [pX8_items, if_neg c_6, if_neg c_15, if_pos c_32, if_neg c_142, if_pos c_154, if_pos c_163, hu208, mLet_eq]
              exact m_iret X hr hk V (by rw [e9]) (by rw [e9]) dX8_items_211
            · refine lv_iload_n hx hb dX8_items_166 rfl (lv_at hl 7 rfl) ?_
              refine lv_if_eq (tgt := 185) hx hb dX8_items_167 (by decide) (fun c_167 => ?_) (fun c_167 => ?_)
              · refine lv_aload_n hx hb dX8_items_185 rfl (lv_at hl 4 rfl) ?_
                refine m_get X V 6 0 0 rfl gin_6 rfl (by decide) rfl gm_423 (v := .ref (bd 1)) rfl dX8_items_186 ?_
                refine lv_iload hx hb dX8_items_189 (lv_at hl 3 rfl) ?_
                refine m_iald X V 1 rfl (by have e_1 : Int32.toInt 1 = 1 := rfl; have f_2 := isIn_spec (a := (x1 + (2 * x2))) (n := 1) (by omega) c_163; rw [vp_in_iff]; omega) dX8_items_191 ?_
                refine lv_iconst (v := 1) hx hb dX8_items_192 (by decide) ?_
                refine lv_iload hx hb dX8_items_193 (lv_at hl 1 rfl) ?_
                refine lv_ishl hx hb dX8_items_195 ?_
                refine lv_iconst (v := (-1)) hx hb dX8_items_196 (by decide) ?_
                refine lv_ixor hx hb dX8_items_197 ?_
                refine lv_iand hx hb dX8_items_198 ?_
                refine lv_istore (lv' := [(7, .int ((qm (Int32.toNatClampNeg (x1 + (2 * x2)))) &&& (((1 : Int32) <<< ((x2 &&& 7) &&& 31)) ^^^ (-1)))), (6, .int (x2 &&& 7)), (5, .int 2), (4, .int (x1 + (2 * x2))), (0, .ref (bd 0)), (1, .int x1), (2, .int x2), (3, .int x3)]) hx hb dX8_items_199 hl (by decide) rfl (fun ls hl => ?_)
                refine lv_aload_n hx hb dX8_items_201 rfl (lv_at hl 4 rfl) ?_
                refine lv_iload hx hb dX8_items_202 (lv_at hl 3 rfl) ?_
                refine lv_iload hx hb dX8_items_204 (lv_at hl 2 rfl) ?_
                refine lv_iload hx hb dX8_items_206 (lv_at hl 0 rfl) ?_
                obtain ⟨u208, hu208⟩ : ∃ u, pX8_lays v qm (x1 + (2 * x2)) 2 ((qm (Int32.toNatClampNeg (x1 + (2 * x2)))) &&& (((1 : Int32) <<< ((x2 &&& 7) &&& 31)) ^^^ (-1))) = u := ⟨_, rfl⟩
                have hM := kX8_lays l D cB cI bd v qm ql qs qk qd qn qe qf qo qt qi qy (x1 + (2 * x2)) 2 ((qm (Int32.toNatClampNeg (x1 + (2 * x2)))) &&& (((1 : Int32) <<< ((x2 &&& 7) &&& 31)) ^^^ (-1))) (show 0 ≤ Int32.toInt 2 ∧ Int32.toInt 2 ≤ 1024 by have z_0 : Int32.toInt 2 = 2 := rfl; have e_1 : Int32.toInt 2 = 2 := rfl; omega)
                rw [hu208] at hM
                refine m_VA X V (w1 := (wR cB cI bd v u208.2 ql qs qk qd qn qe qf qo qt qi qy)) (rest := []) (st1 := [.int u208.1]) hM okX8_lays gm_569 gm_707 gm_568 ⟨⟨rfl, rfl⟩, ⟨by decide, by decide⟩, Nat.zero_le _, Nat.zero_le _⟩ rfl rfl (wR_fst _ _ _ _ _ _ _ _ _ _ _ _ _ _ _ _) (wR_fst _ _ _ _ _ _ _ _ _ _ _ _ _ _ _ _) rfl hl.1 (Nat.le_of_ble_eq_true rfl) dX8_items_208 rfl rfl (fun H locs V => ?_)
                have e9 : pX8_items v qm x1 x2 x3 = (u208.1, v, u208.2) := by rw [pX8_items, if_neg c_6, if_neg c_15, if_pos c_32, if_neg c_142, if_pos c_154, if_neg c_163, if_pos c_167, hu208, mLet_eq]
                exact m_iret X hr hk V (by rw [e9]) (by rw [e9]) dX8_items_211
              · refine lv_aload_n hx hb dX8_items_170 rfl (lv_at hl 4 rfl) ?_
                refine m_get X V 6 0 0 rfl gin_6 rfl (by decide) rfl gm_423 (v := .ref (bd 1)) rfl dX8_items_171 ?_
                refine lv_iload hx hb dX8_items_174 (lv_at hl 3 rfl) ?_
                refine m_iald X V 1 rfl (by have e_1 : Int32.toInt 1 = 1 := rfl; have f_2 := isIn_spec (a := (x1 + (2 * x2))) (n := 1) (by omega) c_163; rw [vp_in_iff]; omega) dX8_items_176 ?_
                refine lv_iconst (v := 1) hx hb dX8_items_177 (by decide) ?_
                refine lv_iload hx hb dX8_items_178 (lv_at hl 1 rfl) ?_
                refine lv_ishl hx hb dX8_items_180 ?_
                refine lv_ior hx hb dX8_items_181 ?_
                refine lv_goto (tgt := 199) hx hb dX8_items_182 (by decide) ?_
                refine lv_istore (lv' := [(7, .int ((qm (Int32.toNatClampNeg (x1 + (2 * x2)))) ||| ((1 : Int32) <<< ((x2 &&& 7) &&& 31)))), (6, .int (x2 &&& 7)), (5, .int 2), (4, .int (x1 + (2 * x2))), (0, .ref (bd 0)), (1, .int x1), (2, .int x2), (3, .int x3)]) hx hb dX8_items_199 hl (by decide) rfl (fun ls hl => ?_)
                refine lv_aload_n hx hb dX8_items_201 rfl (lv_at hl 4 rfl) ?_
                refine lv_iload hx hb dX8_items_202 (lv_at hl 3 rfl) ?_
                refine lv_iload hx hb dX8_items_204 (lv_at hl 2 rfl) ?_
                refine lv_iload hx hb dX8_items_206 (lv_at hl 0 rfl) ?_
                obtain ⟨u208, hu208⟩ : ∃ u, pX8_lays v qm (x1 + (2 * x2)) 2 ((qm (Int32.toNatClampNeg (x1 + (2 * x2)))) ||| ((1 : Int32) <<< ((x2 &&& 7) &&& 31))) = u := ⟨_, rfl⟩
                have hM := kX8_lays l D cB cI bd v qm ql qs qk qd qn qe qf qo qt qi qy (x1 + (2 * x2)) 2 ((qm (Int32.toNatClampNeg (x1 + (2 * x2)))) ||| ((1 : Int32) <<< ((x2 &&& 7) &&& 31))) (show 0 ≤ Int32.toInt 2 ∧ Int32.toInt 2 ≤ 1024 by have z_0 : Int32.toInt 2 = 2 := rfl; have e_1 : Int32.toInt 2 = 2 := rfl; omega)
                rw [hu208] at hM
                refine m_VA X V (w1 := (wR cB cI bd v u208.2 ql qs qk qd qn qe qf qo qt qi qy)) (rest := []) (st1 := [.int u208.1]) hM okX8_lays gm_569 gm_707 gm_568 ⟨⟨rfl, rfl⟩, ⟨by decide, by decide⟩, Nat.zero_le _, Nat.zero_le _⟩ rfl rfl (wR_fst _ _ _ _ _ _ _ _ _ _ _ _ _ _ _ _) (wR_fst _ _ _ _ _ _ _ _ _ _ _ _ _ _ _ _) rfl hl.1 (Nat.le_of_ble_eq_true rfl) dX8_items_208 rfl rfl (fun H locs V => ?_)
                have e9 : pX8_items v qm x1 x2 x3 = (u208.1, v, u208.2) := by rw [pX8_items, if_neg c_6, if_neg c_15, if_pos c_32, if_neg c_142, if_pos c_154, if_neg c_163, if_neg c_167, hu208, mLet_eq]
                exact m_iret X hr hk V (by rw [e9]) (by rw [e9]) dX8_items_211
      · refine lv_aload_n hx hb dX8_items_35 rfl (lv_at hl 0 rfl) ?_
        refine m_get X V 6 0 11 rfl gin_6 rfl (by decide) rfl gm_434 (v := .int (v 7)) rfl dX8_items_36 ?_
        refine lv_bipush (v := 77) hx hb dX8_items_39 (by decide) ?_
        refine lv_icmp_ne (tgt := 52) hx hb dX8_items_41 (by decide) (fun c_41 => ?_) (fun c_41 => ?_)
        · refine lv_aload_n hx hb dX8_items_52 rfl (lv_at hl 0 rfl) ?_
          refine m_get X V 6 0 11 rfl gin_6 rfl (by decide) rfl gm_434 (v := .int (v 7)) rfl dX8_items_53 ?_
          refine lv_bipush (v := 74) hx hb dX8_items_56 (by decide) ?_
          refine lv_icmp_eq (tgt := 70) hx hb dX8_items_58 (by decide) (fun c_58 => ?_) (fun c_58 => ?_)
          · refine lv_iload_n hx hb dX8_items_70 rfl (lv_at hl 1 rfl) ?_
            refine lv_iload_n hx hb dX8_items_71 rfl (lv_at hl 2 rfl) ?_
            refine lv_iadd hx hb dX8_items_72 ?_
            refine lv_goto (tgt := 81) hx hb dX8_items_73 (by decide) ?_
            refine lv_istore (lv' := [(4, .int (x1 + x2)), (0, .ref (bd 0)), (1, .int x1), (2, .int x2), (3, .int x3)]) hx hb dX8_items_81 hl (by decide) rfl (fun ls hl => ?_)
            refine lv_aload_n hx hb dX8_items_83 rfl (lv_at hl 1 rfl) ?_
            refine m_get X V 6 0 11 rfl gin_6 rfl (by decide) rfl gm_434 (v := .int (v 7)) rfl dX8_items_84 ?_
            refine lv_bipush (v := 72) hx hb dX8_items_87 (by decide) ?_
            refine lv_icmp_eq (tgt := 101) hx hb dX8_items_89 (by decide) (fun h => absurd h c_6) (fun _ => ?_)
            refine lv_aload_n hx hb dX8_items_92 rfl (lv_at hl 1 rfl) ?_
            refine m_get X V 6 0 11 rfl gin_6 rfl (by decide) rfl gm_434 (v := .int (v 7)) rfl dX8_items_93 ?_
            refine lv_bipush (v := 76) hx hb dX8_items_96 (by decide) ?_
            refine lv_icmp_ne (tgt := 105) hx hb dX8_items_98 (by decide) (fun _ => ?_) (fun h => absurd h c_15)
            refine lv_aload_n hx hb dX8_items_105 rfl (lv_at hl 1 rfl) ?_
            refine m_get X V 6 0 11 rfl gin_6 rfl (by decide) rfl gm_434 (v := .int (v 7)) rfl dX8_items_106 ?_
            refine lv_bipush (v := 73) hx hb dX8_items_109 (by decide) ?_
            refine lv_icmp_eq (tgt := 123) hx hb dX8_items_111 (by decide) (fun h => absurd h c_32) (fun _ => ?_)
            refine lv_aload_n hx hb dX8_items_114 rfl (lv_at hl 1 rfl) ?_
            refine m_get X V 6 0 11 rfl gin_6 rfl (by decide) rfl gm_434 (v := .int (v 7)) rfl dX8_items_115 ?_
            refine lv_bipush (v := 77) hx hb dX8_items_118 (by decide) ?_
            refine lv_icmp_ne (tgt := 127) hx hb dX8_items_120 (by decide) (fun _ => ?_) (fun h => absurd h c_41)
            refine lv_iconst (v := 1) hx hb dX8_items_127 (by decide) ?_
            refine lv_istore (lv' := [(5, .int 1), (4, .int (x1 + x2)), (0, .ref (bd 0)), (1, .int x1), (2, .int x2), (3, .int x3)]) hx hb dX8_items_128 hl (by decide) rfl (fun ls hl => ?_)
            refine lv_iload_n hx hb dX8_items_130 rfl (lv_at hl 4 rfl) ?_
            refine lv_bipush (v := 7) hx hb dX8_items_131 (by decide) ?_
            refine lv_iand hx hb dX8_items_133 ?_
            refine lv_istore (lv' := [(6, .int (x2 &&& 7)), (5, .int 1), (4, .int (x1 + x2)), (0, .ref (bd 0)), (1, .int x1), (2, .int x2), (3, .int x3)]) hx hb dX8_items_134 hl (by decide) rfl (fun ls hl => ?_)
            refine lv_aload_n hx hb dX8_items_136 rfl (lv_at hl 3 rfl) ?_
            refine m_get X V 6 0 11 rfl gin_6 rfl (by decide) rfl gm_434 (v := .int (v 7)) rfl dX8_items_137 ?_
            refine lv_bipush (v := 76) hx hb dX8_items_140 (by decide) ?_
            refine lv_icmp_lt (tgt := 212) hx hb dX8_items_142 (by decide) (fun c_142 => ?_) (fun c_142 => ?_)
            · refine lv_iload hx hb dX8_items_212 (lv_at hl 2 rfl) ?_
              refine lv_iload hx hb dX8_items_214 (lv_at hl 1 rfl) ?_
              refine m_S X V (rest := []) (st1 := [.int (pX8_isIn (x1 + x2) 1)]) (kX8_isIn l D cB cI (x1 + x2) 1) okX8_isIn gm_544 gm_543 ⟨⟨rfl, rfl⟩, ⟨by decide, by decide⟩, Nat.zero_le _, Nat.zero_le _⟩ rfl hl.1 (Nat.le_of_ble_eq_true rfl) dX8_items_216 rfl rfl (fun H locs V => ?_)
              refine lv_if_ne (tgt := 224) hx hb dX8_items_219 (by decide) (fun c_219 => ?_) (fun c_219 => ?_)
              · refine lv_aload_n hx hb dX8_items_224 rfl (lv_at hl 3 rfl) ?_
                refine lv_iload hx hb dX8_items_225 (lv_at hl 2 rfl) ?_
                refine lv_iload hx hb dX8_items_227 (lv_at hl 1 rfl) ?_
                refine m_VA X V (w1 := (wR cB cI bd v qm ql qs qk qd qn qe qf qo qt qi qy)) (rest := []) (st1 := [.int (pX8_numberAt qm (x1 + x2) 1)]) (kX8_numberAt l D cB cI bd v qm ql qs qk qd qn qe qf qo qt qi qy (x1 + x2) 1 (show 0 ≤ Int32.toInt (x1 + x2) ∧ Int32.toInt (x1 + x2) + Int32.toInt 1 ≤ 1024 by have z_0 : Int32.toInt 1 = 1 := rfl; have e_1 : Int32.toInt 1 = 1 := rfl; have f_2 := isIn_spec (a := (x1 + x2)) (n := 1) (by omega) c_219; omega)) okX8_numberAt gm_510 gm_698 gm_509 ⟨⟨rfl, rfl⟩, ⟨by decide, by decide⟩, Nat.zero_le _, Nat.zero_le _⟩ rfl rfl (wR_fst _ _ _ _ _ _ _ _ _ _ _ _ _ _ _ _) (wR_fst _ _ _ _ _ _ _ _ _ _ _ _ _ _ _ _) rfl hl.1 (Nat.le_of_ble_eq_true rfl) dX8_items_229 rfl rfl (fun H locs V => ?_)
                refine lv_istore (lv' := [(7, .int (pX8_numberAt qm (x1 + x2) 1)), (6, .int (x2 &&& 7)), (5, .int 1), (4, .int (x1 + x2)), (0, .ref (bd 0)), (1, .int x1), (2, .int x2), (3, .int x3)]) hx hb dX8_items_232 hl (by decide) rfl (fun ls hl => ?_)
                refine lv_aload_n hx hb dX8_items_234 rfl (lv_at hl 4 rfl) ?_
                refine lv_aload_n hx hb dX8_items_235 rfl (lv_at hl 4 rfl) ?_
                refine m_get X V 6 0 11 rfl gin_6 rfl (by decide) rfl gm_434 (v := .int (v 7)) rfl dX8_items_236 ?_
                refine lv_bipush (v := 75) hx hb dX8_items_239 (by decide) ?_
                refine lv_icmp_ne (tgt := 254) hx hb dX8_items_241 (by decide) (fun c_241 => ?_) (fun c_241 => ?_)
                · refine lv_iload hx hb dX8_items_254 (lv_at hl 0 rfl) ?_
                  obtain ⟨u256, hu256⟩ : ∃ u, pX8_gives v (pX8_numberAt qm (x1 + x2) 1) = u := ⟨_, rfl⟩
                  have hM := kX8_gives l D cB cI bd v qm ql qs qk qd qn qe qf qo qt qi qy (pX8_numberAt qm (x1 + x2) 1)
                  rw [hu256] at hM
                  refine m_VA X V (w1 := (wR cB cI bd u256.2 qm ql qs qk qd qn qe qf qo qt qi qy)) (rest := []) (st1 := [.int u256.1]) hM okX8_gives gm_553 gm_704 gm_552 ⟨⟨rfl, rfl⟩, ⟨by decide, by decide⟩, Nat.zero_le _, Nat.zero_le _⟩ rfl rfl (wR_fst _ _ _ _ _ _ _ _ _ _ _ _ _ _ _ _) (wR_fst _ _ _ _ _ _ _ _ _ _ _ _ _ _ _ _) rfl hl.1 (Nat.le_of_ble_eq_true rfl) dX8_items_256 rfl rfl (fun H locs V => ?_)
                  have e9 : pX8_items v qm x1 x2 x3 = (u256.1, u256.2, qm) := by rw [pX8_items, if_neg c_6, if_neg c_15, if_neg c_32, if_neg c_41, if_pos c_58, if_pos c_142, if_neg c_219, if_neg c_241, hu256, mLet_eq]
                  exact m_iret X hr hk V (by rw [e9]) (by rw [e9]) dX8_items_259
                · refine lv_iload hx hb dX8_items_244 (lv_at hl 0 rfl) ?_
                  refine lv_iload hx hb dX8_items_246 (lv_at hl 1 rfl) ?_
                  refine lv_ishr hx hb dX8_items_248 ?_
                  refine lv_iconst (v := 1) hx hb dX8_items_249 (by decide) ?_
                  refine lv_iand hx hb dX8_items_250 ?_
                  refine lv_goto (tgt := 256) hx hb dX8_items_251 (by decide) ?_
                  obtain ⟨u256, hu256⟩ : ∃ u, pX8_gives v (((pX8_numberAt qm (x1 + x2) 1) >>> ((x2 &&& 7) &&& 31)) &&& 1) = u := ⟨_, rfl⟩
                  have hM := kX8_gives l D cB cI bd v qm ql qs qk qd qn qe qf qo qt qi qy (((pX8_numberAt qm (x1 + x2) 1) >>> ((x2 &&& 7) &&& 31)) &&& 1)
                  rw [hu256] at hM
                  refine m_VA X V (w1 := (wR cB cI bd u256.2 qm ql qs qk qd qn qe qf qo qt qi qy)) (rest := []) (st1 := [.int u256.1]) hM okX8_gives gm_553 gm_704 gm_552 ⟨⟨rfl, rfl⟩, ⟨by decide, by decide⟩, Nat.zero_le _, Nat.zero_le _⟩ rfl rfl (wR_fst _ _ _ _ _ _ _ _ _ _ _ _ _ _ _ _) (wR_fst _ _ _ _ _ _ _ _ _ _ _ _ _ _ _ _) rfl hl.1 (Nat.le_of_ble_eq_true rfl) dX8_items_256 rfl rfl (fun H locs V => ?_)
                  have e9 : pX8_items v qm x1 x2 x3 = (u256.1, u256.2, qm) := by rw [pX8_items, if_neg c_6, if_neg c_15, if_neg c_32, if_neg c_41, if_pos c_58, if_pos c_142, if_neg c_219, if_pos c_241, hu256, mLet_eq]
                  exact m_iret X hr hk V (by rw [e9]) (by rw [e9]) dX8_items_259
              · refine lv_iconst (v := 1) hx hb dX8_items_222 (by decide) ?_
                have e9 : pX8_items v qm x1 x2 x3 = (1, v, qm) := by rw [pX8_items, if_neg c_6, if_neg c_15, if_neg c_32, if_neg c_41, if_pos c_58, if_pos c_142, if_pos c_219]
                exact m_iret X hr hk V (by rw [e9]) (by rw [e9]) dX8_items_223
            · refine lv_iload_n hx hb dX8_items_145 rfl (lv_at hl 6 rfl) ?_
              refine lv_istore (lv' := [(7, .int x3), (6, .int (x2 &&& 7)), (5, .int 1), (4, .int (x1 + x2)), (0, .ref (bd 0)), (1, .int x1), (2, .int x2), (3, .int x3)]) hx hb dX8_items_146 hl (by decide) rfl (fun ls hl => ?_)
              refine lv_aload_n hx hb dX8_items_148 rfl (lv_at hl 4 rfl) ?_
              refine m_get X V 6 0 11 rfl gin_6 rfl (by decide) rfl gm_434 (v := .int (v 7)) rfl dX8_items_149 ?_
              refine lv_bipush (v := 79) hx hb dX8_items_152 (by decide) ?_
              refine lv_icmp_ne (tgt := 201) hx hb dX8_items_154 (by decide) (fun c_154 => ?_) (fun c_154 => ?_)
              · refine lv_aload_n hx hb dX8_items_201 rfl (lv_at hl 4 rfl) ?_
                refine lv_iload hx hb dX8_items_202 (lv_at hl 3 rfl) ?_
                refine lv_iload hx hb dX8_items_204 (lv_at hl 2 rfl) ?_
                refine lv_iload hx hb dX8_items_206 (lv_at hl 0 rfl) ?_
                obtain ⟨u208, hu208⟩ : ∃ u, pX8_lays v qm (x1 + x2) 1 x3 = u := ⟨_, rfl⟩
                have hM := kX8_lays l D cB cI bd v qm ql qs qk qd qn qe qf qo qt qi qy (x1 + x2) 1 x3 (show 0 ≤ Int32.toInt 1 ∧ Int32.toInt 1 ≤ 1024 by have z_0 : Int32.toInt 1 = 1 := rfl; have e_1 : Int32.toInt 1 = 1 := rfl; omega)
                rw [hu208] at hM
                refine m_VA X V (w1 := (wR cB cI bd v u208.2 ql qs qk qd qn qe qf qo qt qi qy)) (rest := []) (st1 := [.int u208.1]) hM okX8_lays gm_569 gm_707 gm_568 ⟨⟨rfl, rfl⟩, ⟨by decide, by decide⟩, Nat.zero_le _, Nat.zero_le _⟩ rfl rfl (wR_fst _ _ _ _ _ _ _ _ _ _ _ _ _ _ _ _) (wR_fst _ _ _ _ _ _ _ _ _ _ _ _ _ _ _ _) rfl hl.1 (Nat.le_of_ble_eq_true rfl) dX8_items_208 rfl rfl (fun H locs V => ?_)
                have e9 : pX8_items v qm x1 x2 x3 = (u208.1, v, u208.2) := by rw [pX8_items, if_neg c_6, if_neg c_15, if_neg c_32, if_neg c_41, if_pos c_58, if_neg c_142, if_neg c_154, hu208, mLet_eq]
                exact m_iret X hr hk V (by rw [e9]) (by rw [e9]) dX8_items_211
              · refine lv_iload hx hb dX8_items_157 (lv_at hl 3 rfl) ?_
                refine lv_iconst (v := 1) hx hb dX8_items_159 (by decide) ?_
                refine m_S X V (rest := []) (st1 := [.int (pX8_isIn (x1 + x2) 1)]) (kX8_isIn l D cB cI (x1 + x2) 1) okX8_isIn gm_544 gm_543 ⟨⟨rfl, rfl⟩, ⟨by decide, by decide⟩, Nat.zero_le _, Nat.zero_le _⟩ rfl hl.1 (Nat.le_of_ble_eq_true rfl) dX8_items_160 rfl rfl (fun H locs V => ?_)
                refine lv_if_eq (tgt := 201) hx hb dX8_items_163 (by decide) (fun c_163 => ?_) (fun c_163 => ?_)
                · refine lv_aload_n hx hb dX8_items_201 rfl (lv_at hl 4 rfl) ?_
                  refine lv_iload hx hb dX8_items_202 (lv_at hl 3 rfl) ?_
                  refine lv_iload hx hb dX8_items_204 (lv_at hl 2 rfl) ?_
                  refine lv_iload hx hb dX8_items_206 (lv_at hl 0 rfl) ?_
                  obtain ⟨u208, hu208⟩ : ∃ u, pX8_lays v qm (x1 + x2) 1 x3 = u := ⟨_, rfl⟩
                  have hM := kX8_lays l D cB cI bd v qm ql qs qk qd qn qe qf qo qt qi qy (x1 + x2) 1 x3 (show 0 ≤ Int32.toInt 1 ∧ Int32.toInt 1 ≤ 1024 by have z_0 : Int32.toInt 1 = 1 := rfl; have e_1 : Int32.toInt 1 = 1 := rfl; omega)
                  rw [hu208] at hM
                  refine m_VA X V (w1 := (wR cB cI bd v u208.2 ql qs qk qd qn qe qf qo qt qi qy)) (rest := []) (st1 := [.int u208.1]) hM okX8_lays gm_569 gm_707 gm_568 ⟨⟨rfl, rfl⟩, ⟨by decide, by decide⟩, Nat.zero_le _, Nat.zero_le _⟩ rfl rfl (wR_fst _ _ _ _ _ _ _ _ _ _ _ _ _ _ _ _) (wR_fst _ _ _ _ _ _ _ _ _ _ _ _ _ _ _ _) rfl hl.1 (Nat.le_of_ble_eq_true rfl) dX8_items_208 rfl rfl (fun H locs V => ?_)
                  have e9 : pX8_items v qm x1 x2 x3 = (u208.1, v, u208.2) := by rw [pX8_items, if_neg c_6, if_neg c_15, if_neg c_32, if_neg c_41, if_pos c_58, if_neg c_142, if_pos c_154, if_pos c_163, hu208, mLet_eq]
                  exact m_iret X hr hk V (by rw [e9]) (by rw [e9]) dX8_items_211
                · refine lv_iload_n hx hb dX8_items_166 rfl (lv_at hl 7 rfl) ?_
                  refine lv_if_eq (tgt := 185) hx hb dX8_items_167 (by decide) (fun c_167 => ?_) (fun c_167 => ?_)
                  · refine lv_aload_n hx hb dX8_items_185 rfl (lv_at hl 4 rfl) ?_
                    refine m_get X V 6 0 0 rfl gin_6 rfl (by decide) rfl gm_423 (v := .ref (bd 1)) rfl dX8_items_186 ?_
                    refine lv_iload hx hb dX8_items_189 (lv_at hl 3 rfl) ?_
                    refine m_iald X V 1 rfl (by have e_1 : Int32.toInt 1 = 1 := rfl; have f_2 := isIn_spec (a := (x1 + x2)) (n := 1) (by omega) c_163; rw [vp_in_iff]; omega) dX8_items_191 ?_
                    refine lv_iconst (v := 1) hx hb dX8_items_192 (by decide) ?_
                    refine lv_iload hx hb dX8_items_193 (lv_at hl 1 rfl) ?_
                    refine lv_ishl hx hb dX8_items_195 ?_
                    refine lv_iconst (v := (-1)) hx hb dX8_items_196 (by decide) ?_
                    refine lv_ixor hx hb dX8_items_197 ?_
                    refine lv_iand hx hb dX8_items_198 ?_
                    refine lv_istore (lv' := [(7, .int ((qm (Int32.toNatClampNeg (x1 + x2))) &&& (((1 : Int32) <<< ((x2 &&& 7) &&& 31)) ^^^ (-1)))), (6, .int (x2 &&& 7)), (5, .int 1), (4, .int (x1 + x2)), (0, .ref (bd 0)), (1, .int x1), (2, .int x2), (3, .int x3)]) hx hb dX8_items_199 hl (by decide) rfl (fun ls hl => ?_)
                    refine lv_aload_n hx hb dX8_items_201 rfl (lv_at hl 4 rfl) ?_
                    refine lv_iload hx hb dX8_items_202 (lv_at hl 3 rfl) ?_
                    refine lv_iload hx hb dX8_items_204 (lv_at hl 2 rfl) ?_
                    refine lv_iload hx hb dX8_items_206 (lv_at hl 0 rfl) ?_
                    obtain ⟨u208, hu208⟩ : ∃ u, pX8_lays v qm (x1 + x2) 1 ((qm (Int32.toNatClampNeg (x1 + x2))) &&& (((1 : Int32) <<< ((x2 &&& 7) &&& 31)) ^^^ (-1))) = u := ⟨_, rfl⟩
                    have hM := kX8_lays l D cB cI bd v qm ql qs qk qd qn qe qf qo qt qi qy (x1 + x2) 1 ((qm (Int32.toNatClampNeg (x1 + x2))) &&& (((1 : Int32) <<< ((x2 &&& 7) &&& 31)) ^^^ (-1))) (show 0 ≤ Int32.toInt 1 ∧ Int32.toInt 1 ≤ 1024 by have z_0 : Int32.toInt 1 = 1 := rfl; have e_1 : Int32.toInt 1 = 1 := rfl; omega)
                    rw [hu208] at hM
                    refine m_VA X V (w1 := (wR cB cI bd v u208.2 ql qs qk qd qn qe qf qo qt qi qy)) (rest := []) (st1 := [.int u208.1]) hM okX8_lays gm_569 gm_707 gm_568 ⟨⟨rfl, rfl⟩, ⟨by decide, by decide⟩, Nat.zero_le _, Nat.zero_le _⟩ rfl rfl (wR_fst _ _ _ _ _ _ _ _ _ _ _ _ _ _ _ _) (wR_fst _ _ _ _ _ _ _ _ _ _ _ _ _ _ _ _) rfl hl.1 (Nat.le_of_ble_eq_true rfl) dX8_items_208 rfl rfl (fun H locs V => ?_)
                    have e9 : pX8_items v qm x1 x2 x3 = (u208.1, v, u208.2) := by rw [pX8_items, if_neg c_6, if_neg c_15, if_neg c_32, if_neg c_41, if_pos c_58, if_neg c_142, if_pos c_154, if_neg c_163, if_pos c_167, hu208, mLet_eq]
                    exact m_iret X hr hk V (by rw [e9]) (by rw [e9]) dX8_items_211
                  · refine lv_aload_n hx hb dX8_items_170 rfl (lv_at hl 4 rfl) ?_
                    refine m_get X V 6 0 0 rfl gin_6 rfl (by decide) rfl gm_423 (v := .ref (bd 1)) rfl dX8_items_171 ?_
                    refine lv_iload hx hb dX8_items_174 (lv_at hl 3 rfl) ?_
                    refine m_iald X V 1 rfl (by have e_1 : Int32.toInt 1 = 1 := rfl; have f_2 := isIn_spec (a := (x1 + x2)) (n := 1) (by omega) c_163; rw [vp_in_iff]; omega) dX8_items_176 ?_
                    refine lv_iconst (v := 1) hx hb dX8_items_177 (by decide) ?_
                    refine lv_iload hx hb dX8_items_178 (lv_at hl 1 rfl) ?_
                    refine lv_ishl hx hb dX8_items_180 ?_
                    refine lv_ior hx hb dX8_items_181 ?_
                    refine lv_goto (tgt := 199) hx hb dX8_items_182 (by decide) ?_
                    refine lv_istore (lv' := [(7, .int ((qm (Int32.toNatClampNeg (x1 + x2))) ||| ((1 : Int32) <<< ((x2 &&& 7) &&& 31)))), (6, .int (x2 &&& 7)), (5, .int 1), (4, .int (x1 + x2)), (0, .ref (bd 0)), (1, .int x1), (2, .int x2), (3, .int x3)]) hx hb dX8_items_199 hl (by decide) rfl (fun ls hl => ?_)
                    refine lv_aload_n hx hb dX8_items_201 rfl (lv_at hl 4 rfl) ?_
                    refine lv_iload hx hb dX8_items_202 (lv_at hl 3 rfl) ?_
                    refine lv_iload hx hb dX8_items_204 (lv_at hl 2 rfl) ?_
                    refine lv_iload hx hb dX8_items_206 (lv_at hl 0 rfl) ?_
                    obtain ⟨u208, hu208⟩ : ∃ u, pX8_lays v qm (x1 + x2) 1 ((qm (Int32.toNatClampNeg (x1 + x2))) ||| ((1 : Int32) <<< ((x2 &&& 7) &&& 31))) = u := ⟨_, rfl⟩
                    have hM := kX8_lays l D cB cI bd v qm ql qs qk qd qn qe qf qo qt qi qy (x1 + x2) 1 ((qm (Int32.toNatClampNeg (x1 + x2))) ||| ((1 : Int32) <<< ((x2 &&& 7) &&& 31))) (show 0 ≤ Int32.toInt 1 ∧ Int32.toInt 1 ≤ 1024 by have z_0 : Int32.toInt 1 = 1 := rfl; have e_1 : Int32.toInt 1 = 1 := rfl; omega)
                    rw [hu208] at hM
                    refine m_VA X V (w1 := (wR cB cI bd v u208.2 ql qs qk qd qn qe qf qo qt qi qy)) (rest := []) (st1 := [.int u208.1]) hM okX8_lays gm_569 gm_707 gm_568 ⟨⟨rfl, rfl⟩, ⟨by decide, by decide⟩, Nat.zero_le _, Nat.zero_le _⟩ rfl rfl (wR_fst _ _ _ _ _ _ _ _ _ _ _ _ _ _ _ _) (wR_fst _ _ _ _ _ _ _ _ _ _ _ _ _ _ _ _) rfl hl.1 (Nat.le_of_ble_eq_true rfl) dX8_items_208 rfl rfl (fun H locs V => ?_)
                    have e9 : pX8_items v qm x1 x2 x3 = (u208.1, v, u208.2) := by rw [pX8_items, if_neg c_6, if_neg c_15, if_neg c_32, if_neg c_41, if_pos c_58, if_neg c_142, if_pos c_154, if_neg c_163, if_neg c_167, hu208, mLet_eq]
                    exact m_iret X hr hk V (by rw [e9]) (by rw [e9]) dX8_items_211
          · refine lv_aload_n hx hb dX8_items_61 rfl (lv_at hl 0 rfl) ?_
            refine m_get X V 6 0 11 rfl gin_6 rfl (by decide) rfl gm_434 (v := .int (v 7)) rfl dX8_items_62 ?_
            refine lv_bipush (v := 78) hx hb dX8_items_65 (by decide) ?_
            refine lv_icmp_ne (tgt := 76) hx hb dX8_items_67 (by decide) (fun c_67 => ?_) (fun c_67 => ?_)
            · refine lv_iload_n hx hb dX8_items_76 rfl (lv_at hl 1 rfl) ?_
              refine lv_iload_n hx hb dX8_items_77 rfl (lv_at hl 2 rfl) ?_
              refine lv_iconst (v := 3) hx hb dX8_items_78 (by decide) ?_
              refine lv_ishr hx hb dX8_items_79 ?_
              refine lv_iadd hx hb dX8_items_80 ?_
              refine lv_istore (lv' := [(4, .int (x1 + (x2 >>> (3 &&& 31)))), (0, .ref (bd 0)), (1, .int x1), (2, .int x2), (3, .int x3)]) hx hb dX8_items_81 hl (by decide) rfl (fun ls hl => ?_)
              refine lv_aload_n hx hb dX8_items_83 rfl (lv_at hl 1 rfl) ?_
              refine m_get X V 6 0 11 rfl gin_6 rfl (by decide) rfl gm_434 (v := .int (v 7)) rfl dX8_items_84 ?_
              refine lv_bipush (v := 72) hx hb dX8_items_87 (by decide) ?_
              refine lv_icmp_eq (tgt := 101) hx hb dX8_items_89 (by decide) (fun h => absurd h c_6) (fun _ => ?_)
              refine lv_aload_n hx hb dX8_items_92 rfl (lv_at hl 1 rfl) ?_
              refine m_get X V 6 0 11 rfl gin_6 rfl (by decide) rfl gm_434 (v := .int (v 7)) rfl dX8_items_93 ?_
              refine lv_bipush (v := 76) hx hb dX8_items_96 (by decide) ?_
              refine lv_icmp_ne (tgt := 105) hx hb dX8_items_98 (by decide) (fun _ => ?_) (fun h => absurd h c_15)
              refine lv_aload_n hx hb dX8_items_105 rfl (lv_at hl 1 rfl) ?_
              refine m_get X V 6 0 11 rfl gin_6 rfl (by decide) rfl gm_434 (v := .int (v 7)) rfl dX8_items_106 ?_
              refine lv_bipush (v := 73) hx hb dX8_items_109 (by decide) ?_
              refine lv_icmp_eq (tgt := 123) hx hb dX8_items_111 (by decide) (fun h => absurd h c_32) (fun _ => ?_)
              refine lv_aload_n hx hb dX8_items_114 rfl (lv_at hl 1 rfl) ?_
              refine m_get X V 6 0 11 rfl gin_6 rfl (by decide) rfl gm_434 (v := .int (v 7)) rfl dX8_items_115 ?_
              refine lv_bipush (v := 77) hx hb dX8_items_118 (by decide) ?_
              refine lv_icmp_ne (tgt := 127) hx hb dX8_items_120 (by decide) (fun _ => ?_) (fun h => absurd h c_41)
              refine lv_iconst (v := 1) hx hb dX8_items_127 (by decide) ?_
              refine lv_istore (lv' := [(5, .int 1), (4, .int (x1 + (x2 >>> (3 &&& 31)))), (0, .ref (bd 0)), (1, .int x1), (2, .int x2), (3, .int x3)]) hx hb dX8_items_128 hl (by decide) rfl (fun ls hl => ?_)
              refine lv_iload_n hx hb dX8_items_130 rfl (lv_at hl 4 rfl) ?_
              refine lv_bipush (v := 7) hx hb dX8_items_131 (by decide) ?_
              refine lv_iand hx hb dX8_items_133 ?_
              refine lv_istore (lv' := [(6, .int (x2 &&& 7)), (5, .int 1), (4, .int (x1 + (x2 >>> (3 &&& 31)))), (0, .ref (bd 0)), (1, .int x1), (2, .int x2), (3, .int x3)]) hx hb dX8_items_134 hl (by decide) rfl (fun ls hl => ?_)
              refine lv_aload_n hx hb dX8_items_136 rfl (lv_at hl 3 rfl) ?_
              refine m_get X V 6 0 11 rfl gin_6 rfl (by decide) rfl gm_434 (v := .int (v 7)) rfl dX8_items_137 ?_
              refine lv_bipush (v := 76) hx hb dX8_items_140 (by decide) ?_
              refine lv_icmp_lt (tgt := 212) hx hb dX8_items_142 (by decide) (fun c_142 => ?_) (fun c_142 => ?_)
              · refine lv_iload hx hb dX8_items_212 (lv_at hl 2 rfl) ?_
                refine lv_iload hx hb dX8_items_214 (lv_at hl 1 rfl) ?_
                refine m_S X V (rest := []) (st1 := [.int (pX8_isIn (x1 + (x2 >>> (3 &&& 31))) 1)]) (kX8_isIn l D cB cI (x1 + (x2 >>> (3 &&& 31))) 1) okX8_isIn gm_544 gm_543 ⟨⟨rfl, rfl⟩, ⟨by decide, by decide⟩, Nat.zero_le _, Nat.zero_le _⟩ rfl hl.1 (Nat.le_of_ble_eq_true rfl) dX8_items_216 rfl rfl (fun H locs V => ?_)
                refine lv_if_ne (tgt := 224) hx hb dX8_items_219 (by decide) (fun c_219 => ?_) (fun c_219 => ?_)
                · refine lv_aload_n hx hb dX8_items_224 rfl (lv_at hl 3 rfl) ?_
                  refine lv_iload hx hb dX8_items_225 (lv_at hl 2 rfl) ?_
                  refine lv_iload hx hb dX8_items_227 (lv_at hl 1 rfl) ?_
                  obtain ⟨u229, hu229⟩ : ∃ u, pX8_numberAt qm (x1 + (x2 >>> (3 &&& 31))) 1 = u := ⟨_, rfl⟩
                  have hM := kX8_numberAt l D cB cI bd v qm ql qs qk qd qn qe qf qo qt qi qy (x1 + (x2 >>> (3 &&& 31))) 1 (show 0 ≤ Int32.toInt (x1 + (x2 >>> (3 &&& 31))) ∧ Int32.toInt (x1 + (x2 >>> (3 &&& 31))) + Int32.toInt 1 ≤ 1024 by have z_0 : Int32.toInt 1 = 1 := rfl; have e_1 : Int32.toInt 1 = 1 := rfl; have f_2 := isIn_spec (a := (x1 + (x2 >>> (3 &&& 31)))) (n := 1) (by omega) c_219; omega)
                  rw [hu229] at hM
                  refine m_VA X V (w1 := (wR cB cI bd v qm ql qs qk qd qn qe qf qo qt qi qy)) (rest := []) (st1 := [.int u229]) hM okX8_numberAt gm_510 gm_698 gm_509 ⟨⟨rfl, rfl⟩, ⟨by decide, by decide⟩, Nat.zero_le _, Nat.zero_le _⟩ rfl rfl (wR_fst _ _ _ _ _ _ _ _ _ _ _ _ _ _ _ _) (wR_fst _ _ _ _ _ _ _ _ _ _ _ _ _ _ _ _) rfl hl.1 (Nat.le_of_ble_eq_true rfl) dX8_items_229 rfl rfl (fun H locs V => ?_)
                  refine lv_istore (lv' := [(7, .int u229), (6, .int (x2 &&& 7)), (5, .int 1), (4, .int (x1 + (x2 >>> (3 &&& 31)))), (0, .ref (bd 0)), (1, .int x1), (2, .int x2), (3, .int x3)]) hx hb dX8_items_232 hl (by decide) rfl (fun ls hl => ?_)
                  refine lv_aload_n hx hb dX8_items_234 rfl (lv_at hl 4 rfl) ?_
                  refine lv_aload_n hx hb dX8_items_235 rfl (lv_at hl 4 rfl) ?_
                  refine m_get X V 6 0 11 rfl gin_6 rfl (by decide) rfl gm_434 (v := .int (v 7)) rfl dX8_items_236 ?_
                  refine lv_bipush (v := 75) hx hb dX8_items_239 (by decide) ?_
                  refine lv_icmp_ne (tgt := 254) hx hb dX8_items_241 (by decide) (fun c_241 => ?_) (fun c_241 => ?_)
                  · refine lv_iload hx hb dX8_items_254 (lv_at hl 0 rfl) ?_
                    obtain ⟨u256, hu256⟩ : ∃ u, pX8_gives v u229 = u := ⟨_, rfl⟩
                    have hM := kX8_gives l D cB cI bd v qm ql qs qk qd qn qe qf qo qt qi qy u229
                    rw [hu256] at hM
                    refine m_VA X V (w1 := (wR cB cI bd u256.2 qm ql qs qk qd qn qe qf qo qt qi qy)) (rest := []) (st1 := [.int u256.1]) hM okX8_gives gm_553 gm_704 gm_552 ⟨⟨rfl, rfl⟩, ⟨by decide, by decide⟩, Nat.zero_le _, Nat.zero_le _⟩ rfl rfl (wR_fst _ _ _ _ _ _ _ _ _ _ _ _ _ _ _ _) (wR_fst _ _ _ _ _ _ _ _ _ _ _ _ _ _ _ _) rfl hl.1 (Nat.le_of_ble_eq_true rfl) dX8_items_256 rfl rfl (fun H locs V => ?_)
                    have e9 : pX8_items v qm x1 x2 x3 = (u256.1, u256.2, qm) := by rw [pX8_items, if_neg c_6, if_neg c_15, if_neg c_32, if_neg c_41, if_neg c_58, if_neg c_67, if_pos c_142, if_neg c_219, hu229, mLet_eq, if_neg c_241, hu256, mLet_eq]
                    exact m_iret X hr hk V (by rw [e9]) (by rw [e9]) dX8_items_259
                  · refine lv_iload hx hb dX8_items_244 (lv_at hl 0 rfl) ?_
                    refine lv_iload hx hb dX8_items_246 (lv_at hl 1 rfl) ?_
                    refine lv_ishr hx hb dX8_items_248 ?_
                    refine lv_iconst (v := 1) hx hb dX8_items_249 (by decide) ?_
                    refine lv_iand hx hb dX8_items_250 ?_
                    refine lv_goto (tgt := 256) hx hb dX8_items_251 (by decide) ?_
                    obtain ⟨u256, hu256⟩ : ∃ u, pX8_gives v ((u229 >>> ((x2 &&& 7) &&& 31)) &&& 1) = u := ⟨_, rfl⟩
                    have hM := kX8_gives l D cB cI bd v qm ql qs qk qd qn qe qf qo qt qi qy ((u229 >>> ((x2 &&& 7) &&& 31)) &&& 1)
                    rw [hu256] at hM
                    refine m_VA X V (w1 := (wR cB cI bd u256.2 qm ql qs qk qd qn qe qf qo qt qi qy)) (rest := []) (st1 := [.int u256.1]) hM okX8_gives gm_553 gm_704 gm_552 ⟨⟨rfl, rfl⟩, ⟨by decide, by decide⟩, Nat.zero_le _, Nat.zero_le _⟩ rfl rfl (wR_fst _ _ _ _ _ _ _ _ _ _ _ _ _ _ _ _) (wR_fst _ _ _ _ _ _ _ _ _ _ _ _ _ _ _ _) rfl hl.1 (Nat.le_of_ble_eq_true rfl) dX8_items_256 rfl rfl (fun H locs V => ?_)
                    have e9 : pX8_items v qm x1 x2 x3 = (u256.1, u256.2, qm) := by rw [pX8_items, if_neg c_6, if_neg c_15, if_neg c_32, if_neg c_41, if_neg c_58, if_neg c_67, if_pos c_142, if_neg c_219, hu229, mLet_eq, if_pos c_241, hu256, mLet_eq]
                    exact m_iret X hr hk V (by rw [e9]) (by rw [e9]) dX8_items_259
                · refine lv_iconst (v := 1) hx hb dX8_items_222 (by decide) ?_
                  have e9 : pX8_items v qm x1 x2 x3 = (1, v, qm) := by rw [pX8_items, if_neg c_6, if_neg c_15, if_neg c_32, if_neg c_41, if_neg c_58, if_neg c_67, if_pos c_142, if_pos c_219]
                  exact m_iret X hr hk V (by rw [e9]) (by rw [e9]) dX8_items_223
              · refine lv_iload_n hx hb dX8_items_145 rfl (lv_at hl 6 rfl) ?_
                refine lv_istore (lv' := [(7, .int x3), (6, .int (x2 &&& 7)), (5, .int 1), (4, .int (x1 + (x2 >>> (3 &&& 31)))), (0, .ref (bd 0)), (1, .int x1), (2, .int x2), (3, .int x3)]) hx hb dX8_items_146 hl (by decide) rfl (fun ls hl => ?_)
                refine lv_aload_n hx hb dX8_items_148 rfl (lv_at hl 4 rfl) ?_
                refine m_get X V 6 0 11 rfl gin_6 rfl (by decide) rfl gm_434 (v := .int (v 7)) rfl dX8_items_149 ?_
                refine lv_bipush (v := 79) hx hb dX8_items_152 (by decide) ?_
                refine lv_icmp_ne (tgt := 201) hx hb dX8_items_154 (by decide) (fun c_154 => ?_) (fun c_154 => ?_)
                · refine lv_aload_n hx hb dX8_items_201 rfl (lv_at hl 4 rfl) ?_
                  refine lv_iload hx hb dX8_items_202 (lv_at hl 3 rfl) ?_
                  refine lv_iload hx hb dX8_items_204 (lv_at hl 2 rfl) ?_
                  refine lv_iload hx hb dX8_items_206 (lv_at hl 0 rfl) ?_
                  obtain ⟨u208, hu208⟩ : ∃ u, pX8_lays v qm (x1 + (x2 >>> (3 &&& 31))) 1 x3 = u := ⟨_, rfl⟩
                  have hM := kX8_lays l D cB cI bd v qm ql qs qk qd qn qe qf qo qt qi qy (x1 + (x2 >>> (3 &&& 31))) 1 x3 (show 0 ≤ Int32.toInt 1 ∧ Int32.toInt 1 ≤ 1024 by have z_0 : Int32.toInt 1 = 1 := rfl; have e_1 : Int32.toInt 1 = 1 := rfl; omega)
                  rw [hu208] at hM
                  refine m_VA X V (w1 := (wR cB cI bd v u208.2 ql qs qk qd qn qe qf qo qt qi qy)) (rest := []) (st1 := [.int u208.1]) hM okX8_lays gm_569 gm_707 gm_568 ⟨⟨rfl, rfl⟩, ⟨by decide, by decide⟩, Nat.zero_le _, Nat.zero_le _⟩ rfl rfl (wR_fst _ _ _ _ _ _ _ _ _ _ _ _ _ _ _ _) (wR_fst _ _ _ _ _ _ _ _ _ _ _ _ _ _ _ _) rfl hl.1 (Nat.le_of_ble_eq_true rfl) dX8_items_208 rfl rfl (fun H locs V => ?_)
                  have e9 : pX8_items v qm x1 x2 x3 = (u208.1, v, u208.2) := by rw [pX8_items, if_neg c_6, if_neg c_15, if_neg c_32, if_neg c_41, if_neg c_58, if_neg c_67, if_neg c_142, if_neg c_154, hu208, mLet_eq]
                  exact m_iret X hr hk V (by rw [e9]) (by rw [e9]) dX8_items_211
                · refine lv_iload hx hb dX8_items_157 (lv_at hl 3 rfl) ?_
                  refine lv_iconst (v := 1) hx hb dX8_items_159 (by decide) ?_
                  refine m_S X V (rest := []) (st1 := [.int (pX8_isIn (x1 + (x2 >>> (3 &&& 31))) 1)]) (kX8_isIn l D cB cI (x1 + (x2 >>> (3 &&& 31))) 1) okX8_isIn gm_544 gm_543 ⟨⟨rfl, rfl⟩, ⟨by decide, by decide⟩, Nat.zero_le _, Nat.zero_le _⟩ rfl hl.1 (Nat.le_of_ble_eq_true rfl) dX8_items_160 rfl rfl (fun H locs V => ?_)
                  refine lv_if_eq (tgt := 201) hx hb dX8_items_163 (by decide) (fun c_163 => ?_) (fun c_163 => ?_)
                  · refine lv_aload_n hx hb dX8_items_201 rfl (lv_at hl 4 rfl) ?_
                    refine lv_iload hx hb dX8_items_202 (lv_at hl 3 rfl) ?_
                    refine lv_iload hx hb dX8_items_204 (lv_at hl 2 rfl) ?_
                    refine lv_iload hx hb dX8_items_206 (lv_at hl 0 rfl) ?_
                    obtain ⟨u208, hu208⟩ : ∃ u, pX8_lays v qm (x1 + (x2 >>> (3 &&& 31))) 1 x3 = u := ⟨_, rfl⟩
                    have hM := kX8_lays l D cB cI bd v qm ql qs qk qd qn qe qf qo qt qi qy (x1 + (x2 >>> (3 &&& 31))) 1 x3 (show 0 ≤ Int32.toInt 1 ∧ Int32.toInt 1 ≤ 1024 by have z_0 : Int32.toInt 1 = 1 := rfl; have e_1 : Int32.toInt 1 = 1 := rfl; omega)
                    rw [hu208] at hM
                    refine m_VA X V (w1 := (wR cB cI bd v u208.2 ql qs qk qd qn qe qf qo qt qi qy)) (rest := []) (st1 := [.int u208.1]) hM okX8_lays gm_569 gm_707 gm_568 ⟨⟨rfl, rfl⟩, ⟨by decide, by decide⟩, Nat.zero_le _, Nat.zero_le _⟩ rfl rfl (wR_fst _ _ _ _ _ _ _ _ _ _ _ _ _ _ _ _) (wR_fst _ _ _ _ _ _ _ _ _ _ _ _ _ _ _ _) rfl hl.1 (Nat.le_of_ble_eq_true rfl) dX8_items_208 rfl rfl (fun H locs V => ?_)
                    have e9 : pX8_items v qm x1 x2 x3 = (u208.1, v, u208.2) := by rw [pX8_items, if_neg c_6, if_neg c_15, if_neg c_32, if_neg c_41, if_neg c_58, if_neg c_67, if_neg c_142, if_pos c_154, if_pos c_163, hu208, mLet_eq]
                    exact m_iret X hr hk V (by rw [e9]) (by rw [e9]) dX8_items_211
                  · refine lv_iload_n hx hb dX8_items_166 rfl (lv_at hl 7 rfl) ?_
                    refine lv_if_eq (tgt := 185) hx hb dX8_items_167 (by decide) (fun c_167 => ?_) (fun c_167 => ?_)
                    · refine lv_aload_n hx hb dX8_items_185 rfl (lv_at hl 4 rfl) ?_
                      refine m_get X V 6 0 0 rfl gin_6 rfl (by decide) rfl gm_423 (v := .ref (bd 1)) rfl dX8_items_186 ?_
                      refine lv_iload hx hb dX8_items_189 (lv_at hl 3 rfl) ?_
                      refine m_iald X V 1 rfl (by have e_1 : Int32.toInt 1 = 1 := rfl; have f_2 := isIn_spec (a := (x1 + (x2 >>> (3 &&& 31)))) (n := 1) (by omega) c_163; rw [vp_in_iff]; omega) dX8_items_191 ?_
                      refine lv_iconst (v := 1) hx hb dX8_items_192 (by decide) ?_
                      refine lv_iload hx hb dX8_items_193 (lv_at hl 1 rfl) ?_
                      refine lv_ishl hx hb dX8_items_195 ?_
                      refine lv_iconst (v := (-1)) hx hb dX8_items_196 (by decide) ?_
                      refine lv_ixor hx hb dX8_items_197 ?_
                      refine lv_iand hx hb dX8_items_198 ?_
                      refine lv_istore (lv' := [(7, .int ((qm (Int32.toNatClampNeg (x1 + (x2 >>> (3 &&& 31))))) &&& (((1 : Int32) <<< ((x2 &&& 7) &&& 31)) ^^^ (-1)))), (6, .int (x2 &&& 7)), (5, .int 1), (4, .int (x1 + (x2 >>> (3 &&& 31)))), (0, .ref (bd 0)), (1, .int x1), (2, .int x2), (3, .int x3)]) hx hb dX8_items_199 hl (by decide) rfl (fun ls hl => ?_)
                      refine lv_aload_n hx hb dX8_items_201 rfl (lv_at hl 4 rfl) ?_
                      refine lv_iload hx hb dX8_items_202 (lv_at hl 3 rfl) ?_
                      refine lv_iload hx hb dX8_items_204 (lv_at hl 2 rfl) ?_
                      refine lv_iload hx hb dX8_items_206 (lv_at hl 0 rfl) ?_
                      obtain ⟨u208, hu208⟩ : ∃ u, pX8_lays v qm (x1 + (x2 >>> (3 &&& 31))) 1 ((qm (Int32.toNatClampNeg (x1 + (x2 >>> (3 &&& 31))))) &&& (((1 : Int32) <<< ((x2 &&& 7) &&& 31)) ^^^ (-1))) = u := ⟨_, rfl⟩
                      have hM := kX8_lays l D cB cI bd v qm ql qs qk qd qn qe qf qo qt qi qy (x1 + (x2 >>> (3 &&& 31))) 1 ((qm (Int32.toNatClampNeg (x1 + (x2 >>> (3 &&& 31))))) &&& (((1 : Int32) <<< ((x2 &&& 7) &&& 31)) ^^^ (-1))) (show 0 ≤ Int32.toInt 1 ∧ Int32.toInt 1 ≤ 1024 by have z_0 : Int32.toInt 1 = 1 := rfl; have e_1 : Int32.toInt 1 = 1 := rfl; omega)
                      rw [hu208] at hM
                      refine m_VA X V (w1 := (wR cB cI bd v u208.2 ql qs qk qd qn qe qf qo qt qi qy)) (rest := []) (st1 := [.int u208.1]) hM okX8_lays gm_569 gm_707 gm_568 ⟨⟨rfl, rfl⟩, ⟨by decide, by decide⟩, Nat.zero_le _, Nat.zero_le _⟩ rfl rfl (wR_fst _ _ _ _ _ _ _ _ _ _ _ _ _ _ _ _) (wR_fst _ _ _ _ _ _ _ _ _ _ _ _ _ _ _ _) rfl hl.1 (Nat.le_of_ble_eq_true rfl) dX8_items_208 rfl rfl (fun H locs V => ?_)
                      have e9 : pX8_items v qm x1 x2 x3 = (u208.1, v, u208.2) := by rw [pX8_items, if_neg c_6, if_neg c_15, if_neg c_32, if_neg c_41, if_neg c_58, if_neg c_67, if_neg c_142, if_pos c_154, if_neg c_163, if_pos c_167, hu208, mLet_eq]
                      exact m_iret X hr hk V (by rw [e9]) (by rw [e9]) dX8_items_211
                    · refine lv_aload_n hx hb dX8_items_170 rfl (lv_at hl 4 rfl) ?_
                      refine m_get X V 6 0 0 rfl gin_6 rfl (by decide) rfl gm_423 (v := .ref (bd 1)) rfl dX8_items_171 ?_
                      refine lv_iload hx hb dX8_items_174 (lv_at hl 3 rfl) ?_
                      refine m_iald X V 1 rfl (by have e_1 : Int32.toInt 1 = 1 := rfl; have f_2 := isIn_spec (a := (x1 + (x2 >>> (3 &&& 31)))) (n := 1) (by omega) c_163; rw [vp_in_iff]; omega) dX8_items_176 ?_
                      refine lv_iconst (v := 1) hx hb dX8_items_177 (by decide) ?_
                      refine lv_iload hx hb dX8_items_178 (lv_at hl 1 rfl) ?_
                      refine lv_ishl hx hb dX8_items_180 ?_
                      refine lv_ior hx hb dX8_items_181 ?_
                      refine lv_goto (tgt := 199) hx hb dX8_items_182 (by decide) ?_
                      refine lv_istore (lv' := [(7, .int ((qm (Int32.toNatClampNeg (x1 + (x2 >>> (3 &&& 31))))) ||| ((1 : Int32) <<< ((x2 &&& 7) &&& 31)))), (6, .int (x2 &&& 7)), (5, .int 1), (4, .int (x1 + (x2 >>> (3 &&& 31)))), (0, .ref (bd 0)), (1, .int x1), (2, .int x2), (3, .int x3)]) hx hb dX8_items_199 hl (by decide) rfl (fun ls hl => ?_)
                      refine lv_aload_n hx hb dX8_items_201 rfl (lv_at hl 4 rfl) ?_
                      refine lv_iload hx hb dX8_items_202 (lv_at hl 3 rfl) ?_
                      refine lv_iload hx hb dX8_items_204 (lv_at hl 2 rfl) ?_
                      refine lv_iload hx hb dX8_items_206 (lv_at hl 0 rfl) ?_
                      obtain ⟨u208, hu208⟩ : ∃ u, pX8_lays v qm (x1 + (x2 >>> (3 &&& 31))) 1 ((qm (Int32.toNatClampNeg (x1 + (x2 >>> (3 &&& 31))))) ||| ((1 : Int32) <<< ((x2 &&& 7) &&& 31))) = u := ⟨_, rfl⟩
                      have hM := kX8_lays l D cB cI bd v qm ql qs qk qd qn qe qf qo qt qi qy (x1 + (x2 >>> (3 &&& 31))) 1 ((qm (Int32.toNatClampNeg (x1 + (x2 >>> (3 &&& 31))))) ||| ((1 : Int32) <<< ((x2 &&& 7) &&& 31))) (show 0 ≤ Int32.toInt 1 ∧ Int32.toInt 1 ≤ 1024 by have z_0 : Int32.toInt 1 = 1 := rfl; have e_1 : Int32.toInt 1 = 1 := rfl; omega)
                      rw [hu208] at hM
                      refine m_VA X V (w1 := (wR cB cI bd v u208.2 ql qs qk qd qn qe qf qo qt qi qy)) (rest := []) (st1 := [.int u208.1]) hM okX8_lays gm_569 gm_707 gm_568 ⟨⟨rfl, rfl⟩, ⟨by decide, by decide⟩, Nat.zero_le _, Nat.zero_le _⟩ rfl rfl (wR_fst _ _ _ _ _ _ _ _ _ _ _ _ _ _ _ _) (wR_fst _ _ _ _ _ _ _ _ _ _ _ _ _ _ _ _) rfl hl.1 (Nat.le_of_ble_eq_true rfl) dX8_items_208 rfl rfl (fun H locs V => ?_)
                      have e9 : pX8_items v qm x1 x2 x3 = (u208.1, v, u208.2) := by rw [pX8_items, if_neg c_6, if_neg c_15, if_neg c_32, if_neg c_41, if_neg c_58, if_neg c_67, if_neg c_142, if_pos c_154, if_neg c_163, if_neg c_167, hu208, mLet_eq]
                      exact m_iret X hr hk V (by rw [e9]) (by rw [e9]) dX8_items_211
            · refine lv_iload_n hx hb dX8_items_70 rfl (lv_at hl 1 rfl) ?_
              refine lv_iload_n hx hb dX8_items_71 rfl (lv_at hl 2 rfl) ?_
              refine lv_iadd hx hb dX8_items_72 ?_
              refine lv_goto (tgt := 81) hx hb dX8_items_73 (by decide) ?_
              refine lv_istore (lv' := [(4, .int (x1 + x2)), (0, .ref (bd 0)), (1, .int x1), (2, .int x2), (3, .int x3)]) hx hb dX8_items_81 hl (by decide) rfl (fun ls hl => ?_)
              refine lv_aload_n hx hb dX8_items_83 rfl (lv_at hl 1 rfl) ?_
              refine m_get X V 6 0 11 rfl gin_6 rfl (by decide) rfl gm_434 (v := .int (v 7)) rfl dX8_items_84 ?_
              refine lv_bipush (v := 72) hx hb dX8_items_87 (by decide) ?_
              refine lv_icmp_eq (tgt := 101) hx hb dX8_items_89 (by decide) (fun h => absurd h c_6) (fun _ => ?_)
              refine lv_aload_n hx hb dX8_items_92 rfl (lv_at hl 1 rfl) ?_
              refine m_get X V 6 0 11 rfl gin_6 rfl (by decide) rfl gm_434 (v := .int (v 7)) rfl dX8_items_93 ?_
              refine lv_bipush (v := 76) hx hb dX8_items_96 (by decide) ?_
              refine lv_icmp_ne (tgt := 105) hx hb dX8_items_98 (by decide) (fun _ => ?_) (fun h => absurd h c_15)
              refine lv_aload_n hx hb dX8_items_105 rfl (lv_at hl 1 rfl) ?_
              refine m_get X V 6 0 11 rfl gin_6 rfl (by decide) rfl gm_434 (v := .int (v 7)) rfl dX8_items_106 ?_
              refine lv_bipush (v := 73) hx hb dX8_items_109 (by decide) ?_
              refine lv_icmp_eq (tgt := 123) hx hb dX8_items_111 (by decide) (fun h => absurd h c_32) (fun _ => ?_)
              refine lv_aload_n hx hb dX8_items_114 rfl (lv_at hl 1 rfl) ?_
              refine m_get X V 6 0 11 rfl gin_6 rfl (by decide) rfl gm_434 (v := .int (v 7)) rfl dX8_items_115 ?_
              refine lv_bipush (v := 77) hx hb dX8_items_118 (by decide) ?_
              refine lv_icmp_ne (tgt := 127) hx hb dX8_items_120 (by decide) (fun _ => ?_) (fun h => absurd h c_41)
              refine lv_iconst (v := 1) hx hb dX8_items_127 (by decide) ?_
              refine lv_istore (lv' := [(5, .int 1), (4, .int (x1 + x2)), (0, .ref (bd 0)), (1, .int x1), (2, .int x2), (3, .int x3)]) hx hb dX8_items_128 hl (by decide) rfl (fun ls hl => ?_)
              refine lv_iload_n hx hb dX8_items_130 rfl (lv_at hl 4 rfl) ?_
              refine lv_bipush (v := 7) hx hb dX8_items_131 (by decide) ?_
              refine lv_iand hx hb dX8_items_133 ?_
              refine lv_istore (lv' := [(6, .int (x2 &&& 7)), (5, .int 1), (4, .int (x1 + x2)), (0, .ref (bd 0)), (1, .int x1), (2, .int x2), (3, .int x3)]) hx hb dX8_items_134 hl (by decide) rfl (fun ls hl => ?_)
              refine lv_aload_n hx hb dX8_items_136 rfl (lv_at hl 3 rfl) ?_
              refine m_get X V 6 0 11 rfl gin_6 rfl (by decide) rfl gm_434 (v := .int (v 7)) rfl dX8_items_137 ?_
              refine lv_bipush (v := 76) hx hb dX8_items_140 (by decide) ?_
              refine lv_icmp_lt (tgt := 212) hx hb dX8_items_142 (by decide) (fun c_142 => ?_) (fun c_142 => ?_)
              · refine lv_iload hx hb dX8_items_212 (lv_at hl 2 rfl) ?_
                refine lv_iload hx hb dX8_items_214 (lv_at hl 1 rfl) ?_
                refine m_S X V (rest := []) (st1 := [.int (pX8_isIn (x1 + x2) 1)]) (kX8_isIn l D cB cI (x1 + x2) 1) okX8_isIn gm_544 gm_543 ⟨⟨rfl, rfl⟩, ⟨by decide, by decide⟩, Nat.zero_le _, Nat.zero_le _⟩ rfl hl.1 (Nat.le_of_ble_eq_true rfl) dX8_items_216 rfl rfl (fun H locs V => ?_)
                refine lv_if_ne (tgt := 224) hx hb dX8_items_219 (by decide) (fun c_219 => ?_) (fun c_219 => ?_)
                · refine lv_aload_n hx hb dX8_items_224 rfl (lv_at hl 3 rfl) ?_
                  refine lv_iload hx hb dX8_items_225 (lv_at hl 2 rfl) ?_
                  refine lv_iload hx hb dX8_items_227 (lv_at hl 1 rfl) ?_
                  refine m_VA X V (w1 := (wR cB cI bd v qm ql qs qk qd qn qe qf qo qt qi qy)) (rest := []) (st1 := [.int (pX8_numberAt qm (x1 + x2) 1)]) (kX8_numberAt l D cB cI bd v qm ql qs qk qd qn qe qf qo qt qi qy (x1 + x2) 1 (show 0 ≤ Int32.toInt (x1 + x2) ∧ Int32.toInt (x1 + x2) + Int32.toInt 1 ≤ 1024 by have z_0 : Int32.toInt 1 = 1 := rfl; have e_1 : Int32.toInt 1 = 1 := rfl; have f_2 := isIn_spec (a := (x1 + x2)) (n := 1) (by omega) c_219; omega)) okX8_numberAt gm_510 gm_698 gm_509 ⟨⟨rfl, rfl⟩, ⟨by decide, by decide⟩, Nat.zero_le _, Nat.zero_le _⟩ rfl rfl (wR_fst _ _ _ _ _ _ _ _ _ _ _ _ _ _ _ _) (wR_fst _ _ _ _ _ _ _ _ _ _ _ _ _ _ _ _) rfl hl.1 (Nat.le_of_ble_eq_true rfl) dX8_items_229 rfl rfl (fun H locs V => ?_)
                  refine lv_istore (lv' := [(7, .int (pX8_numberAt qm (x1 + x2) 1)), (6, .int (x2 &&& 7)), (5, .int 1), (4, .int (x1 + x2)), (0, .ref (bd 0)), (1, .int x1), (2, .int x2), (3, .int x3)]) hx hb dX8_items_232 hl (by decide) rfl (fun ls hl => ?_)
                  refine lv_aload_n hx hb dX8_items_234 rfl (lv_at hl 4 rfl) ?_
                  refine lv_aload_n hx hb dX8_items_235 rfl (lv_at hl 4 rfl) ?_
                  refine m_get X V 6 0 11 rfl gin_6 rfl (by decide) rfl gm_434 (v := .int (v 7)) rfl dX8_items_236 ?_
                  refine lv_bipush (v := 75) hx hb dX8_items_239 (by decide) ?_
                  refine lv_icmp_ne (tgt := 254) hx hb dX8_items_241 (by decide) (fun c_241 => ?_) (fun c_241 => ?_)
                  · refine lv_iload hx hb dX8_items_254 (lv_at hl 0 rfl) ?_
                    obtain ⟨u256, hu256⟩ : ∃ u, pX8_gives v (pX8_numberAt qm (x1 + x2) 1) = u := ⟨_, rfl⟩
                    have hM := kX8_gives l D cB cI bd v qm ql qs qk qd qn qe qf qo qt qi qy (pX8_numberAt qm (x1 + x2) 1)
                    rw [hu256] at hM
                    refine m_VA X V (w1 := (wR cB cI bd u256.2 qm ql qs qk qd qn qe qf qo qt qi qy)) (rest := []) (st1 := [.int u256.1]) hM okX8_gives gm_553 gm_704 gm_552 ⟨⟨rfl, rfl⟩, ⟨by decide, by decide⟩, Nat.zero_le _, Nat.zero_le _⟩ rfl rfl (wR_fst _ _ _ _ _ _ _ _ _ _ _ _ _ _ _ _) (wR_fst _ _ _ _ _ _ _ _ _ _ _ _ _ _ _ _) rfl hl.1 (Nat.le_of_ble_eq_true rfl) dX8_items_256 rfl rfl (fun H locs V => ?_)
                    have e9 : pX8_items v qm x1 x2 x3 = (u256.1, u256.2, qm) := by rw [pX8_items, if_neg c_6, if_neg c_15, if_neg c_32, if_neg c_41, if_neg c_58, if_pos c_67, if_pos c_142, if_neg c_219, if_neg c_241, hu256, mLet_eq]
                    exact m_iret X hr hk V (by rw [e9]) (by rw [e9]) dX8_items_259
                  · refine lv_iload hx hb dX8_items_244 (lv_at hl 0 rfl) ?_
                    refine lv_iload hx hb dX8_items_246 (lv_at hl 1 rfl) ?_
                    refine lv_ishr hx hb dX8_items_248 ?_
                    refine lv_iconst (v := 1) hx hb dX8_items_249 (by decide) ?_
                    refine lv_iand hx hb dX8_items_250 ?_
                    refine lv_goto (tgt := 256) hx hb dX8_items_251 (by decide) ?_
                    obtain ⟨u256, hu256⟩ : ∃ u, pX8_gives v (((pX8_numberAt qm (x1 + x2) 1) >>> ((x2 &&& 7) &&& 31)) &&& 1) = u := ⟨_, rfl⟩
                    have hM := kX8_gives l D cB cI bd v qm ql qs qk qd qn qe qf qo qt qi qy (((pX8_numberAt qm (x1 + x2) 1) >>> ((x2 &&& 7) &&& 31)) &&& 1)
                    rw [hu256] at hM
                    refine m_VA X V (w1 := (wR cB cI bd u256.2 qm ql qs qk qd qn qe qf qo qt qi qy)) (rest := []) (st1 := [.int u256.1]) hM okX8_gives gm_553 gm_704 gm_552 ⟨⟨rfl, rfl⟩, ⟨by decide, by decide⟩, Nat.zero_le _, Nat.zero_le _⟩ rfl rfl (wR_fst _ _ _ _ _ _ _ _ _ _ _ _ _ _ _ _) (wR_fst _ _ _ _ _ _ _ _ _ _ _ _ _ _ _ _) rfl hl.1 (Nat.le_of_ble_eq_true rfl) dX8_items_256 rfl rfl (fun H locs V => ?_)
                    have e9 : pX8_items v qm x1 x2 x3 = (u256.1, u256.2, qm) := by rw [pX8_items, if_neg c_6, if_neg c_15, if_neg c_32, if_neg c_41, if_neg c_58, if_pos c_67, if_pos c_142, if_neg c_219, if_pos c_241, hu256, mLet_eq]
                    exact m_iret X hr hk V (by rw [e9]) (by rw [e9]) dX8_items_259
                · refine lv_iconst (v := 1) hx hb dX8_items_222 (by decide) ?_
                  have e9 : pX8_items v qm x1 x2 x3 = (1, v, qm) := by rw [pX8_items, if_neg c_6, if_neg c_15, if_neg c_32, if_neg c_41, if_neg c_58, if_pos c_67, if_pos c_142, if_pos c_219]
                  exact m_iret X hr hk V (by rw [e9]) (by rw [e9]) dX8_items_223
              · refine lv_iload_n hx hb dX8_items_145 rfl (lv_at hl 6 rfl) ?_
                refine lv_istore (lv' := [(7, .int x3), (6, .int (x2 &&& 7)), (5, .int 1), (4, .int (x1 + x2)), (0, .ref (bd 0)), (1, .int x1), (2, .int x2), (3, .int x3)]) hx hb dX8_items_146 hl (by decide) rfl (fun ls hl => ?_)
                refine lv_aload_n hx hb dX8_items_148 rfl (lv_at hl 4 rfl) ?_
                refine m_get X V 6 0 11 rfl gin_6 rfl (by decide) rfl gm_434 (v := .int (v 7)) rfl dX8_items_149 ?_
                refine lv_bipush (v := 79) hx hb dX8_items_152 (by decide) ?_
                refine lv_icmp_ne (tgt := 201) hx hb dX8_items_154 (by decide) (fun c_154 => ?_) (fun c_154 => ?_)
                · refine lv_aload_n hx hb dX8_items_201 rfl (lv_at hl 4 rfl) ?_
                  refine lv_iload hx hb dX8_items_202 (lv_at hl 3 rfl) ?_
                  refine lv_iload hx hb dX8_items_204 (lv_at hl 2 rfl) ?_
                  refine lv_iload hx hb dX8_items_206 (lv_at hl 0 rfl) ?_
                  obtain ⟨u208, hu208⟩ : ∃ u, pX8_lays v qm (x1 + x2) 1 x3 = u := ⟨_, rfl⟩
                  have hM := kX8_lays l D cB cI bd v qm ql qs qk qd qn qe qf qo qt qi qy (x1 + x2) 1 x3 (show 0 ≤ Int32.toInt 1 ∧ Int32.toInt 1 ≤ 1024 by have z_0 : Int32.toInt 1 = 1 := rfl; have e_1 : Int32.toInt 1 = 1 := rfl; omega)
                  rw [hu208] at hM
                  refine m_VA X V (w1 := (wR cB cI bd v u208.2 ql qs qk qd qn qe qf qo qt qi qy)) (rest := []) (st1 := [.int u208.1]) hM okX8_lays gm_569 gm_707 gm_568 ⟨⟨rfl, rfl⟩, ⟨by decide, by decide⟩, Nat.zero_le _, Nat.zero_le _⟩ rfl rfl (wR_fst _ _ _ _ _ _ _ _ _ _ _ _ _ _ _ _) (wR_fst _ _ _ _ _ _ _ _ _ _ _ _ _ _ _ _) rfl hl.1 (Nat.le_of_ble_eq_true rfl) dX8_items_208 rfl rfl (fun H locs V => ?_)
                  have e9 : pX8_items v qm x1 x2 x3 = (u208.1, v, u208.2) := by rw [pX8_items, if_neg c_6, if_neg c_15, if_neg c_32, if_neg c_41, if_neg c_58, if_pos c_67, if_neg c_142, if_neg c_154, hu208, mLet_eq]
                  exact m_iret X hr hk V (by rw [e9]) (by rw [e9]) dX8_items_211
                · refine lv_iload hx hb dX8_items_157 (lv_at hl 3 rfl) ?_
                  refine lv_iconst (v := 1) hx hb dX8_items_159 (by decide) ?_
                  refine m_S X V (rest := []) (st1 := [.int (pX8_isIn (x1 + x2) 1)]) (kX8_isIn l D cB cI (x1 + x2) 1) okX8_isIn gm_544 gm_543 ⟨⟨rfl, rfl⟩, ⟨by decide, by decide⟩, Nat.zero_le _, Nat.zero_le _⟩ rfl hl.1 (Nat.le_of_ble_eq_true rfl) dX8_items_160 rfl rfl (fun H locs V => ?_)
                  refine lv_if_eq (tgt := 201) hx hb dX8_items_163 (by decide) (fun c_163 => ?_) (fun c_163 => ?_)
                  · refine lv_aload_n hx hb dX8_items_201 rfl (lv_at hl 4 rfl) ?_
                    refine lv_iload hx hb dX8_items_202 (lv_at hl 3 rfl) ?_
                    refine lv_iload hx hb dX8_items_204 (lv_at hl 2 rfl) ?_
                    refine lv_iload hx hb dX8_items_206 (lv_at hl 0 rfl) ?_
                    obtain ⟨u208, hu208⟩ : ∃ u, pX8_lays v qm (x1 + x2) 1 x3 = u := ⟨_, rfl⟩
                    have hM := kX8_lays l D cB cI bd v qm ql qs qk qd qn qe qf qo qt qi qy (x1 + x2) 1 x3 (show 0 ≤ Int32.toInt 1 ∧ Int32.toInt 1 ≤ 1024 by have z_0 : Int32.toInt 1 = 1 := rfl; have e_1 : Int32.toInt 1 = 1 := rfl; omega)
                    rw [hu208] at hM
                    refine m_VA X V (w1 := (wR cB cI bd v u208.2 ql qs qk qd qn qe qf qo qt qi qy)) (rest := []) (st1 := [.int u208.1]) hM okX8_lays gm_569 gm_707 gm_568 ⟨⟨rfl, rfl⟩, ⟨by decide, by decide⟩, Nat.zero_le _, Nat.zero_le _⟩ rfl rfl (wR_fst _ _ _ _ _ _ _ _ _ _ _ _ _ _ _ _) (wR_fst _ _ _ _ _ _ _ _ _ _ _ _ _ _ _ _) rfl hl.1 (Nat.le_of_ble_eq_true rfl) dX8_items_208 rfl rfl (fun H locs V => ?_)
                    have e9 : pX8_items v qm x1 x2 x3 = (u208.1, v, u208.2) := by rw [pX8_items, if_neg c_6, if_neg c_15, if_neg c_32, if_neg c_41, if_neg c_58, if_pos c_67, if_neg c_142, if_pos c_154, if_pos c_163, hu208, mLet_eq]
                    exact m_iret X hr hk V (by rw [e9]) (by rw [e9]) dX8_items_211
                  · refine lv_iload_n hx hb dX8_items_166 rfl (lv_at hl 7 rfl) ?_
                    refine lv_if_eq (tgt := 185) hx hb dX8_items_167 (by decide) (fun c_167 => ?_) (fun c_167 => ?_)
                    · refine lv_aload_n hx hb dX8_items_185 rfl (lv_at hl 4 rfl) ?_
                      refine m_get X V 6 0 0 rfl gin_6 rfl (by decide) rfl gm_423 (v := .ref (bd 1)) rfl dX8_items_186 ?_
                      refine lv_iload hx hb dX8_items_189 (lv_at hl 3 rfl) ?_
                      refine m_iald X V 1 rfl (by have e_1 : Int32.toInt 1 = 1 := rfl; have f_2 := isIn_spec (a := (x1 + x2)) (n := 1) (by omega) c_163; rw [vp_in_iff]; omega) dX8_items_191 ?_
                      refine lv_iconst (v := 1) hx hb dX8_items_192 (by decide) ?_
                      refine lv_iload hx hb dX8_items_193 (lv_at hl 1 rfl) ?_
                      refine lv_ishl hx hb dX8_items_195 ?_
                      refine lv_iconst (v := (-1)) hx hb dX8_items_196 (by decide) ?_
                      refine lv_ixor hx hb dX8_items_197 ?_
                      refine lv_iand hx hb dX8_items_198 ?_
                      refine lv_istore (lv' := [(7, .int ((qm (Int32.toNatClampNeg (x1 + x2))) &&& (((1 : Int32) <<< ((x2 &&& 7) &&& 31)) ^^^ (-1)))), (6, .int (x2 &&& 7)), (5, .int 1), (4, .int (x1 + x2)), (0, .ref (bd 0)), (1, .int x1), (2, .int x2), (3, .int x3)]) hx hb dX8_items_199 hl (by decide) rfl (fun ls hl => ?_)
                      refine lv_aload_n hx hb dX8_items_201 rfl (lv_at hl 4 rfl) ?_
                      refine lv_iload hx hb dX8_items_202 (lv_at hl 3 rfl) ?_
                      refine lv_iload hx hb dX8_items_204 (lv_at hl 2 rfl) ?_
                      refine lv_iload hx hb dX8_items_206 (lv_at hl 0 rfl) ?_
                      obtain ⟨u208, hu208⟩ : ∃ u, pX8_lays v qm (x1 + x2) 1 ((qm (Int32.toNatClampNeg (x1 + x2))) &&& (((1 : Int32) <<< ((x2 &&& 7) &&& 31)) ^^^ (-1))) = u := ⟨_, rfl⟩
                      have hM := kX8_lays l D cB cI bd v qm ql qs qk qd qn qe qf qo qt qi qy (x1 + x2) 1 ((qm (Int32.toNatClampNeg (x1 + x2))) &&& (((1 : Int32) <<< ((x2 &&& 7) &&& 31)) ^^^ (-1))) (show 0 ≤ Int32.toInt 1 ∧ Int32.toInt 1 ≤ 1024 by have z_0 : Int32.toInt 1 = 1 := rfl; have e_1 : Int32.toInt 1 = 1 := rfl; omega)
                      rw [hu208] at hM
                      refine m_VA X V (w1 := (wR cB cI bd v u208.2 ql qs qk qd qn qe qf qo qt qi qy)) (rest := []) (st1 := [.int u208.1]) hM okX8_lays gm_569 gm_707 gm_568 ⟨⟨rfl, rfl⟩, ⟨by decide, by decide⟩, Nat.zero_le _, Nat.zero_le _⟩ rfl rfl (wR_fst _ _ _ _ _ _ _ _ _ _ _ _ _ _ _ _) (wR_fst _ _ _ _ _ _ _ _ _ _ _ _ _ _ _ _) rfl hl.1 (Nat.le_of_ble_eq_true rfl) dX8_items_208 rfl rfl (fun H locs V => ?_)
                      have e9 : pX8_items v qm x1 x2 x3 = (u208.1, v, u208.2) := by rw [pX8_items, if_neg c_6, if_neg c_15, if_neg c_32, if_neg c_41, if_neg c_58, if_pos c_67, if_neg c_142, if_pos c_154, if_neg c_163, if_pos c_167, hu208, mLet_eq]
                      exact m_iret X hr hk V (by rw [e9]) (by rw [e9]) dX8_items_211
                    · refine lv_aload_n hx hb dX8_items_170 rfl (lv_at hl 4 rfl) ?_
                      refine m_get X V 6 0 0 rfl gin_6 rfl (by decide) rfl gm_423 (v := .ref (bd 1)) rfl dX8_items_171 ?_
                      refine lv_iload hx hb dX8_items_174 (lv_at hl 3 rfl) ?_
                      refine m_iald X V 1 rfl (by have e_1 : Int32.toInt 1 = 1 := rfl; have f_2 := isIn_spec (a := (x1 + x2)) (n := 1) (by omega) c_163; rw [vp_in_iff]; omega) dX8_items_176 ?_
                      refine lv_iconst (v := 1) hx hb dX8_items_177 (by decide) ?_
                      refine lv_iload hx hb dX8_items_178 (lv_at hl 1 rfl) ?_
                      refine lv_ishl hx hb dX8_items_180 ?_
                      refine lv_ior hx hb dX8_items_181 ?_
                      refine lv_goto (tgt := 199) hx hb dX8_items_182 (by decide) ?_
                      refine lv_istore (lv' := [(7, .int ((qm (Int32.toNatClampNeg (x1 + x2))) ||| ((1 : Int32) <<< ((x2 &&& 7) &&& 31)))), (6, .int (x2 &&& 7)), (5, .int 1), (4, .int (x1 + x2)), (0, .ref (bd 0)), (1, .int x1), (2, .int x2), (3, .int x3)]) hx hb dX8_items_199 hl (by decide) rfl (fun ls hl => ?_)
                      refine lv_aload_n hx hb dX8_items_201 rfl (lv_at hl 4 rfl) ?_
                      refine lv_iload hx hb dX8_items_202 (lv_at hl 3 rfl) ?_
                      refine lv_iload hx hb dX8_items_204 (lv_at hl 2 rfl) ?_
                      refine lv_iload hx hb dX8_items_206 (lv_at hl 0 rfl) ?_
                      obtain ⟨u208, hu208⟩ : ∃ u, pX8_lays v qm (x1 + x2) 1 ((qm (Int32.toNatClampNeg (x1 + x2))) ||| ((1 : Int32) <<< ((x2 &&& 7) &&& 31))) = u := ⟨_, rfl⟩
                      have hM := kX8_lays l D cB cI bd v qm ql qs qk qd qn qe qf qo qt qi qy (x1 + x2) 1 ((qm (Int32.toNatClampNeg (x1 + x2))) ||| ((1 : Int32) <<< ((x2 &&& 7) &&& 31))) (show 0 ≤ Int32.toInt 1 ∧ Int32.toInt 1 ≤ 1024 by have z_0 : Int32.toInt 1 = 1 := rfl; have e_1 : Int32.toInt 1 = 1 := rfl; omega)
                      rw [hu208] at hM
                      refine m_VA X V (w1 := (wR cB cI bd v u208.2 ql qs qk qd qn qe qf qo qt qi qy)) (rest := []) (st1 := [.int u208.1]) hM okX8_lays gm_569 gm_707 gm_568 ⟨⟨rfl, rfl⟩, ⟨by decide, by decide⟩, Nat.zero_le _, Nat.zero_le _⟩ rfl rfl (wR_fst _ _ _ _ _ _ _ _ _ _ _ _ _ _ _ _) (wR_fst _ _ _ _ _ _ _ _ _ _ _ _ _ _ _ _) rfl hl.1 (Nat.le_of_ble_eq_true rfl) dX8_items_208 rfl rfl (fun H locs V => ?_)
                      have e9 : pX8_items v qm x1 x2 x3 = (u208.1, v, u208.2) := by rw [pX8_items, if_neg c_6, if_neg c_15, if_neg c_32, if_neg c_41, if_neg c_58, if_pos c_67, if_neg c_142, if_pos c_154, if_neg c_163, if_neg c_167, hu208, mLet_eq]
                      exact m_iret X hr hk V (by rw [e9]) (by rw [e9]) dX8_items_211
        · refine lv_iload_n hx hb dX8_items_44 rfl (lv_at hl 1 rfl) ?_
          refine lv_iconst (v := 2) hx hb dX8_items_45 (by decide) ?_
          refine lv_iload_n hx hb dX8_items_46 rfl (lv_at hl 2 rfl) ?_
          refine lv_imul hx hb dX8_items_47 ?_
          refine lv_iadd hx hb dX8_items_48 ?_
          refine lv_goto (tgt := 81) hx hb dX8_items_49 (by decide) ?_
          refine lv_istore (lv' := [(4, .int (x1 + (2 * x2))), (0, .ref (bd 0)), (1, .int x1), (2, .int x2), (3, .int x3)]) hx hb dX8_items_81 hl (by decide) rfl (fun ls hl => ?_)
          refine lv_aload_n hx hb dX8_items_83 rfl (lv_at hl 1 rfl) ?_
          refine m_get X V 6 0 11 rfl gin_6 rfl (by decide) rfl gm_434 (v := .int (v 7)) rfl dX8_items_84 ?_
          refine lv_bipush (v := 72) hx hb dX8_items_87 (by decide) ?_
          refine lv_icmp_eq (tgt := 101) hx hb dX8_items_89 (by decide) (fun h => absurd h c_6) (fun _ => ?_)
          refine lv_aload_n hx hb dX8_items_92 rfl (lv_at hl 1 rfl) ?_
          refine m_get X V 6 0 11 rfl gin_6 rfl (by decide) rfl gm_434 (v := .int (v 7)) rfl dX8_items_93 ?_
          refine lv_bipush (v := 76) hx hb dX8_items_96 (by decide) ?_
          refine lv_icmp_ne (tgt := 105) hx hb dX8_items_98 (by decide) (fun _ => ?_) (fun h => absurd h c_15)
          refine lv_aload_n hx hb dX8_items_105 rfl (lv_at hl 1 rfl) ?_
          refine m_get X V 6 0 11 rfl gin_6 rfl (by decide) rfl gm_434 (v := .int (v 7)) rfl dX8_items_106 ?_
          refine lv_bipush (v := 73) hx hb dX8_items_109 (by decide) ?_
          refine lv_icmp_eq (tgt := 123) hx hb dX8_items_111 (by decide) (fun h => absurd h c_32) (fun _ => ?_)
          refine lv_aload_n hx hb dX8_items_114 rfl (lv_at hl 1 rfl) ?_
          refine m_get X V 6 0 11 rfl gin_6 rfl (by decide) rfl gm_434 (v := .int (v 7)) rfl dX8_items_115 ?_
          refine lv_bipush (v := 77) hx hb dX8_items_118 (by decide) ?_
          refine lv_icmp_ne (tgt := 127) hx hb dX8_items_120 (by decide) (fun h => absurd c_41 h) (fun _ => ?_)
          refine lv_iconst (v := 2) hx hb dX8_items_123 (by decide) ?_
          refine lv_goto (tgt := 128) hx hb dX8_items_124 (by decide) ?_
          refine lv_istore (lv' := [(5, .int 2), (4, .int (x1 + (2 * x2))), (0, .ref (bd 0)), (1, .int x1), (2, .int x2), (3, .int x3)]) hx hb dX8_items_128 hl (by decide) rfl (fun ls hl => ?_)
          refine lv_iload_n hx hb dX8_items_130 rfl (lv_at hl 4 rfl) ?_
          refine lv_bipush (v := 7) hx hb dX8_items_131 (by decide) ?_
          refine lv_iand hx hb dX8_items_133 ?_
          refine lv_istore (lv' := [(6, .int (x2 &&& 7)), (5, .int 2), (4, .int (x1 + (2 * x2))), (0, .ref (bd 0)), (1, .int x1), (2, .int x2), (3, .int x3)]) hx hb dX8_items_134 hl (by decide) rfl (fun ls hl => ?_)
          refine lv_aload_n hx hb dX8_items_136 rfl (lv_at hl 3 rfl) ?_
          refine m_get X V 6 0 11 rfl gin_6 rfl (by decide) rfl gm_434 (v := .int (v 7)) rfl dX8_items_137 ?_
          refine lv_bipush (v := 76) hx hb dX8_items_140 (by decide) ?_
          refine lv_icmp_lt (tgt := 212) hx hb dX8_items_142 (by decide) (fun c_142 => ?_) (fun c_142 => ?_)
          · refine lv_iload hx hb dX8_items_212 (lv_at hl 2 rfl) ?_
            refine lv_iload hx hb dX8_items_214 (lv_at hl 1 rfl) ?_
            refine m_S X V (rest := []) (st1 := [.int (pX8_isIn (x1 + (2 * x2)) 2)]) (kX8_isIn l D cB cI (x1 + (2 * x2)) 2) okX8_isIn gm_544 gm_543 ⟨⟨rfl, rfl⟩, ⟨by decide, by decide⟩, Nat.zero_le _, Nat.zero_le _⟩ rfl hl.1 (Nat.le_of_ble_eq_true rfl) dX8_items_216 rfl rfl (fun H locs V => ?_)
            refine lv_if_ne (tgt := 224) hx hb dX8_items_219 (by decide) (fun c_219 => ?_) (fun c_219 => ?_)
            · refine lv_aload_n hx hb dX8_items_224 rfl (lv_at hl 3 rfl) ?_
              refine lv_iload hx hb dX8_items_225 (lv_at hl 2 rfl) ?_
              refine lv_iload hx hb dX8_items_227 (lv_at hl 1 rfl) ?_
              obtain ⟨u229, hu229⟩ : ∃ u, pX8_numberAt qm (x1 + (2 * x2)) 2 = u := ⟨_, rfl⟩
              have hM := kX8_numberAt l D cB cI bd v qm ql qs qk qd qn qe qf qo qt qi qy (x1 + (2 * x2)) 2 (show 0 ≤ Int32.toInt (x1 + (2 * x2)) ∧ Int32.toInt (x1 + (2 * x2)) + Int32.toInt 2 ≤ 1024 by have z_0 : Int32.toInt 2 = 2 := rfl; have e_1 : Int32.toInt 2 = 2 := rfl; have f_2 := isIn_spec (a := (x1 + (2 * x2))) (n := 2) (by omega) c_219; omega)
              rw [hu229] at hM
              refine m_VA X V (w1 := (wR cB cI bd v qm ql qs qk qd qn qe qf qo qt qi qy)) (rest := []) (st1 := [.int u229]) hM okX8_numberAt gm_510 gm_698 gm_509 ⟨⟨rfl, rfl⟩, ⟨by decide, by decide⟩, Nat.zero_le _, Nat.zero_le _⟩ rfl rfl (wR_fst _ _ _ _ _ _ _ _ _ _ _ _ _ _ _ _) (wR_fst _ _ _ _ _ _ _ _ _ _ _ _ _ _ _ _) rfl hl.1 (Nat.le_of_ble_eq_true rfl) dX8_items_229 rfl rfl (fun H locs V => ?_)
              refine lv_istore (lv' := [(7, .int u229), (6, .int (x2 &&& 7)), (5, .int 2), (4, .int (x1 + (2 * x2))), (0, .ref (bd 0)), (1, .int x1), (2, .int x2), (3, .int x3)]) hx hb dX8_items_232 hl (by decide) rfl (fun ls hl => ?_)
              refine lv_aload_n hx hb dX8_items_234 rfl (lv_at hl 4 rfl) ?_
              refine lv_aload_n hx hb dX8_items_235 rfl (lv_at hl 4 rfl) ?_
              refine m_get X V 6 0 11 rfl gin_6 rfl (by decide) rfl gm_434 (v := .int (v 7)) rfl dX8_items_236 ?_
              refine lv_bipush (v := 75) hx hb dX8_items_239 (by decide) ?_
              refine lv_icmp_ne (tgt := 254) hx hb dX8_items_241 (by decide) (fun c_241 => ?_) (fun c_241 => ?_)
              · refine lv_iload hx hb dX8_items_254 (lv_at hl 0 rfl) ?_
                obtain ⟨u256, hu256⟩ : ∃ u, pX8_gives v u229 = u := ⟨_, rfl⟩
                have hM := kX8_gives l D cB cI bd v qm ql qs qk qd qn qe qf qo qt qi qy u229
                rw [hu256] at hM
                refine m_VA X V (w1 := (wR cB cI bd u256.2 qm ql qs qk qd qn qe qf qo qt qi qy)) (rest := []) (st1 := [.int u256.1]) hM okX8_gives gm_553 gm_704 gm_552 ⟨⟨rfl, rfl⟩, ⟨by decide, by decide⟩, Nat.zero_le _, Nat.zero_le _⟩ rfl rfl (wR_fst _ _ _ _ _ _ _ _ _ _ _ _ _ _ _ _) (wR_fst _ _ _ _ _ _ _ _ _ _ _ _ _ _ _ _) rfl hl.1 (Nat.le_of_ble_eq_true rfl) dX8_items_256 rfl rfl (fun H locs V => ?_)
                have e9 : pX8_items v qm x1 x2 x3 = (u256.1, u256.2, qm) := by rw [pX8_items, if_neg c_6, if_neg c_15, if_neg c_32, if_pos c_41, if_pos c_142, if_neg c_219, hu229, mLet_eq, if_neg c_241, hu256, mLet_eq]
                exact m_iret X hr hk V (by rw [e9]) (by rw [e9]) dX8_items_259
              · refine lv_iload hx hb dX8_items_244 (lv_at hl 0 rfl) ?_
                refine lv_iload hx hb dX8_items_246 (lv_at hl 1 rfl) ?_
                refine lv_ishr hx hb dX8_items_248 ?_
                refine lv_iconst (v := 1) hx hb dX8_items_249 (by decide) ?_
                refine lv_iand hx hb dX8_items_250 ?_
                refine lv_goto (tgt := 256) hx hb dX8_items_251 (by decide) ?_
                obtain ⟨u256, hu256⟩ : ∃ u, pX8_gives v ((u229 >>> ((x2 &&& 7) &&& 31)) &&& 1) = u := ⟨_, rfl⟩
                have hM := kX8_gives l D cB cI bd v qm ql qs qk qd qn qe qf qo qt qi qy ((u229 >>> ((x2 &&& 7) &&& 31)) &&& 1)
                rw [hu256] at hM
                refine m_VA X V (w1 := (wR cB cI bd u256.2 qm ql qs qk qd qn qe qf qo qt qi qy)) (rest := []) (st1 := [.int u256.1]) hM okX8_gives gm_553 gm_704 gm_552 ⟨⟨rfl, rfl⟩, ⟨by decide, by decide⟩, Nat.zero_le _, Nat.zero_le _⟩ rfl rfl (wR_fst _ _ _ _ _ _ _ _ _ _ _ _ _ _ _ _) (wR_fst _ _ _ _ _ _ _ _ _ _ _ _ _ _ _ _) rfl hl.1 (Nat.le_of_ble_eq_true rfl) dX8_items_256 rfl rfl (fun H locs V => ?_)
                have e9 : pX8_items v qm x1 x2 x3 = (u256.1, u256.2, qm) := by rw [pX8_items, if_neg c_6, if_neg c_15, if_neg c_32, if_pos c_41, if_pos c_142, if_neg c_219, hu229, mLet_eq, if_pos c_241, hu256, mLet_eq]
                exact m_iret X hr hk V (by rw [e9]) (by rw [e9]) dX8_items_259
            · refine lv_iconst (v := 1) hx hb dX8_items_222 (by decide) ?_
              have e9 : pX8_items v qm x1 x2 x3 = (1, v, qm) := by rw [pX8_items, if_neg c_6, if_neg c_15, if_neg c_32, if_pos c_41, if_pos c_142, if_pos c_219]
              exact m_iret X hr hk V (by rw [e9]) (by rw [e9]) dX8_items_223
          · refine lv_iload_n hx hb dX8_items_145 rfl (lv_at hl 6 rfl) ?_
            refine lv_istore (lv' := [(7, .int x3), (6, .int (x2 &&& 7)), (5, .int 2), (4, .int (x1 + (2 * x2))), (0, .ref (bd 0)), (1, .int x1), (2, .int x2), (3, .int x3)]) hx hb dX8_items_146 hl (by decide) rfl (fun ls hl => ?_)
            refine lv_aload_n hx hb dX8_items_148 rfl (lv_at hl 4 rfl) ?_
            refine m_get X V 6 0 11 rfl gin_6 rfl (by decide) rfl gm_434 (v := .int (v 7)) rfl dX8_items_149 ?_
            refine lv_bipush (v := 79) hx hb dX8_items_152 (by decide) ?_
            refine lv_icmp_ne (tgt := 201) hx hb dX8_items_154 (by decide) (fun c_154 => ?_) (fun c_154 => ?_)
            · refine lv_aload_n hx hb dX8_items_201 rfl (lv_at hl 4 rfl) ?_
              refine lv_iload hx hb dX8_items_202 (lv_at hl 3 rfl) ?_
              refine lv_iload hx hb dX8_items_204 (lv_at hl 2 rfl) ?_
              refine lv_iload hx hb dX8_items_206 (lv_at hl 0 rfl) ?_
              obtain ⟨u208, hu208⟩ : ∃ u, pX8_lays v qm (x1 + (2 * x2)) 2 x3 = u := ⟨_, rfl⟩
              have hM := kX8_lays l D cB cI bd v qm ql qs qk qd qn qe qf qo qt qi qy (x1 + (2 * x2)) 2 x3 (show 0 ≤ Int32.toInt 2 ∧ Int32.toInt 2 ≤ 1024 by have z_0 : Int32.toInt 2 = 2 := rfl; have e_1 : Int32.toInt 2 = 2 := rfl; omega)
              rw [hu208] at hM
              refine m_VA X V (w1 := (wR cB cI bd v u208.2 ql qs qk qd qn qe qf qo qt qi qy)) (rest := []) (st1 := [.int u208.1]) hM okX8_lays gm_569 gm_707 gm_568 ⟨⟨rfl, rfl⟩, ⟨by decide, by decide⟩, Nat.zero_le _, Nat.zero_le _⟩ rfl rfl (wR_fst _ _ _ _ _ _ _ _ _ _ _ _ _ _ _ _) (wR_fst _ _ _ _ _ _ _ _ _ _ _ _ _ _ _ _) rfl hl.1 (Nat.le_of_ble_eq_true rfl) dX8_items_208 rfl rfl (fun H locs V => ?_)
              have e9 : pX8_items v qm x1 x2 x3 = (u208.1, v, u208.2) := by rw [pX8_items, if_neg c_6, if_neg c_15, if_neg c_32, if_pos c_41, if_neg c_142, if_neg c_154, hu208, mLet_eq]
              exact m_iret X hr hk V (by rw [e9]) (by rw [e9]) dX8_items_211
            · refine lv_iload hx hb dX8_items_157 (lv_at hl 3 rfl) ?_
              refine lv_iconst (v := 1) hx hb dX8_items_159 (by decide) ?_
              refine m_S X V (rest := []) (st1 := [.int (pX8_isIn (x1 + (2 * x2)) 1)]) (kX8_isIn l D cB cI (x1 + (2 * x2)) 1) okX8_isIn gm_544 gm_543 ⟨⟨rfl, rfl⟩, ⟨by decide, by decide⟩, Nat.zero_le _, Nat.zero_le _⟩ rfl hl.1 (Nat.le_of_ble_eq_true rfl) dX8_items_160 rfl rfl (fun H locs V => ?_)
              refine lv_if_eq (tgt := 201) hx hb dX8_items_163 (by decide) (fun c_163 => ?_) (fun c_163 => ?_)
              · refine lv_aload_n hx hb dX8_items_201 rfl (lv_at hl 4 rfl) ?_
                refine lv_iload hx hb dX8_items_202 (lv_at hl 3 rfl) ?_
                refine lv_iload hx hb dX8_items_204 (lv_at hl 2 rfl) ?_
                refine lv_iload hx hb dX8_items_206 (lv_at hl 0 rfl) ?_
                obtain ⟨u208, hu208⟩ : ∃ u, pX8_lays v qm (x1 + (2 * x2)) 2 x3 = u := ⟨_, rfl⟩
                have hM := kX8_lays l D cB cI bd v qm ql qs qk qd qn qe qf qo qt qi qy (x1 + (2 * x2)) 2 x3 (show 0 ≤ Int32.toInt 2 ∧ Int32.toInt 2 ≤ 1024 by have z_0 : Int32.toInt 2 = 2 := rfl; have e_1 : Int32.toInt 2 = 2 := rfl; omega)
                rw [hu208] at hM
                refine m_VA X V (w1 := (wR cB cI bd v u208.2 ql qs qk qd qn qe qf qo qt qi qy)) (rest := []) (st1 := [.int u208.1]) hM okX8_lays gm_569 gm_707 gm_568 ⟨⟨rfl, rfl⟩, ⟨by decide, by decide⟩, Nat.zero_le _, Nat.zero_le _⟩ rfl rfl (wR_fst _ _ _ _ _ _ _ _ _ _ _ _ _ _ _ _) (wR_fst _ _ _ _ _ _ _ _ _ _ _ _ _ _ _ _) rfl hl.1 (Nat.le_of_ble_eq_true rfl) dX8_items_208 rfl rfl (fun H locs V => ?_)
                have e9 : pX8_items v qm x1 x2 x3 = (u208.1, v, u208.2) := by rw [pX8_items, if_neg c_6, if_neg c_15, if_neg c_32, if_pos c_41, if_neg c_142, if_pos c_154, if_pos c_163, hu208, mLet_eq]
                exact m_iret X hr hk V (by rw [e9]) (by rw [e9]) dX8_items_211
              · refine lv_iload_n hx hb dX8_items_166 rfl (lv_at hl 7 rfl) ?_
                refine lv_if_eq (tgt := 185) hx hb dX8_items_167 (by decide) (fun c_167 => ?_) (fun c_167 => ?_)
                · refine lv_aload_n hx hb dX8_items_185 rfl (lv_at hl 4 rfl) ?_
                  refine m_get X V 6 0 0 rfl gin_6 rfl (by decide) rfl gm_423 (v := .ref (bd 1)) rfl dX8_items_186 ?_
                  refine lv_iload hx hb dX8_items_189 (lv_at hl 3 rfl) ?_
                  refine m_iald X V 1 rfl (by have e_1 : Int32.toInt 1 = 1 := rfl; have f_2 := isIn_spec (a := (x1 + (2 * x2))) (n := 1) (by omega) c_163; rw [vp_in_iff]; omega) dX8_items_191 ?_
                  refine lv_iconst (v := 1) hx hb dX8_items_192 (by decide) ?_
                  refine lv_iload hx hb dX8_items_193 (lv_at hl 1 rfl) ?_
                  refine lv_ishl hx hb dX8_items_195 ?_
                  refine lv_iconst (v := (-1)) hx hb dX8_items_196 (by decide) ?_
                  refine lv_ixor hx hb dX8_items_197 ?_
                  refine lv_iand hx hb dX8_items_198 ?_
                  refine lv_istore (lv' := [(7, .int ((qm (Int32.toNatClampNeg (x1 + (2 * x2)))) &&& (((1 : Int32) <<< ((x2 &&& 7) &&& 31)) ^^^ (-1)))), (6, .int (x2 &&& 7)), (5, .int 2), (4, .int (x1 + (2 * x2))), (0, .ref (bd 0)), (1, .int x1), (2, .int x2), (3, .int x3)]) hx hb dX8_items_199 hl (by decide) rfl (fun ls hl => ?_)
                  refine lv_aload_n hx hb dX8_items_201 rfl (lv_at hl 4 rfl) ?_
                  refine lv_iload hx hb dX8_items_202 (lv_at hl 3 rfl) ?_
                  refine lv_iload hx hb dX8_items_204 (lv_at hl 2 rfl) ?_
                  refine lv_iload hx hb dX8_items_206 (lv_at hl 0 rfl) ?_
                  obtain ⟨u208, hu208⟩ : ∃ u, pX8_lays v qm (x1 + (2 * x2)) 2 ((qm (Int32.toNatClampNeg (x1 + (2 * x2)))) &&& (((1 : Int32) <<< ((x2 &&& 7) &&& 31)) ^^^ (-1))) = u := ⟨_, rfl⟩
                  have hM := kX8_lays l D cB cI bd v qm ql qs qk qd qn qe qf qo qt qi qy (x1 + (2 * x2)) 2 ((qm (Int32.toNatClampNeg (x1 + (2 * x2)))) &&& (((1 : Int32) <<< ((x2 &&& 7) &&& 31)) ^^^ (-1))) (show 0 ≤ Int32.toInt 2 ∧ Int32.toInt 2 ≤ 1024 by have z_0 : Int32.toInt 2 = 2 := rfl; have e_1 : Int32.toInt 2 = 2 := rfl; omega)
                  rw [hu208] at hM
                  refine m_VA X V (w1 := (wR cB cI bd v u208.2 ql qs qk qd qn qe qf qo qt qi qy)) (rest := []) (st1 := [.int u208.1]) hM okX8_lays gm_569 gm_707 gm_568 ⟨⟨rfl, rfl⟩, ⟨by decide, by decide⟩, Nat.zero_le _, Nat.zero_le _⟩ rfl rfl (wR_fst _ _ _ _ _ _ _ _ _ _ _ _ _ _ _ _) (wR_fst _ _ _ _ _ _ _ _ _ _ _ _ _ _ _ _) rfl hl.1 (Nat.le_of_ble_eq_true rfl) dX8_items_208 rfl rfl (fun H locs V => ?_)
                  have e9 : pX8_items v qm x1 x2 x3 = (u208.1, v, u208.2) := by rw [pX8_items, if_neg c_6, if_neg c_15, if_neg c_32, if_pos c_41, if_neg c_142, if_pos c_154, if_neg c_163, if_pos c_167, hu208, mLet_eq]
                  exact m_iret X hr hk V (by rw [e9]) (by rw [e9]) dX8_items_211
                · refine lv_aload_n hx hb dX8_items_170 rfl (lv_at hl 4 rfl) ?_
                  refine m_get X V 6 0 0 rfl gin_6 rfl (by decide) rfl gm_423 (v := .ref (bd 1)) rfl dX8_items_171 ?_
                  refine lv_iload hx hb dX8_items_174 (lv_at hl 3 rfl) ?_
                  refine m_iald X V 1 rfl (by have e_1 : Int32.toInt 1 = 1 := rfl; have f_2 := isIn_spec (a := (x1 + (2 * x2))) (n := 1) (by omega) c_163; rw [vp_in_iff]; omega) dX8_items_176 ?_
                  refine lv_iconst (v := 1) hx hb dX8_items_177 (by decide) ?_
                  refine lv_iload hx hb dX8_items_178 (lv_at hl 1 rfl) ?_
                  refine lv_ishl hx hb dX8_items_180 ?_
                  refine lv_ior hx hb dX8_items_181 ?_
                  refine lv_goto (tgt := 199) hx hb dX8_items_182 (by decide) ?_
                  refine lv_istore (lv' := [(7, .int ((qm (Int32.toNatClampNeg (x1 + (2 * x2)))) ||| ((1 : Int32) <<< ((x2 &&& 7) &&& 31)))), (6, .int (x2 &&& 7)), (5, .int 2), (4, .int (x1 + (2 * x2))), (0, .ref (bd 0)), (1, .int x1), (2, .int x2), (3, .int x3)]) hx hb dX8_items_199 hl (by decide) rfl (fun ls hl => ?_)
                  refine lv_aload_n hx hb dX8_items_201 rfl (lv_at hl 4 rfl) ?_
                  refine lv_iload hx hb dX8_items_202 (lv_at hl 3 rfl) ?_
                  refine lv_iload hx hb dX8_items_204 (lv_at hl 2 rfl) ?_
                  refine lv_iload hx hb dX8_items_206 (lv_at hl 0 rfl) ?_
                  obtain ⟨u208, hu208⟩ : ∃ u, pX8_lays v qm (x1 + (2 * x2)) 2 ((qm (Int32.toNatClampNeg (x1 + (2 * x2)))) ||| ((1 : Int32) <<< ((x2 &&& 7) &&& 31))) = u := ⟨_, rfl⟩
                  have hM := kX8_lays l D cB cI bd v qm ql qs qk qd qn qe qf qo qt qi qy (x1 + (2 * x2)) 2 ((qm (Int32.toNatClampNeg (x1 + (2 * x2)))) ||| ((1 : Int32) <<< ((x2 &&& 7) &&& 31))) (show 0 ≤ Int32.toInt 2 ∧ Int32.toInt 2 ≤ 1024 by have z_0 : Int32.toInt 2 = 2 := rfl; have e_1 : Int32.toInt 2 = 2 := rfl; omega)
                  rw [hu208] at hM
                  refine m_VA X V (w1 := (wR cB cI bd v u208.2 ql qs qk qd qn qe qf qo qt qi qy)) (rest := []) (st1 := [.int u208.1]) hM okX8_lays gm_569 gm_707 gm_568 ⟨⟨rfl, rfl⟩, ⟨by decide, by decide⟩, Nat.zero_le _, Nat.zero_le _⟩ rfl rfl (wR_fst _ _ _ _ _ _ _ _ _ _ _ _ _ _ _ _) (wR_fst _ _ _ _ _ _ _ _ _ _ _ _ _ _ _ _) rfl hl.1 (Nat.le_of_ble_eq_true rfl) dX8_items_208 rfl rfl (fun H locs V => ?_)
                  have e9 : pX8_items v qm x1 x2 x3 = (u208.1, v, u208.2) := by rw [pX8_items, if_neg c_6, if_neg c_15, if_neg c_32, if_pos c_41, if_neg c_142, if_pos c_154, if_neg c_163, if_neg c_167, hu208, mLet_eq]
                  exact m_iret X hr hk V (by rw [e9]) (by rw [e9]) dX8_items_211
    · refine lv_iload_n hx hb dX8_items_18 rfl (lv_at hl 1 rfl) ?_
      refine lv_iconst (v := 4) hx hb dX8_items_19 (by decide) ?_
      refine lv_iload_n hx hb dX8_items_20 rfl (lv_at hl 2 rfl) ?_
      refine lv_imul hx hb dX8_items_21 ?_
      refine lv_iadd hx hb dX8_items_22 ?_
      refine lv_goto (tgt := 81) hx hb dX8_items_23 (by decide) ?_
      refine lv_istore (lv' := [(4, .int (x1 + (4 * x2))), (0, .ref (bd 0)), (1, .int x1), (2, .int x2), (3, .int x3)]) hx hb dX8_items_81 hl (by decide) rfl (fun ls hl => ?_)
      refine lv_aload_n hx hb dX8_items_83 rfl (lv_at hl 1 rfl) ?_
      refine m_get X V 6 0 11 rfl gin_6 rfl (by decide) rfl gm_434 (v := .int (v 7)) rfl dX8_items_84 ?_
      refine lv_bipush (v := 72) hx hb dX8_items_87 (by decide) ?_
      refine lv_icmp_eq (tgt := 101) hx hb dX8_items_89 (by decide) (fun h => absurd h c_6) (fun _ => ?_)
      refine lv_aload_n hx hb dX8_items_92 rfl (lv_at hl 1 rfl) ?_
      refine m_get X V 6 0 11 rfl gin_6 rfl (by decide) rfl gm_434 (v := .int (v 7)) rfl dX8_items_93 ?_
      refine lv_bipush (v := 76) hx hb dX8_items_96 (by decide) ?_
      refine lv_icmp_ne (tgt := 105) hx hb dX8_items_98 (by decide) (fun h => absurd c_15 h) (fun _ => ?_)
      refine lv_iconst (v := 4) hx hb dX8_items_101 (by decide) ?_
      refine lv_goto (tgt := 128) hx hb dX8_items_102 (by decide) ?_
      refine lv_istore (lv' := [(5, .int 4), (4, .int (x1 + (4 * x2))), (0, .ref (bd 0)), (1, .int x1), (2, .int x2), (3, .int x3)]) hx hb dX8_items_128 hl (by decide) rfl (fun ls hl => ?_)
      refine lv_iload_n hx hb dX8_items_130 rfl (lv_at hl 4 rfl) ?_
      refine lv_bipush (v := 7) hx hb dX8_items_131 (by decide) ?_
      refine lv_iand hx hb dX8_items_133 ?_
      refine lv_istore (lv' := [(6, .int (x2 &&& 7)), (5, .int 4), (4, .int (x1 + (4 * x2))), (0, .ref (bd 0)), (1, .int x1), (2, .int x2), (3, .int x3)]) hx hb dX8_items_134 hl (by decide) rfl (fun ls hl => ?_)
      refine lv_aload_n hx hb dX8_items_136 rfl (lv_at hl 3 rfl) ?_
      refine m_get X V 6 0 11 rfl gin_6 rfl (by decide) rfl gm_434 (v := .int (v 7)) rfl dX8_items_137 ?_
      refine lv_bipush (v := 76) hx hb dX8_items_140 (by decide) ?_
      refine lv_icmp_lt (tgt := 212) hx hb dX8_items_142 (by decide) (fun c_142 => ?_) (fun c_142 => ?_)
      · refine lv_iload hx hb dX8_items_212 (lv_at hl 2 rfl) ?_
        refine lv_iload hx hb dX8_items_214 (lv_at hl 1 rfl) ?_
        refine m_S X V (rest := []) (st1 := [.int (pX8_isIn (x1 + (4 * x2)) 4)]) (kX8_isIn l D cB cI (x1 + (4 * x2)) 4) okX8_isIn gm_544 gm_543 ⟨⟨rfl, rfl⟩, ⟨by decide, by decide⟩, Nat.zero_le _, Nat.zero_le _⟩ rfl hl.1 (Nat.le_of_ble_eq_true rfl) dX8_items_216 rfl rfl (fun H locs V => ?_)
        refine lv_if_ne (tgt := 224) hx hb dX8_items_219 (by decide) (fun c_219 => ?_) (fun c_219 => ?_)
        · refine lv_aload_n hx hb dX8_items_224 rfl (lv_at hl 3 rfl) ?_
          refine lv_iload hx hb dX8_items_225 (lv_at hl 2 rfl) ?_
          refine lv_iload hx hb dX8_items_227 (lv_at hl 1 rfl) ?_
          obtain ⟨u229, hu229⟩ : ∃ u, pX8_numberAt qm (x1 + (4 * x2)) 4 = u := ⟨_, rfl⟩
          have hM := kX8_numberAt l D cB cI bd v qm ql qs qk qd qn qe qf qo qt qi qy (x1 + (4 * x2)) 4 (show 0 ≤ Int32.toInt (x1 + (4 * x2)) ∧ Int32.toInt (x1 + (4 * x2)) + Int32.toInt 4 ≤ 1024 by have z_0 : Int32.toInt 4 = 4 := rfl; have e_1 : Int32.toInt 4 = 4 := rfl; have f_2 := isIn_spec (a := (x1 + (4 * x2))) (n := 4) (by omega) c_219; omega)
          rw [hu229] at hM
          refine m_VA X V (w1 := (wR cB cI bd v qm ql qs qk qd qn qe qf qo qt qi qy)) (rest := []) (st1 := [.int u229]) hM okX8_numberAt gm_510 gm_698 gm_509 ⟨⟨rfl, rfl⟩, ⟨by decide, by decide⟩, Nat.zero_le _, Nat.zero_le _⟩ rfl rfl (wR_fst _ _ _ _ _ _ _ _ _ _ _ _ _ _ _ _) (wR_fst _ _ _ _ _ _ _ _ _ _ _ _ _ _ _ _) rfl hl.1 (Nat.le_of_ble_eq_true rfl) dX8_items_229 rfl rfl (fun H locs V => ?_)
          refine lv_istore (lv' := [(7, .int u229), (6, .int (x2 &&& 7)), (5, .int 4), (4, .int (x1 + (4 * x2))), (0, .ref (bd 0)), (1, .int x1), (2, .int x2), (3, .int x3)]) hx hb dX8_items_232 hl (by decide) rfl (fun ls hl => ?_)
          refine lv_aload_n hx hb dX8_items_234 rfl (lv_at hl 4 rfl) ?_
          refine lv_aload_n hx hb dX8_items_235 rfl (lv_at hl 4 rfl) ?_
          refine m_get X V 6 0 11 rfl gin_6 rfl (by decide) rfl gm_434 (v := .int (v 7)) rfl dX8_items_236 ?_
          refine lv_bipush (v := 75) hx hb dX8_items_239 (by decide) ?_
          refine lv_icmp_ne (tgt := 254) hx hb dX8_items_241 (by decide) (fun c_241 => ?_) (fun c_241 => ?_)
          · refine lv_iload hx hb dX8_items_254 (lv_at hl 0 rfl) ?_
            obtain ⟨u256, hu256⟩ : ∃ u, pX8_gives v u229 = u := ⟨_, rfl⟩
            have hM := kX8_gives l D cB cI bd v qm ql qs qk qd qn qe qf qo qt qi qy u229
            rw [hu256] at hM
            refine m_VA X V (w1 := (wR cB cI bd u256.2 qm ql qs qk qd qn qe qf qo qt qi qy)) (rest := []) (st1 := [.int u256.1]) hM okX8_gives gm_553 gm_704 gm_552 ⟨⟨rfl, rfl⟩, ⟨by decide, by decide⟩, Nat.zero_le _, Nat.zero_le _⟩ rfl rfl (wR_fst _ _ _ _ _ _ _ _ _ _ _ _ _ _ _ _) (wR_fst _ _ _ _ _ _ _ _ _ _ _ _ _ _ _ _) rfl hl.1 (Nat.le_of_ble_eq_true rfl) dX8_items_256 rfl rfl (fun H locs V => ?_)
            have e9 : pX8_items v qm x1 x2 x3 = (u256.1, u256.2, qm) := by rw [pX8_items, if_neg c_6, if_pos c_15, if_pos c_142, if_neg c_219, hu229, mLet_eq, if_neg c_241, hu256, mLet_eq]
            exact m_iret X hr hk V (by rw [e9]) (by rw [e9]) dX8_items_259
          · refine lv_iload hx hb dX8_items_244 (lv_at hl 0 rfl) ?_
            refine lv_iload hx hb dX8_items_246 (lv_at hl 1 rfl) ?_
            refine lv_ishr hx hb dX8_items_248 ?_
            refine lv_iconst (v := 1) hx hb dX8_items_249 (by decide) ?_
            refine lv_iand hx hb dX8_items_250 ?_
            refine lv_goto (tgt := 256) hx hb dX8_items_251 (by decide) ?_
            obtain ⟨u256, hu256⟩ : ∃ u, pX8_gives v ((u229 >>> ((x2 &&& 7) &&& 31)) &&& 1) = u := ⟨_, rfl⟩
            have hM := kX8_gives l D cB cI bd v qm ql qs qk qd qn qe qf qo qt qi qy ((u229 >>> ((x2 &&& 7) &&& 31)) &&& 1)
            rw [hu256] at hM
            refine m_VA X V (w1 := (wR cB cI bd u256.2 qm ql qs qk qd qn qe qf qo qt qi qy)) (rest := []) (st1 := [.int u256.1]) hM okX8_gives gm_553 gm_704 gm_552 ⟨⟨rfl, rfl⟩, ⟨by decide, by decide⟩, Nat.zero_le _, Nat.zero_le _⟩ rfl rfl (wR_fst _ _ _ _ _ _ _ _ _ _ _ _ _ _ _ _) (wR_fst _ _ _ _ _ _ _ _ _ _ _ _ _ _ _ _) rfl hl.1 (Nat.le_of_ble_eq_true rfl) dX8_items_256 rfl rfl (fun H locs V => ?_)
            have e9 : pX8_items v qm x1 x2 x3 = (u256.1, u256.2, qm) := by rw [pX8_items, if_neg c_6, if_pos c_15, if_pos c_142, if_neg c_219, hu229, mLet_eq, if_pos c_241, hu256, mLet_eq]
            exact m_iret X hr hk V (by rw [e9]) (by rw [e9]) dX8_items_259
        · refine lv_iconst (v := 1) hx hb dX8_items_222 (by decide) ?_
          have e9 : pX8_items v qm x1 x2 x3 = (1, v, qm) := by rw [pX8_items, if_neg c_6, if_pos c_15, if_pos c_142, if_pos c_219]
          exact m_iret X hr hk V (by rw [e9]) (by rw [e9]) dX8_items_223
      · refine lv_iload_n hx hb dX8_items_145 rfl (lv_at hl 6 rfl) ?_
        refine lv_istore (lv' := [(7, .int x3), (6, .int (x2 &&& 7)), (5, .int 4), (4, .int (x1 + (4 * x2))), (0, .ref (bd 0)), (1, .int x1), (2, .int x2), (3, .int x3)]) hx hb dX8_items_146 hl (by decide) rfl (fun ls hl => ?_)
        refine lv_aload_n hx hb dX8_items_148 rfl (lv_at hl 4 rfl) ?_
        refine m_get X V 6 0 11 rfl gin_6 rfl (by decide) rfl gm_434 (v := .int (v 7)) rfl dX8_items_149 ?_
        refine lv_bipush (v := 79) hx hb dX8_items_152 (by decide) ?_
        refine lv_icmp_ne (tgt := 201) hx hb dX8_items_154 (by decide) (fun c_154 => ?_) (fun c_154 => ?_)
        · refine lv_aload_n hx hb dX8_items_201 rfl (lv_at hl 4 rfl) ?_
          refine lv_iload hx hb dX8_items_202 (lv_at hl 3 rfl) ?_
          refine lv_iload hx hb dX8_items_204 (lv_at hl 2 rfl) ?_
          refine lv_iload hx hb dX8_items_206 (lv_at hl 0 rfl) ?_
          obtain ⟨u208, hu208⟩ : ∃ u, pX8_lays v qm (x1 + (4 * x2)) 4 x3 = u := ⟨_, rfl⟩
          have hM := kX8_lays l D cB cI bd v qm ql qs qk qd qn qe qf qo qt qi qy (x1 + (4 * x2)) 4 x3 (show 0 ≤ Int32.toInt 4 ∧ Int32.toInt 4 ≤ 1024 by have z_0 : Int32.toInt 4 = 4 := rfl; have e_1 : Int32.toInt 4 = 4 := rfl; omega)
          rw [hu208] at hM
          refine m_VA X V (w1 := (wR cB cI bd v u208.2 ql qs qk qd qn qe qf qo qt qi qy)) (rest := []) (st1 := [.int u208.1]) hM okX8_lays gm_569 gm_707 gm_568 ⟨⟨rfl, rfl⟩, ⟨by decide, by decide⟩, Nat.zero_le _, Nat.zero_le _⟩ rfl rfl (wR_fst _ _ _ _ _ _ _ _ _ _ _ _ _ _ _ _) (wR_fst _ _ _ _ _ _ _ _ _ _ _ _ _ _ _ _) rfl hl.1 (Nat.le_of_ble_eq_true rfl) dX8_items_208 rfl rfl (fun H locs V => ?_)
          have e9 : pX8_items v qm x1 x2 x3 = (u208.1, v, u208.2) := by rw [pX8_items, if_neg c_6, if_pos c_15, if_neg c_142, if_neg c_154, hu208, mLet_eq]
          exact m_iret X hr hk V (by rw [e9]) (by rw [e9]) dX8_items_211
        · refine lv_iload hx hb dX8_items_157 (lv_at hl 3 rfl) ?_
          refine lv_iconst (v := 1) hx hb dX8_items_159 (by decide) ?_
          refine m_S X V (rest := []) (st1 := [.int (pX8_isIn (x1 + (4 * x2)) 1)]) (kX8_isIn l D cB cI (x1 + (4 * x2)) 1) okX8_isIn gm_544 gm_543 ⟨⟨rfl, rfl⟩, ⟨by decide, by decide⟩, Nat.zero_le _, Nat.zero_le _⟩ rfl hl.1 (Nat.le_of_ble_eq_true rfl) dX8_items_160 rfl rfl (fun H locs V => ?_)
          refine lv_if_eq (tgt := 201) hx hb dX8_items_163 (by decide) (fun c_163 => ?_) (fun c_163 => ?_)
          · refine lv_aload_n hx hb dX8_items_201 rfl (lv_at hl 4 rfl) ?_
            refine lv_iload hx hb dX8_items_202 (lv_at hl 3 rfl) ?_
            refine lv_iload hx hb dX8_items_204 (lv_at hl 2 rfl) ?_
            refine lv_iload hx hb dX8_items_206 (lv_at hl 0 rfl) ?_
            obtain ⟨u208, hu208⟩ : ∃ u, pX8_lays v qm (x1 + (4 * x2)) 4 x3 = u := ⟨_, rfl⟩
            have hM := kX8_lays l D cB cI bd v qm ql qs qk qd qn qe qf qo qt qi qy (x1 + (4 * x2)) 4 x3 (show 0 ≤ Int32.toInt 4 ∧ Int32.toInt 4 ≤ 1024 by have z_0 : Int32.toInt 4 = 4 := rfl; have e_1 : Int32.toInt 4 = 4 := rfl; omega)
            rw [hu208] at hM
            refine m_VA X V (w1 := (wR cB cI bd v u208.2 ql qs qk qd qn qe qf qo qt qi qy)) (rest := []) (st1 := [.int u208.1]) hM okX8_lays gm_569 gm_707 gm_568 ⟨⟨rfl, rfl⟩, ⟨by decide, by decide⟩, Nat.zero_le _, Nat.zero_le _⟩ rfl rfl (wR_fst _ _ _ _ _ _ _ _ _ _ _ _ _ _ _ _) (wR_fst _ _ _ _ _ _ _ _ _ _ _ _ _ _ _ _) rfl hl.1 (Nat.le_of_ble_eq_true rfl) dX8_items_208 rfl rfl (fun H locs V => ?_)
            have e9 : pX8_items v qm x1 x2 x3 = (u208.1, v, u208.2) := by rw [pX8_items, if_neg c_6, if_pos c_15, if_neg c_142, if_pos c_154, if_pos c_163, hu208, mLet_eq]
            exact m_iret X hr hk V (by rw [e9]) (by rw [e9]) dX8_items_211
          · refine lv_iload_n hx hb dX8_items_166 rfl (lv_at hl 7 rfl) ?_
            refine lv_if_eq (tgt := 185) hx hb dX8_items_167 (by decide) (fun c_167 => ?_) (fun c_167 => ?_)
            · refine lv_aload_n hx hb dX8_items_185 rfl (lv_at hl 4 rfl) ?_
              refine m_get X V 6 0 0 rfl gin_6 rfl (by decide) rfl gm_423 (v := .ref (bd 1)) rfl dX8_items_186 ?_
              refine lv_iload hx hb dX8_items_189 (lv_at hl 3 rfl) ?_
              refine m_iald X V 1 rfl (by have e_1 : Int32.toInt 1 = 1 := rfl; have f_2 := isIn_spec (a := (x1 + (4 * x2))) (n := 1) (by omega) c_163; rw [vp_in_iff]; omega) dX8_items_191 ?_
              refine lv_iconst (v := 1) hx hb dX8_items_192 (by decide) ?_
              refine lv_iload hx hb dX8_items_193 (lv_at hl 1 rfl) ?_
              refine lv_ishl hx hb dX8_items_195 ?_
              refine lv_iconst (v := (-1)) hx hb dX8_items_196 (by decide) ?_
              refine lv_ixor hx hb dX8_items_197 ?_
              refine lv_iand hx hb dX8_items_198 ?_
              refine lv_istore (lv' := [(7, .int ((qm (Int32.toNatClampNeg (x1 + (4 * x2)))) &&& (((1 : Int32) <<< ((x2 &&& 7) &&& 31)) ^^^ (-1)))), (6, .int (x2 &&& 7)), (5, .int 4), (4, .int (x1 + (4 * x2))), (0, .ref (bd 0)), (1, .int x1), (2, .int x2), (3, .int x3)]) hx hb dX8_items_199 hl (by decide) rfl (fun ls hl => ?_)
              refine lv_aload_n hx hb dX8_items_201 rfl (lv_at hl 4 rfl) ?_
              refine lv_iload hx hb dX8_items_202 (lv_at hl 3 rfl) ?_
              refine lv_iload hx hb dX8_items_204 (lv_at hl 2 rfl) ?_
              refine lv_iload hx hb dX8_items_206 (lv_at hl 0 rfl) ?_
              obtain ⟨u208, hu208⟩ : ∃ u, pX8_lays v qm (x1 + (4 * x2)) 4 ((qm (Int32.toNatClampNeg (x1 + (4 * x2)))) &&& (((1 : Int32) <<< ((x2 &&& 7) &&& 31)) ^^^ (-1))) = u := ⟨_, rfl⟩
              have hM := kX8_lays l D cB cI bd v qm ql qs qk qd qn qe qf qo qt qi qy (x1 + (4 * x2)) 4 ((qm (Int32.toNatClampNeg (x1 + (4 * x2)))) &&& (((1 : Int32) <<< ((x2 &&& 7) &&& 31)) ^^^ (-1))) (show 0 ≤ Int32.toInt 4 ∧ Int32.toInt 4 ≤ 1024 by have z_0 : Int32.toInt 4 = 4 := rfl; have e_1 : Int32.toInt 4 = 4 := rfl; omega)
              rw [hu208] at hM
              refine m_VA X V (w1 := (wR cB cI bd v u208.2 ql qs qk qd qn qe qf qo qt qi qy)) (rest := []) (st1 := [.int u208.1]) hM okX8_lays gm_569 gm_707 gm_568 ⟨⟨rfl, rfl⟩, ⟨by decide, by decide⟩, Nat.zero_le _, Nat.zero_le _⟩ rfl rfl (wR_fst _ _ _ _ _ _ _ _ _ _ _ _ _ _ _ _) (wR_fst _ _ _ _ _ _ _ _ _ _ _ _ _ _ _ _) rfl hl.1 (Nat.le_of_ble_eq_true rfl) dX8_items_208 rfl rfl (fun H locs V => ?_)
              have e9 : pX8_items v qm x1 x2 x3 = (u208.1, v, u208.2) := by rw [pX8_items, if_neg c_6, if_pos c_15, if_neg c_142, if_pos c_154, if_neg c_163, if_pos c_167, hu208, mLet_eq]
              exact m_iret X hr hk V (by rw [e9]) (by rw [e9]) dX8_items_211
            · refine lv_aload_n hx hb dX8_items_170 rfl (lv_at hl 4 rfl) ?_
              refine m_get X V 6 0 0 rfl gin_6 rfl (by decide) rfl gm_423 (v := .ref (bd 1)) rfl dX8_items_171 ?_
              refine lv_iload hx hb dX8_items_174 (lv_at hl 3 rfl) ?_
              refine m_iald X V 1 rfl (by have e_1 : Int32.toInt 1 = 1 := rfl; have f_2 := isIn_spec (a := (x1 + (4 * x2))) (n := 1) (by omega) c_163; rw [vp_in_iff]; omega) dX8_items_176 ?_
              refine lv_iconst (v := 1) hx hb dX8_items_177 (by decide) ?_
              refine lv_iload hx hb dX8_items_178 (lv_at hl 1 rfl) ?_
              refine lv_ishl hx hb dX8_items_180 ?_
              refine lv_ior hx hb dX8_items_181 ?_
              refine lv_goto (tgt := 199) hx hb dX8_items_182 (by decide) ?_
              refine lv_istore (lv' := [(7, .int ((qm (Int32.toNatClampNeg (x1 + (4 * x2)))) ||| ((1 : Int32) <<< ((x2 &&& 7) &&& 31)))), (6, .int (x2 &&& 7)), (5, .int 4), (4, .int (x1 + (4 * x2))), (0, .ref (bd 0)), (1, .int x1), (2, .int x2), (3, .int x3)]) hx hb dX8_items_199 hl (by decide) rfl (fun ls hl => ?_)
              refine lv_aload_n hx hb dX8_items_201 rfl (lv_at hl 4 rfl) ?_
              refine lv_iload hx hb dX8_items_202 (lv_at hl 3 rfl) ?_
              refine lv_iload hx hb dX8_items_204 (lv_at hl 2 rfl) ?_
              refine lv_iload hx hb dX8_items_206 (lv_at hl 0 rfl) ?_
              obtain ⟨u208, hu208⟩ : ∃ u, pX8_lays v qm (x1 + (4 * x2)) 4 ((qm (Int32.toNatClampNeg (x1 + (4 * x2)))) ||| ((1 : Int32) <<< ((x2 &&& 7) &&& 31))) = u := ⟨_, rfl⟩
              have hM := kX8_lays l D cB cI bd v qm ql qs qk qd qn qe qf qo qt qi qy (x1 + (4 * x2)) 4 ((qm (Int32.toNatClampNeg (x1 + (4 * x2)))) ||| ((1 : Int32) <<< ((x2 &&& 7) &&& 31))) (show 0 ≤ Int32.toInt 4 ∧ Int32.toInt 4 ≤ 1024 by have z_0 : Int32.toInt 4 = 4 := rfl; have e_1 : Int32.toInt 4 = 4 := rfl; omega)
              rw [hu208] at hM
              refine m_VA X V (w1 := (wR cB cI bd v u208.2 ql qs qk qd qn qe qf qo qt qi qy)) (rest := []) (st1 := [.int u208.1]) hM okX8_lays gm_569 gm_707 gm_568 ⟨⟨rfl, rfl⟩, ⟨by decide, by decide⟩, Nat.zero_le _, Nat.zero_le _⟩ rfl rfl (wR_fst _ _ _ _ _ _ _ _ _ _ _ _ _ _ _ _) (wR_fst _ _ _ _ _ _ _ _ _ _ _ _ _ _ _ _) rfl hl.1 (Nat.le_of_ble_eq_true rfl) dX8_items_208 rfl rfl (fun H locs V => ?_)
              have e9 : pX8_items v qm x1 x2 x3 = (u208.1, v, u208.2) := by rw [pX8_items, if_neg c_6, if_pos c_15, if_neg c_142, if_pos c_154, if_neg c_163, if_neg c_167, hu208, mLet_eq]
              exact m_iret X hr hk V (by rw [e9]) (by rw [e9]) dX8_items_211
def pX8_clears_lp40 (x1 : Int32) (x2 : Int32) : Nat → (Nat → Int32) → (Int32) → Int32 × (Nat → Int32)
  | 0, qm, k3 => (0, qm)
  | n_ + 1, qm, k3 => (if x1 ≤ k3 then (0, qm) else (pX8_clears_lp40 x1 x2 n_ (upd qm (Int32.toNatClampNeg (x2 + k3)) 0) (k3 + 1)))
def pX8_clears (v : Nat → Int32) (qm : Nat → Int32) (x1 : Int32) (x2 : Int32) : Int32 × (Nat → Int32) := (if x1 = 0 then (0, qm) else (if x1 < 0 then (1, qm) else (if 1024 < x1 then (1, qm) else (if (pX8_isIn x2 x1) = 0 then (1, qm) else (if (v 2) ≤ x2 then (pX8_clears_lp40 x1 x2 ((Int32.toInt x1 - Int32.toInt 0).toNat + 1) qm 0) else (8, qm))))))
theorem okX8_clears : mOk yX8_clears cX8_clears 4 (some .int) 2 := ⟨gm_602, gm_8, by decide +kernel⟩
set_option maxRecDepth 100000 in
set_option maxHeartbeats 4000000 in
theorem lpX8_clears_40 {p : Program} {e : Env} {s : State} {m : MethodId} {args : Array Value} {below : List Frame} {meth : Method} {c : Code} {A : Nat → Prop} {l : Launch} {D : va_G} {cB cI : ClassId} {bd : Nat → Nat} {v : Nat → Int32} {ql : Nat → Int32} {qs : Nat → Int32} {qk : Nat → Int32} {qd : Nat → Int32} {qn : Nat → Int32} {qe : Nat → Int32} {qf : Nat → Int32} {qo : Nat → Int32} {qt : Nat → Int32} {qi : Nat → Int32} {qy : Nat → Int32} {x1 : Int32} {x2 : Int32} (X : mCx p s m args c cX8_clears 4 RX8 D cB cI) (hr : meth.sig.returnType = (some .int)) (hk : meth.locks = false) : ∀ (n_ : Nat) (qm : Nat → Int32) (k3 : Int32) (H : Heap) (locs : List Loc) (ls : Array Slot), (0 ≤ Int32.toInt k3) → (0 ≤ Int32.toInt x2 ∧ Int32.toInt x2 + Int32.toInt x1 ≤ 1024) → (Int32.toInt x1 - Int32.toInt k3).toNat < n_ → mWd D A s (wR cB cI bd v qm ql qs qk qd qn qe qf qo qt qi qy) H locs → lv_has ls 4 [(0, .ref (bd 0)), (1, .int x1), (2, .int x2), (3, .int k3)] → W p l e { frames := 1, cells := 0, slots := 0, locals := 21 } s m args below meth c H locs 0 0 (MQ below (mQ D A (wR cB cI bd v ((pX8_clears_lp40 x1 x2 n_ qm k3).2) ql qs qk qd qn qe qf qo qt qi qy) (some ((pX8_clears_lp40 x1 x2 n_ qm k3).1))) args s 0 0 A) (F0 m 40 ls []) := by
  have hx := X.1.1
  have hb := X.1.2.1
  intro n_
  induction n_ with
  | zero =>
    intro qm k3 H locs ls hk3 hi hm V hl
    exact absurd hm (Nat.not_lt_zero _)
  | succ n_ ih =>
    intro qm k3 H locs ls hk3 hi hm V hl
    refine lv_iload_n hx hb dX8_clears_40 rfl (lv_at hl 3 rfl) ?_
    refine lv_iload_n hx hb dX8_clears_41 rfl (lv_at hl 1 rfl) ?_
    refine lv_icmp_ge (tgt := 60) hx hb dX8_clears_42 (by decide) (fun c_42 => ?_) (fun c_42 => ?_)
    · refine lv_iconst (v := 0) hx hb dX8_clears_60 (by decide) ?_
      have e9 : pX8_clears_lp40 x1 x2 (n_ + 1) qm k3 = (0, qm) := by rw [pX8_clears_lp40, if_pos c_42]
      exact m_iret X hr hk V (by rw [e9]) (by rw [e9]) dX8_clears_61
    · refine lv_aload_n hx hb dX8_clears_45 rfl (lv_at hl 0 rfl) ?_
      refine m_get X V 6 0 0 rfl gin_6 rfl (by decide) rfl gm_423 (v := .ref (bd 1)) rfl dX8_clears_46 ?_
      refine lv_iload_n hx hb dX8_clears_49 rfl (lv_at hl 2 rfl) ?_
      refine lv_iload_n hx hb dX8_clears_50 rfl (lv_at hl 3 rfl) ?_
      refine lv_iadd hx hb dX8_clears_51 ?_
      refine lv_iconst (v := 0) hx hb dX8_clears_52 (by decide) ?_
      refine m_iast X V (ws' := (wR cB cI bd v (upd qm (Int32.toNatClampNeg (x2 + k3)) 0) ql qs qk qd qn qe qf qo qt qi qy)) 1 rfl (by have f_3 : ¬ Int32.toInt x1 ≤ Int32.toInt k3 := fun q => c_42 (Int32.le_iff_toInt_le.mpr q); have e_5 : Int32.toInt (x2 + k3) = Int32.toInt x2 + Int32.toInt k3 := ti_add (by omega) (by omega); rw [vp_in_iff]; omega) dX8_clears_53 rfl (fun H locs V => ?_)
      refine lv_iinc (v := (k3 + 1)) (lv' := [(3, .int (k3 + 1)), (0, .ref (bd 0)), (1, .int x1), (2, .int x2)]) hx hb dX8_clears_54 hl (k := 3) rfl rfl (by decide) rfl (fun ls hl => ?_)
      refine lv_goto (tgt := 40) hx hb dX8_clears_57 (by decide) ?_
      rw [show pX8_clears_lp40 x1 x2 (n_ + 1) qm k3 = pX8_clears_lp40 x1 x2 n_ (upd qm (Int32.toNatClampNeg (x2 + k3)) 0) (k3 + 1) from by rw [pX8_clears_lp40, if_neg c_42]]
      exact ih (upd qm (Int32.toNatClampNeg (x2 + k3)) 0) (k3 + 1) _ _ _ (show 0 ≤ Int32.toInt (k3 + 1) by have f_3 : ¬ Int32.toInt x1 ≤ Int32.toInt k3 := fun q => c_42 (Int32.le_iff_toInt_le.mpr q); have e_4 : Int32.toInt 1 = 1 := rfl; have e_5 : Int32.toInt (k3 + 1) = Int32.toInt k3 + Int32.toInt 1 := ti_add (by omega) (by omega); omega) (show 0 ≤ Int32.toInt x2 ∧ Int32.toInt x2 + Int32.toInt x1 ≤ 1024 by have f_3 : ¬ Int32.toInt x1 ≤ Int32.toInt k3 := fun q => c_42 (Int32.le_iff_toInt_le.mpr q); have e_4 : Int32.toInt 1 = 1 := rfl; have e_5 : Int32.toInt (k3 + 1) = Int32.toInt k3 + Int32.toInt 1 := ti_add (by omega) (by omega); omega) (ms_up c_42 hm) V (lv_sub hl [1, 2, 3, 0] rfl)
set_option maxRecDepth 100000 in
set_option maxHeartbeats 4000000 in
theorem kX8_clears (l : Launch) (D : va_G) (cB cI : ClassId) (bd : Nat → Nat) (v : Nat → Int32) (qm : Nat → Int32) (ql : Nat → Int32) (qs : Nat → Int32) (qk : Nat → Int32) (qd : Nat → Int32) (qn : Nat → Int32) (qe : Nat → Int32) (qf : Nat → Int32) (qo : Nat → Int32) (qt : Nat → Int32) (qi : Nat → Int32) (qy : Nat → Int32) (x1 : Int32) (x2 : Int32) : mM l D cB cI yX8_clears cX8_clears 4 (some .int) { frames := 1, cells := 0, slots := 0, locals := 21 } [.ref (bd 0), .int x1, .int x2] (wR cB cI bd v qm ql qs qk qd qn qe qf qo qt qi qy) (some ((pX8_clears v qm x1 x2).1)) (wR cB cI bd v ((pX8_clears v qm x1 x2).2) ql qs qk qd qn qe qf qo qt qi qy) := by
  refine m_start (by decide +kernel) (Nat.le_of_ble_eq_true rfl) ?_
  intro p e s m below meth c A ls X hr hk V hl
  have X : mCx p s m _ c cX8_clears 4 RX8 D cB cI := X
  have hx := X.1.1
  have hb := X.1.2.1
  have hl : lv_has ls 4 [(0, .ref (bd 0)), (1, .int x1), (2, .int x2)] := hl
  refine lv_iload_n hx hb dX8_clears_0 rfl (lv_at hl 1 rfl) ?_
  refine lv_if_ne (tgt := 6) hx hb dX8_clears_1 (by decide) (fun c_1 => ?_) (fun c_1 => ?_)
  · refine lv_iload_n hx hb dX8_clears_6 rfl (lv_at hl 1 rfl) ?_
    refine lv_if_lt (tgt := 25) hx hb dX8_clears_7 (by decide) (fun c_7 => ?_) (fun c_7 => ?_)
    · refine lv_iconst (v := 1) hx hb dX8_clears_25 (by decide) ?_
      have e9 : pX8_clears v qm x1 x2 = (1, qm) := by rw [pX8_clears, if_neg c_1, if_pos c_7]
      exact m_iret X hr hk V (by rw [e9]) (by rw [e9]) dX8_clears_26
    · refine lv_iload_n hx hb dX8_clears_10 rfl (lv_at hl 1 rfl) ?_
      refine lv_sipush (v := 1024) hx hb dX8_clears_11 (by decide) ?_
      refine lv_icmp_gt (tgt := 25) hx hb dX8_clears_14 (by decide) (fun c_14 => ?_) (fun c_14 => ?_)
      · refine lv_iconst (v := 1) hx hb dX8_clears_25 (by decide) ?_
        have e9 : pX8_clears v qm x1 x2 = (1, qm) := by rw [pX8_clears, if_neg c_1, if_neg c_7, if_pos c_14]
        exact m_iret X hr hk V (by rw [e9]) (by rw [e9]) dX8_clears_26
      · refine lv_iload_n hx hb dX8_clears_17 rfl (lv_at hl 2 rfl) ?_
        refine lv_iload_n hx hb dX8_clears_18 rfl (lv_at hl 1 rfl) ?_
        refine m_S X V (rest := []) (st1 := [.int (pX8_isIn x2 x1)]) (kX8_isIn l D cB cI x2 x1) okX8_isIn gm_544 gm_543 ⟨⟨rfl, rfl⟩, ⟨by decide, by decide⟩, Nat.zero_le _, Nat.zero_le _⟩ rfl hl.1 (Nat.le_of_ble_eq_true rfl) dX8_clears_19 rfl rfl (fun H locs V => ?_)
        refine lv_if_ne (tgt := 27) hx hb dX8_clears_22 (by decide) (fun c_22 => ?_) (fun c_22 => ?_)
        · refine lv_iload_n hx hb dX8_clears_27 rfl (lv_at hl 2 rfl) ?_
          refine lv_aload_n hx hb dX8_clears_28 rfl (lv_at hl 0 rfl) ?_
          refine m_get X V 6 0 6 rfl gin_6 rfl (by decide) rfl gm_429 (v := .int (v 2)) rfl dX8_clears_29 ?_
          refine lv_icmp_ge (tgt := 38) hx hb dX8_clears_32 (by decide) (fun c_32 => ?_) (fun c_32 => ?_)
          · refine lv_iconst (v := 0) hx hb dX8_clears_38 (by decide) ?_
            refine lv_istore_n (lv' := [(3, .int 0), (0, .ref (bd 0)), (1, .int x1), (2, .int x2)]) hx hb dX8_clears_39 rfl hl (by decide) rfl (fun ls hl => ?_)
            rw [show pX8_clears v qm x1 x2 = (pX8_clears_lp40 x1 x2 ((Int32.toInt x1 - Int32.toInt 0).toNat + 1) qm 0) from by rw [pX8_clears, if_neg c_1, if_neg c_7, if_neg c_14, if_neg c_22, if_pos c_32]]
            exact lpX8_clears_40 X hr hk  ((Int32.toInt x1 - Int32.toInt 0).toNat + 1) qm 0 _ _ _ (show 0 ≤ Int32.toInt 0 by have z_0 : Int32.toInt 0 = 0 := rfl; omega) (show 0 ≤ Int32.toInt x2 ∧ Int32.toInt x2 + Int32.toInt x1 ≤ 1024 by have e_2 : Int32.toInt 0 = 0 := rfl; have f_3 : ¬ Int32.toInt x1 = Int32.toInt 0 := fun q => c_1 (Int32.toInt_inj.mp q); have f_4 : ¬ Int32.toInt x1 < Int32.toInt 0 := fun q => c_7 (Int32.lt_iff_toInt_lt.mpr q); have e_5 : Int32.toInt 1024 = 1024 := rfl; have f_6 : ¬ Int32.toInt 1024 < Int32.toInt x1 := fun q => c_14 (Int32.lt_iff_toInt_lt.mpr q); have f_7 := isIn_spec (a := x2) (n := x1) (by omega) c_22; have f_9 : Int32.toInt (v 2) ≤ Int32.toInt x2 := Int32.le_iff_toInt_le.mp c_32; omega) (Nat.lt_succ_self _) V (lv_sub hl [1, 2, 3, 0] rfl)
          · refine lv_bipush (v := 8) hx hb dX8_clears_35 (by decide) ?_
            have e9 : pX8_clears v qm x1 x2 = (8, qm) := by rw [pX8_clears, if_neg c_1, if_neg c_7, if_neg c_14, if_neg c_22, if_neg c_32]
            exact m_iret X hr hk V (by rw [e9]) (by rw [e9]) dX8_clears_37
        · refine lv_iconst (v := 1) hx hb dX8_clears_25 (by decide) ?_
          have e9 : pX8_clears v qm x1 x2 = (1, qm) := by rw [pX8_clears, if_neg c_1, if_neg c_7, if_neg c_14, if_pos c_22]
          exact m_iret X hr hk V (by rw [e9]) (by rw [e9]) dX8_clears_26
  · refine lv_iconst (v := 0) hx hb dX8_clears_4 (by decide) ?_
    have e9 : pX8_clears v qm x1 x2 = (0, qm) := by rw [pX8_clears, if_pos c_1]
    exact m_iret X hr hk V (by rw [e9]) (by rw [e9]) dX8_clears_5
def pX8_copies_lp80 (x1 : Int32) (x3 : Int32) : Nat → (Nat → Int32) → (Nat → Int32) → (Int32) → Int32 × (Nat → Int32) × (Nat → Int32)
  | 0, qm, qi, k4 => (0, qm, qi)
  | n_ + 1, qm, qi, k4 => (if x1 ≤ k4 then (0, qm, qi) else (pX8_copies_lp80 x1 x3 n_ (upd qm (Int32.toNatClampNeg (x3 + k4)) (qi (Int32.toNatClampNeg k4))) qi (k4 + 1)))
def pX8_copies_lp49 (x1 : Int32) (x2 : Int32) (x3 : Int32) : Nat → (Nat → Int32) → (Nat → Int32) → (Int32) → Int32 × (Nat → Int32) × (Nat → Int32)
  | 0, qm, qi, k4 => (0, qm, qi)
  | n_ + 1, qm, qi, k4 => (if x1 ≤ k4 then (pX8_copies_lp80 x1 x3 ((Int32.toInt x1 - Int32.toInt 0).toNat + 1) qm qi 0) else (pX8_copies_lp49 x1 x2 x3 n_ qm (upd qi (Int32.toNatClampNeg k4) (qm (Int32.toNatClampNeg (x2 + k4)))) (k4 + 1)))
def pX8_copies (v : Nat → Int32) (qm : Nat → Int32) (qi : Nat → Int32) (x1 : Int32) (x2 : Int32) (x3 : Int32) : Int32 × (Nat → Int32) × (Nat → Int32) := (if x1 = 0 then (0, qm, qi) else (if x1 < 0 then (1, qm, qi) else (if 1024 < x1 then (1, qm, qi) else (if (pX8_isIn x2 x1) = 0 then (1, qm, qi) else (if (pX8_isIn x3 x1) = 0 then (1, qm, qi) else (if (v 2) ≤ x3 then (pX8_copies_lp49 x1 x2 x3 ((Int32.toInt x1 - Int32.toInt 0).toNat + 1) qm qi 0) else (8, qm, qi)))))))
theorem okX8_copies : mOk yX8_copies cX8_copies 5 (some .int) 3 := ⟨gm_605, gm_8, by decide +kernel⟩
set_option maxRecDepth 100000 in
set_option maxHeartbeats 4000000 in
theorem lpX8_copies_80 {p : Program} {e : Env} {s : State} {m : MethodId} {args : Array Value} {below : List Frame} {meth : Method} {c : Code} {A : Nat → Prop} {l : Launch} {D : va_G} {cB cI : ClassId} {bd : Nat → Nat} {v : Nat → Int32} {ql : Nat → Int32} {qs : Nat → Int32} {qk : Nat → Int32} {qd : Nat → Int32} {qn : Nat → Int32} {qe : Nat → Int32} {qf : Nat → Int32} {qo : Nat → Int32} {qt : Nat → Int32} {qy : Nat → Int32} {x1 : Int32} {x3 : Int32} (X : mCx p s m args c cX8_copies 5 RX8 D cB cI) (hr : meth.sig.returnType = (some .int)) (hk : meth.locks = false) : ∀ (n_ : Nat) (qm : Nat → Int32) (qi : Nat → Int32) (k4 : Int32) (H : Heap) (locs : List Loc) (ls : Array Slot), (0 ≤ Int32.toInt k4) → (0 ≤ Int32.toInt x3 ∧ Int32.toInt x3 + Int32.toInt x1 ≤ 1024) → (Int32.toInt x1 ≤ 1024) → (Int32.toInt x1 - Int32.toInt k4).toNat < n_ → mWd D A s (wR cB cI bd v qm ql qs qk qd qn qe qf qo qt qi qy) H locs → lv_has ls 5 [(0, .ref (bd 0)), (1, .int x1), (3, .int x3), (4, .int k4)] → W p l e { frames := 1, cells := 0, slots := 0, locals := 21 } s m args below meth c H locs 0 0 (MQ below (mQ D A (wR cB cI bd v ((pX8_copies_lp80 x1 x3 n_ qm qi k4).2.1) ql qs qk qd qn qe qf qo qt ((pX8_copies_lp80 x1 x3 n_ qm qi k4).2.2) qy) (some ((pX8_copies_lp80 x1 x3 n_ qm qi k4).1))) args s 0 0 A) (F0 m 80 ls []) := by
  have hx := X.1.1
  have hb := X.1.2.1
  intro n_
  induction n_ with
  | zero =>
    intro qm qi k4 H locs ls hk4 hj hz hm V hl
    exact absurd hm (Nat.not_lt_zero _)
  | succ n_ ih =>
    intro qm qi k4 H locs ls hk4 hj hz hm V hl
    refine lv_iload hx hb dX8_copies_80 (lv_at hl 3 rfl) ?_
    refine lv_iload_n hx hb dX8_copies_82 rfl (lv_at hl 1 rfl) ?_
    refine lv_icmp_ge (tgt := 108) hx hb dX8_copies_83 (by decide) (fun c_83 => ?_) (fun c_83 => ?_)
    · refine lv_iconst (v := 0) hx hb dX8_copies_108 (by decide) ?_
      have e9 : pX8_copies_lp80 x1 x3 (n_ + 1) qm qi k4 = (0, qm, qi) := by rw [pX8_copies_lp80, if_pos c_83]
      exact m_iret X hr hk V (by rw [e9]) (by rw [e9]) dX8_copies_109
    · refine lv_aload_n hx hb dX8_copies_86 rfl (lv_at hl 0 rfl) ?_
      refine m_get X V 6 0 0 rfl gin_6 rfl (by decide) rfl gm_423 (v := .ref (bd 1)) rfl dX8_copies_87 ?_
      refine lv_iload_n hx hb dX8_copies_90 rfl (lv_at hl 2 rfl) ?_
      refine lv_iload hx hb dX8_copies_91 (lv_at hl 3 rfl) ?_
      refine lv_iadd hx hb dX8_copies_93 ?_
      refine lv_aload_n hx hb dX8_copies_94 rfl (lv_at hl 0 rfl) ?_
      refine m_get X V 6 0 26 rfl gin_6 rfl (by decide) rfl gm_449 (v := .ref (bd 11)) rfl dX8_copies_95 ?_
      refine lv_iload hx hb dX8_copies_98 (lv_at hl 3 rfl) ?_
      refine m_iald X V 11 rfl (by have f_3 : ¬ Int32.toInt x1 ≤ Int32.toInt k4 := fun q => c_83 (Int32.le_iff_toInt_le.mpr q); rw [vp_in_iff]; omega) dX8_copies_100 ?_
      refine m_iast X V (ws' := (wR cB cI bd v (upd qm (Int32.toNatClampNeg (x3 + k4)) (qi (Int32.toNatClampNeg k4))) ql qs qk qd qn qe qf qo qt qi qy)) 1 rfl (by have f_3 : ¬ Int32.toInt x1 ≤ Int32.toInt k4 := fun q => c_83 (Int32.le_iff_toInt_le.mpr q); have e_5 : Int32.toInt (x3 + k4) = Int32.toInt x3 + Int32.toInt k4 := ti_add (by omega) (by omega); rw [vp_in_iff]; omega) dX8_copies_101 rfl (fun H locs V => ?_)
      refine lv_iinc (v := (k4 + 1)) (lv' := [(4, .int (k4 + 1)), (0, .ref (bd 0)), (1, .int x1), (3, .int x3)]) hx hb dX8_copies_102 hl (k := 3) rfl rfl (by decide) rfl (fun ls hl => ?_)
      refine lv_goto (tgt := 80) hx hb dX8_copies_105 (by decide) ?_
      rw [show pX8_copies_lp80 x1 x3 (n_ + 1) qm qi k4 = pX8_copies_lp80 x1 x3 n_ (upd qm (Int32.toNatClampNeg (x3 + k4)) (qi (Int32.toNatClampNeg k4))) qi (k4 + 1) from by rw [pX8_copies_lp80, if_neg c_83]]
      exact ih (upd qm (Int32.toNatClampNeg (x3 + k4)) (qi (Int32.toNatClampNeg k4))) qi (k4 + 1) _ _ _ (show 0 ≤ Int32.toInt (k4 + 1) by have f_3 : ¬ Int32.toInt x1 ≤ Int32.toInt k4 := fun q => c_83 (Int32.le_iff_toInt_le.mpr q); have e_4 : Int32.toInt 1 = 1 := rfl; have e_5 : Int32.toInt (k4 + 1) = Int32.toInt k4 + Int32.toInt 1 := ti_add (by omega) (by omega); omega) (show 0 ≤ Int32.toInt x3 ∧ Int32.toInt x3 + Int32.toInt x1 ≤ 1024 by have f_3 : ¬ Int32.toInt x1 ≤ Int32.toInt k4 := fun q => c_83 (Int32.le_iff_toInt_le.mpr q); have e_4 : Int32.toInt 1 = 1 := rfl; have e_5 : Int32.toInt (k4 + 1) = Int32.toInt k4 + Int32.toInt 1 := ti_add (by omega) (by omega); omega) (show Int32.toInt x1 ≤ 1024 by have f_3 : ¬ Int32.toInt x1 ≤ Int32.toInt k4 := fun q => c_83 (Int32.le_iff_toInt_le.mpr q); have e_4 : Int32.toInt 1 = 1 := rfl; have e_5 : Int32.toInt (k4 + 1) = Int32.toInt k4 + Int32.toInt 1 := ti_add (by omega) (by omega); omega) (ms_up c_83 hm) V (lv_sub hl [1, 2, 3, 0] rfl)
set_option maxRecDepth 100000 in
set_option maxHeartbeats 4000000 in
theorem lpX8_copies_49 {p : Program} {e : Env} {s : State} {m : MethodId} {args : Array Value} {below : List Frame} {meth : Method} {c : Code} {A : Nat → Prop} {l : Launch} {D : va_G} {cB cI : ClassId} {bd : Nat → Nat} {v : Nat → Int32} {ql : Nat → Int32} {qs : Nat → Int32} {qk : Nat → Int32} {qd : Nat → Int32} {qn : Nat → Int32} {qe : Nat → Int32} {qf : Nat → Int32} {qo : Nat → Int32} {qt : Nat → Int32} {qy : Nat → Int32} {x1 : Int32} {x2 : Int32} {x3 : Int32} (X : mCx p s m args c cX8_copies 5 RX8 D cB cI) (hr : meth.sig.returnType = (some .int)) (hk : meth.locks = false) : ∀ (n_ : Nat) (qm : Nat → Int32) (qi : Nat → Int32) (k4 : Int32) (H : Heap) (locs : List Loc) (ls : Array Slot), (0 ≤ Int32.toInt k4) → (0 ≤ Int32.toInt x2 ∧ Int32.toInt x2 + Int32.toInt x1 ≤ 1024) → (0 ≤ Int32.toInt x3 ∧ Int32.toInt x3 + Int32.toInt x1 ≤ 1024) → (Int32.toInt x1 ≤ 1024) → (Int32.toInt x1 - Int32.toInt k4).toNat < n_ → mWd D A s (wR cB cI bd v qm ql qs qk qd qn qe qf qo qt qi qy) H locs → lv_has ls 5 [(0, .ref (bd 0)), (1, .int x1), (2, .int x2), (3, .int x3), (4, .int k4)] → W p l e { frames := 1, cells := 0, slots := 0, locals := 21 } s m args below meth c H locs 0 0 (MQ below (mQ D A (wR cB cI bd v ((pX8_copies_lp49 x1 x2 x3 n_ qm qi k4).2.1) ql qs qk qd qn qe qf qo qt ((pX8_copies_lp49 x1 x2 x3 n_ qm qi k4).2.2) qy) (some ((pX8_copies_lp49 x1 x2 x3 n_ qm qi k4).1))) args s 0 0 A) (F0 m 49 ls []) := by
  have hx := X.1.1
  have hb := X.1.2.1
  intro n_
  induction n_ with
  | zero =>
    intro qm qi k4 H locs ls hk4 hi hj hz hm V hl
    exact absurd hm (Nat.not_lt_zero _)
  | succ n_ ih =>
    intro qm qi k4 H locs ls hk4 hi hj hz hm V hl
    refine lv_iload hx hb dX8_copies_49 (lv_at hl 4 rfl) ?_
    refine lv_iload_n hx hb dX8_copies_51 rfl (lv_at hl 1 rfl) ?_
    refine lv_icmp_ge (tgt := 77) hx hb dX8_copies_52 (by decide) (fun c_52 => ?_) (fun c_52 => ?_)
    · refine lv_iconst (v := 0) hx hb dX8_copies_77 (by decide) ?_
      refine lv_istore (lv' := [(4, .int 0), (0, .ref (bd 0)), (1, .int x1), (2, .int x2), (3, .int x3)]) hx hb dX8_copies_78 hl (by decide) rfl (fun ls hl => ?_)
      rw [show pX8_copies_lp49 x1 x2 x3 (n_ + 1) qm qi k4 = (pX8_copies_lp80 x1 x3 ((Int32.toInt x1 - Int32.toInt 0).toNat + 1) qm qi 0) from by rw [pX8_copies_lp49, if_pos c_52]]
      exact lpX8_copies_80 X hr hk  ((Int32.toInt x1 - Int32.toInt 0).toNat + 1) qm qi 0 _ _ _ (show 0 ≤ Int32.toInt 0 by have z_0 : Int32.toInt 0 = 0 := rfl; omega) (show 0 ≤ Int32.toInt x3 ∧ Int32.toInt x3 + Int32.toInt x1 ≤ 1024 by have f_3 : Int32.toInt x1 ≤ Int32.toInt k4 := Int32.le_iff_toInt_le.mp c_52; omega) (show Int32.toInt x1 ≤ 1024 by have f_3 : Int32.toInt x1 ≤ Int32.toInt k4 := Int32.le_iff_toInt_le.mp c_52; omega) (Nat.lt_succ_self _) V (lv_sub hl [1, 2, 4, 0] rfl)
    · refine lv_aload_n hx hb dX8_copies_55 rfl (lv_at hl 0 rfl) ?_
      refine m_get X V 6 0 26 rfl gin_6 rfl (by decide) rfl gm_449 (v := .ref (bd 11)) rfl dX8_copies_56 ?_
      refine lv_iload hx hb dX8_copies_59 (lv_at hl 4 rfl) ?_
      refine lv_aload_n hx hb dX8_copies_61 rfl (lv_at hl 0 rfl) ?_
      refine m_get X V 6 0 0 rfl gin_6 rfl (by decide) rfl gm_423 (v := .ref (bd 1)) rfl dX8_copies_62 ?_
      refine lv_iload_n hx hb dX8_copies_65 rfl (lv_at hl 2 rfl) ?_
      refine lv_iload hx hb dX8_copies_66 (lv_at hl 4 rfl) ?_
      refine lv_iadd hx hb dX8_copies_68 ?_
      refine m_iald X V 1 rfl (by have f_3 : ¬ Int32.toInt x1 ≤ Int32.toInt k4 := fun q => c_52 (Int32.le_iff_toInt_le.mpr q); have e_5 : Int32.toInt (x2 + k4) = Int32.toInt x2 + Int32.toInt k4 := ti_add (by omega) (by omega); rw [vp_in_iff]; omega) dX8_copies_69 ?_
      refine m_iast X V (ws' := (wR cB cI bd v qm ql qs qk qd qn qe qf qo qt (upd qi (Int32.toNatClampNeg k4) (qm (Int32.toNatClampNeg (x2 + k4)))) qy)) 11 rfl (by have f_3 : ¬ Int32.toInt x1 ≤ Int32.toInt k4 := fun q => c_52 (Int32.le_iff_toInt_le.mpr q); rw [vp_in_iff]; omega) dX8_copies_70 rfl (fun H locs V => ?_)
      refine lv_iinc (v := (k4 + 1)) (lv' := [(4, .int (k4 + 1)), (0, .ref (bd 0)), (1, .int x1), (2, .int x2), (3, .int x3)]) hx hb dX8_copies_71 hl (k := 4) rfl rfl (by decide) rfl (fun ls hl => ?_)
      refine lv_goto (tgt := 49) hx hb dX8_copies_74 (by decide) ?_
      rw [show pX8_copies_lp49 x1 x2 x3 (n_ + 1) qm qi k4 = pX8_copies_lp49 x1 x2 x3 n_ qm (upd qi (Int32.toNatClampNeg k4) (qm (Int32.toNatClampNeg (x2 + k4)))) (k4 + 1) from by rw [pX8_copies_lp49, if_neg c_52]]
      exact ih qm (upd qi (Int32.toNatClampNeg k4) (qm (Int32.toNatClampNeg (x2 + k4)))) (k4 + 1) _ _ _ (show 0 ≤ Int32.toInt (k4 + 1) by have f_3 : ¬ Int32.toInt x1 ≤ Int32.toInt k4 := fun q => c_52 (Int32.le_iff_toInt_le.mpr q); have e_4 : Int32.toInt 1 = 1 := rfl; have e_5 : Int32.toInt (k4 + 1) = Int32.toInt k4 + Int32.toInt 1 := ti_add (by omega) (by omega); omega) (show 0 ≤ Int32.toInt x2 ∧ Int32.toInt x2 + Int32.toInt x1 ≤ 1024 by have f_3 : ¬ Int32.toInt x1 ≤ Int32.toInt k4 := fun q => c_52 (Int32.le_iff_toInt_le.mpr q); have e_4 : Int32.toInt 1 = 1 := rfl; have e_5 : Int32.toInt (k4 + 1) = Int32.toInt k4 + Int32.toInt 1 := ti_add (by omega) (by omega); omega) (show 0 ≤ Int32.toInt x3 ∧ Int32.toInt x3 + Int32.toInt x1 ≤ 1024 by have f_3 : ¬ Int32.toInt x1 ≤ Int32.toInt k4 := fun q => c_52 (Int32.le_iff_toInt_le.mpr q); have e_4 : Int32.toInt 1 = 1 := rfl; have e_5 : Int32.toInt (k4 + 1) = Int32.toInt k4 + Int32.toInt 1 := ti_add (by omega) (by omega); omega) (show Int32.toInt x1 ≤ 1024 by have f_3 : ¬ Int32.toInt x1 ≤ Int32.toInt k4 := fun q => c_52 (Int32.le_iff_toInt_le.mpr q); have e_4 : Int32.toInt 1 = 1 := rfl; have e_5 : Int32.toInt (k4 + 1) = Int32.toInt k4 + Int32.toInt 1 := ti_add (by omega) (by omega); omega) (ms_up c_52 hm) V (lv_sub hl [1, 2, 3, 4, 0] rfl)
set_option maxRecDepth 100000 in
set_option maxHeartbeats 4000000 in
theorem kX8_copies (l : Launch) (D : va_G) (cB cI : ClassId) (bd : Nat → Nat) (v : Nat → Int32) (qm : Nat → Int32) (ql : Nat → Int32) (qs : Nat → Int32) (qk : Nat → Int32) (qd : Nat → Int32) (qn : Nat → Int32) (qe : Nat → Int32) (qf : Nat → Int32) (qo : Nat → Int32) (qt : Nat → Int32) (qi : Nat → Int32) (qy : Nat → Int32) (x1 : Int32) (x2 : Int32) (x3 : Int32) : mM l D cB cI yX8_copies cX8_copies 5 (some .int) { frames := 1, cells := 0, slots := 0, locals := 21 } [.ref (bd 0), .int x1, .int x2, .int x3] (wR cB cI bd v qm ql qs qk qd qn qe qf qo qt qi qy) (some ((pX8_copies v qm qi x1 x2 x3).1)) (wR cB cI bd v ((pX8_copies v qm qi x1 x2 x3).2.1) ql qs qk qd qn qe qf qo qt ((pX8_copies v qm qi x1 x2 x3).2.2) qy) := by
  refine m_start (by decide +kernel) (Nat.le_of_ble_eq_true rfl) ?_
  intro p e s m below meth c A ls X hr hk V hl
  have X : mCx p s m _ c cX8_copies 5 RX8 D cB cI := X
  have hx := X.1.1
  have hb := X.1.2.1
  have hl : lv_has ls 5 [(0, .ref (bd 0)), (1, .int x1), (2, .int x2), (3, .int x3)] := hl
  refine lv_iload_n hx hb dX8_copies_0 rfl (lv_at hl 1 rfl) ?_
  refine lv_if_ne (tgt := 6) hx hb dX8_copies_1 (by decide) (fun c_1 => ?_) (fun c_1 => ?_)
  · refine lv_iload_n hx hb dX8_copies_6 rfl (lv_at hl 1 rfl) ?_
    refine lv_if_lt (tgt := 33) hx hb dX8_copies_7 (by decide) (fun c_7 => ?_) (fun c_7 => ?_)
    · refine lv_iconst (v := 1) hx hb dX8_copies_33 (by decide) ?_
      have e9 : pX8_copies v qm qi x1 x2 x3 = (1, qm, qi) := by rw [pX8_copies, if_neg c_1, if_pos c_7]
      exact m_iret X hr hk V (by rw [e9]) (by rw [e9]) dX8_copies_34
    · refine lv_iload_n hx hb dX8_copies_10 rfl (lv_at hl 1 rfl) ?_
      refine lv_sipush (v := 1024) hx hb dX8_copies_11 (by decide) ?_
      refine lv_icmp_gt (tgt := 33) hx hb dX8_copies_14 (by decide) (fun c_14 => ?_) (fun c_14 => ?_)
      · refine lv_iconst (v := 1) hx hb dX8_copies_33 (by decide) ?_
        have e9 : pX8_copies v qm qi x1 x2 x3 = (1, qm, qi) := by rw [pX8_copies, if_neg c_1, if_neg c_7, if_pos c_14]
        exact m_iret X hr hk V (by rw [e9]) (by rw [e9]) dX8_copies_34
      · refine lv_iload_n hx hb dX8_copies_17 rfl (lv_at hl 2 rfl) ?_
        refine lv_iload_n hx hb dX8_copies_18 rfl (lv_at hl 1 rfl) ?_
        refine m_S X V (rest := []) (st1 := [.int (pX8_isIn x2 x1)]) (kX8_isIn l D cB cI x2 x1) okX8_isIn gm_544 gm_543 ⟨⟨rfl, rfl⟩, ⟨by decide, by decide⟩, Nat.zero_le _, Nat.zero_le _⟩ rfl hl.1 (Nat.le_of_ble_eq_true rfl) dX8_copies_19 rfl rfl (fun H locs V => ?_)
        refine lv_if_eq (tgt := 33) hx hb dX8_copies_22 (by decide) (fun c_22 => ?_) (fun c_22 => ?_)
        · refine lv_iconst (v := 1) hx hb dX8_copies_33 (by decide) ?_
          have e9 : pX8_copies v qm qi x1 x2 x3 = (1, qm, qi) := by rw [pX8_copies, if_neg c_1, if_neg c_7, if_neg c_14, if_pos c_22]
          exact m_iret X hr hk V (by rw [e9]) (by rw [e9]) dX8_copies_34
        · refine lv_iload_n hx hb dX8_copies_25 rfl (lv_at hl 3 rfl) ?_
          refine lv_iload_n hx hb dX8_copies_26 rfl (lv_at hl 1 rfl) ?_
          refine m_S X V (rest := []) (st1 := [.int (pX8_isIn x3 x1)]) (kX8_isIn l D cB cI x3 x1) okX8_isIn gm_544 gm_543 ⟨⟨rfl, rfl⟩, ⟨by decide, by decide⟩, Nat.zero_le _, Nat.zero_le _⟩ rfl hl.1 (Nat.le_of_ble_eq_true rfl) dX8_copies_27 rfl rfl (fun H locs V => ?_)
          refine lv_if_ne (tgt := 35) hx hb dX8_copies_30 (by decide) (fun c_30 => ?_) (fun c_30 => ?_)
          · refine lv_iload_n hx hb dX8_copies_35 rfl (lv_at hl 3 rfl) ?_
            refine lv_aload_n hx hb dX8_copies_36 rfl (lv_at hl 0 rfl) ?_
            refine m_get X V 6 0 6 rfl gin_6 rfl (by decide) rfl gm_429 (v := .int (v 2)) rfl dX8_copies_37 ?_
            refine lv_icmp_ge (tgt := 46) hx hb dX8_copies_40 (by decide) (fun c_40 => ?_) (fun c_40 => ?_)
            · refine lv_iconst (v := 0) hx hb dX8_copies_46 (by decide) ?_
              refine lv_istore (lv' := [(4, .int 0), (0, .ref (bd 0)), (1, .int x1), (2, .int x2), (3, .int x3)]) hx hb dX8_copies_47 hl (by decide) rfl (fun ls hl => ?_)
              rw [show pX8_copies v qm qi x1 x2 x3 = (pX8_copies_lp49 x1 x2 x3 ((Int32.toInt x1 - Int32.toInt 0).toNat + 1) qm qi 0) from by rw [pX8_copies, if_neg c_1, if_neg c_7, if_neg c_14, if_neg c_22, if_neg c_30, if_pos c_40]]
              exact lpX8_copies_49 X hr hk  ((Int32.toInt x1 - Int32.toInt 0).toNat + 1) qm qi 0 _ _ _ (show 0 ≤ Int32.toInt 0 by have z_0 : Int32.toInt 0 = 0 := rfl; omega) (show 0 ≤ Int32.toInt x2 ∧ Int32.toInt x2 + Int32.toInt x1 ≤ 1024 by have e_2 : Int32.toInt 0 = 0 := rfl; have f_3 : ¬ Int32.toInt x1 = Int32.toInt 0 := fun q => c_1 (Int32.toInt_inj.mp q); have f_4 : ¬ Int32.toInt x1 < Int32.toInt 0 := fun q => c_7 (Int32.lt_iff_toInt_lt.mpr q); have e_5 : Int32.toInt 1024 = 1024 := rfl; have f_6 : ¬ Int32.toInt 1024 < Int32.toInt x1 := fun q => c_14 (Int32.lt_iff_toInt_lt.mpr q); have f_7 := isIn_spec (a := x2) (n := x1) (by omega) c_22; have f_8 := isIn_spec (a := x3) (n := x1) (by omega) c_30; have f_10 : Int32.toInt (v 2) ≤ Int32.toInt x3 := Int32.le_iff_toInt_le.mp c_40; omega) (show 0 ≤ Int32.toInt x3 ∧ Int32.toInt x3 + Int32.toInt x1 ≤ 1024 by have e_2 : Int32.toInt 0 = 0 := rfl; have f_3 : ¬ Int32.toInt x1 = Int32.toInt 0 := fun q => c_1 (Int32.toInt_inj.mp q); have f_4 : ¬ Int32.toInt x1 < Int32.toInt 0 := fun q => c_7 (Int32.lt_iff_toInt_lt.mpr q); have e_5 : Int32.toInt 1024 = 1024 := rfl; have f_6 : ¬ Int32.toInt 1024 < Int32.toInt x1 := fun q => c_14 (Int32.lt_iff_toInt_lt.mpr q); have f_7 := isIn_spec (a := x2) (n := x1) (by omega) c_22; have f_8 := isIn_spec (a := x3) (n := x1) (by omega) c_30; have f_10 : Int32.toInt (v 2) ≤ Int32.toInt x3 := Int32.le_iff_toInt_le.mp c_40; omega) (show Int32.toInt x1 ≤ 1024 by have e_2 : Int32.toInt 0 = 0 := rfl; have f_3 : ¬ Int32.toInt x1 = Int32.toInt 0 := fun q => c_1 (Int32.toInt_inj.mp q); have f_4 : ¬ Int32.toInt x1 < Int32.toInt 0 := fun q => c_7 (Int32.lt_iff_toInt_lt.mpr q); have e_5 : Int32.toInt 1024 = 1024 := rfl; have f_6 : ¬ Int32.toInt 1024 < Int32.toInt x1 := fun q => c_14 (Int32.lt_iff_toInt_lt.mpr q); have f_7 := isIn_spec (a := x2) (n := x1) (by omega) c_22; have f_8 := isIn_spec (a := x3) (n := x1) (by omega) c_30; have f_10 : Int32.toInt (v 2) ≤ Int32.toInt x3 := Int32.le_iff_toInt_le.mp c_40; omega) (Nat.lt_succ_self _) V (lv_sub hl [1, 2, 3, 4, 0] rfl)
            · refine lv_bipush (v := 8) hx hb dX8_copies_43 (by decide) ?_
              have e9 : pX8_copies v qm qi x1 x2 x3 = (8, qm, qi) := by rw [pX8_copies, if_neg c_1, if_neg c_7, if_neg c_14, if_neg c_22, if_neg c_30, if_neg c_40]
              exact m_iret X hr hk V (by rw [e9]) (by rw [e9]) dX8_copies_45
          · refine lv_iconst (v := 1) hx hb dX8_copies_33 (by decide) ?_
            have e9 : pX8_copies v qm qi x1 x2 x3 = (1, qm, qi) := by rw [pX8_copies, if_neg c_1, if_neg c_7, if_neg c_14, if_neg c_22, if_pos c_30]
            exact m_iret X hr hk V (by rw [e9]) (by rw [e9]) dX8_copies_34
  · refine lv_iconst (v := 0) hx hb dX8_copies_4 (by decide) ?_
    have e9 : pX8_copies v qm qi x1 x2 x3 = (0, qm, qi) := by rw [pX8_copies, if_pos c_1]
    exact m_iret X hr hk V (by rw [e9]) (by rw [e9]) dX8_copies_5
def pX8_beside_lp2 (v : Nat → Int32) (qm : Nat → Int32) (qy : Nat → Int32) (x1 : Int32) : Nat → (Int32) → Int32
  | 0, k2 => (0)
  | n_ + 1, k2 => (if (v 16) ≤ k2 then (1) else (if (qm (Int32.toNatClampNeg (x1 + k2))) = (qy (Int32.toNatClampNeg k2)) then (pX8_beside_lp2 v qm qy x1 n_ (k2 + 1)) else (if (qy (Int32.toNatClampNeg k2)) ≤ (qm (Int32.toNatClampNeg (x1 + k2))) then (2) else (0))))
def pX8_beside (v : Nat → Int32) (qm : Nat → Int32) (qy : Nat → Int32) (x1 : Int32) : Int32 := (pX8_beside_lp2 v qm qy x1 ((Int32.toInt (v 16) - Int32.toInt 0).toNat + 1) 0)
theorem okX8_beside : mOk yX8_beside cX8_beside 3 (some .int) 1 := ⟨gm_593, gm_8, by decide +kernel⟩
set_option maxRecDepth 100000 in
set_option maxHeartbeats 4000000 in
theorem lpX8_beside_2 {p : Program} {e : Env} {s : State} {m : MethodId} {args : Array Value} {below : List Frame} {meth : Method} {c : Code} {A : Nat → Prop} {l : Launch} {D : va_G} {cB cI : ClassId} {bd : Nat → Nat} {v : Nat → Int32} {qm : Nat → Int32} {ql : Nat → Int32} {qs : Nat → Int32} {qk : Nat → Int32} {qd : Nat → Int32} {qn : Nat → Int32} {qe : Nat → Int32} {qf : Nat → Int32} {qo : Nat → Int32} {qt : Nat → Int32} {qi : Nat → Int32} {qy : Nat → Int32} {x1 : Int32} (X : mCx p s m args c cX8_beside 3 RX8 D cB cI) (hr : meth.sig.returnType = (some .int)) (hk : meth.locks = false) (hi : 0 ≤ Int32.toInt x1 ∧ Int32.toInt x1 + Int32.toInt (v 16) ≤ 1024) (hz : 0 ≤ Int32.toInt (v 16) ∧ Int32.toInt (v 16) ≤ 64) : ∀ (n_ : Nat) (k2 : Int32) (H : Heap) (locs : List Loc) (ls : Array Slot), (0 ≤ Int32.toInt k2) → (Int32.toInt (v 16) - Int32.toInt k2).toNat < n_ → mWd D A s (wR cB cI bd v qm ql qs qk qd qn qe qf qo qt qi qy) H locs → lv_has ls 3 [(0, .ref (bd 0)), (1, .int x1), (2, .int k2)] → W p l e { frames := 0, cells := 0, slots := 0, locals := 0 } s m args below meth c H locs 0 0 (MQ below (mQ D A (wR cB cI bd v qm ql qs qk qd qn qe qf qo qt qi qy) (some (pX8_beside_lp2 v qm qy x1 n_ k2))) args s 0 0 A) (F0 m 2 ls []) := by
  have hx := X.1.1
  have hb := X.1.2.1
  intro n_
  induction n_ with
  | zero =>
    intro k2 H locs ls hk2 hm V hl
    exact absurd hm (Nat.not_lt_zero _)
  | succ n_ ih =>
    intro k2 H locs ls hk2 hm V hl
    refine lv_iload_n hx hb dX8_beside_2 rfl (lv_at hl 2 rfl) ?_
    refine lv_aload_n hx hb dX8_beside_3 rfl (lv_at hl 0 rfl) ?_
    refine m_get X V 6 0 28 rfl gin_6 rfl (by decide) rfl gm_451 (v := .int (v 16)) rfl dX8_beside_4 ?_
    refine lv_icmp_ge (tgt := 56) hx hb dX8_beside_7 (by decide) (fun c_7 => ?_) (fun c_7 => ?_)
    · refine lv_iconst (v := 1) hx hb dX8_beside_56 (by decide) ?_
      have e9 : pX8_beside_lp2 v qm qy x1 (n_ + 1) k2 = (1) := by rw [pX8_beside_lp2, if_pos c_7]
      exact m_iret X hr hk V (by rw [e9]) rfl dX8_beside_57
    · refine lv_aload_n hx hb dX8_beside_10 rfl (lv_at hl 0 rfl) ?_
      refine m_get X V 6 0 0 rfl gin_6 rfl (by decide) rfl gm_423 (v := .ref (bd 1)) rfl dX8_beside_11 ?_
      refine lv_iload_n hx hb dX8_beside_14 rfl (lv_at hl 1 rfl) ?_
      refine lv_iload_n hx hb dX8_beside_15 rfl (lv_at hl 2 rfl) ?_
      refine lv_iadd hx hb dX8_beside_16 ?_
      refine m_iald X V 1 rfl (by have f_3 : ¬ Int32.toInt (v 16) ≤ Int32.toInt k2 := fun q => c_7 (Int32.le_iff_toInt_le.mpr q); have e_5 : Int32.toInt (x1 + k2) = Int32.toInt x1 + Int32.toInt k2 := ti_add (by omega) (by omega); rw [vp_in_iff]; omega) dX8_beside_17 ?_
      refine lv_aload_n hx hb dX8_beside_18 rfl (lv_at hl 0 rfl) ?_
      refine m_get X V 6 0 27 rfl gin_6 rfl (by decide) rfl gm_450 (v := .ref (bd 12)) rfl dX8_beside_19 ?_
      refine lv_iload_n hx hb dX8_beside_22 rfl (lv_at hl 2 rfl) ?_
      refine m_iald X V 12 rfl (by have f_3 : ¬ Int32.toInt (v 16) ≤ Int32.toInt k2 := fun q => c_7 (Int32.le_iff_toInt_le.mpr q); rw [vp_in_iff]; omega) dX8_beside_23 ?_
      refine lv_icmp_eq (tgt := 50) hx hb dX8_beside_24 (by decide) (fun c_24 => ?_) (fun c_24 => ?_)
      · refine lv_iinc (v := (k2 + 1)) (lv' := [(2, .int (k2 + 1)), (0, .ref (bd 0)), (1, .int x1)]) hx hb dX8_beside_50 hl (k := 2) rfl rfl (by decide) rfl (fun ls hl => ?_)
        refine lv_goto (tgt := 2) hx hb dX8_beside_53 (by decide) ?_
        rw [show pX8_beside_lp2 v qm qy x1 (n_ + 1) k2 = pX8_beside_lp2 v qm qy x1 n_ (k2 + 1) from by rw [pX8_beside_lp2, if_neg c_7, if_pos c_24]]
        exact ih (k2 + 1) _ _ _ (show 0 ≤ Int32.toInt (k2 + 1) by have f_3 : ¬ Int32.toInt (v 16) ≤ Int32.toInt k2 := fun q => c_7 (Int32.le_iff_toInt_le.mpr q); have f_6 : Int32.toInt (qm (Int32.toNatClampNeg (x1 + k2))) = Int32.toInt (qy (Int32.toNatClampNeg k2)) := congrArg Int32.toInt c_24; have e_7 : Int32.toInt 1 = 1 := rfl; have e_8 : Int32.toInt (k2 + 1) = Int32.toInt k2 + Int32.toInt 1 := ti_add (by omega) (by omega); omega) (ms_up c_7 hm) V (lv_sub hl [1, 2, 0] rfl)
      · refine lv_aload_n hx hb dX8_beside_27 rfl (lv_at hl 0 rfl) ?_
        refine m_get X V 6 0 0 rfl gin_6 rfl (by decide) rfl gm_423 (v := .ref (bd 1)) rfl dX8_beside_28 ?_
        refine lv_iload_n hx hb dX8_beside_31 rfl (lv_at hl 1 rfl) ?_
        refine lv_iload_n hx hb dX8_beside_32 rfl (lv_at hl 2 rfl) ?_
        refine lv_iadd hx hb dX8_beside_33 ?_
        refine m_iald X V 1 rfl (by have f_3 : ¬ Int32.toInt (v 16) ≤ Int32.toInt k2 := fun q => c_7 (Int32.le_iff_toInt_le.mpr q); have f_6 : ¬ Int32.toInt (qm (Int32.toNatClampNeg (x1 + k2))) = Int32.toInt (qy (Int32.toNatClampNeg k2)) := fun q => c_24 (Int32.toInt_inj.mp q); have e_8 : Int32.toInt (x1 + k2) = Int32.toInt x1 + Int32.toInt k2 := ti_add (by omega) (by omega); rw [vp_in_iff]; omega) dX8_beside_34 ?_
        refine lv_aload_n hx hb dX8_beside_35 rfl (lv_at hl 0 rfl) ?_
        refine m_get X V 6 0 27 rfl gin_6 rfl (by decide) rfl gm_450 (v := .ref (bd 12)) rfl dX8_beside_36 ?_
        refine lv_iload_n hx hb dX8_beside_39 rfl (lv_at hl 2 rfl) ?_
        refine m_iald X V 12 rfl (by have f_3 : ¬ Int32.toInt (v 16) ≤ Int32.toInt k2 := fun q => c_7 (Int32.le_iff_toInt_le.mpr q); have f_6 : ¬ Int32.toInt (qm (Int32.toNatClampNeg (x1 + k2))) = Int32.toInt (qy (Int32.toNatClampNeg k2)) := fun q => c_24 (Int32.toInt_inj.mp q); rw [vp_in_iff]; omega) dX8_beside_40 ?_
        refine lv_icmp_ge (tgt := 48) hx hb dX8_beside_41 (by decide) (fun c_41 => ?_) (fun c_41 => ?_)
        · refine lv_iconst (v := 2) hx hb dX8_beside_48 (by decide) ?_
          have e9 : pX8_beside_lp2 v qm qy x1 (n_ + 1) k2 = (2) := by rw [pX8_beside_lp2, if_neg c_7, if_neg c_24, if_pos c_41]
          exact m_iret X hr hk V (by rw [e9]) rfl dX8_beside_49
        · refine lv_iconst (v := 0) hx hb dX8_beside_44 (by decide) ?_
          refine lv_goto (tgt := 49) hx hb dX8_beside_45 (by decide) ?_
          have e9 : pX8_beside_lp2 v qm qy x1 (n_ + 1) k2 = (0) := by rw [pX8_beside_lp2, if_neg c_7, if_neg c_24, if_neg c_41]
          exact m_iret X hr hk V (by rw [e9]) rfl dX8_beside_49
set_option maxRecDepth 100000 in
set_option maxHeartbeats 4000000 in
theorem kX8_beside (l : Launch) (D : va_G) (cB cI : ClassId) (bd : Nat → Nat) (v : Nat → Int32) (qm : Nat → Int32) (ql : Nat → Int32) (qs : Nat → Int32) (qk : Nat → Int32) (qd : Nat → Int32) (qn : Nat → Int32) (qe : Nat → Int32) (qf : Nat → Int32) (qo : Nat → Int32) (qt : Nat → Int32) (qi : Nat → Int32) (qy : Nat → Int32) (x1 : Int32) (hi : 0 ≤ Int32.toInt x1 ∧ Int32.toInt x1 + Int32.toInt (v 16) ≤ 1024) (hz : 0 ≤ Int32.toInt (v 16) ∧ Int32.toInt (v 16) ≤ 64) : mM l D cB cI yX8_beside cX8_beside 3 (some .int) { frames := 0, cells := 0, slots := 0, locals := 0 } [.ref (bd 0), .int x1] (wR cB cI bd v qm ql qs qk qd qn qe qf qo qt qi qy) (some (pX8_beside v qm qy x1)) (wR cB cI bd v qm ql qs qk qd qn qe qf qo qt qi qy) := by
  refine m_start (by decide +kernel) (Nat.le_of_ble_eq_true rfl) ?_
  intro p e s m below meth c A ls X hr hk V hl
  have X : mCx p s m _ c cX8_beside 3 RX8 D cB cI := X
  have hx := X.1.1
  have hb := X.1.2.1
  have hl : lv_has ls 3 [(0, .ref (bd 0)), (1, .int x1)] := hl
  refine lv_iconst (v := 0) hx hb dX8_beside_0 (by decide) ?_
  refine lv_istore_n (lv' := [(2, .int 0), (0, .ref (bd 0)), (1, .int x1)]) hx hb dX8_beside_1 rfl hl (by decide) rfl (fun ls hl => ?_)
  rw [show pX8_beside v qm qy x1 = (pX8_beside_lp2 v qm qy x1 ((Int32.toInt (v 16) - Int32.toInt 0).toNat + 1) 0) from by rw [pX8_beside]]
  exact lpX8_beside_2 X hr hk hi hz ((Int32.toInt (v 16) - Int32.toInt 0).toNat + 1) 0 _ _ _ (show 0 ≤ Int32.toInt 0 by have z_0 : Int32.toInt 0 = 0 := rfl; omega) (Nat.lt_succ_self _) V (lv_sub hl [1, 2, 0] rfl)
theorem nb_of {k : Int32} (h : k = 0 ∨ k = 1) : narrow .boolean (.int k) = .int k := by rcases h with h | h <;> rw [h] <;> rfl
def pX8_isNought_lp4 (v : Nat → Int32) (qm : Nat → Int32) (x1 : Int32) : Nat → (Int32) → (Int32) → Int32
  | 0, k2, k3 => (0)
  | n_ + 1, k2, k3 => (if (v 16) ≤ k3 then (k2) else (if (qm (Int32.toNatClampNeg (x1 + k3))) = 0 then (pX8_isNought_lp4 v qm x1 n_ (k2 &&& 1) (k3 + 1)) else (pX8_isNought_lp4 v qm x1 n_ (k2 &&& 0) (k3 + 1))))
def pX8_isNought (v : Nat → Int32) (qm : Nat → Int32) (x1 : Int32) : Int32 := (pX8_isNought_lp4 v qm x1 ((Int32.toInt (v 16) - Int32.toInt 0).toNat + 1) 1 0)
theorem okX8_isNought : mOk yX8_isNought cX8_isNought 4 (some .boolean) 1 := ⟨gm_596, gm_8, by decide +kernel⟩
set_option maxRecDepth 100000 in
set_option maxHeartbeats 4000000 in
theorem lpX8_isNought_4 {p : Program} {e : Env} {s : State} {m : MethodId} {args : Array Value} {below : List Frame} {meth : Method} {c : Code} {A : Nat → Prop} {l : Launch} {D : va_G} {cB cI : ClassId} {bd : Nat → Nat} {v : Nat → Int32} {qm : Nat → Int32} {ql : Nat → Int32} {qs : Nat → Int32} {qk : Nat → Int32} {qd : Nat → Int32} {qn : Nat → Int32} {qe : Nat → Int32} {qf : Nat → Int32} {qo : Nat → Int32} {qt : Nat → Int32} {qi : Nat → Int32} {qy : Nat → Int32} {x1 : Int32} (X : mCx p s m args c cX8_isNought 4 RX8 D cB cI) (hr : meth.sig.returnType = (some .boolean)) (hk : meth.locks = false) (hi : 0 ≤ Int32.toInt x1 ∧ Int32.toInt x1 + Int32.toInt (v 16) ≤ 1024) (hz : 0 ≤ Int32.toInt (v 16) ∧ Int32.toInt (v 16) ≤ 64) : ∀ (n_ : Nat) (k2 : Int32) (k3 : Int32) (H : Heap) (locs : List Loc) (ls : Array Slot), (0 ≤ Int32.toInt k3) → (k2 = 0 ∨ k2 = 1) → (Int32.toInt (v 16) - Int32.toInt k3).toNat < n_ → mWd D A s (wR cB cI bd v qm ql qs qk qd qn qe qf qo qt qi qy) H locs → lv_has ls 4 [(0, .ref (bd 0)), (1, .int x1), (2, .int k2), (3, .int k3)] → W p l e { frames := 0, cells := 0, slots := 0, locals := 0 } s m args below meth c H locs 0 0 (MQ below (mQ D A (wR cB cI bd v qm ql qs qk qd qn qe qf qo qt qi qy) (some (pX8_isNought_lp4 v qm x1 n_ k2 k3))) args s 0 0 A) (F0 m 4 ls []) := by
  have hx := X.1.1
  have hb := X.1.2.1
  intro n_
  induction n_ with
  | zero =>
    intro k2 k3 H locs ls hk3 hb2 hm V hl
    exact absurd hm (Nat.not_lt_zero _)
  | succ n_ ih =>
    intro k2 k3 H locs ls hk3 hb2 hm V hl
    refine lv_iload_n hx hb dX8_isNought_4 rfl (lv_at hl 3 rfl) ?_
    refine lv_aload_n hx hb dX8_isNought_5 rfl (lv_at hl 0 rfl) ?_
    refine m_get X V 6 0 28 rfl gin_6 rfl (by decide) rfl gm_451 (v := .int (v 16)) rfl dX8_isNought_6 ?_
    refine lv_icmp_ge (tgt := 37) hx hb dX8_isNought_9 (by decide) (fun c_9 => ?_) (fun c_9 => ?_)
    · refine lv_iload_n hx hb dX8_isNought_37 rfl (lv_at hl 2 rfl) ?_
      have e9 : pX8_isNought_lp4 v qm x1 (n_ + 1) k2 k3 = (k2) := by rw [pX8_isNought_lp4, if_pos c_9]
      exact m_zret X hr hk V (nb_of hb2) (by rw [e9]) rfl dX8_isNought_38
    · refine lv_iload_n hx hb dX8_isNought_12 rfl (lv_at hl 2 rfl) ?_
      refine lv_aload_n hx hb dX8_isNought_13 rfl (lv_at hl 0 rfl) ?_
      refine m_get X V 6 0 0 rfl gin_6 rfl (by decide) rfl gm_423 (v := .ref (bd 1)) rfl dX8_isNought_14 ?_
      refine lv_iload_n hx hb dX8_isNought_17 rfl (lv_at hl 1 rfl) ?_
      refine lv_iload_n hx hb dX8_isNought_18 rfl (lv_at hl 3 rfl) ?_
      refine lv_iadd hx hb dX8_isNought_19 ?_
      refine m_iald X V 1 rfl (by have f_3 : ¬ Int32.toInt (v 16) ≤ Int32.toInt k3 := fun q => c_9 (Int32.le_iff_toInt_le.mpr q); have e_5 : Int32.toInt (x1 + k3) = Int32.toInt x1 + Int32.toInt k3 := ti_add (by omega) (by omega); rw [vp_in_iff]; omega) dX8_isNought_20 ?_
      refine lv_if_ne (tgt := 28) hx hb dX8_isNought_21 (by decide) (fun c_21 => ?_) (fun c_21 => ?_)
      · refine lv_iconst (v := 0) hx hb dX8_isNought_28 (by decide) ?_
        refine lv_iand hx hb dX8_isNought_29 ?_
        refine lv_istore_n (lv' := [(2, .int (k2 &&& 0)), (0, .ref (bd 0)), (1, .int x1), (3, .int k3)]) hx hb dX8_isNought_30 rfl hl (by decide) rfl (fun ls hl => ?_)
        refine lv_iinc (v := (k3 + 1)) (lv' := [(3, .int (k3 + 1)), (2, .int (k2 &&& 0)), (0, .ref (bd 0)), (1, .int x1)]) hx hb dX8_isNought_31 hl (k := 3) rfl rfl (by decide) rfl (fun ls hl => ?_)
        refine lv_goto (tgt := 4) hx hb dX8_isNought_34 (by decide) ?_
        rw [show pX8_isNought_lp4 v qm x1 (n_ + 1) k2 k3 = pX8_isNought_lp4 v qm x1 n_ (k2 &&& 0) (k3 + 1) from by rw [pX8_isNought_lp4, if_neg c_9, if_neg c_21]]
        exact ih (k2 &&& 0) (k3 + 1) _ _ _ (show 0 ≤ Int32.toInt (k3 + 1) by have f_3 : ¬ Int32.toInt (v 16) ≤ Int32.toInt k3 := fun q => c_9 (Int32.le_iff_toInt_le.mpr q); have e_5 : Int32.toInt 0 = 0 := rfl; have f_6 : ¬ Int32.toInt (qm (Int32.toNatClampNeg (x1 + k3))) = Int32.toInt 0 := fun q => c_21 (Int32.toInt_inj.mp q); have e_7 : Int32.toInt 1 = 1 := rfl; have e_8 : Int32.toInt (k3 + 1) = Int32.toInt k3 + Int32.toInt 1 := ti_add (by omega) (by omega); omega) (by rcases hb2 with h | h <;> rw [h] <;> decide) (ms_up c_9 hm) V (lv_sub hl [2, 3, 1, 0] rfl)
      · refine lv_iconst (v := 1) hx hb dX8_isNought_24 (by decide) ?_
        refine lv_goto (tgt := 29) hx hb dX8_isNought_25 (by decide) ?_
        refine lv_iand hx hb dX8_isNought_29 ?_
        refine lv_istore_n (lv' := [(2, .int (k2 &&& 1)), (0, .ref (bd 0)), (1, .int x1), (3, .int k3)]) hx hb dX8_isNought_30 rfl hl (by decide) rfl (fun ls hl => ?_)
        refine lv_iinc (v := (k3 + 1)) (lv' := [(3, .int (k3 + 1)), (2, .int (k2 &&& 1)), (0, .ref (bd 0)), (1, .int x1)]) hx hb dX8_isNought_31 hl (k := 3) rfl rfl (by decide) rfl (fun ls hl => ?_)
        refine lv_goto (tgt := 4) hx hb dX8_isNought_34 (by decide) ?_
        rw [show pX8_isNought_lp4 v qm x1 (n_ + 1) k2 k3 = pX8_isNought_lp4 v qm x1 n_ (k2 &&& 1) (k3 + 1) from by rw [pX8_isNought_lp4, if_neg c_9, if_pos c_21]]
        exact ih (k2 &&& 1) (k3 + 1) _ _ _ (show 0 ≤ Int32.toInt (k3 + 1) by have f_3 : ¬ Int32.toInt (v 16) ≤ Int32.toInt k3 := fun q => c_9 (Int32.le_iff_toInt_le.mpr q); have e_5 : Int32.toInt 0 = 0 := rfl; have f_6 : Int32.toInt (qm (Int32.toNatClampNeg (x1 + k3))) = Int32.toInt 0 := congrArg Int32.toInt c_21; have e_7 : Int32.toInt 1 = 1 := rfl; have e_8 : Int32.toInt (k3 + 1) = Int32.toInt k3 + Int32.toInt 1 := ti_add (by omega) (by omega); omega) (by rcases hb2 with h | h <;> rw [h] <;> decide) (ms_up c_9 hm) V (lv_sub hl [2, 3, 1, 0] rfl)
set_option maxRecDepth 100000 in
set_option maxHeartbeats 4000000 in
theorem kX8_isNought (l : Launch) (D : va_G) (cB cI : ClassId) (bd : Nat → Nat) (v : Nat → Int32) (qm : Nat → Int32) (ql : Nat → Int32) (qs : Nat → Int32) (qk : Nat → Int32) (qd : Nat → Int32) (qn : Nat → Int32) (qe : Nat → Int32) (qf : Nat → Int32) (qo : Nat → Int32) (qt : Nat → Int32) (qi : Nat → Int32) (qy : Nat → Int32) (x1 : Int32) (hi : 0 ≤ Int32.toInt x1 ∧ Int32.toInt x1 + Int32.toInt (v 16) ≤ 1024) (hz : 0 ≤ Int32.toInt (v 16) ∧ Int32.toInt (v 16) ≤ 64) : mM l D cB cI yX8_isNought cX8_isNought 4 (some .boolean) { frames := 0, cells := 0, slots := 0, locals := 0 } [.ref (bd 0), .int x1] (wR cB cI bd v qm ql qs qk qd qn qe qf qo qt qi qy) (some (pX8_isNought v qm x1)) (wR cB cI bd v qm ql qs qk qd qn qe qf qo qt qi qy) := by
  refine m_start (by decide +kernel) (Nat.le_of_ble_eq_true rfl) ?_
  intro p e s m below meth c A ls X hr hk V hl
  have X : mCx p s m _ c cX8_isNought 4 RX8 D cB cI := X
  have hx := X.1.1
  have hb := X.1.2.1
  have hl : lv_has ls 4 [(0, .ref (bd 0)), (1, .int x1)] := hl
  refine lv_iconst (v := 1) hx hb dX8_isNought_0 (by decide) ?_
  refine lv_istore_n (lv' := [(2, .int 1), (0, .ref (bd 0)), (1, .int x1)]) hx hb dX8_isNought_1 rfl hl (by decide) rfl (fun ls hl => ?_)
  refine lv_iconst (v := 0) hx hb dX8_isNought_2 (by decide) ?_
  refine lv_istore_n (lv' := [(3, .int 0), (2, .int 1), (0, .ref (bd 0)), (1, .int x1)]) hx hb dX8_isNought_3 rfl hl (by decide) rfl (fun ls hl => ?_)
  rw [show pX8_isNought v qm x1 = (pX8_isNought_lp4 v qm x1 ((Int32.toInt (v 16) - Int32.toInt 0).toNat + 1) 1 0) from by rw [pX8_isNought]]
  exact lpX8_isNought_4 X hr hk hi hz ((Int32.toInt (v 16) - Int32.toInt 0).toNat + 1) 1 0 _ _ _ (show 0 ≤ Int32.toInt 0 by have z_0 : Int32.toInt 0 = 0 := rfl; omega) (Or.inr rfl) (Nat.lt_succ_self _) V (lv_sub hl [2, 3, 1, 0] rfl)
