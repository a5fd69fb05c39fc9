def pX8_keys_lp75 (qm : Nat → Int32) (x1 : Int32) (x2 : Int32) (x3 : Int32) : Nat → (Nat → Int32) → (Nat → Int32) → (Int32) → Int32 × (Nat → Int32) × (Nat → Int32)
  | 0, v, qy, k5 => (0, v, qy)
  | n_ + 1, v, qy, k5 => (if x2 ≤ k5 then (0, v, qy) else (if x3 = 0 then (pX8_keys_lp75 qm x1 x2 x3 n_ v (upd qy (Int32.toNatClampNeg k5) ((x1 >>> ((8 * ((x2 - 1) - k5)) &&& 31)) &&& 255)) (k5 + 1)) else (pX8_keys_lp75 qm x1 x2 x3 n_ v (upd qy (Int32.toNatClampNeg k5) (qm (Int32.toNatClampNeg (x1 + k5)))) (k5 + 1))))
def pX8_keys (v : Nat → Int32) (qm : Nat → Int32) (qy : Nat → Int32) (x1 : Int32) (x2 : Int32) (x3 : Int32) : Int32 × (Nat → Int32) × (Nat → Int32) := (if x3 = 0 then (if x2 = 1 then (pX8_keys_lp75 qm x1 x2 x3 ((Int32.toInt x2 - Int32.toInt 0).toNat + 1) (upd v 16 x2) qy 0) else (if x2 = 2 then (pX8_keys_lp75 qm x1 x2 x3 ((Int32.toInt x2 - Int32.toInt 0).toNat + 1) (upd v 16 x2) qy 0) else (if x2 = 4 then (pX8_keys_lp75 qm x1 x2 x3 ((Int32.toInt x2 - Int32.toInt 0).toNat + 1) (upd v 16 x2) qy 0) else (9, v, qy)))) else (if x2 < 1 then (9, v, qy) else (if 64 < x2 then (9, v, qy) else (if (pX8_isIn x1 x2) = 0 then (1, v, qy) else (pX8_keys_lp75 qm x1 x2 x3 ((Int32.toInt x2 - Int32.toInt 0).toNat + 1) (upd v 16 x2) qy 0)))))
theorem okX8_keys : mOk yX8_keys cX8_keys 6 (some .int) 3 := ⟨gm_587, gm_8, by decide +kernel⟩
set_option maxRecDepth 100000 in
set_option maxHeartbeats 4000000 in
theorem lpX8_keys_75 {p : Program} {e : Env} {s : State} {m : MethodId} {args : Array Value} {below : List Frame} {meth : Method} {c : Code} {A : Nat → Prop} {l : Launch} {D : va_G} {cB cI : ClassId} {bd : Nat → Nat} {qm : Nat → Int32} {ql : Nat → Int32} {qs : Nat → Int32} {qk : Nat → Int32} {qd : Nat → Int32} {qn : Nat → Int32} {qe : Nat → Int32} {qf : Nat → Int32} {qo : Nat → Int32} {qt : Nat → Int32} {qi : Nat → Int32} {x1 : Int32} {x2 : Int32} {x3 : Int32} (X : mCx p s m args c cX8_keys 6 RX8 D cB cI) (hr : meth.sig.returnType = (some .int)) (hk : meth.locks = false) : ∀ (n_ : Nat) (v : Nat → Int32) (qy : Nat → Int32) (k5 : Int32) (H : Heap) (locs : List Loc) (ls : Array Slot), (0 ≤ Int32.toInt k5) → (0 ≤ Int32.toInt x2 ∧ Int32.toInt x2 ≤ 64) → (¬ x3 = 0 → 0 ≤ Int32.toInt x1 ∧ Int32.toInt x1 + Int32.toInt x2 ≤ 1024) → (Int32.toInt x2 - Int32.toInt k5).toNat < n_ → mWd D A s (wR cB cI bd v qm ql qs qk qd qn qe qf qo qt qi qy) H locs → lv_has ls 6 [(0, .ref (bd 0)), (1, .int x1), (2, .int x2), (3, .int x3), (5, .int k5)] → W p l e { frames := 1, cells := 0, slots := 0, locals := 21 } s m args below meth c H locs 0 0 (MQ below (mQ D A (wR cB cI bd ((pX8_keys_lp75 qm x1 x2 x3 n_ v qy k5).2.1) qm ql qs qk qd qn qe qf qo qt qi ((pX8_keys_lp75 qm x1 x2 x3 n_ v qy k5).2.2)) (some ((pX8_keys_lp75 qm x1 x2 x3 n_ v qy k5).1))) args s 0 0 A) (F0 m 75 ls []) := by
  have hx := X.1.1
  have hb := X.1.2.1
  intro n_
  induction n_ with
  | zero =>
    intro v qy k5 H locs ls hk5 hz hj hm V hl
    exact absurd hm (Nat.not_lt_zero _)
  | succ n_ ih =>
    intro v qy k5 H locs ls hk5 hz hj hm V hl
    refine lv_iload hx hb dX8_keys_75 (lv_at hl 4 rfl) ?_
    refine lv_iload_n hx hb dX8_keys_77 rfl (lv_at hl 2 rfl) ?_
    refine lv_icmp_ge (tgt := 125) hx hb dX8_keys_78 (by decide) (fun c_78 => ?_) (fun c_78 => ?_)
    · refine lv_iconst (v := 0) hx hb dX8_keys_125 (by decide) ?_
      have e9 : pX8_keys_lp75 qm x1 x2 x3 (n_ + 1) v qy k5 = (0, v, qy) := by rw [pX8_keys_lp75, if_pos c_78]
      exact m_iret X hr hk V (by rw [e9]) (by rw [e9]) dX8_keys_126
    · refine lv_aload_n hx hb dX8_keys_81 rfl (lv_at hl 0 rfl) ?_
      refine m_get X V 6 0 27 rfl gin_6 rfl (by decide) rfl gm_450 (v := .ref (bd 12)) rfl dX8_keys_82 ?_
      refine lv_iload hx hb dX8_keys_85 (lv_at hl 4 rfl) ?_
      refine lv_iload_n hx hb dX8_keys_87 rfl (lv_at hl 3 rfl) ?_
      refine lv_if_eq (tgt := 103) hx hb dX8_keys_88 (by decide) (fun c_88 => ?_) (fun c_88 => ?_)
      · refine lv_iload_n hx hb dX8_keys_103 rfl (lv_at hl 1 rfl) ?_
        refine lv_bipush (v := 8) hx hb dX8_keys_104 (by decide) ?_
        refine lv_iload_n hx hb dX8_keys_106 rfl (lv_at hl 2 rfl) ?_
        refine lv_iconst (v := 1) hx hb dX8_keys_107 (by decide) ?_
        refine lv_isub hx hb dX8_keys_108 ?_
        refine lv_iload hx hb dX8_keys_109 (lv_at hl 4 rfl) ?_
        refine lv_isub hx hb dX8_keys_111 ?_
        refine lv_imul hx hb dX8_keys_112 ?_
        refine lv_ishr hx hb dX8_keys_113 ?_
        refine lv_sipush (v := 255) hx hb dX8_keys_114 (by decide) ?_
        refine lv_iand hx hb dX8_keys_117 ?_
        refine m_iast X V (ws' := (wR cB cI bd v qm ql qs qk qd qn qe qf qo qt qi (upd qy (Int32.toNatClampNeg k5) ((x1 >>> ((8 * ((x2 - 1) - k5)) &&& 31)) &&& 255)))) 12 rfl (by have f_3 : ¬ Int32.toInt x2 ≤ Int32.toInt k5 := fun q => c_78 (Int32.le_iff_toInt_le.mpr q); rw [vp_in_iff]; omega) dX8_keys_118 rfl (fun H locs V => ?_)
        refine lv_iinc (v := (k5 + 1)) (lv' := [(5, .int (k5 + 1)), (0, .ref (bd 0)), (1, .int x1), (2, .int x2), (3, .int x3)]) hx hb dX8_keys_119 hl (k := 4) rfl rfl (by decide) rfl (fun ls hl => ?_)
        refine lv_goto (tgt := 75) hx hb dX8_keys_122 (by decide) ?_
        rw [show pX8_keys_lp75 qm x1 x2 x3 (n_ + 1) v qy k5 = pX8_keys_lp75 qm x1 x2 x3 n_ v (upd qy (Int32.toNatClampNeg k5) ((x1 >>> ((8 * ((x2 - 1) - k5)) &&& 31)) &&& 255)) (k5 + 1) from by rw [pX8_keys_lp75, if_neg c_78, if_pos c_88]]
        exact ih v (upd qy (Int32.toNatClampNeg k5) ((x1 >>> ((8 * ((x2 - 1) - k5)) &&& 31)) &&& 255)) (k5 + 1) _ _ _ (show 0 ≤ Int32.toInt (k5 + 1) by have f_3 : ¬ Int32.toInt x2 ≤ Int32.toInt k5 := fun q => c_78 (Int32.le_iff_toInt_le.mpr q); have e_4 : Int32.toInt 1 = 1 := rfl; have e_5 : Int32.toInt (k5 + 1) = Int32.toInt k5 + Int32.toInt 1 := ti_add (by omega) (by omega); omega) (show 0 ≤ Int32.toInt x2 ∧ Int32.toInt x2 ≤ 64 by have f_3 : ¬ Int32.toInt x2 ≤ Int32.toInt k5 := fun q => c_78 (Int32.le_iff_toInt_le.mpr q); have e_4 : Int32.toInt 1 = 1 := rfl; have e_5 : Int32.toInt (k5 + 1) = Int32.toInt k5 + Int32.toInt 1 := ti_add (by omega) (by omega); omega) hj (ms_up c_78 hm) V (lv_sub hl [1, 2, 3, 4, 0] rfl)
      · refine lv_aload_n hx hb dX8_keys_91 rfl (lv_at hl 0 rfl) ?_
        refine m_get X V 6 0 0 rfl gin_6 rfl (by decide) rfl gm_423 (v := .ref (bd 1)) rfl dX8_keys_92 ?_
        refine lv_iload_n hx hb dX8_keys_95 rfl (lv_at hl 1 rfl) ?_
        refine lv_iload hx hb dX8_keys_96 (lv_at hl 4 rfl) ?_
        refine lv_iadd hx hb dX8_keys_98 ?_
        refine m_iald X V 1 rfl (by have q_1 := hj c_88; have f_3 : ¬ Int32.toInt x2 ≤ Int32.toInt k5 := fun q => c_78 (Int32.le_iff_toInt_le.mpr q); have e_5 : Int32.toInt (x1 + k5) = Int32.toInt x1 + Int32.toInt k5 := ti_add (by omega) (by omega); rw [vp_in_iff]; omega) dX8_keys_99 ?_
        refine lv_goto (tgt := 118) hx hb dX8_keys_100 (by decide) ?_
        refine m_iast X V (ws' := (wR cB cI bd v qm ql qs qk qd qn qe qf qo qt qi (upd qy (Int32.toNatClampNeg k5) (qm (Int32.toNatClampNeg (x1 + k5)))))) 12 rfl (by have f_3 : ¬ Int32.toInt x2 ≤ Int32.toInt k5 := fun q => c_78 (Int32.le_iff_toInt_le.mpr q); rw [vp_in_iff]; omega) dX8_keys_118 rfl (fun H locs V => ?_)
        refine lv_iinc (v := (k5 + 1)) (lv' := [(5, .int (k5 + 1)), (0, .ref (bd 0)), (1, .int x1), (2, .int x2), (3, .int x3)]) hx hb dX8_keys_119 hl (k := 4) rfl rfl (by decide) rfl (fun ls hl => ?_)
        refine lv_goto (tgt := 75) hx hb dX8_keys_122 (by decide) ?_
        rw [show pX8_keys_lp75 qm x1 x2 x3 (n_ + 1) v qy k5 = pX8_keys_lp75 qm x1 x2 x3 n_ v (upd qy (Int32.toNatClampNeg k5) (qm (Int32.toNatClampNeg (x1 + k5)))) (k5 + 1) from by rw [pX8_keys_lp75, if_neg c_78, if_neg c_88]]
        exact ih v (upd qy (Int32.toNatClampNeg k5) (qm (Int32.toNatClampNeg (x1 + k5)))) (k5 + 1) _ _ _ (show 0 ≤ Int32.toInt (k5 + 1) by have f_3 : ¬ Int32.toInt x2 ≤ Int32.toInt k5 := fun q => c_78 (Int32.le_iff_toInt_le.mpr q); have e_4 : Int32.toInt 1 = 1 := rfl; have e_5 : Int32.toInt (k5 + 1) = Int32.toInt k5 + Int32.toInt 1 := ti_add (by omega) (by omega); omega) (show 0 ≤ Int32.toInt x2 ∧ Int32.toInt x2 ≤ 64 by have f_3 : ¬ Int32.toInt x2 ≤ Int32.toInt k5 := fun q => c_78 (Int32.le_iff_toInt_le.mpr q); have e_4 : Int32.toInt 1 = 1 := rfl; have e_5 : Int32.toInt (k5 + 1) = Int32.toInt k5 + Int32.toInt 1 := ti_add (by omega) (by omega); omega) hj (ms_up c_78 hm) V (lv_sub hl [1, 2, 3, 4, 0] rfl)
set_option maxRecDepth 100000 in
set_option maxHeartbeats 4000000 in
theorem kX8_keys (l : Launch) (D : va_G) (cB cI : ClassId) (bd : Nat → Nat) (v : Nat → Int32) (qm : Nat → Int32) (ql : Nat → Int32) (qs : Nat → Int32) (qk : Nat → Int32) (qd : Nat → Int32) (qn : Nat → Int32) (qe : Nat → Int32) (qf : Nat → Int32) (qo : Nat → Int32) (qt : Nat → Int32) (qi : Nat → Int32) (qy : Nat → Int32) (x1 : Int32) (x2 : Int32) (x3 : Int32) : mM l D cB cI yX8_keys cX8_keys 6 (some .int) { frames := 1, cells := 0, slots := 0, locals := 21 } [.ref (bd 0), .int x1, .int x2, .int x3] (wR cB cI bd v qm ql qs qk qd qn qe qf qo qt qi qy) (some ((pX8_keys v qm qy x1 x2 x3).1)) (wR cB cI bd ((pX8_keys v qm qy x1 x2 x3).2.1) qm ql qs qk qd qn qe qf qo qt qi ((pX8_keys v qm qy x1 x2 x3).2.2)) := by
  refine m_start (by decide +kernel) (Nat.le_of_ble_eq_true rfl) ?_
  intro p e s m below meth c A ls X hr hk V hl
  have X : mCx p s m _ c cX8_keys 6 RX8 D cB cI := X
  have hx := X.1.1
  have hb := X.1.2.1
  have hl : lv_has ls 6 [(0, .ref (bd 0)), (1, .int x1), (2, .int x2), (3, .int x3)] := hl
  refine lv_iload_n hx hb dX8_keys_0 rfl (lv_at hl 3 rfl) ?_
  refine lv_if_eq (tgt := 23) hx hb dX8_keys_1 (by decide) (fun c_1 => ?_) (fun c_1 => ?_)
  · refine lv_iload_n hx hb dX8_keys_23 rfl (lv_at hl 2 rfl) ?_
    refine lv_iconst (v := 1) hx hb dX8_keys_24 (by decide) ?_
    refine lv_icmp_eq (tgt := 38) hx hb dX8_keys_25 (by decide) (fun c_25 => ?_) (fun c_25 => ?_)
    · refine lv_iconst (v := 1) hx hb dX8_keys_38 (by decide) ?_
      refine lv_goto (tgt := 43) hx hb dX8_keys_39 (by decide) ?_
      refine lv_istore (lv' := [(4, .int 1), (0, .ref (bd 0)), (1, .int x1), (2, .int x2), (3, .int x3)]) hx hb dX8_keys_43 hl (by decide) rfl (fun ls hl => ?_)
      refine lv_iload hx hb dX8_keys_45 (lv_at hl 0 rfl) ?_
      refine lv_if_ne (tgt := 53) hx hb dX8_keys_47 (by decide) (fun _ => ?_) (fun h => absurd h (by decide))
      refine lv_iload_n hx hb dX8_keys_53 rfl (lv_at hl 4 rfl) ?_
      refine lv_if_eq (tgt := 67) hx hb dX8_keys_54 (by decide) (fun _ => ?_) (fun h => absurd c_1 h)
      refine lv_aload_n hx hb dX8_keys_67 rfl (lv_at hl 1 rfl) ?_
      refine lv_iload_n hx hb dX8_keys_68 rfl (lv_at hl 3 rfl) ?_
      refine m_put X V (ws' := (wR cB cI bd (upd v 16 x2) qm ql qs qk qd qn qe qf qo qt qi qy)) 6 0 28 rfl gin_6 tyX8_ok nmX8 rfl (by decide) rfl gm_451 rfl rfl rfl (Nat.le_of_ble_eq_true rfl) dX8_keys_69 rfl (fun H locs V => ?_)
      refine lv_iconst (v := 0) hx hb dX8_keys_72 (by decide) ?_
      refine lv_istore (lv' := [(5, .int 0), (4, .int 1), (0, .ref (bd 0)), (1, .int x1), (2, .int x2), (3, .int x3)]) hx hb dX8_keys_73 hl (by decide) rfl (fun ls hl => ?_)
      rw [show pX8_keys v qm qy x1 x2 x3 = (pX8_keys_lp75 qm x1 x2 x3 ((Int32.toInt x2 - Int32.toInt 0).toNat + 1) (upd v 16 x2) qy 0) from by rw [pX8_keys, if_pos c_1, if_pos c_25]]
      exact lpX8_keys_75 X hr hk  ((Int32.toInt x2 - Int32.toInt 0).toNat + 1) (upd v 16 x2) qy 0 _ _ _ (show 0 ≤ Int32.toInt 0 by have z_0 : Int32.toInt 0 = 0 := rfl; omega) (show 0 ≤ Int32.toInt x2 ∧ Int32.toInt x2 ≤ 64 by have e_2 : Int32.toInt 1 = 1 := rfl; have f_3 : Int32.toInt x2 = Int32.toInt 1 := congrArg Int32.toInt c_25; omega) (fun h => absurd c_1 h) (Nat.lt_succ_self _) V (lv_sub hl [2, 3, 4, 5, 0] rfl)
    · refine lv_iload_n hx hb dX8_keys_28 rfl (lv_at hl 2 rfl) ?_
      refine lv_iconst (v := 2) hx hb dX8_keys_29 (by decide) ?_
      refine lv_icmp_eq (tgt := 38) hx hb dX8_keys_30 (by decide) (fun c_30 => ?_) (fun c_30 => ?_)
      · refine lv_iconst (v := 1) hx hb dX8_keys_38 (by decide) ?_
        refine lv_goto (tgt := 43) hx hb dX8_keys_39 (by decide) ?_
        refine lv_istore (lv' := [(4, .int 1), (0, .ref (bd 0)), (1, .int x1), (2, .int x2), (3, .int x3)]) hx hb dX8_keys_43 hl (by decide) rfl (fun ls hl => ?_)
        refine lv_iload hx hb dX8_keys_45 (lv_at hl 0 rfl) ?_
        refine lv_if_ne (tgt := 53) hx hb dX8_keys_47 (by decide) (fun _ => ?_) (fun h => absurd h (by decide))
        refine lv_iload_n hx hb dX8_keys_53 rfl (lv_at hl 4 rfl) ?_
        refine lv_if_eq (tgt := 67) hx hb dX8_keys_54 (by decide) (fun _ => ?_) (fun h => absurd c_1 h)
        refine lv_aload_n hx hb dX8_keys_67 rfl (lv_at hl 1 rfl) ?_
        refine lv_iload_n hx hb dX8_keys_68 rfl (lv_at hl 3 rfl) ?_
        refine m_put X V (ws' := (wR cB cI bd (upd v 16 x2) qm ql qs qk qd qn qe qf qo qt qi qy)) 6 0 28 rfl gin_6 tyX8_ok nmX8 rfl (by decide) rfl gm_451 rfl rfl rfl (Nat.le_of_ble_eq_true rfl) dX8_keys_69 rfl (fun H locs V => ?_)
        refine lv_iconst (v := 0) hx hb dX8_keys_72 (by decide) ?_
        refine lv_istore (lv' := [(5, .int 0), (4, .int 1), (0, .ref (bd 0)), (1, .int x1), (2, .int x2), (3, .int x3)]) hx hb dX8_keys_73 hl (by decide) rfl (fun ls hl => ?_)
        rw [show pX8_keys v qm qy x1 x2 x3 = (pX8_keys_lp75 qm x1 x2 x3 ((Int32.toInt x2 - Int32.toInt 0).toNat + 1) (upd v 16 x2) qy 0) from by rw [pX8_keys, if_pos c_1, if_neg c_25, if_pos c_30]]
        exact lpX8_keys_75 X hr hk  ((Int32.toInt x2 - Int32.toInt 0).toNat + 1) (upd v 16 x2) qy 0 _ _ _ (show 0 ≤ Int32.toInt 0 by have z_0 : Int32.toInt 0 = 0 := rfl; omega) (show 0 ≤ Int32.toInt x2 ∧ Int32.toInt x2 ≤ 64 by have e_2 : Int32.toInt 1 = 1 := rfl; have f_3 : ¬ Int32.toInt x2 = Int32.toInt 1 := fun q => c_25 (Int32.toInt_inj.mp q); have e_4 : Int32.toInt 2 = 2 := rfl; have f_5 : Int32.toInt x2 = Int32.toInt 2 := congrArg Int32.toInt c_30; omega) (fun h => absurd c_1 h) (Nat.lt_succ_self _) V (lv_sub hl [2, 3, 4, 5, 0] rfl)
      · refine lv_iload_n hx hb dX8_keys_33 rfl (lv_at hl 2 rfl) ?_
        refine lv_iconst (v := 4) hx hb dX8_keys_34 (by decide) ?_
        refine lv_icmp_ne (tgt := 42) hx hb dX8_keys_35 (by decide) (fun c_35 => ?_) (fun c_35 => ?_)
        · refine lv_iconst (v := 0) hx hb dX8_keys_42 (by decide) ?_
          refine lv_istore (lv' := [(4, .int 0), (0, .ref (bd 0)), (1, .int x1), (2, .int x2), (3, .int x3)]) hx hb dX8_keys_43 hl (by decide) rfl (fun ls hl => ?_)
          refine lv_iload hx hb dX8_keys_45 (lv_at hl 0 rfl) ?_
          refine lv_if_ne (tgt := 53) hx hb dX8_keys_47 (by decide) (fun h => absurd h (by decide)) (fun _ => ?_)
          refine lv_bipush (v := 9) hx hb dX8_keys_50 (by decide) ?_
          have e9 : pX8_keys v qm qy x1 x2 x3 = (9, v, qy) := by rw [pX8_keys, if_pos c_1, if_neg c_25, if_neg c_30, if_neg c_35]
          exact m_iret X hr hk V (by rw [e9]) (by rw [e9]) dX8_keys_52
        · refine lv_iconst (v := 1) hx hb dX8_keys_38 (by decide) ?_
          refine lv_goto (tgt := 43) hx hb dX8_keys_39 (by decide) ?_
          refine lv_istore (lv' := [(4, .int 1), (0, .ref (bd 0)), (1, .int x1), (2, .int x2), (3, .int x3)]) hx hb dX8_keys_43 hl (by decide) rfl (fun ls hl => ?_)
          refine lv_iload hx hb dX8_keys_45 (lv_at hl 0 rfl) ?_
          refine lv_if_ne (tgt := 53) hx hb dX8_keys_47 (by decide) (fun _ => ?_) (fun h => absurd h (by decide))
          refine lv_iload_n hx hb dX8_keys_53 rfl (lv_at hl 4 rfl) ?_
          refine lv_if_eq (tgt := 67) hx hb dX8_keys_54 (by decide) (fun _ => ?_) (fun h => absurd c_1 h)
          refine lv_aload_n hx hb dX8_keys_67 rfl (lv_at hl 1 rfl) ?_
          refine lv_iload_n hx hb dX8_keys_68 rfl (lv_at hl 3 rfl) ?_
          refine m_put X V (ws' := (wR cB cI bd (upd v 16 x2) qm ql qs qk qd qn qe qf qo qt qi qy)) 6 0 28 rfl gin_6 tyX8_ok nmX8 rfl (by decide) rfl gm_451 rfl rfl rfl (Nat.le_of_ble_eq_true rfl) dX8_keys_69 rfl (fun H locs V => ?_)
          refine lv_iconst (v := 0) hx hb dX8_keys_72 (by decide) ?_
          refine lv_istore (lv' := [(5, .int 0), (4, .int 1), (0, .ref (bd 0)), (1, .int x1), (2, .int x2), (3, .int x3)]) hx hb dX8_keys_73 hl (by decide) rfl (fun ls hl => ?_)
          rw [show pX8_keys v qm qy x1 x2 x3 = (pX8_keys_lp75 qm x1 x2 x3 ((Int32.toInt x2 - Int32.toInt 0).toNat + 1) (upd v 16 x2) qy 0) from by rw [pX8_keys, if_pos c_1, if_neg c_25, if_neg c_30, if_pos c_35]]
          exact lpX8_keys_75 X hr hk  ((Int32.toInt x2 - Int32.toInt 0).toNat + 1) (upd v 16 x2) qy 0 _ _ _ (show 0 ≤ Int32.toInt 0 by have z_0 : Int32.toInt 0 = 0 := rfl; omega) (show 0 ≤ Int32.toInt x2 ∧ Int32.toInt x2 ≤ 64 by have e_2 : Int32.toInt 1 = 1 := rfl; have f_3 : ¬ Int32.toInt x2 = Int32.toInt 1 := fun q => c_25 (Int32.toInt_inj.mp q); have e_4 : Int32.toInt 2 = 2 := rfl; have f_5 : ¬ Int32.toInt x2 = Int32.toInt 2 := fun q => c_30 (Int32.toInt_inj.mp q); have e_6 : Int32.toInt 4 = 4 := rfl; have f_7 : Int32.toInt x2 = Int32.toInt 4 := congrArg Int32.toInt c_35; omega) (fun h => absurd c_1 h) (Nat.lt_succ_self _) V (lv_sub hl [2, 3, 4, 5, 0] rfl)
  · refine lv_iload_n hx hb dX8_keys_4 rfl (lv_at hl 2 rfl) ?_
    refine lv_iconst (v := 1) hx hb dX8_keys_5 (by decide) ?_
    refine lv_icmp_lt (tgt := 19) hx hb dX8_keys_6 (by decide) (fun c_6 => ?_) (fun c_6 => ?_)
    · refine lv_iconst (v := 0) hx hb dX8_keys_19 (by decide) ?_
      refine lv_goto (tgt := 43) hx hb dX8_keys_20 (by decide) ?_
      refine lv_istore (lv' := [(4, .int 0), (0, .ref (bd 0)), (1, .int x1), (2, .int x2), (3, .int x3)]) hx hb dX8_keys_43 hl (by decide) rfl (fun ls hl => ?_)
      refine lv_iload hx hb dX8_keys_45 (lv_at hl 0 rfl) ?_
      refine lv_if_ne (tgt := 53) hx hb dX8_keys_47 (by decide) (fun h => absurd h (by decide)) (fun _ => ?_)
      refine lv_bipush (v := 9) hx hb dX8_keys_50 (by decide) ?_
      have e9 : pX8_keys v qm qy x1 x2 x3 = (9, v, qy) := by rw [pX8_keys, if_neg c_1, if_pos c_6]
      exact m_iret X hr hk V (by rw [e9]) (by rw [e9]) dX8_keys_52
    · refine lv_iload_n hx hb dX8_keys_9 rfl (lv_at hl 2 rfl) ?_
      refine lv_bipush (v := 64) hx hb dX8_keys_10 (by decide) ?_
      refine lv_icmp_gt (tgt := 19) hx hb dX8_keys_12 (by decide) (fun c_12 => ?_) (fun c_12 => ?_)
      · refine lv_iconst (v := 0) hx hb dX8_keys_19 (by decide) ?_
        refine lv_goto (tgt := 43) hx hb dX8_keys_20 (by decide) ?_
        refine lv_istore (lv' := [(4, .int 0), (0, .ref (bd 0)), (1, .int x1), (2, .int x2), (3, .int x3)]) hx hb dX8_keys_43 hl (by decide) rfl (fun ls hl => ?_)
        refine lv_iload hx hb dX8_keys_45 (lv_at hl 0 rfl) ?_
        refine lv_if_ne (tgt := 53) hx hb dX8_keys_47 (by decide) (fun h => absurd h (by decide)) (fun _ => ?_)
        refine lv_bipush (v := 9) hx hb dX8_keys_50 (by decide) ?_
        have e9 : pX8_keys v qm qy x1 x2 x3 = (9, v, qy) := by rw [pX8_keys, if_neg c_1, if_neg c_6, if_pos c_12]
        exact m_iret X hr hk V (by rw [e9]) (by rw [e9]) dX8_keys_52
      · refine lv_iconst (v := 1) hx hb dX8_keys_15 (by decide) ?_
        refine lv_goto (tgt := 43) hx hb dX8_keys_16 (by decide) ?_
        refine lv_istore (lv' := [(4, .int 1), (0, .ref (bd 0)), (1, .int x1), (2, .int x2), (3, .int x3)]) hx hb dX8_keys_43 hl (by decide) rfl (fun ls hl => ?_)
        refine lv_iload hx hb dX8_keys_45 (lv_at hl 0 rfl) ?_
        refine lv_if_ne (tgt := 53) hx hb dX8_keys_47 (by decide) (fun _ => ?_) (fun h => absurd h (by decide))
        refine lv_iload_n hx hb dX8_keys_53 rfl (lv_at hl 4 rfl) ?_
        refine lv_if_eq (tgt := 67) hx hb dX8_keys_54 (by decide) (fun h => absurd h c_1) (fun _ => ?_)
        refine lv_iload_n hx hb dX8_keys_57 rfl (lv_at hl 2 rfl) ?_
        refine lv_iload_n hx hb dX8_keys_58 rfl (lv_at hl 3 rfl) ?_
        refine m_S X V (rest := []) (st1 := [.int (pX8_isIn x1 x2)]) (kX8_isIn l D cB cI x1 x2) okX8_isIn gm_544 gm_543 ⟨⟨rfl, rfl⟩, ⟨by decide, by decide⟩, Nat.zero_le _, Nat.zero_le _⟩ rfl hl.1 (Nat.le_of_ble_eq_true rfl) dX8_keys_59 rfl rfl (fun H locs V => ?_)
        refine lv_if_ne (tgt := 67) hx hb dX8_keys_62 (by decide) (fun c_62 => ?_) (fun c_62 => ?_)
        · refine lv_aload_n hx hb dX8_keys_67 rfl (lv_at hl 1 rfl) ?_
          refine lv_iload_n hx hb dX8_keys_68 rfl (lv_at hl 3 rfl) ?_
          refine m_put X V (ws' := (wR cB cI bd (upd v 16 x2) qm ql qs qk qd qn qe qf qo qt qi qy)) 6 0 28 rfl gin_6 tyX8_ok nmX8 rfl (by decide) rfl gm_451 rfl rfl rfl (Nat.le_of_ble_eq_true rfl) dX8_keys_69 rfl (fun H locs V => ?_)
          refine lv_iconst (v := 0) hx hb dX8_keys_72 (by decide) ?_
          refine lv_istore (lv' := [(5, .int 0), (4, .int 1), (0, .ref (bd 0)), (1, .int x1), (2, .int x2), (3, .int x3)]) hx hb dX8_keys_73 hl (by decide) rfl (fun ls hl => ?_)
          rw [show pX8_keys v qm qy x1 x2 x3 = (pX8_keys_lp75 qm x1 x2 x3 ((Int32.toInt x2 - Int32.toInt 0).toNat + 1) (upd v 16 x2) qy 0) from by rw [pX8_keys, if_neg c_1, if_neg c_6, if_neg c_12, if_neg c_62]]
          exact lpX8_keys_75 X hr hk  ((Int32.toInt x2 - Int32.toInt 0).toNat + 1) (upd v 16 x2) qy 0 _ _ _ (show 0 ≤ Int32.toInt 0 by have z_0 : Int32.toInt 0 = 0 := rfl; omega) (show 0 ≤ Int32.toInt x2 ∧ Int32.toInt x2 ≤ 64 by have e_2 : Int32.toInt 1 = 1 := rfl; have f_3 : ¬ Int32.toInt x2 < Int32.toInt 1 := fun q => c_6 (Int32.lt_iff_toInt_lt.mpr q); have e_4 : Int32.toInt 64 = 64 := rfl; have f_5 : ¬ Int32.toInt 64 < Int32.toInt x2 := fun q => c_12 (Int32.lt_iff_toInt_lt.mpr q); have f_6 := isIn_spec (a := x1) (n := x2) (by omega) c_62; omega) (fun _ => (show 0 ≤ Int32.toInt x1 ∧ Int32.toInt x1 + Int32.toInt x2 ≤ 1024 by have e_2 : Int32.toInt 1 = 1 := rfl; have f_3 : ¬ Int32.toInt x2 < Int32.toInt 1 := fun q => c_6 (Int32.lt_iff_toInt_lt.mpr q); have e_4 : Int32.toInt 64 = 64 := rfl; have f_5 : ¬ Int32.toInt 64 < Int32.toInt x2 := fun q => c_12 (Int32.lt_iff_toInt_lt.mpr q); have f_6 := isIn_spec (a := x1) (n := x2) (by omega) c_62; omega)) (Nat.lt_succ_self _) V (lv_sub hl [2, 3, 4, 5, 0] rfl)
        · refine lv_iconst (v := 1) hx hb dX8_keys_65 (by decide) ?_
          have e9 : pX8_keys v qm qy x1 x2 x3 = (1, v, qy) := by rw [pX8_keys, if_neg c_1, if_neg c_6, if_neg c_12, if_pos c_62]
          exact m_iret X hr hk V (by rw [e9]) (by rw [e9]) dX8_keys_66
theorem keys_lp (qm : Nat → Int32) (x1 x2 x3 : Int32) : ∀ (n_ : Nat) (v qy : Nat → Int32) (k5 : Int32), (pX8_keys_lp75 qm x1 x2 x3 n_ v qy k5).2.1 = v := by
  intro n_
  induction n_ with
  | zero => intro v qy k5; rfl
  | succ n_ ih =>
    intro v qy k5
    rw [pX8_keys_lp75]
    by_cases h : x2 ≤ k5
    · rw [if_pos h]
    · rw [if_neg h]
      by_cases h2 : x3 = 0
      · rw [if_pos h2]; exact ih _ _ _
      · rw [if_neg h2]; exact ih _ _ _
theorem keys_sz {v qm qy : Nat → Int32} {x1 x2 x3 : Int32} {u : Int32 × (Nat → Int32) × (Nat → Int32)} (hu : pX8_keys v qm qy x1 x2 x3 = u) (h : u.1 = 0) : 0 ≤ (u.2.1 16).toInt ∧ (u.2.1 16).toInt ≤ 64 := by
  subst hu
  have lf : ∀ (n : Nat), 0 ≤ x2.toInt ∧ x2.toInt ≤ 64 → 0 ≤ ((pX8_keys_lp75 qm x1 x2 x3 n (upd v 16 x2) qy 0).2.1 16).toInt ∧ ((pX8_keys_lp75 qm x1 x2 x3 n (upd v 16 x2) qy 0).2.1 16).toInt ≤ 64 := by
    intro n hx
    rw [keys_lp]
    exact hx
  unfold pX8_keys at h ⊢
  by_cases h1 : x3 = 0
  · rw [if_pos h1] at h ⊢
    by_cases h2 : x2 = 1
    · rw [if_pos h2] at h ⊢; exact lf _ (by rw [h2]; decide)
    rw [if_neg h2] at h ⊢
    by_cases h3 : x2 = 2
    · rw [if_pos h3] at h ⊢; exact lf _ (by rw [h3]; decide)
    rw [if_neg h3] at h ⊢
    by_cases h4 : x2 = 4
    · rw [if_pos h4] at h ⊢; exact lf _ (by rw [h4]; decide)
    rw [if_neg h4] at h
    exact absurd (show (9 : Int32) = 0 from h) (by decide)
  · rw [if_neg h1] at h ⊢
    by_cases h2 : x2 < 1
    · rw [if_pos h2] at h; exact absurd (show (9 : Int32) = 0 from h) (by decide)
    rw [if_neg h2] at h ⊢
    by_cases h3 : 64 < x2
    · rw [if_pos h3] at h; exact absurd (show (9 : Int32) = 0 from h) (by decide)
    rw [if_neg h3] at h ⊢
    by_cases h4 : pX8_isIn x1 x2 = 0
    · rw [if_pos h4] at h; exact absurd (show (1 : Int32) = 0 from h) (by decide)
    rw [if_neg h4] at h ⊢
    refine lf _ ?_
    rw [Int32.lt_iff_toInt_lt] at h2 h3
    have z1 : Int32.toInt 1 = 1 := rfl
    have z2 : Int32.toInt 64 = 64 := rfl
    omega
def pX8_oneByOne_lp3 (v : Nat → Int32) (qm : Nat → Int32) (qo : Nat → Int32) (qy : Nat → Int32) (x1 : Int32) (x2 : Int32) (x3 : Int32) (x4 : Int32) : Nat → (Int32) → Int32
  | 0, k5 => (0)
  | n_ + 1, k5 => (if x3 ≤ k5 then ((-2)) else (if (pX8_isIn ((x1 + (k5 * x2)) + (qo (Int32.toNatClampNeg 5))) (v 16)) = 0 then ((-9)) else (mLet (pX8_beside v qm qy ((x1 + (k5 * x2)) + (qo (Int32.toNatClampNeg 5)))) (fun (u42 : Int32) => (if u42 = 1 then (k5) else (if x4 = 0 then (pX8_oneByOne_lp3 v qm qo qy x1 x2 x3 x4 n_ (k5 + 1)) else (mLet (pX8_isNought v qm ((x1 + (k5 * x2)) + (qo (Int32.toNatClampNeg 5)))) (fun (u60 : Int32) => (if u60 = 0 then (pX8_oneByOne_lp3 v qm qo qy x1 x2 x3 x4 n_ (k5 + 1)) else ((-2)))))))))))
def pX8_oneByOne (v : Nat → Int32) (qm : Nat → Int32) (qo : Nat → Int32) (qy : Nat → Int32) (x1 : Int32) (x2 : Int32) (x3 : Int32) (x4 : Int32) : Int32 := (pX8_oneByOne_lp3 v qm qo qy x1 x2 x3 x4 ((Int32.toInt x3 - Int32.toInt 0).toNat + 1) 0)
theorem okX8_oneByOne : mOk yX8_oneByOne cX8_oneByOne 7 (some .int) 4 := ⟨gm_590, gm_8, by decide +kernel⟩
set_option maxRecDepth 100000 in
set_option maxHeartbeats 4000000 in
theorem lpX8_oneByOne_3 {p : Program} {e : Env} {s : State} {m : MethodId} {args : Array Value} {below : List Frame} {meth : Method} {c : Code} {A : Nat → Prop} {l : Launch} {D : va_G} {cB cI : ClassId} {bd : Nat → Nat} {v : Nat → Int32} {qm : Nat → Int32} {ql : Nat → Int32} {qs : Nat → Int32} {qk : Nat → Int32} {qd : Nat → Int32} {qn : Nat → Int32} {qe : Nat → Int32} {qf : Nat → Int32} {qo : Nat → Int32} {qt : Nat → Int32} {qi : Nat → Int32} {qy : Nat → Int32} {x1 : Int32} {x2 : Int32} {x3 : Int32} {x4 : Int32} (X : mCx p s m args c cX8_oneByOne 7 RX8 D cB cI) (hr : meth.sig.returnType = (some .int)) (hk : meth.locks = false) (hz : 0 ≤ Int32.toInt (v 16) ∧ Int32.toInt (v 16) ≤ 64) (hn : 0 ≤ Int32.toInt x3 ∧ Int32.toInt x3 ≤ 1024) : ∀ (n_ : Nat) (k5 : Int32) (H : Heap) (locs : List Loc) (ls : Array Slot), (0 ≤ Int32.toInt k5) → (Int32.toInt x3 - Int32.toInt k5).toNat < n_ → mWd D A s (wR cB cI bd v qm ql qs qk qd qn qe qf qo qt qi qy) H locs → lv_has ls 7 [(0, .ref (bd 0)), (1, .int x1), (2, .int x2), (3, .int x3), (4, .int x4), (5, .int k5)] → W p l e { frames := 1, cells := 0, slots := 0, locals := 23 } s m args below meth c H locs 0 0 (MQ below (mQ D A (wR cB cI bd v qm ql qs qk qd qn qe qf qo qt qi qy) (some (pX8_oneByOne_lp3 v qm qo qy x1 x2 x3 x4 n_ k5))) args s 0 0 A) (F0 m 3 ls []) := by
  have hx := X.1.1
  have hb := X.1.2.1
  intro n_
  induction n_ with
  | zero =>
    intro k5 H locs ls hk5 hm V hl
    exact absurd hm (Nat.not_lt_zero _)
  | succ n_ ih =>
    intro k5 H locs ls hk5 hm V hl
    refine lv_iload hx hb dX8_oneByOne_3 (lv_at hl 5 rfl) ?_
    refine lv_iload_n hx hb dX8_oneByOne_5 rfl (lv_at hl 3 rfl) ?_
    refine lv_icmp_ge (tgt := 75) hx hb dX8_oneByOne_6 (by decide) (fun c_6 => ?_) (fun c_6 => ?_)
    · refine lv_bipush (v := (-2)) hx hb dX8_oneByOne_75 (by decide) ?_
      have e9 : pX8_oneByOne_lp3 v qm qo qy x1 x2 x3 x4 (n_ + 1) k5 = ((-2)) := by rw [pX8_oneByOne_lp3, if_pos c_6]
      exact m_iret X hr hk V (by rw [e9]) rfl dX8_oneByOne_77
    · refine lv_iload_n hx hb dX8_oneByOne_9 rfl (lv_at hl 1 rfl) ?_
      refine lv_iload hx hb dX8_oneByOne_10 (lv_at hl 5 rfl) ?_
      refine lv_iload_n hx hb dX8_oneByOne_12 rfl (lv_at hl 2 rfl) ?_
      refine lv_imul hx hb dX8_oneByOne_13 ?_
      refine lv_iadd hx hb dX8_oneByOne_14 ?_
      refine lv_aload_n hx hb dX8_oneByOne_15 rfl (lv_at hl 0 rfl) ?_
      refine m_get X V 6 0 21 rfl gin_6 rfl (by decide) rfl gm_444 (v := .ref (bd 9)) rfl dX8_oneByOne_16 ?_
      refine lv_iconst (v := 5) hx hb dX8_oneByOne_19 (by decide) ?_
      refine m_iald X V 9 rfl (by rw [vp_in_iff]; decide) dX8_oneByOne_20 ?_
      refine lv_iadd hx hb dX8_oneByOne_21 ?_
      refine lv_istore (lv' := [(6, .int ((x1 + (k5 * x2)) + (qo (Int32.toNatClampNeg 5)))), (0, .ref (bd 0)), (1, .int x1), (2, .int x2), (3, .int x3), (4, .int x4), (5, .int k5)]) hx hb dX8_oneByOne_22 hl (by decide) rfl (fun ls hl => ?_)
      refine lv_iload hx hb dX8_oneByOne_24 (lv_at hl 0 rfl) ?_
      refine lv_aload_n hx hb dX8_oneByOne_26 rfl (lv_at hl 1 rfl) ?_
      refine m_get X V 6 0 28 rfl gin_6 rfl (by decide) rfl gm_451 (v := .int (v 16)) rfl dX8_oneByOne_27 ?_
      refine m_S X V (rest := []) (st1 := [.int (pX8_isIn ((x1 + (k5 * x2)) + (qo (Int32.toNatClampNeg 5))) (v 16))]) (kX8_isIn l D cB cI ((x1 + (k5 * x2)) + (qo (Int32.toNatClampNeg 5))) (v 16)) okX8_isIn gm_544 gm_543 ⟨⟨rfl, rfl⟩, ⟨by decide, by decide⟩, Nat.zero_le _, Nat.zero_le _⟩ rfl hl.1 (Nat.le_of_ble_eq_true rfl) dX8_oneByOne_30 rfl rfl (fun H locs V => ?_)
      refine lv_if_ne (tgt := 39) hx hb dX8_oneByOne_33 (by decide) (fun c_33 => ?_) (fun c_33 => ?_)
      · refine lv_aload_n hx hb dX8_oneByOne_39 rfl (lv_at hl 1 rfl) ?_
        refine lv_iload hx hb dX8_oneByOne_40 (lv_at hl 0 rfl) ?_
        obtain ⟨u42, hu42⟩ : ∃ u, pX8_beside v qm qy ((x1 + (k5 * x2)) + (qo (Int32.toNatClampNeg 5))) = u := ⟨_, rfl⟩
        have hM := kX8_beside l D cB cI bd v qm ql qs qk qd qn qe qf qo qt qi qy ((x1 + (k5 * x2)) + (qo (Int32.toNatClampNeg 5))) (show 0 ≤ Int32.toInt ((x1 + (k5 * x2)) + (qo (Int32.toNatClampNeg 5))) ∧ Int32.toInt ((x1 + (k5 * x2)) + (qo (Int32.toNatClampNeg 5))) + Int32.toInt (v 16) ≤ 1024 by have f_3 : ¬ Int32.toInt x3 ≤ Int32.toInt k5 := fun q => c_6 (Int32.le_iff_toInt_le.mpr q); have f_5 := isIn_spec (a := ((x1 + (k5 * x2)) + (qo (Int32.toNatClampNeg 5)))) (n := (v 16)) (by omega) c_33; omega) (show 0 ≤ Int32.toInt (v 16) ∧ Int32.toInt (v 16) ≤ 64 by have f_3 : ¬ Int32.toInt x3 ≤ Int32.toInt k5 := fun q => c_6 (Int32.le_iff_toInt_le.mpr q); have f_5 := isIn_spec (a := ((x1 + (k5 * x2)) + (qo (Int32.toNatClampNeg 5)))) (n := (v 16)) (by omega) c_33; omega)
        rw [hu42] at hM
        refine m_VA X V (w1 := (wR cB cI bd v qm ql qs qk qd qn qe qf qo qt qi qy)) (rest := []) (st1 := [.int u42]) hM okX8_beside gm_592 gm_713 gm_591 ⟨⟨rfl, rfl⟩, ⟨by decide, by decide⟩, Nat.zero_le _, Nat.zero_le _⟩ rfl rfl (wR_fst _ _ _ _ _ _ _ _ _ _ _ _ _ _ _ _) (wR_fst _ _ _ _ _ _ _ _ _ _ _ _ _ _ _ _) rfl hl.1 (Nat.le_of_ble_eq_true rfl) dX8_oneByOne_42 rfl rfl (fun H locs V => ?_)
        refine lv_iconst (v := 1) hx hb dX8_oneByOne_45 (by decide) ?_
        refine lv_icmp_ne (tgt := 52) hx hb dX8_oneByOne_46 (by decide) (fun c_46 => ?_) (fun c_46 => ?_)
        · refine lv_iload hx hb dX8_oneByOne_52 (lv_at hl 5 rfl) ?_
          refine lv_if_eq (tgt := 69) hx hb dX8_oneByOne_54 (by decide) (fun c_54 => ?_) (fun c_54 => ?_)
          · refine lv_iinc (v := (k5 + 1)) (lv' := [(5, .int (k5 + 1)), (6, .int ((x1 + (k5 * x2)) + (qo (Int32.toNatClampNeg 5)))), (0, .ref (bd 0)), (1, .int x1), (2, .int x2), (3, .int x3), (4, .int x4)]) hx hb dX8_oneByOne_69 hl (k := 6) rfl rfl (by decide) rfl (fun ls hl => ?_)
            refine lv_goto (tgt := 3) hx hb dX8_oneByOne_72 (by decide) ?_
            rw [show pX8_oneByOne_lp3 v qm qo qy x1 x2 x3 x4 (n_ + 1) k5 = pX8_oneByOne_lp3 v qm qo qy x1 x2 x3 x4 n_ (k5 + 1) from by rw [pX8_oneByOne_lp3, if_neg c_6, if_neg c_33, hu42, mLet_eq, if_neg c_46, if_pos c_54]]
            exact ih (k5 + 1) _ _ _ (show 0 ≤ Int32.toInt (k5 + 1) by have f_3 : ¬ Int32.toInt x3 ≤ Int32.toInt k5 := fun q => c_6 (Int32.le_iff_toInt_le.mpr q); have f_5 := isIn_spec (a := ((x1 + (k5 * x2)) + (qo (Int32.toNatClampNeg 5)))) (n := (v 16)) (by omega) c_33; have e_6 : Int32.toInt 1 = 1 := rfl; have e_7 : Int32.toInt (k5 + 1) = Int32.toInt k5 + Int32.toInt 1 := ti_add (by omega) (by omega); omega) (ms_up c_6 hm) V (lv_sub hl [2, 3, 4, 5, 6, 0] rfl)
          · refine lv_aload_n hx hb dX8_oneByOne_57 rfl (lv_at hl 1 rfl) ?_
            refine lv_iload hx hb dX8_oneByOne_58 (lv_at hl 0 rfl) ?_
            obtain ⟨u60, hu60⟩ : ∃ u, pX8_isNought v qm ((x1 + (k5 * x2)) + (qo (Int32.toNatClampNeg 5))) = u := ⟨_, rfl⟩
            have hM := kX8_isNought l D cB cI bd v qm ql qs qk qd qn qe qf qo qt qi qy ((x1 + (k5 * x2)) + (qo (Int32.toNatClampNeg 5))) (show 0 ≤ Int32.toInt ((x1 + (k5 * x2)) + (qo (Int32.toNatClampNeg 5))) ∧ Int32.toInt ((x1 + (k5 * x2)) + (qo (Int32.toNatClampNeg 5))) + Int32.toInt (v 16) ≤ 1024 by have f_3 : ¬ Int32.toInt x3 ≤ Int32.toInt k5 := fun q => c_6 (Int32.le_iff_toInt_le.mpr q); have f_5 := isIn_spec (a := ((x1 + (k5 * x2)) + (qo (Int32.toNatClampNeg 5)))) (n := (v 16)) (by omega) c_33; omega) (show 0 ≤ Int32.toInt (v 16) ∧ Int32.toInt (v 16) ≤ 64 by have f_3 : ¬ Int32.toInt x3 ≤ Int32.toInt k5 := fun q => c_6 (Int32.le_iff_toInt_le.mpr q); have f_5 := isIn_spec (a := ((x1 + (k5 * x2)) + (qo (Int32.toNatClampNeg 5)))) (n := (v 16)) (by omega) c_33; omega)
            rw [hu60] at hM
            refine m_VA X V (w1 := (wR cB cI bd v qm ql qs qk qd qn qe qf qo qt qi qy)) (rest := []) (st1 := [.int u60]) hM okX8_isNought gm_595 gm_714 gm_594 ⟨⟨rfl, rfl⟩, ⟨by decide, by decide⟩, Nat.zero_le _, Nat.zero_le _⟩ rfl rfl (wR_fst _ _ _ _ _ _ _ _ _ _ _ _ _ _ _ _) (wR_fst _ _ _ _ _ _ _ _ _ _ _ _ _ _ _ _) rfl hl.1 (Nat.le_of_ble_eq_true rfl) dX8_oneByOne_60 rfl rfl (fun H locs V => ?_)
            refine lv_if_eq (tgt := 69) hx hb dX8_oneByOne_63 (by decide) (fun c_63 => ?_) (fun c_63 => ?_)
            · refine lv_iinc (v := (k5 + 1)) (lv' := [(5, .int (k5 + 1)), (6, .int ((x1 + (k5 * x2)) + (qo (Int32.toNatClampNeg 5)))), (0, .ref (bd 0)), (1, .int x1), (2, .int x2), (3, .int x3), (4, .int x4)]) hx hb dX8_oneByOne_69 hl (k := 6) rfl rfl (by decide) rfl (fun ls hl => ?_)
              refine lv_goto (tgt := 3) hx hb dX8_oneByOne_72 (by decide) ?_
              rw [show pX8_oneByOne_lp3 v qm qo qy x1 x2 x3 x4 (n_ + 1) k5 = pX8_oneByOne_lp3 v qm qo qy x1 x2 x3 x4 n_ (k5 + 1) from by rw [pX8_oneByOne_lp3, if_neg c_6, if_neg c_33, hu42, mLet_eq, if_neg c_46, if_neg c_54, hu60, mLet_eq, if_pos c_63]]
              exact ih (k5 + 1) _ _ _ (show 0 ≤ Int32.toInt (k5 + 1) by have f_3 : ¬ Int32.toInt x3 ≤ Int32.toInt k5 := fun q => c_6 (Int32.le_iff_toInt_le.mpr q); have f_5 := isIn_spec (a := ((x1 + (k5 * x2)) + (qo (Int32.toNatClampNeg 5)))) (n := (v 16)) (by omega) c_33; have e_6 : Int32.toInt 1 = 1 := rfl; have e_7 : Int32.toInt (k5 + 1) = Int32.toInt k5 + Int32.toInt 1 := ti_add (by omega) (by omega); omega) (ms_up c_6 hm) V (lv_sub hl [2, 3, 4, 5, 6, 0] rfl)
            · refine lv_bipush (v := (-2)) hx hb dX8_oneByOne_66 (by decide) ?_
              have e9 : pX8_oneByOne_lp3 v qm qo qy x1 x2 x3 x4 (n_ + 1) k5 = ((-2)) := by rw [pX8_oneByOne_lp3, if_neg c_6, if_neg c_33, hu42, mLet_eq, if_neg c_46, if_neg c_54, hu60, mLet_eq, if_neg c_63]
              exact m_iret X hr hk V (by rw [e9]) rfl dX8_oneByOne_68
        · refine lv_iload hx hb dX8_oneByOne_49 (lv_at hl 6 rfl) ?_
          have e9 : pX8_oneByOne_lp3 v qm qo qy x1 x2 x3 x4 (n_ + 1) k5 = (k5) := by rw [pX8_oneByOne_lp3, if_neg c_6, if_neg c_33, hu42, mLet_eq, if_pos c_46]
          exact m_iret X hr hk V (by rw [e9]) rfl dX8_oneByOne_51
      · refine lv_bipush (v := (-9)) hx hb dX8_oneByOne_36 (by decide) ?_
        have e9 : pX8_oneByOne_lp3 v qm qo qy x1 x2 x3 x4 (n_ + 1) k5 = ((-9)) := by rw [pX8_oneByOne_lp3, if_neg c_6, if_pos c_33]
        exact m_iret X hr hk V (by rw [e9]) rfl dX8_oneByOne_38
set_option maxRecDepth 100000 in
set_option maxHeartbeats 4000000 in
theorem kX8_oneByOne (l : Launch) (D : va_G) (cB cI : ClassId) (bd : Nat → Nat) (v : Nat → Int32) (qm : Nat → Int32) (ql : Nat → Int32) (qs : Nat → Int32) (qk : Nat → Int32) (qd : Nat → Int32) (qn : Nat → Int32) (qe : Nat → Int32) (qf : Nat → Int32) (qo : Nat → Int32) (qt : Nat → Int32) (qi : Nat → Int32) (qy : Nat → Int32) (x1 : Int32) (x2 : Int32) (x3 : Int32) (x4 : Int32) (hz : 0 ≤ Int32.toInt (v 16) ∧ Int32.toInt (v 16) ≤ 64) (hn : 0 ≤ Int32.toInt x3 ∧ Int32.toInt x3 ≤ 1024) : mM l D cB cI yX8_oneByOne cX8_oneByOne 7 (some .int) { frames := 1, cells := 0, slots := 0, locals := 23 } [.ref (bd 0), .int x1, .int x2, .int x3, .int x4] (wR cB cI bd v qm ql qs qk qd qn qe qf qo qt qi qy) (some (pX8_oneByOne v qm qo qy x1 x2 x3 x4)) (wR cB cI bd v qm ql qs qk qd qn qe qf qo qt qi qy) := by
  refine m_start (by decide +kernel) (Nat.le_of_ble_eq_true rfl) ?_
  intro p e s m below meth c A ls X hr hk V hl
  have X : mCx p s m _ c cX8_oneByOne 7 RX8 D cB cI := X
  have hx := X.1.1
  have hb := X.1.2.1
  have hl : lv_has ls 7 [(0, .ref (bd 0)), (1, .int x1), (2, .int x2), (3, .int x3), (4, .int x4)] := hl
  refine lv_iconst (v := 0) hx hb dX8_oneByOne_0 (by decide) ?_
  refine lv_istore (lv' := [(5, .int 0), (0, .ref (bd 0)), (1, .int x1), (2, .int x2), (3, .int x3), (4, .int x4)]) hx hb dX8_oneByOne_1 hl (by decide) rfl (fun ls hl => ?_)
  rw [show pX8_oneByOne v qm qo qy x1 x2 x3 x4 = (pX8_oneByOne_lp3 v qm qo qy x1 x2 x3 x4 ((Int32.toInt x3 - Int32.toInt 0).toNat + 1) 0) from by rw [pX8_oneByOne]]
  exact lpX8_oneByOne_3 X hr hk hz hn ((Int32.toInt x3 - Int32.toInt 0).toNat + 1) 0 _ _ _ (show 0 ≤ Int32.toInt 0 by have z_0 : Int32.toInt 0 = 0 := rfl; omega) (Nat.lt_succ_self _) V (lv_sub hl [1, 2, 3, 4, 5, 0] rfl)
def pX8_byHalves_lp6 (v : Nat → Int32) (qm : Nat → Int32) (qo : Nat → Int32) (qy : Nat → Int32) (x1 : Int32) (x2 : Int32) : Nat → (Int32) → (Int32) → Int32
  | 0, k4, k5 => (0)
  | n_ + 1, k4, k5 => (if k5 ≤ k4 then ((-2)) else (if (pX8_isIn ((x1 + (((k4 + k5) / 2) * x2)) + (qo (Int32.toNatClampNeg 5))) (v 16)) = 0 then ((-9)) else (mLet (pX8_beside v qm qy ((x1 + (((k4 + k5) / 2) * x2)) + (qo (Int32.toNatClampNeg 5)))) (fun (u55 : Int32) => (if u55 = 1 then (((k4 + k5) / 2)) else (if u55 = 0 then (pX8_byHalves_lp6 v qm qo qy x1 x2 n_ (((k4 + k5) / 2) + 1) k5) else (pX8_byHalves_lp6 v qm qo qy x1 x2 n_ k4 ((k4 + k5) / 2))))))))
def pX8_byHalves (v : Nat → Int32) (qm : Nat → Int32) (qo : Nat → Int32) (qy : Nat → Int32) (x1 : Int32) (x2 : Int32) (x3 : Int32) : Int32 := (pX8_byHalves_lp6 v qm qo qy x1 x2 ((Int32.toInt x3 - Int32.toInt 0).toNat + 1) 0 x3)
theorem okX8_byHalves : mOk yX8_byHalves cX8_byHalves 9 (some .int) 3 := ⟨gm_599, gm_8, by decide +kernel⟩
set_option maxRecDepth 100000 in
set_option maxHeartbeats 4000000 in
theorem lpX8_byHalves_6 {p : Program} {e : Env} {s : State} {m : MethodId} {args : Array Value} {below : List Frame} {meth : Method} {c : Code} {A : Nat → Prop} {l : Launch} {D : va_G} {cB cI : ClassId} {bd : Nat → Nat} {v : Nat → Int32} {qm : Nat → Int32} {ql : Nat → Int32} {qs : Nat → Int32} {qk : Nat → Int32} {qd : Nat → Int32} {qn : Nat → Int32} {qe : Nat → Int32} {qf : Nat → Int32} {qo : Nat → Int32} {qt : Nat → Int32} {qi : Nat → Int32} {qy : Nat → Int32} {x1 : Int32} {x2 : Int32} {x3 : Int32} (X : mCx p s m args c cX8_byHalves 9 RX8 D cB cI) (hr : meth.sig.returnType = (some .int)) (hk : meth.locks = false) (hz : 0 ≤ Int32.toInt (v 16) ∧ Int32.toInt (v 16) ≤ 64) (hn : 0 ≤ Int32.toInt x3 ∧ Int32.toInt x3 ≤ 1024) : ∀ (n_ : Nat) (k4 : Int32) (k5 : Int32) (H : Heap) (locs : List Loc) (ls : Array Slot), (0 ≤ Int32.toInt k4) → (Int32.toInt k4 ≤ Int32.toInt k5) → (Int32.toInt k5 ≤ 1024) → (Int32.toInt k5 - Int32.toInt k4).toNat < n_ → mWd D A s (wR cB cI bd v qm ql qs qk qd qn qe qf qo qt qi qy) H locs → lv_has ls 9 [(0, .ref (bd 0)), (1, .int x1), (2, .int x2), (4, .int k4), (5, .int k5)] → W p l e { frames := 1, cells := 0, slots := 0, locals := 22 } s m args below meth c H locs 0 0 (MQ below (mQ D A (wR cB cI bd v qm ql qs qk qd qn qe qf qo qt qi qy) (some (pX8_byHalves_lp6 v qm qo qy x1 x2 n_ k4 k5))) args s 0 0 A) (F0 m 6 ls []) := by
  have hx := X.1.1
  have hb := X.1.2.1
  intro n_
  induction n_ with
  | zero =>
    intro k4 k5 H locs ls ha hb5 hc hm V hl
    exact absurd hm (Nat.not_lt_zero _)
  | succ n_ ih =>
    intro k4 k5 H locs ls ha hb5 hc hm V hl
    refine lv_iload hx hb dX8_byHalves_6 (lv_at hl 3 rfl) ?_
    refine lv_iload hx hb dX8_byHalves_8 (lv_at hl 4 rfl) ?_
    refine lv_icmp_ge (tgt := 102) hx hb dX8_byHalves_10 (by decide) (fun c_10 => ?_) (fun c_10 => ?_)
    · refine lv_bipush (v := (-2)) hx hb dX8_byHalves_102 (by decide) ?_
      have e9 : pX8_byHalves_lp6 v qm qo qy x1 x2 (n_ + 1) k4 k5 = ((-2)) := by rw [pX8_byHalves_lp6, if_pos c_10]
      exact m_iret X hr hk V (by rw [e9]) rfl dX8_byHalves_104
    · refine lv_iload hx hb dX8_byHalves_13 (lv_at hl 3 rfl) ?_
      refine lv_iload hx hb dX8_byHalves_15 (lv_at hl 4 rfl) ?_
      refine lv_iadd hx hb dX8_byHalves_17 ?_
      refine lv_iconst (v := 2) hx hb dX8_byHalves_18 (by decide) ?_
      refine lv_idiv hx hb dX8_byHalves_19 (by decide) ?_
      refine lv_istore (lv' := [(6, .int ((k4 + k5) / 2)), (0, .ref (bd 0)), (1, .int x1), (2, .int x2), (4, .int k4), (5, .int k5)]) hx hb dX8_byHalves_20 hl (by decide) rfl (fun ls hl => ?_)
      refine lv_iload_n hx hb dX8_byHalves_22 rfl (lv_at hl 2 rfl) ?_
      refine lv_iload hx hb dX8_byHalves_23 (lv_at hl 0 rfl) ?_
      refine lv_iload_n hx hb dX8_byHalves_25 rfl (lv_at hl 3 rfl) ?_
      refine lv_imul hx hb dX8_byHalves_26 ?_
      refine lv_iadd hx hb dX8_byHalves_27 ?_
      refine lv_aload_n hx hb dX8_byHalves_28 rfl (lv_at hl 1 rfl) ?_
      refine m_get X V 6 0 21 rfl gin_6 rfl (by decide) rfl gm_444 (v := .ref (bd 9)) rfl dX8_byHalves_29 ?_
      refine lv_iconst (v := 5) hx hb dX8_byHalves_32 (by decide) ?_
      refine m_iald X V 9 rfl (by rw [vp_in_iff]; decide) dX8_byHalves_33 ?_
      refine lv_iadd hx hb dX8_byHalves_34 ?_
      refine lv_istore (lv' := [(7, .int ((x1 + (((k4 + k5) / 2) * x2)) + (qo (Int32.toNatClampNeg 5)))), (6, .int ((k4 + k5) / 2)), (0, .ref (bd 0)), (1, .int x1), (2, .int x2), (4, .int k4), (5, .int k5)]) hx hb dX8_byHalves_35 hl (by decide) rfl (fun ls hl => ?_)
      refine lv_iload hx hb dX8_byHalves_37 (lv_at hl 0 rfl) ?_
      refine lv_aload_n hx hb dX8_byHalves_39 rfl (lv_at hl 2 rfl) ?_
      refine m_get X V 6 0 28 rfl gin_6 rfl (by decide) rfl gm_451 (v := .int (v 16)) rfl dX8_byHalves_40 ?_
      refine m_S X V (rest := []) (st1 := [.int (pX8_isIn ((x1 + (((k4 + k5) / 2) * x2)) + (qo (Int32.toNatClampNeg 5))) (v 16))]) (kX8_isIn l D cB cI ((x1 + (((k4 + k5) / 2) * x2)) + (qo (Int32.toNatClampNeg 5))) (v 16)) okX8_isIn gm_544 gm_543 ⟨⟨rfl, rfl⟩, ⟨by decide, by decide⟩, Nat.zero_le _, Nat.zero_le _⟩ rfl hl.1 (Nat.le_of_ble_eq_true rfl) dX8_byHalves_43 rfl rfl (fun H locs V => ?_)
      refine lv_if_ne (tgt := 52) hx hb dX8_byHalves_46 (by decide) (fun c_46 => ?_) (fun c_46 => ?_)
      · refine lv_aload_n hx hb dX8_byHalves_52 rfl (lv_at hl 2 rfl) ?_
        refine lv_iload hx hb dX8_byHalves_53 (lv_at hl 0 rfl) ?_
        obtain ⟨u55, hu55⟩ : ∃ u, pX8_beside v qm qy ((x1 + (((k4 + k5) / 2) * x2)) + (qo (Int32.toNatClampNeg 5))) = u := ⟨_, rfl⟩
        have hM := kX8_beside l D cB cI bd v qm ql qs qk qd qn qe qf qo qt qi qy ((x1 + (((k4 + k5) / 2) * x2)) + (qo (Int32.toNatClampNeg 5))) (show 0 ≤ Int32.toInt ((x1 + (((k4 + k5) / 2) * x2)) + (qo (Int32.toNatClampNeg 5))) ∧ Int32.toInt ((x1 + (((k4 + k5) / 2) * x2)) + (qo (Int32.toNatClampNeg 5))) + Int32.toInt (v 16) ≤ 1024 by have f_3 : ¬ Int32.toInt k5 ≤ Int32.toInt k4 := fun q => c_10 (Int32.le_iff_toInt_le.mpr q); have f_5 := isIn_spec (a := ((x1 + (((k4 + k5) / 2) * x2)) + (qo (Int32.toNatClampNeg 5)))) (n := (v 16)) (by omega) c_46; omega) (show 0 ≤ Int32.toInt (v 16) ∧ Int32.toInt (v 16) ≤ 64 by have f_3 : ¬ Int32.toInt k5 ≤ Int32.toInt k4 := fun q => c_10 (Int32.le_iff_toInt_le.mpr q); have f_5 := isIn_spec (a := ((x1 + (((k4 + k5) / 2) * x2)) + (qo (Int32.toNatClampNeg 5)))) (n := (v 16)) (by omega) c_46; omega)
        rw [hu55] at hM
        refine m_VA X V (w1 := (wR cB cI bd v qm ql qs qk qd qn qe qf qo qt qi qy)) (rest := []) (st1 := [.int u55]) hM okX8_beside gm_592 gm_713 gm_591 ⟨⟨rfl, rfl⟩, ⟨by decide, by decide⟩, Nat.zero_le _, Nat.zero_le _⟩ rfl rfl (wR_fst _ _ _ _ _ _ _ _ _ _ _ _ _ _ _ _) (wR_fst _ _ _ _ _ _ _ _ _ _ _ _ _ _ _ _) rfl hl.1 (Nat.le_of_ble_eq_true rfl) dX8_byHalves_55 rfl rfl (fun H locs V => ?_)
        refine lv_istore (lv' := [(8, .int u55), (7, .int ((x1 + (((k4 + k5) / 2) * x2)) + (qo (Int32.toNatClampNeg 5)))), (6, .int ((k4 + k5) / 2)), (0, .ref (bd 0)), (1, .int x1), (2, .int x2), (4, .int k4), (5, .int k5)]) hx hb dX8_byHalves_58 hl (by decide) rfl (fun ls hl => ?_)
        refine lv_iload hx hb dX8_byHalves_60 (lv_at hl 0 rfl) ?_
        refine lv_iconst (v := 1) hx hb dX8_byHalves_62 (by decide) ?_
        refine lv_icmp_ne (tgt := 69) hx hb dX8_byHalves_63 (by decide) (fun c_63 => ?_) (fun c_63 => ?_)
        · refine lv_iload hx hb dX8_byHalves_69 (lv_at hl 0 rfl) ?_
          refine lv_if_ne (tgt := 81) hx hb dX8_byHalves_71 (by decide) (fun c_71 => ?_) (fun c_71 => ?_)
          · refine lv_iload hx hb dX8_byHalves_81 (lv_at hl 6 rfl) ?_
            refine lv_istore (lv' := [(4, .int k4), (8, .int u55), (7, .int ((x1 + (((k4 + k5) / 2) * x2)) + (qo (Int32.toNatClampNeg 5)))), (6, .int ((k4 + k5) / 2)), (0, .ref (bd 0)), (1, .int x1), (2, .int x2), (5, .int k5)]) hx hb dX8_byHalves_83 hl (by decide) rfl (fun ls hl => ?_)
            refine lv_iload hx hb dX8_byHalves_85 (lv_at hl 1 rfl) ?_
            refine lv_if_ne (tgt := 95) hx hb dX8_byHalves_87 (by decide) (fun _ => ?_) (fun h => absurd h c_71)
            refine lv_iload hx hb dX8_byHalves_95 (lv_at hl 3 rfl) ?_
            refine lv_istore (lv' := [(5, .int ((k4 + k5) / 2)), (4, .int k4), (8, .int u55), (7, .int ((x1 + (((k4 + k5) / 2) * x2)) + (qo (Int32.toNatClampNeg 5)))), (6, .int ((k4 + k5) / 2)), (0, .ref (bd 0)), (1, .int x1), (2, .int x2)]) hx hb dX8_byHalves_97 hl (by decide) rfl (fun ls hl => ?_)
            refine lv_goto (tgt := 6) hx hb dX8_byHalves_99 (by decide) ?_
            rw [show pX8_byHalves_lp6 v qm qo qy x1 x2 (n_ + 1) k4 k5 = pX8_byHalves_lp6 v qm qo qy x1 x2 n_ k4 ((k4 + k5) / 2) from by rw [pX8_byHalves_lp6, if_neg c_10, if_neg c_46, hu55, mLet_eq, if_neg c_63, if_neg c_71]]
            exact ih k4 ((k4 + k5) / 2) _ _ _ (show 0 ≤ Int32.toInt k4 by have e_h : Int32.toInt (k4 + k5) = Int32.toInt k4 + Int32.toInt k5 := ti_add (by omega) (by omega); have e_g : Int32.toInt ((k4 + k5) / 2) = Int32.toInt (k4 + k5) / 2 := ti_div (by omega) rfl (by omega); have f_3 : ¬ Int32.toInt k5 ≤ Int32.toInt k4 := fun q => c_10 (Int32.le_iff_toInt_le.mpr q); have f_5 := isIn_spec (a := ((x1 + (((k4 + k5) / 2) * x2)) + (qo (Int32.toNatClampNeg 5)))) (n := (v 16)) (by omega) c_46; have e_6 : Int32.toInt (k4 + k5) = Int32.toInt k4 + Int32.toInt k5 := ti_add (by omega) (by omega); have e_7 : Int32.toInt 2 = 2 := rfl; have e_8 : Int32.toInt ((k4 + k5) / 2) = Int32.toInt (k4 + k5) / 2 := ti_div (by omega) rfl (by omega); omega) (show Int32.toInt k4 ≤ Int32.toInt ((k4 + k5) / 2) by have e_h : Int32.toInt (k4 + k5) = Int32.toInt k4 + Int32.toInt k5 := ti_add (by omega) (by omega); have e_g : Int32.toInt ((k4 + k5) / 2) = Int32.toInt (k4 + k5) / 2 := ti_div (by omega) rfl (by omega); have f_3 : ¬ Int32.toInt k5 ≤ Int32.toInt k4 := fun q => c_10 (Int32.le_iff_toInt_le.mpr q); have f_5 := isIn_spec (a := ((x1 + (((k4 + k5) / 2) * x2)) + (qo (Int32.toNatClampNeg 5)))) (n := (v 16)) (by omega) c_46; have e_6 : Int32.toInt (k4 + k5) = Int32.toInt k4 + Int32.toInt k5 := ti_add (by omega) (by omega); have e_7 : Int32.toInt 2 = 2 := rfl; have e_8 : Int32.toInt ((k4 + k5) / 2) = Int32.toInt (k4 + k5) / 2 := ti_div (by omega) rfl (by omega); omega) (show Int32.toInt ((k4 + k5) / 2) ≤ 1024 by have e_h : Int32.toInt (k4 + k5) = Int32.toInt k4 + Int32.toInt k5 := ti_add (by omega) (by omega); have e_g : Int32.toInt ((k4 + k5) / 2) = Int32.toInt (k4 + k5) / 2 := ti_div (by omega) rfl (by omega); have f_3 : ¬ Int32.toInt k5 ≤ Int32.toInt k4 := fun q => c_10 (Int32.le_iff_toInt_le.mpr q); have f_5 := isIn_spec (a := ((x1 + (((k4 + k5) / 2) * x2)) + (qo (Int32.toNatClampNeg 5)))) (n := (v 16)) (by omega) c_46; have e_6 : Int32.toInt (k4 + k5) = Int32.toInt k4 + Int32.toInt k5 := ti_add (by omega) (by omega); have e_7 : Int32.toInt 2 = 2 := rfl; have e_8 : Int32.toInt ((k4 + k5) / 2) = Int32.toInt (k4 + k5) / 2 := ti_div (by omega) rfl (by omega); omega) (show (Int32.toInt ((k4 + k5) / 2) - Int32.toInt k4).toNat < n_ by have f_3 : ¬ Int32.toInt k5 ≤ Int32.toInt k4 := fun q => c_10 (Int32.le_iff_toInt_le.mpr q); have f_5 := isIn_spec (a := ((x1 + (((k4 + k5) / 2) * x2)) + (qo (Int32.toNatClampNeg 5)))) (n := (v 16)) (by omega) c_46; have e_6 : Int32.toInt (k4 + k5) = Int32.toInt k4 + Int32.toInt k5 := ti_add (by omega) (by omega); have e_7 : Int32.toInt 2 = 2 := rfl; have e_8 : Int32.toInt ((k4 + k5) / 2) = Int32.toInt (k4 + k5) / 2 := ti_div (by omega) rfl (by omega); omega) V (lv_sub hl [5, 6, 7, 1, 0] rfl)
          · refine lv_iload hx hb dX8_byHalves_74 (lv_at hl 2 rfl) ?_
            refine lv_iconst (v := 1) hx hb dX8_byHalves_76 (by decide) ?_
            refine lv_iadd hx hb dX8_byHalves_77 ?_
            refine lv_goto (tgt := 83) hx hb dX8_byHalves_78 (by decide) ?_
            refine lv_istore (lv' := [(4, .int (((k4 + k5) / 2) + 1)), (8, .int u55), (7, .int ((x1 + (((k4 + k5) / 2) * x2)) + (qo (Int32.toNatClampNeg 5)))), (6, .int ((k4 + k5) / 2)), (0, .ref (bd 0)), (1, .int x1), (2, .int x2), (5, .int k5)]) hx hb dX8_byHalves_83 hl (by decide) rfl (fun ls hl => ?_)
            refine lv_iload hx hb dX8_byHalves_85 (lv_at hl 1 rfl) ?_
            refine lv_if_ne (tgt := 95) hx hb dX8_byHalves_87 (by decide) (fun h => absurd c_71 h) (fun _ => ?_)
            refine lv_iload hx hb dX8_byHalves_90 (lv_at hl 7 rfl) ?_
            refine lv_goto (tgt := 97) hx hb dX8_byHalves_92 (by decide) ?_
            refine lv_istore (lv' := [(5, .int k5), (4, .int (((k4 + k5) / 2) + 1)), (8, .int u55), (7, .int ((x1 + (((k4 + k5) / 2) * x2)) + (qo (Int32.toNatClampNeg 5)))), (6, .int ((k4 + k5) / 2)), (0, .ref (bd 0)), (1, .int x1), (2, .int x2)]) hx hb dX8_byHalves_97 hl (by decide) rfl (fun ls hl => ?_)
            refine lv_goto (tgt := 6) hx hb dX8_byHalves_99 (by decide) ?_
            rw [show pX8_byHalves_lp6 v qm qo qy x1 x2 (n_ + 1) k4 k5 = pX8_byHalves_lp6 v qm qo qy x1 x2 n_ (((k4 + k5) / 2) + 1) k5 from by rw [pX8_byHalves_lp6, if_neg c_10, if_neg c_46, hu55, mLet_eq, if_neg c_63, if_pos c_71]]
            exact ih (((k4 + k5) / 2) + 1) k5 _ _ _ (show 0 ≤ Int32.toInt (((k4 + k5) / 2) + 1) by have e_h : Int32.toInt (k4 + k5) = Int32.toInt k4 + Int32.toInt k5 := ti_add (by omega) (by omega); have e_g : Int32.toInt ((k4 + k5) / 2) = Int32.toInt (k4 + k5) / 2 := ti_div (by omega) rfl (by omega); have f_3 : ¬ Int32.toInt k5 ≤ Int32.toInt k4 := fun q => c_10 (Int32.le_iff_toInt_le.mpr q); have f_5 := isIn_spec (a := ((x1 + (((k4 + k5) / 2) * x2)) + (qo (Int32.toNatClampNeg 5)))) (n := (v 16)) (by omega) c_46; have e_6 : Int32.toInt (k4 + k5) = Int32.toInt k4 + Int32.toInt k5 := ti_add (by omega) (by omega); have e_7 : Int32.toInt 2 = 2 := rfl; have e_8 : Int32.toInt ((k4 + k5) / 2) = Int32.toInt (k4 + k5) / 2 := ti_div (by omega) rfl (by omega); have e_9 : Int32.toInt 1 = 1 := rfl; have e_10 : Int32.toInt (((k4 + k5) / 2) + 1) = Int32.toInt ((k4 + k5) / 2) + Int32.toInt 1 := ti_add (by omega) (by omega); omega) (show Int32.toInt (((k4 + k5) / 2) + 1) ≤ Int32.toInt k5 by have e_h : Int32.toInt (k4 + k5) = Int32.toInt k4 + Int32.toInt k5 := ti_add (by omega) (by omega); have e_g : Int32.toInt ((k4 + k5) / 2) = Int32.toInt (k4 + k5) / 2 := ti_div (by omega) rfl (by omega); have f_3 : ¬ Int32.toInt k5 ≤ Int32.toInt k4 := fun q => c_10 (Int32.le_iff_toInt_le.mpr q); have f_5 := isIn_spec (a := ((x1 + (((k4 + k5) / 2) * x2)) + (qo (Int32.toNatClampNeg 5)))) (n := (v 16)) (by omega) c_46; have e_6 : Int32.toInt (k4 + k5) = Int32.toInt k4 + Int32.toInt k5 := ti_add (by omega) (by omega); have e_7 : Int32.toInt 2 = 2 := rfl; have e_8 : Int32.toInt ((k4 + k5) / 2) = Int32.toInt (k4 + k5) / 2 := ti_div (by omega) rfl (by omega); have e_9 : Int32.toInt 1 = 1 := rfl; have e_10 : Int32.toInt (((k4 + k5) / 2) + 1) = Int32.toInt ((k4 + k5) / 2) + Int32.toInt 1 := ti_add (by omega) (by omega); omega) (show Int32.toInt k5 ≤ 1024 by have e_h : Int32.toInt (k4 + k5) = Int32.toInt k4 + Int32.toInt k5 := ti_add (by omega) (by omega); have e_g : Int32.toInt ((k4 + k5) / 2) = Int32.toInt (k4 + k5) / 2 := ti_div (by omega) rfl (by omega); have f_3 : ¬ Int32.toInt k5 ≤ Int32.toInt k4 := fun q => c_10 (Int32.le_iff_toInt_le.mpr q); have f_5 := isIn_spec (a := ((x1 + (((k4 + k5) / 2) * x2)) + (qo (Int32.toNatClampNeg 5)))) (n := (v 16)) (by omega) c_46; have e_6 : Int32.toInt (k4 + k5) = Int32.toInt k4 + Int32.toInt k5 := ti_add (by omega) (by omega); have e_7 : Int32.toInt 2 = 2 := rfl; have e_8 : Int32.toInt ((k4 + k5) / 2) = Int32.toInt (k4 + k5) / 2 := ti_div (by omega) rfl (by omega); have e_9 : Int32.toInt 1 = 1 := rfl; have e_10 : Int32.toInt (((k4 + k5) / 2) + 1) = Int32.toInt ((k4 + k5) / 2) + Int32.toInt 1 := ti_add (by omega) (by omega); omega) (show (Int32.toInt k5 - Int32.toInt (((k4 + k5) / 2) + 1)).toNat < n_ by have f_3 : ¬ Int32.toInt k5 ≤ Int32.toInt k4 := fun q => c_10 (Int32.le_iff_toInt_le.mpr q); have f_5 := isIn_spec (a := ((x1 + (((k4 + k5) / 2) * x2)) + (qo (Int32.toNatClampNeg 5)))) (n := (v 16)) (by omega) c_46; have e_6 : Int32.toInt (k4 + k5) = Int32.toInt k4 + Int32.toInt k5 := ti_add (by omega) (by omega); have e_7 : Int32.toInt 2 = 2 := rfl; have e_8 : Int32.toInt ((k4 + k5) / 2) = Int32.toInt (k4 + k5) / 2 := ti_div (by omega) rfl (by omega); have e_9 : Int32.toInt 1 = 1 := rfl; have e_10 : Int32.toInt (((k4 + k5) / 2) + 1) = Int32.toInt ((k4 + k5) / 2) + Int32.toInt 1 := ti_add (by omega) (by omega); omega) V (lv_sub hl [5, 6, 7, 1, 0] rfl)
        · refine lv_iload hx hb dX8_byHalves_66 (lv_at hl 2 rfl) ?_
          have e9 : pX8_byHalves_lp6 v qm qo qy x1 x2 (n_ + 1) k4 k5 = (((k4 + k5) / 2)) := by rw [pX8_byHalves_lp6, if_neg c_10, if_neg c_46, hu55, mLet_eq, if_pos c_63]
          exact m_iret X hr hk V (by rw [e9]) rfl dX8_byHalves_68
      · refine lv_bipush (v := (-9)) hx hb dX8_byHalves_49 (by decide) ?_
        have e9 : pX8_byHalves_lp6 v qm qo qy x1 x2 (n_ + 1) k4 k5 = ((-9)) := by rw [pX8_byHalves_lp6, if_neg c_10, if_pos c_46]
        exact m_iret X hr hk V (by rw [e9]) rfl dX8_byHalves_51
set_option maxRecDepth 100000 in
set_option maxHeartbeats 4000000 in
theorem kX8_byHalves (l : Launch) (D : va_G) (cB cI : ClassId) (bd : Nat → Nat) (v : Nat → Int32) (qm : Nat → Int32) (ql : Nat → Int32) (qs : Nat → Int32) (qk : Nat → Int32) (qd : Nat → Int32) (qn : Nat → Int32) (qe : Nat → Int32) (qf : Nat → Int32) (qo : Nat → Int32) (qt : Nat → Int32) (qi : Nat → Int32) (qy : Nat → Int32) (x1 : Int32) (x2 : Int32) (x3 : Int32) (hz : 0 ≤ Int32.toInt (v 16) ∧ Int32.toInt (v 16) ≤ 64) (hn : 0 ≤ Int32.toInt x3 ∧ Int32.toInt x3 ≤ 1024) : mM l D cB cI yX8_byHalves cX8_byHalves 9 (some .int) { frames := 1, cells := 0, slots := 0, locals := 22 } [.ref (bd 0), .int x1, .int x2, .int x3] (wR cB cI bd v qm ql qs qk qd qn qe qf qo qt qi qy) (some (pX8_byHalves v qm qo qy x1 x2 x3)) (wR cB cI bd v qm ql qs qk qd qn qe qf qo qt qi qy) := by
  refine m_start (by decide +kernel) (Nat.le_of_ble_eq_true rfl) ?_
  intro p e s m below meth c A ls X hr hk V hl
  have X : mCx p s m _ c cX8_byHalves 9 RX8 D cB cI := X
  have hx := X.1.1
  have hb := X.1.2.1
  have hl : lv_has ls 9 [(0, .ref (bd 0)), (1, .int x1), (2, .int x2), (3, .int x3)] := hl
  refine lv_iconst (v := 0) hx hb dX8_byHalves_0 (by decide) ?_
  refine lv_istore (lv' := [(4, .int 0), (0, .ref (bd 0)), (1, .int x1), (2, .int x2), (3, .int x3)]) hx hb dX8_byHalves_1 hl (by decide) rfl (fun ls hl => ?_)
  refine lv_iload_n hx hb dX8_byHalves_3 rfl (lv_at hl 4 rfl) ?_
  refine lv_istore (lv' := [(5, .int x3), (4, .int 0), (0, .ref (bd 0)), (1, .int x1), (2, .int x2), (3, .int x3)]) hx hb dX8_byHalves_4 hl (by decide) rfl (fun ls hl => ?_)
  rw [show pX8_byHalves v qm qo qy x1 x2 x3 = (pX8_byHalves_lp6 v qm qo qy x1 x2 ((Int32.toInt x3 - Int32.toInt 0).toNat + 1) 0 x3) from by rw [pX8_byHalves]]
  exact lpX8_byHalves_6 X hr hk hz hn ((Int32.toInt x3 - Int32.toInt 0).toNat + 1) 0 x3 _ _ _ (show 0 ≤ Int32.toInt 0 by have z_0 : Int32.toInt 0 = 0 := rfl; omega) (show Int32.toInt 0 ≤ Int32.toInt x3 by have z_0 : Int32.toInt 0 = 0 := rfl; omega) (show Int32.toInt x3 ≤ 1024 by omega) (Nat.lt_succ_self _) V (lv_sub hl [2, 3, 4, 1, 0] rfl)
def pX8_searches (v : Nat → Int32) (qm : Nat → Int32) (qo : Nat → Int32) (qy : Nat → Int32) : Int32 × (Nat → Int32) × (Nat → Int32) := (if ((qo (Int32.toNatClampNeg 6)) &&& 1) = 1 then (mLet (pX8_keys v qm qy (qo (Int32.toNatClampNeg 0)) (qo (Int32.toNatClampNeg 1)) 1) (fun (u33 : Int32 × (Nat → Int32) × (Nat → Int32)) => (if u33.1 = 0 then (if (qo (Int32.toNatClampNeg 4)) < 0 then (if ((qo (Int32.toNatClampNeg 6)) &&& 4) = 4 then (if (u33.2.1 7) = 336 then (if ((qo (Int32.toNatClampNeg 6)) &&& 2) = 2 then (mLet (pX8_oneByOne u33.2.1 qm qo u33.2.2 (qo (Int32.toNatClampNeg 2)) (qo (Int32.toNatClampNeg 3)) 1024 1) (fun (u135 : Int32) => (if u135 = (-9) then (1, u33.2.1, u33.2.2) else (if 0 ≤ u135 then (mLet (pX8_gives u33.2.1 u135) (fun (u197 : Int32 × (Nat → Int32)) => (u197.1, u197.2, u33.2.2))) else (mLet (pX8_gives u33.2.1 (-1)) (fun (u197 : Int32 × (Nat → Int32)) => (u197.1, u197.2, u33.2.2))))))) else (mLet (pX8_oneByOne u33.2.1 qm qo u33.2.2 (qo (Int32.toNatClampNeg 2)) (qo (Int32.toNatClampNeg 3)) 1024 0) (fun (u135 : Int32) => (if u135 = (-9) then (1, u33.2.1, u33.2.2) else (if 0 ≤ u135 then (mLet (pX8_gives u33.2.1 u135) (fun (u197 : Int32 × (Nat → Int32)) => (u197.1, u197.2, u33.2.2))) else (mLet (pX8_gives u33.2.1 (-1)) (fun (u197 : Int32 × (Nat → Int32)) => (u197.1, u197.2, u33.2.2)))))))) else (mLet (pX8_byHalves u33.2.1 qm qo u33.2.2 (qo (Int32.toNatClampNeg 2)) (qo (Int32.toNatClampNeg 3)) 1024) (fun (u147 : Int32) => (if u147 = (-9) then (1, u33.2.1, u33.2.2) else (if 0 ≤ u147 then (mLet (pX8_gives u33.2.1 u147) (fun (u197 : Int32 × (Nat → Int32)) => (u197.1, u197.2, u33.2.2))) else (mLet (pX8_gives u33.2.1 (-1)) (fun (u197 : Int32 × (Nat → Int32)) => (u197.1, u197.2, u33.2.2)))))))) else (if (u33.2.1 7) = 336 then (if ((qo (Int32.toNatClampNeg 6)) &&& 2) = 2 then (mLet (pX8_oneByOne u33.2.1 qm qo u33.2.2 (qo (Int32.toNatClampNeg 2)) (qo (Int32.toNatClampNeg 3)) 1024 1) (fun (u135 : Int32) => (if u135 = (-9) then (1, u33.2.1, u33.2.2) else (if 0 ≤ u135 then (mLet (pX8_gives u33.2.1 ((qo (Int32.toNatClampNeg 2)) + (u135 * (qo (Int32.toNatClampNeg 3))))) (fun (u197 : Int32 × (Nat → Int32)) => (u197.1, u197.2, u33.2.2))) else (mLet (pX8_gives u33.2.1 0) (fun (u197 : Int32 × (Nat → Int32)) => (u197.1, u197.2, u33.2.2))))))) else (mLet (pX8_oneByOne u33.2.1 qm qo u33.2.2 (qo (Int32.toNatClampNeg 2)) (qo (Int32.toNatClampNeg 3)) 1024 0) (fun (u135 : Int32) => (if u135 = (-9) then (1, u33.2.1, u33.2.2) else (if 0 ≤ u135 then (mLet (pX8_gives u33.2.1 ((qo (Int32.toNatClampNeg 2)) + (u135 * (qo (Int32.toNatClampNeg 3))))) (fun (u197 : Int32 × (Nat → Int32)) => (u197.1, u197.2, u33.2.2))) else (mLet (pX8_gives u33.2.1 0) (fun (u197 : Int32 × (Nat → Int32)) => (u197.1, u197.2, u33.2.2)))))))) else (mLet (pX8_byHalves u33.2.1 qm qo u33.2.2 (qo (Int32.toNatClampNeg 2)) (qo (Int32.toNatClampNeg 3)) 1024) (fun (u147 : Int32) => (if u147 = (-9) then (1, u33.2.1, u33.2.2) else (if 0 ≤ u147 then (mLet (pX8_gives u33.2.1 ((qo (Int32.toNatClampNeg 2)) + (u147 * (qo (Int32.toNatClampNeg 3))))) (fun (u197 : Int32 × (Nat → Int32)) => (u197.1, u197.2, u33.2.2))) else (mLet (pX8_gives u33.2.1 0) (fun (u197 : Int32 × (Nat → Int32)) => (u197.1, u197.2, u33.2.2))))))))) else (if (qo (Int32.toNatClampNeg 4)) ≤ 1024 then (if ((qo (Int32.toNatClampNeg 6)) &&& 4) = 4 then (if (u33.2.1 7) = 336 then (if ((qo (Int32.toNatClampNeg 6)) &&& 2) = 2 then (mLet (pX8_oneByOne u33.2.1 qm qo u33.2.2 (qo (Int32.toNatClampNeg 2)) (qo (Int32.toNatClampNeg 3)) (qo (Int32.toNatClampNeg 4)) 1) (fun (u135 : Int32) => (if u135 = (-9) then (1, u33.2.1, u33.2.2) else (if 0 ≤ u135 then (mLet (pX8_gives u33.2.1 u135) (fun (u197 : Int32 × (Nat → Int32)) => (u197.1, u197.2, u33.2.2))) else (mLet (pX8_gives u33.2.1 (-1)) (fun (u197 : Int32 × (Nat → Int32)) => (u197.1, u197.2, u33.2.2))))))) else (mLet (pX8_oneByOne u33.2.1 qm qo u33.2.2 (qo (Int32.toNatClampNeg 2)) (qo (Int32.toNatClampNeg 3)) (qo (Int32.toNatClampNeg 4)) 0) (fun (u135 : Int32) => (if u135 = (-9) then (1, u33.2.1, u33.2.2) else (if 0 ≤ u135 then (mLet (pX8_gives u33.2.1 u135) (fun (u197 : Int32 × (Nat → Int32)) => (u197.1, u197.2, u33.2.2))) else (mLet (pX8_gives u33.2.1 (-1)) (fun (u197 : Int32 × (Nat → Int32)) => (u197.1, u197.2, u33.2.2)))))))) else (mLet (pX8_byHalves u33.2.1 qm qo u33.2.2 (qo (Int32.toNatClampNeg 2)) (qo (Int32.toNatClampNeg 3)) (qo (Int32.toNatClampNeg 4))) (fun (u147 : Int32) => (if u147 = (-9) then (1, u33.2.1, u33.2.2) else (if 0 ≤ u147 then (mLet (pX8_gives u33.2.1 u147) (fun (u197 : Int32 × (Nat → Int32)) => (u197.1, u197.2, u33.2.2))) else (mLet (pX8_gives u33.2.1 (-1)) (fun (u197 : Int32 × (Nat → Int32)) => (u197.1, u197.2, u33.2.2)))))))) else (if (u33.2.1 7) = 336 then (if ((qo (Int32.toNatClampNeg 6)) &&& 2) = 2 then (mLet (pX8_oneByOne u33.2.1 qm qo u33.2.2 (qo (Int32.toNatClampNeg 2)) (qo (Int32.toNatClampNeg 3)) (qo (Int32.toNatClampNeg 4)) 1) (fun (u135 : Int32) => (if u135 = (-9) then (1, u33.2.1, u33.2.2) else (if 0 ≤ u135 then (mLet (pX8_gives u33.2.1 ((qo (Int32.toNatClampNeg 2)) + (u135 * (qo (Int32.toNatClampNeg 3))))) (fun (u197 : Int32 × (Nat → Int32)) => (u197.1, u197.2, u33.2.2))) else (mLet (pX8_gives u33.2.1 0) (fun (u197 : Int32 × (Nat → Int32)) => (u197.1, u197.2, u33.2.2))))))) else (mLet (pX8_oneByOne u33.2.1 qm qo u33.2.2 (qo (Int32.toNatClampNeg 2)) (qo (Int32.toNatClampNeg 3)) (qo (Int32.toNatClampNeg 4)) 0) (fun (u135 : Int32) => (if u135 = (-9) then (1, u33.2.1, u33.2.2) else (if 0 ≤ u135 then (mLet (pX8_gives u33.2.1 ((qo (Int32.toNatClampNeg 2)) + (u135 * (qo (Int32.toNatClampNeg 3))))) (fun (u197 : Int32 × (Nat → Int32)) => (u197.1, u197.2, u33.2.2))) else (mLet (pX8_gives u33.2.1 0) (fun (u197 : Int32 × (Nat → Int32)) => (u197.1, u197.2, u33.2.2)))))))) else (mLet (pX8_byHalves u33.2.1 qm qo u33.2.2 (qo (Int32.toNatClampNeg 2)) (qo (Int32.toNatClampNeg 3)) (qo (Int32.toNatClampNeg 4))) (fun (u147 : Int32) => (if u147 = (-9) then (1, u33.2.1, u33.2.2) else (if 0 ≤ u147 then (mLet (pX8_gives u33.2.1 ((qo (Int32.toNatClampNeg 2)) + (u147 * (qo (Int32.toNatClampNeg 3))))) (fun (u197 : Int32 × (Nat → Int32)) => (u197.1, u197.2, u33.2.2))) else (mLet (pX8_gives u33.2.1 0) (fun (u197 : Int32 × (Nat → Int32)) => (u197.1, u197.2, u33.2.2))))))))) else (if ((qo (Int32.toNatClampNeg 6)) &&& 4) = 4 then (if (u33.2.1 7) = 336 then (if ((qo (Int32.toNatClampNeg 6)) &&& 2) = 2 then (mLet (pX8_oneByOne u33.2.1 qm qo u33.2.2 (qo (Int32.toNatClampNeg 2)) (qo (Int32.toNatClampNeg 3)) 1024 1) (fun (u135 : Int32) => (if u135 = (-9) then (1, u33.2.1, u33.2.2) else (if 0 ≤ u135 then (mLet (pX8_gives u33.2.1 u135) (fun (u197 : Int32 × (Nat → Int32)) => (u197.1, u197.2, u33.2.2))) else (mLet (pX8_gives u33.2.1 (-1)) (fun (u197 : Int32 × (Nat → Int32)) => (u197.1, u197.2, u33.2.2))))))) else (mLet (pX8_oneByOne u33.2.1 qm qo u33.2.2 (qo (Int32.toNatClampNeg 2)) (qo (Int32.toNatClampNeg 3)) 1024 0) (fun (u135 : Int32) => (if u135 = (-9) then (1, u33.2.1, u33.2.2) else (if 0 ≤ u135 then (mLet (pX8_gives u33.2.1 u135) (fun (u197 : Int32 × (Nat → Int32)) => (u197.1, u197.2, u33.2.2))) else (mLet (pX8_gives u33.2.1 (-1)) (fun (u197 : Int32 × (Nat → Int32)) => (u197.1, u197.2, u33.2.2)))))))) else (mLet (pX8_byHalves u33.2.1 qm qo u33.2.2 (qo (Int32.toNatClampNeg 2)) (qo (Int32.toNatClampNeg 3)) 1024) (fun (u147 : Int32) => (if u147 = (-9) then (1, u33.2.1, u33.2.2) else (if 0 ≤ u147 then (mLet (pX8_gives u33.2.1 u147) (fun (u197 : Int32 × (Nat → Int32)) => (u197.1, u197.2, u33.2.2))) else (mLet (pX8_gives u33.2.1 (-1)) (fun (u197 : Int32 × (Nat → Int32)) => (u197.1, u197.2, u33.2.2)))))))) else (if (u33.2.1 7) = 336 then (if ((qo (Int32.toNatClampNeg 6)) &&& 2) = 2 then (mLet (pX8_oneByOne u33.2.1 qm qo u33.2.2 (qo (Int32.toNatClampNeg 2)) (qo (Int32.toNatClampNeg 3)) 1024 1) (fun (u135 : Int32) => (if u135 = (-9) then (1, u33.2.1, u33.2.2) else (if 0 ≤ u135 then (mLet (pX8_gives u33.2.1 ((qo (Int32.toNatClampNeg 2)) + (u135 * (qo (Int32.toNatClampNeg 3))))) (fun (u197 : Int32 × (Nat → Int32)) => (u197.1, u197.2, u33.2.2))) else (mLet (pX8_gives u33.2.1 0) (fun (u197 : Int32 × (Nat → Int32)) => (u197.1, u197.2, u33.2.2))))))) else (mLet (pX8_oneByOne u33.2.1 qm qo u33.2.2 (qo (Int32.toNatClampNeg 2)) (qo (Int32.toNatClampNeg 3)) 1024 0) (fun (u135 : Int32) => (if u135 = (-9) then (1, u33.2.1, u33.2.2) else (if 0 ≤ u135 then (mLet (pX8_gives u33.2.1 ((qo (Int32.toNatClampNeg 2)) + (u135 * (qo (Int32.toNatClampNeg 3))))) (fun (u197 : Int32 × (Nat → Int32)) => (u197.1, u197.2, u33.2.2))) else (mLet (pX8_gives u33.2.1 0) (fun (u197 : Int32 × (Nat → Int32)) => (u197.1, u197.2, u33.2.2)))))))) else (mLet (pX8_byHalves u33.2.1 qm qo u33.2.2 (qo (Int32.toNatClampNeg 2)) (qo (Int32.toNatClampNeg 3)) 1024) (fun (u147 : Int32) => (if u147 = (-9) then (1, u33.2.1, u33.2.2) else (if 0 ≤ u147 then (mLet (pX8_gives u33.2.1 ((qo (Int32.toNatClampNeg 2)) + (u147 * (qo (Int32.toNatClampNeg 3))))) (fun (u197 : Int32 × (Nat → Int32)) => (u197.1, u197.2, u33.2.2))) else (mLet (pX8_gives u33.2.1 0) (fun (u197 : Int32 × (Nat → Int32)) => (u197.1, u197.2, u33.2.2))))))))))) else (u33.1, u33.2.1, u33.2.2)))) else (mLet (pX8_keys v qm qy (qo (Int32.toNatClampNeg 0)) (qo (Int32.toNatClampNeg 1)) 0) (fun (u33 : Int32 × (Nat → Int32) × (Nat → Int32)) => (if u33.1 = 0 then (if (qo (Int32.toNatClampNeg 4)) < 0 then (if ((qo (Int32.toNatClampNeg 6)) &&& 4) = 4 then (if (u33.2.1 7) = 336 then (if ((qo (Int32.toNatClampNeg 6)) &&& 2) = 2 then (mLet (pX8_oneByOne u33.2.1 qm qo u33.2.2 (qo (Int32.toNatClampNeg 2)) (qo (Int32.toNatClampNeg 3)) 1024 1) (fun (u135 : Int32) => (if u135 = (-9) then (1, u33.2.1, u33.2.2) else (if 0 ≤ u135 then (mLet (pX8_gives u33.2.1 u135) (fun (u197 : Int32 × (Nat → Int32)) => (u197.1, u197.2, u33.2.2))) else (mLet (pX8_gives u33.2.1 (-1)) (fun (u197 : Int32 × (Nat → Int32)) => (u197.1, u197.2, u33.2.2))))))) else (mLet (pX8_oneByOne u33.2.1 qm qo u33.2.2 (qo (Int32.toNatClampNeg 2)) (qo (Int32.toNatClampNeg 3)) 1024 0) (fun (u135 : Int32) => (if u135 = (-9) then (1, u33.2.1, u33.2.2) else (if 0 ≤ u135 then (mLet (pX8_gives u33.2.1 u135) (fun (u197 : Int32 × (Nat → Int32)) => (u197.1, u197.2, u33.2.2))) else (mLet (pX8_gives u33.2.1 (-1)) (fun (u197 : Int32 × (Nat → Int32)) => (u197.1, u197.2, u33.2.2)))))))) else (mLet (pX8_byHalves u33.2.1 qm qo u33.2.2 (qo (Int32.toNatClampNeg 2)) (qo (Int32.toNatClampNeg 3)) 1024) (fun (u147 : Int32) => (if u147 = (-9) then (1, u33.2.1, u33.2.2) else (if 0 ≤ u147 then (mLet (pX8_gives u33.2.1 u147) (fun (u197 : Int32 × (Nat → Int32)) => (u197.1, u197.2, u33.2.2))) else (mLet (pX8_gives u33.2.1 (-1)) (fun (u197 : Int32 × (Nat → Int32)) => (u197.1, u197.2, u33.2.2)))))))) else (if (u33.2.1 7) = 336 then (if ((qo (Int32.toNatClampNeg 6)) &&& 2) = 2 then (mLet (pX8_oneByOne u33.2.1 qm qo u33.2.2 (qo (Int32.toNatClampNeg 2)) (qo (Int32.toNatClampNeg 3)) 1024 1) (fun (u135 : Int32) => (if u135 = (-9) then (1, u33.2.1, u33.2.2) else (if 0 ≤ u135 then (mLet (pX8_gives u33.2.1 ((qo (Int32.toNatClampNeg 2)) + (u135 * (qo (Int32.toNatClampNeg 3))))) (fun (u197 : Int32 × (Nat → Int32)) => (u197.1, u197.2, u33.2.2))) else (mLet (pX8_gives u33.2.1 0) (fun (u197 : Int32 × (Nat → Int32)) => (u197.1, u197.2, u33.2.2))))))) else (mLet (pX8_oneByOne u33.2.1 qm qo u33.2.2 (qo (Int32.toNatClampNeg 2)) (qo (Int32.toNatClampNeg 3)) 1024 0) (fun (u135 : Int32) => (if u135 = (-9) then (1, u33.2.1, u33.2.2) else (if 0 ≤ u135 then (mLet (pX8_gives u33.2.1 ((qo (Int32.toNatClampNeg 2)) + (u135 * (qo (Int32.toNatClampNeg 3))))) (fun (u197 : Int32 × (Nat → Int32)) => (u197.1, u197.2, u33.2.2))) else (mLet (pX8_gives u33.2.1 0) (fun (u197 : Int32 × (Nat → Int32)) => (u197.1, u197.2, u33.2.2)))))))) else (mLet (pX8_byHalves u33.2.1 qm qo u33.2.2 (qo (Int32.toNatClampNeg 2)) (qo (Int32.toNatClampNeg 3)) 1024) (fun (u147 : Int32) => (if u147 = (-9) then (1, u33.2.1, u33.2.2) else (if 0 ≤ u147 then (mLet (pX8_gives u33.2.1 ((qo (Int32.toNatClampNeg 2)) + (u147 * (qo (Int32.toNatClampNeg 3))))) (fun (u197 : Int32 × (Nat → Int32)) => (u197.1, u197.2, u33.2.2))) else (mLet (pX8_gives u33.2.1 0) (fun (u197 : Int32 × (Nat → Int32)) => (u197.1, u197.2, u33.2.2))))))))) else (if (qo (Int32.toNatClampNeg 4)) ≤ 1024 then (if ((qo (Int32.toNatClampNeg 6)) &&& 4) = 4 then (if (u33.2.1 7) = 336 then (if ((qo (Int32.toNatClampNeg 6)) &&& 2) = 2 then (mLet (pX8_oneByOne u33.2.1 qm qo u33.2.2 (qo (Int32.toNatClampNeg 2)) (qo (Int32.toNatClampNeg 3)) (qo (Int32.toNatClampNeg 4)) 1) (fun (u135 : Int32) => (if u135 = (-9) then (1, u33.2.1, u33.2.2) else (if 0 ≤ u135 then (mLet (pX8_gives u33.2.1 u135) (fun (u197 : Int32 × (Nat → Int32)) => (u197.1, u197.2, u33.2.2))) else (mLet (pX8_gives u33.2.1 (-1)) (fun (u197 : Int32 × (Nat → Int32)) => (u197.1, u197.2, u33.2.2))))))) else (mLet (pX8_oneByOne u33.2.1 qm qo u33.2.2 (qo (Int32.toNatClampNeg 2)) (qo (Int32.toNatClampNeg 3)) (qo (Int32.toNatClampNeg 4)) 0) (fun (u135 : Int32) => (if u135 = (-9) then (1, u33.2.1, u33.2.2) else (if 0 ≤ u135 then (mLet (pX8_gives u33.2.1 u135) (fun (u197 : Int32 × (Nat → Int32)) => (u197.1, u197.2, u33.2.2))) else (mLet (pX8_gives u33.2.1 (-1)) (fun (u197 : Int32 × (Nat → Int32)) => (u197.1, u197.2, u33.2.2)))))))) else (mLet (pX8_byHalves u33.2.1 qm qo u33.2.2 (qo (Int32.toNatClampNeg 2)) (qo (Int32.toNatClampNeg 3)) (qo (Int32.toNatClampNeg 4))) (fun (u147 : Int32) => (if u147 = (-9) then (1, u33.2.1, u33.2.2) else (if 0 ≤ u147 then (mLet (pX8_gives u33.2.1 u147) (fun (u197 : Int32 × (Nat → Int32)) => (u197.1, u197.2, u33.2.2))) else (mLet (pX8_gives u33.2.1 (-1)) (fun (u197 : Int32 × (Nat → Int32)) => (u197.1, u197.2, u33.2.2)))))))) else (if (u33.2.1 7) = 336 then (if ((qo (Int32.toNatClampNeg 6)) &&& 2) = 2 then (mLet (pX8_oneByOne u33.2.1 qm qo u33.2.2 (qo (Int32.toNatClampNeg 2)) (qo (Int32.toNatClampNeg 3)) (qo (Int32.toNatClampNeg 4)) 1) (fun (u135 : Int32) => (if u135 = (-9) then (1, u33.2.1, u33.2.2) else (if 0 ≤ u135 then (mLet (pX8_gives u33.2.1 ((qo (Int32.toNatClampNeg 2)) + (u135 * (qo (Int32.toNatClampNeg 3))))) (fun (u197 : Int32 × (Nat → Int32)) => (u197.1, u197.2, u33.2.2))) else (mLet (pX8_gives u33.2.1 0) (fun (u197 : Int32 × (Nat → Int32)) => (u197.1, u197.2, u33.2.2))))))) else (mLet (pX8_oneByOne u33.2.1 qm qo u33.2.2 (qo (Int32.toNatClampNeg 2)) (qo (Int32.toNatClampNeg 3)) (qo (Int32.toNatClampNeg 4)) 0) (fun (u135 : Int32) => (if u135 = (-9) then (1, u33.2.1, u33.2.2) else (if 0 ≤ u135 then (mLet (pX8_gives u33.2.1 ((qo (Int32.toNatClampNeg 2)) + (u135 * (qo (Int32.toNatClampNeg 3))))) (fun (u197 : Int32 × (Nat → Int32)) => (u197.1, u197.2, u33.2.2))) else (mLet (pX8_gives u33.2.1 0) (fun (u197 : Int32 × (Nat → Int32)) => (u197.1, u197.2, u33.2.2)))))))) else (mLet (pX8_byHalves u33.2.1 qm qo u33.2.2 (qo (Int32.toNatClampNeg 2)) (qo (Int32.toNatClampNeg 3)) (qo (Int32.toNatClampNeg 4))) (fun (u147 : Int32) => (if u147 = (-9) then (1, u33.2.1, u33.2.2) else (if 0 ≤ u147 then (mLet (pX8_gives u33.2.1 ((qo (Int32.toNatClampNeg 2)) + (u147 * (qo (Int32.toNatClampNeg 3))))) (fun (u197 : Int32 × (Nat → Int32)) => (u197.1, u197.2, u33.2.2))) else (mLet (pX8_gives u33.2.1 0) (fun (u197 : Int32 × (Nat → Int32)) => (u197.1, u197.2, u33.2.2))))))))) else (if ((qo (Int32.toNatClampNeg 6)) &&& 4) = 4 then (if (u33.2.1 7) = 336 then (if ((qo (Int32.toNatClampNeg 6)) &&& 2) = 2 then (mLet (pX8_oneByOne u33.2.1 qm qo u33.2.2 (qo (Int32.toNatClampNeg 2)) (qo (Int32.toNatClampNeg 3)) 1024 1) (fun (u135 : Int32) => (if u135 = (-9) then (1, u33.2.1, u33.2.2) else (if 0 ≤ u135 then (mLet (pX8_gives u33.2.1 u135) (fun (u197 : Int32 × (Nat → Int32)) => (u197.1, u197.2, u33.2.2))) else (mLet (pX8_gives u33.2.1 (-1)) (fun (u197 : Int32 × (Nat → Int32)) => (u197.1, u197.2, u33.2.2))))))) else (mLet (pX8_oneByOne u33.2.1 qm qo u33.2.2 (qo (Int32.toNatClampNeg 2)) (qo (Int32.toNatClampNeg 3)) 1024 0) (fun (u135 : Int32) => (if u135 = (-9) then (1, u33.2.1, u33.2.2) else (if 0 ≤ u135 then (mLet (pX8_gives u33.2.1 u135) (fun (u197 : Int32 × (Nat → Int32)) => (u197.1, u197.2, u33.2.2))) else (mLet (pX8_gives u33.2.1 (-1)) (fun (u197 : Int32 × (Nat → Int32)) => (u197.1, u197.2, u33.2.2)))))))) else (mLet (pX8_byHalves u33.2.1 qm qo u33.2.2 (qo (Int32.toNatClampNeg 2)) (qo (Int32.toNatClampNeg 3)) 1024) (fun (u147 : Int32) => (if u147 = (-9) then (1, u33.2.1, u33.2.2) else (if 0 ≤ u147 then (mLet (pX8_gives u33.2.1 u147) (fun (u197 : Int32 × (Nat → Int32)) => (u197.1, u197.2, u33.2.2))) else (mLet (pX8_gives u33.2.1 (-1)) (fun (u197 : Int32 × (Nat → Int32)) => (u197.1, u197.2, u33.2.2)))))))) else (if (u33.2.1 7) = 336 then (if ((qo (Int32.toNatClampNeg 6)) &&& 2) = 2 then (mLet (pX8_oneByOne u33.2.1 qm qo u33.2.2 (qo (Int32.toNatClampNeg 2)) (qo (Int32.toNatClampNeg 3)) 1024 1) (fun (u135 : Int32) => (if u135 = (-9) then (1, u33.2.1, u33.2.2) else (if 0 ≤ u135 then (mLet (pX8_gives u33.2.1 ((qo (Int32.toNatClampNeg 2)) + (u135 * (qo (Int32.toNatClampNeg 3))))) (fun (u197 : Int32 × (Nat → Int32)) => (u197.1, u197.2, u33.2.2))) else (mLet (pX8_gives u33.2.1 0) (fun (u197 : Int32 × (Nat → Int32)) => (u197.1, u197.2, u33.2.2))))))) else (mLet (pX8_oneByOne u33.2.1 qm qo u33.2.2 (qo (Int32.toNatClampNeg 2)) (qo (Int32.toNatClampNeg 3)) 1024 0) (fun (u135 : Int32) => (if u135 = (-9) then (1, u33.2.1, u33.2.2) else (if 0 ≤ u135 then (mLet (pX8_gives u33.2.1 ((qo (Int32.toNatClampNeg 2)) + (u135 * (qo (Int32.toNatClampNeg 3))))) (fun (u197 : Int32 × (Nat → Int32)) => (u197.1, u197.2, u33.2.2))) else (mLet (pX8_gives u33.2.1 0) (fun (u197 : Int32 × (Nat → Int32)) => (u197.1, u197.2, u33.2.2)))))))) else (mLet (pX8_byHalves u33.2.1 qm qo u33.2.2 (qo (Int32.toNatClampNeg 2)) (qo (Int32.toNatClampNeg 3)) 1024) (fun (u147 : Int32) => (if u147 = (-9) then (1, u33.2.1, u33.2.2) else (if 0 ≤ u147 then (mLet (pX8_gives u33.2.1 ((qo (Int32.toNatClampNeg 2)) + (u147 * (qo (Int32.toNatClampNeg 3))))) (fun (u197 : Int32 × (Nat → Int32)) => (u197.1, u197.2, u33.2.2))) else (mLet (pX8_gives u33.2.1 0) (fun (u197 : Int32 × (Nat → Int32)) => (u197.1, u197.2, u33.2.2))))))))))) else (u33.1, u33.2.1, u33.2.2)))))
theorem okX8_searches : mOk yX8_searches cX8_searches 8 (some .int) 0 := ⟨gm_584, gm_8, by decide +kernel⟩
set_option maxRecDepth 100000 in
set_option maxHeartbeats 4000000 in
theorem kX8_searches (l : Launch) (D : va_G) (cB cI : ClassId) (bd : Nat → Nat) (v : Nat → Int32) (qm : Nat → Int32) (ql : Nat → Int32) (qs : Nat → Int32) (qk : Nat → Int32) (qd : Nat → Int32) (qn : Nat → Int32) (qe : Nat → Int32) (qf : Nat → Int32) (qo : Nat → Int32) (qt : Nat → Int32) (qi : Nat → Int32) (qy : Nat → Int32) : mM l D cB cI yX8_searches cX8_searches 8 (some .int) { frames := 2, cells := 0, slots := 0, locals := 50 } [.ref (bd 0)] (wR cB cI bd v qm ql qs qk qd qn qe qf qo qt qi qy) (some ((pX8_searches v qm qo qy).1)) (wR cB cI bd ((pX8_searches v qm qo qy).2.1) qm ql qs qk qd qn qe qf qo qt qi ((pX8_searches v qm qo qy).2.2)) := by
  refine m_start (by decide +kernel) (Nat.le_of_ble_eq_true rfl) ?_
  intro p e s m below meth c A ls X hr hk V hl
  have X : mCx p s m _ c cX8_searches 8 RX8 D cB cI := X
  have hx := X.1.1
  have hb := X.1.2.1
  have hl : lv_has ls 8 [(0, .ref (bd 0))] := hl
  refine lv_aload_n hx hb dX8_searches_0 rfl (lv_at hl 0 rfl) ?_
  refine m_get X V 6 0 21 rfl gin_6 rfl (by decide) rfl gm_444 (v := .ref (bd 9)) rfl dX8_searches_1 ?_
  refine lv_bipush (v := 6) hx hb dX8_searches_4 (by decide) ?_
  refine m_iald X V 9 rfl (by rw [vp_in_iff]; decide) dX8_searches_6 ?_
  refine lv_istore_n (lv' := [(1, .int (qo (Int32.toNatClampNeg 6))), (0, .ref (bd 0))]) hx hb dX8_searches_7 rfl hl (by decide) rfl (fun ls hl => ?_)
  refine lv_aload_n hx hb dX8_searches_8 rfl (lv_at hl 1 rfl) ?_
  refine lv_aload_n hx hb dX8_searches_9 rfl (lv_at hl 1 rfl) ?_
  refine m_get X V 6 0 21 rfl gin_6 rfl (by decide) rfl gm_444 (v := .ref (bd 9)) rfl dX8_searches_10 ?_
  refine lv_iconst (v := 0) hx hb dX8_searches_13 (by decide) ?_
  refine m_iald X V 9 rfl (by rw [vp_in_iff]; decide) dX8_searches_14 ?_
  refine lv_aload_n hx hb dX8_searches_15 rfl (lv_at hl 1 rfl) ?_
  refine m_get X V 6 0 21 rfl gin_6 rfl (by decide) rfl gm_444 (v := .ref (bd 9)) rfl dX8_searches_16 ?_
  refine lv_iconst (v := 1) hx hb dX8_searches_19 (by decide) ?_
  refine m_iald X V 9 rfl (by rw [vp_in_iff]; decide) dX8_searches_20 ?_
  refine lv_iload_n hx hb dX8_searches_21 rfl (lv_at hl 0 rfl) ?_
  refine lv_iconst (v := 1) hx hb dX8_searches_22 (by decide) ?_
  refine lv_iand hx hb dX8_searches_23 ?_
  refine lv_iconst (v := 1) hx hb dX8_searches_24 (by decide) ?_
  refine lv_icmp_ne (tgt := 32) hx hb dX8_searches_25 (by decide) (fun c_25 => ?_) (fun c_25 => ?_)
  · refine lv_iconst (v := 0) hx hb dX8_searches_32 (by decide) ?_
    obtain ⟨u33, hu33⟩ : ∃ u, pX8_keys v qm qy (qo (Int32.toNatClampNeg 0)) (qo (Int32.toNatClampNeg 1)) 0 = u := ⟨_, rfl⟩
    have hM := kX8_keys l D cB cI bd v qm ql qs qk qd qn qe qf qo qt qi qy (qo (Int32.toNatClampNeg 0)) (qo (Int32.toNatClampNeg 1)) 0
    rw [hu33] at hM
    refine m_VA X V (w1 := (wR cB cI bd u33.2.1 qm ql qs qk qd qn qe qf qo qt qi u33.2.2)) (rest := []) (st1 := [.int u33.1]) hM okX8_keys gm_586 gm_711 gm_585 ⟨⟨rfl, rfl⟩, ⟨by decide, by decide⟩, Nat.zero_le _, Nat.zero_le _⟩ rfl rfl (wR_fst _ _ _ _ _ _ _ _ _ _ _ _ _ _ _ _) (wR_fst _ _ _ _ _ _ _ _ _ _ _ _ _ _ _ _) rfl hl.1 (Nat.le_of_ble_eq_true rfl) dX8_searches_33 rfl rfl (fun H locs V => ?_)
    refine lv_istore_n (lv' := [(2, .int u33.1), (1, .int (qo (Int32.toNatClampNeg 6))), (0, .ref (bd 0))]) hx hb dX8_searches_36 rfl hl (by decide) rfl (fun ls hl => ?_)
    refine lv_iload_n hx hb dX8_searches_37 rfl (lv_at hl 0 rfl) ?_
    refine lv_if_eq (tgt := 43) hx hb dX8_searches_38 (by decide) (fun c_38 => ?_) (fun c_38 => ?_)
    · refine lv_aload_n hx hb dX8_searches_43 rfl (lv_at hl 2 rfl) ?_
      refine m_get X V 6 0 21 rfl gin_6 rfl (by decide) rfl gm_444 (v := .ref (bd 9)) rfl dX8_searches_44 ?_
      refine lv_iconst (v := 2) hx hb dX8_searches_47 (by decide) ?_
      refine m_iald X V 9 rfl (by rw [vp_in_iff]; decide) dX8_searches_48 ?_
      refine lv_istore_n (lv' := [(3, .int (qo (Int32.toNatClampNeg 2))), (2, .int u33.1), (1, .int (qo (Int32.toNatClampNeg 6))), (0, .ref (bd 0))]) hx hb dX8_searches_49 rfl hl (by decide) rfl (fun ls hl => ?_)
      refine lv_aload_n hx hb dX8_searches_50 rfl (lv_at hl 3 rfl) ?_
      refine m_get X V 6 0 21 rfl gin_6 rfl (by decide) rfl gm_444 (v := .ref (bd 9)) rfl dX8_searches_51 ?_
      refine lv_iconst (v := 3) hx hb dX8_searches_54 (by decide) ?_
      refine m_iald X V 9 rfl (by rw [vp_in_iff]; decide) dX8_searches_55 ?_
      refine lv_istore (lv' := [(4, .int (qo (Int32.toNatClampNeg 3))), (3, .int (qo (Int32.toNatClampNeg 2))), (2, .int u33.1), (1, .int (qo (Int32.toNatClampNeg 6))), (0, .ref (bd 0))]) hx hb dX8_searches_56 hl (by decide) rfl (fun ls hl => ?_)
      refine lv_aload_n hx hb dX8_searches_58 rfl (lv_at hl 4 rfl) ?_
      refine m_get X V 6 0 21 rfl gin_6 rfl (by decide) rfl gm_444 (v := .ref (bd 9)) rfl dX8_searches_59 ?_
      refine lv_iconst (v := 4) hx hb dX8_searches_62 (by decide) ?_
      refine m_iald X V 9 rfl (by rw [vp_in_iff]; decide) dX8_searches_63 ?_
      refine lv_if_lt (tgt := 79) hx hb dX8_searches_64 (by decide) (fun c_64 => ?_) (fun c_64 => ?_)
      · refine lv_sipush (v := 1024) hx hb dX8_searches_79 (by decide) ?_
        refine lv_goto (tgt := 91) hx hb dX8_searches_82 (by decide) ?_
        refine lv_istore (lv' := [(5, .int 1024), (4, .int (qo (Int32.toNatClampNeg 3))), (3, .int (qo (Int32.toNatClampNeg 2))), (2, .int u33.1), (1, .int (qo (Int32.toNatClampNeg 6))), (0, .ref (bd 0))]) hx hb dX8_searches_91 hl (by decide) rfl (fun ls hl => ?_)
        refine lv_iload_n hx hb dX8_searches_93 rfl (lv_at hl 4 rfl) ?_
        refine lv_iconst (v := 4) hx hb dX8_searches_94 (by decide) ?_
        refine lv_iand hx hb dX8_searches_95 ?_
        refine lv_iconst (v := 4) hx hb dX8_searches_96 (by decide) ?_
        refine lv_icmp_ne (tgt := 104) hx hb dX8_searches_97 (by decide) (fun c_97 => ?_) (fun c_97 => ?_)
        · refine lv_iconst (v := 0) hx hb dX8_searches_104 (by decide) ?_
          refine lv_istore (lv' := [(6, .int 0), (5, .int 1024), (4, .int (qo (Int32.toNatClampNeg 3))), (3, .int (qo (Int32.toNatClampNeg 2))), (2, .int u33.1), (1, .int (qo (Int32.toNatClampNeg 6))), (0, .ref (bd 0))]) hx hb dX8_searches_105 hl (by decide) rfl (fun ls hl => ?_)
          refine lv_aload_n hx hb dX8_searches_107 rfl (lv_at hl 6 rfl) ?_
          refine m_get X V 6 0 11 rfl gin_6 rfl (by decide) rfl gm_434 (v := .int (u33.2.1 7)) rfl dX8_searches_108 ?_
          refine lv_sipush (v := 336) hx hb dX8_searches_111 (by decide) ?_
          refine lv_icmp_ne (tgt := 141) hx hb dX8_searches_114 (by decide) (fun c_114 => ?_) (fun c_114 => ?_)
          · refine lv_aload_n hx hb dX8_searches_141 rfl (lv_at hl 6 rfl) ?_
            refine lv_iload_n hx hb dX8_searches_142 rfl (lv_at hl 3 rfl) ?_
            refine lv_iload hx hb dX8_searches_143 (lv_at hl 2 rfl) ?_
            refine lv_iload hx hb dX8_searches_145 (lv_at hl 1 rfl) ?_
            obtain ⟨u147, hu147⟩ : ∃ u, pX8_byHalves u33.2.1 qm qo u33.2.2 (qo (Int32.toNatClampNeg 2)) (qo (Int32.toNatClampNeg 3)) 1024 = u := ⟨_, rfl⟩
            have hM := kX8_byHalves l D cB cI bd u33.2.1 qm ql qs qk qd qn qe qf qo qt qi u33.2.2 (qo (Int32.toNatClampNeg 2)) (qo (Int32.toNatClampNeg 3)) 1024 (keys_sz hu33 c_38) (show 0 ≤ Int32.toInt 1024 ∧ Int32.toInt 1024 ≤ 1024 by have z_0 : Int32.toInt 1024 = 1024 := rfl; have e_1 : Int32.toInt 1024 = 1024 := rfl; omega)
            rw [hu147] at hM
            refine m_VA X V (w1 := (wR cB cI bd u33.2.1 qm ql qs qk qd qn qe qf qo qt qi u33.2.2)) (rest := []) (st1 := [.int u147]) hM okX8_byHalves gm_598 gm_715 gm_597 ⟨⟨rfl, rfl⟩, ⟨by decide, by decide⟩, Nat.zero_le _, Nat.zero_le _⟩ rfl rfl (wR_fst _ _ _ _ _ _ _ _ _ _ _ _ _ _ _ _) (wR_fst _ _ _ _ _ _ _ _ _ _ _ _ _ _ _ _) rfl hl.1 (Nat.le_of_ble_eq_true rfl) dX8_searches_147 rfl rfl (fun H locs V => ?_)
            refine lv_istore (lv' := [(7, .int u147), (6, .int 0), (5, .int 1024), (4, .int (qo (Int32.toNatClampNeg 3))), (3, .int (qo (Int32.toNatClampNeg 2))), (2, .int u33.1), (1, .int (qo (Int32.toNatClampNeg 6))), (0, .ref (bd 0))]) hx hb dX8_searches_150 hl (by decide) rfl (fun ls hl => ?_)
            refine lv_iload hx hb dX8_searches_152 (lv_at hl 0 rfl) ?_
            refine lv_bipush (v := (-9)) hx hb dX8_searches_154 (by decide) ?_
            refine lv_icmp_ne (tgt := 161) hx hb dX8_searches_156 (by decide) (fun c_156 => ?_) (fun c_156 => ?_)
            · refine lv_aload_n hx hb dX8_searches_161 rfl (lv_at hl 7 rfl) ?_
              refine lv_iload hx hb dX8_searches_162 (lv_at hl 0 rfl) ?_
              refine lv_if_ge (tgt := 180) hx hb dX8_searches_164 (by decide) (fun c_164 => ?_) (fun c_164 => ?_)
              · refine lv_iload hx hb dX8_searches_180 (lv_at hl 1 rfl) ?_
                refine lv_if_eq (tgt := 190) hx hb dX8_searches_182 (by decide) (fun _ => ?_) (fun h => absurd h (by decide))
                refine lv_iload_n hx hb dX8_searches_190 rfl (lv_at hl 4 rfl) ?_
                refine lv_iload hx hb dX8_searches_191 (lv_at hl 0 rfl) ?_
                refine lv_iload hx hb dX8_searches_193 (lv_at hl 3 rfl) ?_
                refine lv_imul hx hb dX8_searches_195 ?_
                refine lv_iadd hx hb dX8_searches_196 ?_
                obtain ⟨u197, hu197⟩ : ∃ u, pX8_gives u33.2.1 ((qo (Int32.toNatClampNeg 2)) + (u147 * (qo (Int32.toNatClampNeg 3)))) = u := ⟨_, rfl⟩
                have hM := kX8_gives l D cB cI bd u33.2.1 qm ql qs qk qd qn qe qf qo qt qi u33.2.2 ((qo (Int32.toNatClampNeg 2)) + (u147 * (qo (Int32.toNatClampNeg 3))))
                rw [hu197] at hM
                refine m_VA X V (w1 := (wR cB cI bd u197.2 qm ql qs qk qd qn qe qf qo qt qi u33.2.2)) (rest := []) (st1 := [.int u197.1]) hM okX8_gives gm_553 gm_704 gm_552 ⟨⟨rfl, rfl⟩, ⟨by decide, by decide⟩, Nat.zero_le _, Nat.zero_le _⟩ rfl rfl (wR_fst _ _ _ _ _ _ _ _ _ _ _ _ _ _ _ _) (wR_fst _ _ _ _ _ _ _ _ _ _ _ _ _ _ _ _) rfl hl.1 (Nat.le_of_ble_eq_true rfl) dX8_searches_197 rfl rfl (fun H locs V => ?_)
                have e9 : pX8_searches v qm qo qy = (u197.1, u197.2, u33.2.2) := by rw [pX8_searches, if_neg c_25, hu33, mLet_eq, if_pos c_38, if_pos c_64, if_neg c_97, if_neg c_114, hu147, mLet_eq, if_neg c_156, if_pos c_164, hu197, mLet_eq]
                exact m_iret X hr hk V (by rw [e9]) (by rw [e9]) dX8_searches_200
              · refine lv_iload hx hb dX8_searches_167 (lv_at hl 1 rfl) ?_
                refine lv_if_eq (tgt := 176) hx hb dX8_searches_169 (by decide) (fun _ => ?_) (fun h => absurd h (by decide))
                refine lv_iconst (v := 0) hx hb dX8_searches_176 (by decide) ?_
                refine lv_goto (tgt := 197) hx hb dX8_searches_177 (by decide) ?_
                obtain ⟨u197, hu197⟩ : ∃ u, pX8_gives u33.2.1 0 = u := ⟨_, rfl⟩
                have hM := kX8_gives l D cB cI bd u33.2.1 qm ql qs qk qd qn qe qf qo qt qi u33.2.2 0
                rw [hu197] at hM
                refine m_VA X V (w1 := (wR cB cI bd u197.2 qm ql qs qk qd qn qe qf qo qt qi u33.2.2)) (rest := []) (st1 := [.int u197.1]) hM okX8_gives gm_553 gm_704 gm_552 ⟨⟨rfl, rfl⟩, ⟨by decide, by decide⟩, Nat.zero_le _, Nat.zero_le _⟩ rfl rfl (wR_fst _ _ _ _ _ _ _ _ _ _ _ _ _ _ _ _) (wR_fst _ _ _ _ _ _ _ _ _ _ _ _ _ _ _ _) rfl hl.1 (Nat.le_of_ble_eq_true rfl) dX8_searches_197 rfl rfl (fun H locs V => ?_)
                have e9 : pX8_searches v qm qo qy = (u197.1, u197.2, u33.2.2) := by rw [pX8_searches, if_neg c_25, hu33, mLet_eq, if_pos c_38, if_pos c_64, if_neg c_97, if_neg c_114, hu147, mLet_eq, if_neg c_156, if_neg c_164, hu197, mLet_eq]
                exact m_iret X hr hk V (by rw [e9]) (by rw [e9]) dX8_searches_200
            · refine lv_iconst (v := 1) hx hb dX8_searches_159 (by decide) ?_
              have e9 : pX8_searches v qm qo qy = (1, u33.2.1, u33.2.2) := by rw [pX8_searches, if_neg c_25, hu33, mLet_eq, if_pos c_38, if_pos c_64, if_neg c_97, if_neg c_114, hu147, mLet_eq, if_pos c_156]
              exact m_iret X hr hk V (by rw [e9]) (by rw [e9]) dX8_searches_160
          · refine lv_aload_n hx hb dX8_searches_117 rfl (lv_at hl 6 rfl) ?_
            refine lv_iload_n hx hb dX8_searches_118 rfl (lv_at hl 3 rfl) ?_
            refine lv_iload hx hb dX8_searches_119 (lv_at hl 2 rfl) ?_
            refine lv_iload hx hb dX8_searches_121 (lv_at hl 1 rfl) ?_
            refine lv_iload_n hx hb dX8_searches_123 rfl (lv_at hl 5 rfl) ?_
            refine lv_iconst (v := 2) hx hb dX8_searches_124 (by decide) ?_
            refine lv_iand hx hb dX8_searches_125 ?_
            refine lv_iconst (v := 2) hx hb dX8_searches_126 (by decide) ?_
            refine lv_icmp_ne (tgt := 134) hx hb dX8_searches_127 (by decide) (fun c_127 => ?_) (fun c_127 => ?_)
            · refine lv_iconst (v := 0) hx hb dX8_searches_134 (by decide) ?_
              obtain ⟨u135, hu135⟩ : ∃ u, pX8_oneByOne u33.2.1 qm qo u33.2.2 (qo (Int32.toNatClampNeg 2)) (qo (Int32.toNatClampNeg 3)) 1024 0 = u := ⟨_, rfl⟩
              have hM := kX8_oneByOne l D cB cI bd u33.2.1 qm ql qs qk qd qn qe qf qo qt qi u33.2.2 (qo (Int32.toNatClampNeg 2)) (qo (Int32.toNatClampNeg 3)) 1024 0 (keys_sz hu33 c_38) (show 0 ≤ Int32.toInt 1024 ∧ Int32.toInt 1024 ≤ 1024 by have z_0 : Int32.toInt 1024 = 1024 := rfl; have e_1 : Int32.toInt 1024 = 1024 := rfl; have e_2 : Int32.toInt 0 = 0 := rfl; omega)
              rw [hu135] at hM
              refine m_VA X V (w1 := (wR cB cI bd u33.2.1 qm ql qs qk qd qn qe qf qo qt qi u33.2.2)) (rest := []) (st1 := [.int u135]) hM okX8_oneByOne gm_589 gm_712 gm_588 ⟨⟨rfl, rfl⟩, ⟨by decide, by decide⟩, Nat.zero_le _, Nat.zero_le _⟩ rfl rfl (wR_fst _ _ _ _ _ _ _ _ _ _ _ _ _ _ _ _) (wR_fst _ _ _ _ _ _ _ _ _ _ _ _ _ _ _ _) rfl hl.1 (Nat.le_of_ble_eq_true rfl) dX8_searches_135 rfl rfl (fun H locs V => ?_)
              refine lv_goto (tgt := 150) hx hb dX8_searches_138 (by decide) ?_
              refine lv_istore (lv' := [(7, .int u135), (6, .int 0), (5, .int 1024), (4, .int (qo (Int32.toNatClampNeg 3))), (3, .int (qo (Int32.toNatClampNeg 2))), (2, .int u33.1), (1, .int (qo (Int32.toNatClampNeg 6))), (0, .ref (bd 0))]) hx hb dX8_searches_150 hl (by decide) rfl (fun ls hl => ?_)
              refine lv_iload hx hb dX8_searches_152 (lv_at hl 0 rfl) ?_
              refine lv_bipush (v := (-9)) hx hb dX8_searches_154 (by decide) ?_
              refine lv_icmp_ne (tgt := 161) hx hb dX8_searches_156 (by decide) (fun c_156 => ?_) (fun c_156 => ?_)
              · refine lv_aload_n hx hb dX8_searches_161 rfl (lv_at hl 7 rfl) ?_
                refine lv_iload hx hb dX8_searches_162 (lv_at hl 0 rfl) ?_
                refine lv_if_ge (tgt := 180) hx hb dX8_searches_164 (by decide) (fun c_164 => ?_) (fun c_164 => ?_)
                · refine lv_iload hx hb dX8_searches_180 (lv_at hl 1 rfl) ?_
                  refine lv_if_eq (tgt := 190) hx hb dX8_searches_182 (by decide) (fun _ => ?_) (fun h => absurd h (by decide))
                  refine lv_iload_n hx hb dX8_searches_190 rfl (lv_at hl 4 rfl) ?_
                  refine lv_iload hx hb dX8_searches_191 (lv_at hl 0 rfl) ?_
                  refine lv_iload hx hb dX8_searches_193 (lv_at hl 3 rfl) ?_
                  refine lv_imul hx hb dX8_searches_195 ?_
                  refine lv_iadd hx hb dX8_searches_196 ?_
                  obtain ⟨u197, hu197⟩ : ∃ u, pX8_gives u33.2.1 ((qo (Int32.toNatClampNeg 2)) + (u135 * (qo (Int32.toNatClampNeg 3)))) = u := ⟨_, rfl⟩
                  have hM := kX8_gives l D cB cI bd u33.2.1 qm ql qs qk qd qn qe qf qo qt qi u33.2.2 ((qo (Int32.toNatClampNeg 2)) + (u135 * (qo (Int32.toNatClampNeg 3))))
                  rw [hu197] at hM
                  refine m_VA X V (w1 := (wR cB cI bd u197.2 qm ql qs qk qd qn qe qf qo qt qi u33.2.2)) (rest := []) (st1 := [.int u197.1]) hM okX8_gives gm_553 gm_704 gm_552 ⟨⟨rfl, rfl⟩, ⟨by decide, by decide⟩, Nat.zero_le _, Nat.zero_le _⟩ rfl rfl (wR_fst _ _ _ _ _ _ _ _ _ _ _ _ _ _ _ _) (wR_fst _ _ _ _ _ _ _ _ _ _ _ _ _ _ _ _) rfl hl.1 (Nat.le_of_ble_eq_true rfl) dX8_searches_197 rfl rfl (fun H locs V => ?_)
                  have e9 : pX8_searches v qm qo qy = (u197.1, u197.2, u33.2.2) := by rw [pX8_searches, if_neg c_25, hu33, mLet_eq, if_pos c_38, if_pos c_64, if_neg c_97, if_pos c_114, if_neg c_127, hu135, mLet_eq, if_neg c_156, if_pos c_164, hu197, mLet_eq]
                  exact m_iret X hr hk V (by rw [e9]) (by rw [e9]) dX8_searches_200
                · refine lv_iload hx hb dX8_searches_167 (lv_at hl 1 rfl) ?_
                  refine lv_if_eq (tgt := 176) hx hb dX8_searches_169 (by decide) (fun _ => ?_) (fun h => absurd h (by decide))
                  refine lv_iconst (v := 0) hx hb dX8_searches_176 (by decide) ?_
                  refine lv_goto (tgt := 197) hx hb dX8_searches_177 (by decide) ?_
                  obtain ⟨u197, hu197⟩ : ∃ u, pX8_gives u33.2.1 0 = u := ⟨_, rfl⟩
                  have hM := kX8_gives l D cB cI bd u33.2.1 qm ql qs qk qd qn qe qf qo qt qi u33.2.2 0
                  rw [hu197] at hM
                  refine m_VA X V (w1 := (wR cB cI bd u197.2 qm ql qs qk qd qn qe qf qo qt qi u33.2.2)) (rest := []) (st1 := [.int u197.1]) hM okX8_gives gm_553 gm_704 gm_552 ⟨⟨rfl, rfl⟩, ⟨by decide, by decide⟩, Nat.zero_le _, Nat.zero_le _⟩ rfl rfl (wR_fst _ _ _ _ _ _ _ _ _ _ _ _ _ _ _ _) (wR_fst _ _ _ _ _ _ _ _ _ _ _ _ _ _ _ _) rfl hl.1 (Nat.le_of_ble_eq_true rfl) dX8_searches_197 rfl rfl (fun H locs V => ?_)
                  have e9 : pX8_searches v qm qo qy = (u197.1, u197.2, u33.2.2) := by rw [pX8_searches, if_neg c_25, hu33, mLet_eq, if_pos c_38, if_pos c_64, if_neg c_97, if_pos c_114, if_neg c_127, hu135, mLet_eq, if_neg c_156, if_neg c_164, hu197, mLet_eq]
                  exact m_iret X hr hk V (by rw [e9]) (by rw [e9]) dX8_searches_200
              · refine lv_iconst (v := 1) hx hb dX8_searches_159 (by decide) ?_
                have e9 : pX8_searches v qm qo qy = (1, u33.2.1, u33.2.2) := by rw [pX8_searches, if_neg c_25, hu33, mLet_eq, if_pos c_38, if_pos c_64, if_neg c_97, if_pos c_114, if_neg c_127, hu135, mLet_eq, if_pos c_156]
                exact m_iret X hr hk V (by rw [e9]) (by rw [e9]) dX8_searches_160
            · refine lv_iconst (v := 1) hx hb dX8_searches_130 (by decide) ?_
              refine lv_goto (tgt := 135) hx hb dX8_searches_131 (by decide) ?_
              obtain ⟨u135, hu135⟩ : ∃ u, pX8_oneByOne u33.2.1 qm qo u33.2.2 (qo (Int32.toNatClampNeg 2)) (qo (Int32.toNatClampNeg 3)) 1024 1 = u := ⟨_, rfl⟩
              have hM := kX8_oneByOne l D cB cI bd u33.2.1 qm ql qs qk qd qn qe qf qo qt qi u33.2.2 (qo (Int32.toNatClampNeg 2)) (qo (Int32.toNatClampNeg 3)) 1024 1 (keys_sz hu33 c_38) (show 0 ≤ Int32.toInt 1024 ∧ Int32.toInt 1024 ≤ 1024 by have z_0 : Int32.toInt 1024 = 1024 := rfl; have e_1 : Int32.toInt 1024 = 1024 := rfl; have e_2 : Int32.toInt 1 = 1 := rfl; omega)
              rw [hu135] at hM
              refine m_VA X V (w1 := (wR cB cI bd u33.2.1 qm ql qs qk qd qn qe qf qo qt qi u33.2.2)) (rest := []) (st1 := [.int u135]) hM okX8_oneByOne gm_589 gm_712 gm_588 ⟨⟨rfl, rfl⟩, ⟨by decide, by decide⟩, Nat.zero_le _, Nat.zero_le _⟩ rfl rfl (wR_fst _ _ _ _ _ _ _ _ _ _ _ _ _ _ _ _) (wR_fst _ _ _ _ _ _ _ _ _ _ _ _ _ _ _ _) rfl hl.1 (Nat.le_of_ble_eq_true rfl) dX8_searches_135 rfl rfl (fun H locs V => ?_)
              refine lv_goto (tgt := 150) hx hb dX8_searches_138 (by decide) ?_
              refine lv_istore (lv' := [(7, .int u135), (6, .int 0), (5, .int 1024), (4, .int (qo (Int32.toNatClampNeg 3))), (3, .int (qo (Int32.toNatClampNeg 2))), (2, .int u33.1), (1, .int (qo (Int32.toNatClampNeg 6))), (0, .ref (bd 0))]) hx hb dX8_searches_150 hl (by decide) rfl (fun ls hl => ?_)
              refine lv_iload hx hb dX8_searches_152 (lv_at hl 0 rfl) ?_
              refine lv_bipush (v := (-9)) hx hb dX8_searches_154 (by decide) ?_
              refine lv_icmp_ne (tgt := 161) hx hb dX8_searches_156 (by decide) (fun c_156 => ?_) (fun c_156 => ?_)
              · refine lv_aload_n hx hb dX8_searches_161 rfl (lv_at hl 7 rfl) ?_
                refine lv_iload hx hb dX8_searches_162 (lv_at hl 0 rfl) ?_
                refine lv_if_ge (tgt := 180) hx hb dX8_searches_164 (by decide) (fun c_164 => ?_) (fun c_164 => ?_)
                · refine lv_iload hx hb dX8_searches_180 (lv_at hl 1 rfl) ?_
                  refine lv_if_eq (tgt := 190) hx hb dX8_searches_182 (by decide) (fun _ => ?_) (fun h => absurd h (by decide))
                  refine lv_iload_n hx hb dX8_searches_190 rfl (lv_at hl 4 rfl) ?_
                  refine lv_iload hx hb dX8_searches_191 (lv_at hl 0 rfl) ?_
                  refine lv_iload hx hb dX8_searches_193 (lv_at hl 3 rfl) ?_
                  refine lv_imul hx hb dX8_searches_195 ?_
                  refine lv_iadd hx hb dX8_searches_196 ?_
                  obtain ⟨u197, hu197⟩ : ∃ u, pX8_gives u33.2.1 ((qo (Int32.toNatClampNeg 2)) + (u135 * (qo (Int32.toNatClampNeg 3)))) = u := ⟨_, rfl⟩
                  have hM := kX8_gives l D cB cI bd u33.2.1 qm ql qs qk qd qn qe qf qo qt qi u33.2.2 ((qo (Int32.toNatClampNeg 2)) + (u135 * (qo (Int32.toNatClampNeg 3))))
                  rw [hu197] at hM
                  refine m_VA X V (w1 := (wR cB cI bd u197.2 qm ql qs qk qd qn qe qf qo qt qi u33.2.2)) (rest := []) (st1 := [.int u197.1]) hM okX8_gives gm_553 gm_704 gm_552 ⟨⟨rfl, rfl⟩, ⟨by decide, by decide⟩, Nat.zero_le _, Nat.zero_le _⟩ rfl rfl (wR_fst _ _ _ _ _ _ _ _ _ _ _ _ _ _ _ _) (wR_fst _ _ _ _ _ _ _ _ _ _ _ _ _ _ _ _) rfl hl.1 (Nat.le_of_ble_eq_true rfl) dX8_searches_197 rfl rfl (fun H locs V => ?_)
                  have e9 : pX8_searches v qm qo qy = (u197.1, u197.2, u33.2.2) := by rw [pX8_searches, if_neg c_25, hu33, mLet_eq, if_pos c_38, if_pos c_64, if_neg c_97, if_pos c_114, if_pos c_127, hu135, mLet_eq, if_neg c_156, if_pos c_164, hu197, mLet_eq]
                  exact m_iret X hr hk V (by rw [e9]) (by rw [e9]) dX8_searches_200
                · refine lv_iload hx hb dX8_searches_167 (lv_at hl 1 rfl) ?_
                  refine lv_if_eq (tgt := 176) hx hb dX8_searches_169 (by decide) (fun _ => ?_) (fun h => absurd h (by decide))
                  refine lv_iconst (v := 0) hx hb dX8_searches_176 (by decide) ?_
                  refine lv_goto (tgt := 197) hx hb dX8_searches_177 (by decide) ?_
                  obtain ⟨u197, hu197⟩ : ∃ u, pX8_gives u33.2.1 0 = u := ⟨_, rfl⟩
                  have hM := kX8_gives l D cB cI bd u33.2.1 qm ql qs qk qd qn qe qf qo qt qi u33.2.2 0
                  rw [hu197] at hM
                  refine m_VA X V (w1 := (wR cB cI bd u197.2 qm ql qs qk qd qn qe qf qo qt qi u33.2.2)) (rest := []) (st1 := [.int u197.1]) hM okX8_gives gm_553 gm_704 gm_552 ⟨⟨rfl, rfl⟩, ⟨by decide, by decide⟩, Nat.zero_le _, Nat.zero_le _⟩ rfl rfl (wR_fst _ _ _ _ _ _ _ _ _ _ _ _ _ _ _ _) (wR_fst _ _ _ _ _ _ _ _ _ _ _ _ _ _ _ _) rfl hl.1 (Nat.le_of_ble_eq_true rfl) dX8_searches_197 rfl rfl (fun H locs V => ?_)
                  have e9 : pX8_searches v qm qo qy = (u197.1, u197.2, u33.2.2) := by rw [pX8_searches, if_neg c_25, hu33, mLet_eq, if_pos c_38, if_pos c_64, if_neg c_97, if_pos c_114, if_pos c_127, hu135, mLet_eq, if_neg c_156, if_neg c_164, hu197, mLet_eq]
                  exact m_iret X hr hk V (by rw [e9]) (by rw [e9]) dX8_searches_200
              · refine lv_iconst (v := 1) hx hb dX8_searches_159 (by decide) ?_
                have e9 : pX8_searches v qm qo qy = (1, u33.2.1, u33.2.2) := by rw [pX8_searches, if_neg c_25, hu33, mLet_eq, if_pos c_38, if_pos c_64, if_neg c_97, if_pos c_114, if_pos c_127, hu135, mLet_eq, if_pos c_156]
                exact m_iret X hr hk V (by rw [e9]) (by rw [e9]) dX8_searches_160
        · refine lv_iconst (v := 1) hx hb dX8_searches_100 (by decide) ?_
          refine lv_goto (tgt := 105) hx hb dX8_searches_101 (by decide) ?_
          refine lv_istore (lv' := [(6, .int 1), (5, .int 1024), (4, .int (qo (Int32.toNatClampNeg 3))), (3, .int (qo (Int32.toNatClampNeg 2))), (2, .int u33.1), (1, .int (qo (Int32.toNatClampNeg 6))), (0, .ref (bd 0))]) hx hb dX8_searches_105 hl (by decide) rfl (fun ls hl => ?_)
          refine lv_aload_n hx hb dX8_searches_107 rfl (lv_at hl 6 rfl) ?_
          refine m_get X V 6 0 11 rfl gin_6 rfl (by decide) rfl gm_434 (v := .int (u33.2.1 7)) rfl dX8_searches_108 ?_
          refine lv_sipush (v := 336) hx hb dX8_searches_111 (by decide) ?_
          refine lv_icmp_ne (tgt := 141) hx hb dX8_searches_114 (by decide) (fun c_114 => ?_) (fun c_114 => ?_)
          · refine lv_aload_n hx hb dX8_searches_141 rfl (lv_at hl 6 rfl) ?_
            refine lv_iload_n hx hb dX8_searches_142 rfl (lv_at hl 3 rfl) ?_
            refine lv_iload hx hb dX8_searches_143 (lv_at hl 2 rfl) ?_
            refine lv_iload hx hb dX8_searches_145 (lv_at hl 1 rfl) ?_
            obtain ⟨u147, hu147⟩ : ∃ u, pX8_byHalves u33.2.1 qm qo u33.2.2 (qo (Int32.toNatClampNeg 2)) (qo (Int32.toNatClampNeg 3)) 1024 = u := ⟨_, rfl⟩
            have hM := kX8_byHalves l D cB cI bd u33.2.1 qm ql qs qk qd qn qe qf qo qt qi u33.2.2 (qo (Int32.toNatClampNeg 2)) (qo (Int32.toNatClampNeg 3)) 1024 (keys_sz hu33 c_38) (show 0 ≤ Int32.toInt 1024 ∧ Int32.toInt 1024 ≤ 1024 by have z_0 : Int32.toInt 1024 = 1024 := rfl; have e_1 : Int32.toInt 1024 = 1024 := rfl; omega)
            rw [hu147] at hM
            refine m_VA X V (w1 := (wR cB cI bd u33.2.1 qm ql qs qk qd qn qe qf qo qt qi u33.2.2)) (rest := []) (st1 := [.int u147]) hM okX8_byHalves gm_598 gm_715 gm_597 ⟨⟨rfl, rfl⟩, ⟨by decide, by decide⟩, Nat.zero_le _, Nat.zero_le _⟩ rfl rfl (wR_fst _ _ _ _ _ _ _ _ _ _ _ _ _ _ _ _) (wR_fst _ _ _ _ _ _ _ _ _ _ _ _ _ _ _ _) rfl hl.1 (Nat.le_of_ble_eq_true rfl) dX8_searches_147 rfl rfl (fun H locs V => ?_)
            refine lv_istore (lv' := [(7, .int u147), (6, .int 1), (5, .int 1024), (4, .int (qo (Int32.toNatClampNeg 3))), (3, .int (qo (Int32.toNatClampNeg 2))), (2, .int u33.1), (1, .int (qo (Int32.toNatClampNeg 6))), (0, .ref (bd 0))]) hx hb dX8_searches_150 hl (by decide) rfl (fun ls hl => ?_)
            refine lv_iload hx hb dX8_searches_152 (lv_at hl 0 rfl) ?_
            refine lv_bipush (v := (-9)) hx hb dX8_searches_154 (by decide) ?_
            refine lv_icmp_ne (tgt := 161) hx hb dX8_searches_156 (by decide) (fun c_156 => ?_) (fun c_156 => ?_)
            · refine lv_aload_n hx hb dX8_searches_161 rfl (lv_at hl 7 rfl) ?_
              refine lv_iload hx hb dX8_searches_162 (lv_at hl 0 rfl) ?_
              refine lv_if_ge (tgt := 180) hx hb dX8_searches_164 (by decide) (fun c_164 => ?_) (fun c_164 => ?_)
              · refine lv_iload hx hb dX8_searches_180 (lv_at hl 1 rfl) ?_
                refine lv_if_eq (tgt := 190) hx hb dX8_searches_182 (by decide) (fun h => absurd h (by decide)) (fun _ => ?_)
                refine lv_iload hx hb dX8_searches_185 (lv_at hl 0 rfl) ?_
                refine lv_goto (tgt := 197) hx hb dX8_searches_187 (by decide) ?_
                obtain ⟨u197, hu197⟩ : ∃ u, pX8_gives u33.2.1 u147 = u := ⟨_, rfl⟩
                have hM := kX8_gives l D cB cI bd u33.2.1 qm ql qs qk qd qn qe qf qo qt qi u33.2.2 u147
                rw [hu197] at hM
                refine m_VA X V (w1 := (wR cB cI bd u197.2 qm ql qs qk qd qn qe qf qo qt qi u33.2.2)) (rest := []) (st1 := [.int u197.1]) hM okX8_gives gm_553 gm_704 gm_552 ⟨⟨rfl, rfl⟩, ⟨by decide, by decide⟩, Nat.zero_le _, Nat.zero_le _⟩ rfl rfl (wR_fst _ _ _ _ _ _ _ _ _ _ _ _ _ _ _ _) (wR_fst _ _ _ _ _ _ _ _ _ _ _ _ _ _ _ _) rfl hl.1 (Nat.le_of_ble_eq_true rfl) dX8_searches_197 rfl rfl (fun H locs V => ?_)
                have e9 : pX8_searches v qm qo qy = (u197.1, u197.2, u33.2.2) := by rw [pX8_searches, if_neg c_25, hu33, mLet_eq, if_pos c_38, if_pos c_64, if_pos c_97, if_neg c_114, hu147, mLet_eq, if_neg c_156, if_pos c_164, hu197, mLet_eq]
                exact m_iret X hr hk V (by rw [e9]) (by rw [e9]) dX8_searches_200
              · refine lv_iload hx hb dX8_searches_167 (lv_at hl 1 rfl) ?_
                refine lv_if_eq (tgt := 176) hx hb dX8_searches_169 (by decide) (fun h => absurd h (by decide)) (fun _ => ?_)
                refine lv_iconst (v := (-1)) hx hb dX8_searches_172 (by decide) ?_
                refine lv_goto (tgt := 197) hx hb dX8_searches_173 (by decide) ?_
                obtain ⟨u197, hu197⟩ : ∃ u, pX8_gives u33.2.1 (-1) = u := ⟨_, rfl⟩
                have hM := kX8_gives l D cB cI bd u33.2.1 qm ql qs qk qd qn qe qf qo qt qi u33.2.2 (-1)
                rw [hu197] at hM
                refine m_VA X V (w1 := (wR cB cI bd u197.2 qm ql qs qk qd qn qe qf qo qt qi u33.2.2)) (rest := []) (st1 := [.int u197.1]) hM okX8_gives gm_553 gm_704 gm_552 ⟨⟨rfl, rfl⟩, ⟨by decide, by decide⟩, Nat.zero_le _, Nat.zero_le _⟩ rfl rfl (wR_fst _ _ _ _ _ _ _ _ _ _ _ _ _ _ _ _) (wR_fst _ _ _ _ _ _ _ _ _ _ _ _ _ _ _ _) rfl hl.1 (Nat.le_of_ble_eq_true rfl) dX8_searches_197 rfl rfl (fun H locs V => ?_)
                have e9 : pX8_searches v qm qo qy = (u197.1, u197.2, u33.2.2) := by rw [pX8_searches, if_neg c_25, hu33, mLet_eq, if_pos c_38, if_pos c_64, if_pos c_97, if_neg c_114, hu147, mLet_eq, if_neg c_156, if_neg c_164, hu197, mLet_eq]
                exact m_iret X hr hk V (by rw [e9]) (by rw [e9]) dX8_searches_200
            · refine lv_iconst (v := 1) hx hb dX8_searches_159 (by decide) ?_
              have e9 : pX8_searches v qm qo qy = (1, u33.2.1, u33.2.2) := by rw [pX8_searches, if_neg c_25, hu33, mLet_eq, if_pos c_38, if_pos c_64, if_pos c_97, if_neg c_114, hu147, mLet_eq, if_pos c_156]
              exact m_iret X hr hk V (by rw [e9]) (by rw [e9]) dX8_searches_160
          · refine lv_aload_n hx hb dX8_searches_117 rfl (lv_at hl 6 rfl) ?_
            refine lv_iload_n hx hb dX8_searches_118 rfl (lv_at hl 3 rfl) ?_
            refine lv_iload hx hb dX8_searches_119 (lv_at hl 2 rfl) ?_
            refine lv_iload hx hb dX8_searches_121 (lv_at hl 1 rfl) ?_
            refine lv_iload_n hx hb dX8_searches_123 rfl (lv_at hl 5 rfl) ?_
            refine lv_iconst (v := 2) hx hb dX8_searches_124 (by decide) ?_
            refine lv_iand hx hb dX8_searches_125 ?_
            refine lv_iconst (v := 2) hx hb dX8_searches_126 (by decide) ?_
            refine lv_icmp_ne (tgt := 134) hx hb dX8_searches_127 (by decide) (fun c_127 => ?_) (fun c_127 => ?_)
            · refine lv_iconst (v := 0) hx hb dX8_searches_134 (by decide) ?_
              obtain ⟨u135, hu135⟩ : ∃ u, pX8_oneByOne u33.2.1 qm qo u33.2.2 (qo (Int32.toNatClampNeg 2)) (qo (Int32.toNatClampNeg 3)) 1024 0 = u := ⟨_, rfl⟩
              have hM := kX8_oneByOne l D cB cI bd u33.2.1 qm ql qs qk qd qn qe qf qo qt qi u33.2.2 (qo (Int32.toNatClampNeg 2)) (qo (Int32.toNatClampNeg 3)) 1024 0 (keys_sz hu33 c_38) (show 0 ≤ Int32.toInt 1024 ∧ Int32.toInt 1024 ≤ 1024 by have z_0 : Int32.toInt 1024 = 1024 := rfl; have e_1 : Int32.toInt 1024 = 1024 := rfl; have e_2 : Int32.toInt 0 = 0 := rfl; omega)
              rw [hu135] at hM
              refine m_VA X V (w1 := (wR cB cI bd u33.2.1 qm ql qs qk qd qn qe qf qo qt qi u33.2.2)) (rest := []) (st1 := [.int u135]) hM okX8_oneByOne gm_589 gm_712 gm_588 ⟨⟨rfl, rfl⟩, ⟨by decide, by decide⟩, Nat.zero_le _, Nat.zero_le _⟩ rfl rfl (wR_fst _ _ _ _ _ _ _ _ _ _ _ _ _ _ _ _) (wR_fst _ _ _ _ _ _ _ _ _ _ _ _ _ _ _ _) rfl hl.1 (Nat.le_of_ble_eq_true rfl) dX8_searches_135 rfl rfl (fun H locs V => ?_)
              refine lv_goto (tgt := 150) hx hb dX8_searches_138 (by decide) ?_
              refine lv_istore (lv' := [(7, .int u135), (6, .int 1), (5, .int 1024), (4, .int (qo (Int32.toNatClampNeg 3))), (3, .int (qo (Int32.toNatClampNeg 2))), (2, .int u33.1), (1, .int (qo (Int32.toNatClampNeg 6))), (0, .ref (bd 0))]) hx hb dX8_searches_150 hl (by decide) rfl (fun ls hl => ?_)
              refine lv_iload hx hb dX8_searches_152 (lv_at hl 0 rfl) ?_
              refine lv_bipush (v := (-9)) hx hb dX8_searches_154 (by decide) ?_
              refine lv_icmp_ne (tgt := 161) hx hb dX8_searches_156 (by decide) (fun c_156 => ?_) (fun c_156 => ?_)
              · refine lv_aload_n hx hb dX8_searches_161 rfl (lv_at hl 7 rfl) ?_
                refine lv_iload hx hb dX8_searches_162 (lv_at hl 0 rfl) ?_
                refine lv_if_ge (tgt := 180) hx hb dX8_searches_164 (by decide) (fun c_164 => ?_) (fun c_164 => ?_)
                · refine lv_iload hx hb dX8_searches_180 (lv_at hl 1 rfl) ?_
                  refine lv_if_eq (tgt := 190) hx hb dX8_searches_182 (by decide) (fun h => absurd h (by decide)) (fun _ => ?_)
                  refine lv_iload hx hb dX8_searches_185 (lv_at hl 0 rfl) ?_
                  refine lv_goto (tgt := 197) hx hb dX8_searches_187 (by decide) ?_
                  obtain ⟨u197, hu197⟩ : ∃ u, pX8_gives u33.2.1 u135 = u := ⟨_, rfl⟩
                  have hM := kX8_gives l D cB cI bd u33.2.1 qm ql qs qk qd qn qe qf qo qt qi u33.2.2 u135
                  rw [hu197] at hM
                  refine m_VA X V (w1 := (wR cB cI bd u197.2 qm ql qs qk qd qn qe qf qo qt qi u33.2.2)) (rest := []) (st1 := [.int u197.1]) hM okX8_gives gm_553 gm_704 gm_552 ⟨⟨rfl, rfl⟩, ⟨by decide, by decide⟩, Nat.zero_le _, Nat.zero_le _⟩ rfl rfl (wR_fst _ _ _ _ _ _ _ _ _ _ _ _ _ _ _ _) (wR_fst _ _ _ _ _ _ _ _ _ _ _ _ _ _ _ _) rfl hl.1 (Nat.le_of_ble_eq_true rfl) dX8_searches_197 rfl rfl (fun H locs V => ?_)
                  have e9 : pX8_searches v qm qo qy = (u197.1, u197.2, u33.2.2) := by rw [pX8_searches, if_neg c_25, hu33, mLet_eq, if_pos c_38, if_pos c_64, if_pos c_97, if_pos c_114, if_neg c_127, hu135, mLet_eq, if_neg c_156, if_pos c_164, hu197, mLet_eq]
                  exact m_iret X hr hk V (by rw [e9]) (by rw [e9]) dX8_searches_200
                · refine lv_iload hx hb dX8_searches_167 (lv_at hl 1 rfl) ?_
                  refine lv_if_eq (tgt := 176) hx hb dX8_searches_169 (by decide) (fun h => absurd h (by decide)) (fun _ => ?_)
                  refine lv_iconst (v := (-1)) hx hb dX8_searches_172 (by decide) ?_
                  refine lv_goto (tgt := 197) hx hb dX8_searches_173 (by decide) ?_
                  obtain ⟨u197, hu197⟩ : ∃ u, pX8_gives u33.2.1 (-1) = u := ⟨_, rfl⟩
                  have hM := kX8_gives l D cB cI bd u33.2.1 qm ql qs qk qd qn qe qf qo qt qi u33.2.2 (-1)
                  rw [hu197] at hM
                  refine m_VA X V (w1 := (wR cB cI bd u197.2 qm ql qs qk qd qn qe qf qo qt qi u33.2.2)) (rest := []) (st1 := [.int u197.1]) hM okX8_gives gm_553 gm_704 gm_552 ⟨⟨rfl, rfl⟩, ⟨by decide, by decide⟩, Nat.zero_le _, Nat.zero_le _⟩ rfl rfl (wR_fst _ _ _ _ _ _ _ _ _ _ _ _ _ _ _ _) (wR_fst _ _ _ _ _ _ _ _ _ _ _ _ _ _ _ _) rfl hl.1 (Nat.le_of_ble_eq_true rfl) dX8_searches_197 rfl rfl (fun H locs V => ?_)
                  have e9 : pX8_searches v qm qo qy = (u197.1, u197.2, u33.2.2) := by rw [pX8_searches, if_neg c_25, hu33, mLet_eq, if_pos c_38, if_pos c_64, if_pos c_97, if_pos c_114, if_neg c_127, hu135, mLet_eq, if_neg c_156, if_neg c_164, hu197, mLet_eq]
                  exact m_iret X hr hk V (by rw [e9]) (by rw [e9]) dX8_searches_200
              · refine lv_iconst (v := 1) hx hb dX8_searches_159 (by decide) ?_
                have e9 : pX8_searches v qm qo qy = (1, u33.2.1, u33.2.2) := by rw [pX8_searches, if_neg c_25, hu33, mLet_eq, if_pos c_38, if_pos c_64, if_pos c_97, if_pos c_114, if_neg c_127, hu135, mLet_eq, if_pos c_156]
                exact m_iret X hr hk V (by rw [e9]) (by rw [e9]) dX8_searches_160
            · refine lv_iconst (v := 1) hx hb dX8_searches_130 (by decide) ?_
              refine lv_goto (tgt := 135) hx hb dX8_searches_131 (by decide) ?_
              obtain ⟨u135, hu135⟩ : ∃ u, pX8_oneByOne u33.2.1 qm qo u33.2.2 (qo (Int32.toNatClampNeg 2)) (qo (Int32.toNatClampNeg 3)) 1024 1 = u := ⟨_, rfl⟩
              have hM := kX8_oneByOne l D cB cI bd u33.2.1 qm ql qs qk qd qn qe qf qo qt qi u33.2.2 (qo (Int32.toNatClampNeg 2)) (qo (Int32.toNatClampNeg 3)) 1024 1 (keys_sz hu33 c_38) (show 0 ≤ Int32.toInt 1024 ∧ Int32.toInt 1024 ≤ 1024 by have z_0 : Int32.toInt 1024 = 1024 := rfl; have e_1 : Int32.toInt 1024 = 1024 := rfl; have e_2 : Int32.toInt 1 = 1 := rfl; omega)
              rw [hu135] at hM
              refine m_VA X V (w1 := (wR cB cI bd u33.2.1 qm ql qs qk qd qn qe qf qo qt qi u33.2.2)) (rest := []) (st1 := [.int u135]) hM okX8_oneByOne gm_589 gm_712 gm_588 ⟨⟨rfl, rfl⟩, ⟨by decide, by decide⟩, Nat.zero_le _, Nat.zero_le _⟩ rfl rfl (wR_fst _ _ _ _ _ _ _ _ _ _ _ _ _ _ _ _) (wR_fst _ _ _ _ _ _ _ _ _ _ _ _ _ _ _ _) rfl hl.1 (Nat.le_of_ble_eq_true rfl) dX8_searches_135 rfl rfl (fun H locs V => ?_)
              refine lv_goto (tgt := 150) hx hb dX8_searches_138 (by decide) ?_
              refine lv_istore (lv' := [(7, .int u135), (6, .int 1), (5, .int 1024), (4, .int (qo (Int32.toNatClampNeg 3))), (3, .int (qo (Int32.toNatClampNeg 2))), (2, .int u33.1), (1, .int (qo (Int32.toNatClampNeg 6))), (0, .ref (bd 0))]) hx hb dX8_searches_150 hl (by decide) rfl (fun ls hl => ?_)
              refine lv_iload hx hb dX8_searches_152 (lv_at hl 0 rfl) ?_
              refine lv_bipush (v := (-9)) hx hb dX8_searches_154 (by decide) ?_
              refine lv_icmp_ne (tgt := 161) hx hb dX8_searches_156 (by decide) (fun c_156 => ?_) (fun c_156 => ?_)
              · refine lv_aload_n hx hb dX8_searches_161 rfl (lv_at hl 7 rfl) ?_
                refine lv_iload hx hb dX8_searches_162 (lv_at hl 0 rfl) ?_
                refine lv_if_ge (tgt := 180) hx hb dX8_searches_164 (by decide) (fun c_164 => ?_) (fun c_164 => ?_)
                · refine lv_iload hx hb dX8_searches_180 (lv_at hl 1 rfl) ?_
                  refine lv_if_eq (tgt := 190) hx hb dX8_searches_182 (by decide) (fun h => absurd h (by decide)) (fun _ => ?_)
                  refine lv_iload hx hb dX8_searches_185 (lv_at hl 0 rfl) ?_
                  refine lv_goto (tgt := 197) hx hb dX8_searches_187 (by decide) ?_
                  obtain ⟨u197, hu197⟩ : ∃ u, pX8_gives u33.2.1 u135 = u := ⟨_, rfl⟩
                  have hM := kX8_gives l D cB cI bd u33.2.1 qm ql qs qk qd qn qe qf qo qt qi u33.2.2 u135
                  rw [hu197] at hM
                  refine m_VA X V (w1 := (wR cB cI bd u197.2 qm ql qs qk qd qn qe qf qo qt qi u33.2.2)) (rest := []) (st1 := [.int u197.1]) hM okX8_gives gm_553 gm_704 gm_552 ⟨⟨rfl, rfl⟩, ⟨by decide, by decide⟩, Nat.zero_le _, Nat.zero_le _⟩ rfl rfl (wR_fst _ _ _ _ _ _ _ _ _ _ _ _ _ _ _ _) (wR_fst _ _ _ _ _ _ _ _ _ _ _ _ _ _ _ _) rfl hl.1 (Nat.le_of_ble_eq_true rfl) dX8_searches_197 rfl rfl (fun H locs V => ?_)
                  have e9 : pX8_searches v qm qo qy = (u197.1, u197.2, u33.2.2) := by rw [pX8_searches, if_neg c_25, hu33, mLet_eq, if_pos c_38, if_pos c_64, if_pos c_97, if_pos c_114, if_pos c_127, hu135, mLet_eq, if_neg c_156, if_pos c_164, hu197, mLet_eq]
                  exact m_iret X hr hk V (by rw [e9]) (by rw [e9]) dX8_searches_200
                · refine lv_iload hx hb dX8_searches_167 (lv_at hl 1 rfl) ?_
                  refine lv_if_eq (tgt := 176) hx hb dX8_searches_169 (by decide) (fun h => absurd h (by decide)) (fun _ => ?_)
                  refine lv_iconst (v := (-1)) hx hb dX8_searches_172 (by decide) ?_
                  refine lv_goto (tgt := 197) hx hb dX8_searches_173 (by decide) ?_
                  obtain ⟨u197, hu197⟩ : ∃ u, pX8_gives u33.2.1 (-1) = u := ⟨_, rfl⟩
                  have hM := kX8_gives l D cB cI bd u33.2.1 qm ql qs qk qd qn qe qf qo qt qi u33.2.2 (-1)
                  rw [hu197] at hM
                  refine m_VA X V (w1 := (wR cB cI bd u197.2 qm ql qs qk qd qn qe qf qo qt qi u33.2.2)) (rest := []) (st1 := [.int u197.1]) hM okX8_gives gm_553 gm_704 gm_552 ⟨⟨rfl, rfl⟩, ⟨by decide, by decide⟩, Nat.zero_le _, Nat.zero_le _⟩ rfl rfl (wR_fst _ _ _ _ _ _ _ _ _ _ _ _ _ _ _ _) (wR_fst _ _ _ _ _ _ _ _ _ _ _ _ _ _ _ _) rfl hl.1 (Nat.le_of_ble_eq_true rfl) dX8_searches_197 rfl rfl (fun H locs V => ?_)
                  have e9 : pX8_searches v qm qo qy = (u197.1, u197.2, u33.2.2) := by rw [pX8_searches, if_neg c_25, hu33, mLet_eq, if_pos c_38, if_pos c_64, if_pos c_97, if_pos c_114, if_pos c_127, hu135, mLet_eq, if_neg c_156, if_neg c_164, hu197, mLet_eq]
                  exact m_iret X hr hk V (by rw [e9]) (by rw [e9]) dX8_searches_200
              · refine lv_iconst (v := 1) hx hb dX8_searches_159 (by decide) ?_
                have e9 : pX8_searches v qm qo qy = (1, u33.2.1, u33.2.2) := by rw [pX8_searches, if_neg c_25, hu33, mLet_eq, if_pos c_38, if_pos c_64, if_pos c_97, if_pos c_114, if_pos c_127, hu135, mLet_eq, if_pos c_156]
                exact m_iret X hr hk V (by rw [e9]) (by rw [e9]) dX8_searches_160
      · refine lv_aload_n hx hb dX8_searches_67 rfl (lv_at hl 4 rfl) ?_
        refine m_get X V 6 0 21 rfl gin_6 rfl (by decide) rfl gm_444 (v := .ref (bd 9)) rfl dX8_searches_68 ?_
        refine lv_iconst (v := 4) hx hb dX8_searches_71 (by decide) ?_
        refine m_iald X V 9 rfl (by rw [vp_in_iff]; decide) dX8_searches_72 ?_
        refine lv_sipush (v := 1024) hx hb dX8_searches_73 (by decide) ?_
        refine lv_icmp_le (tgt := 85) hx hb dX8_searches_76 (by decide) (fun c_76 => ?_) (fun c_76 => ?_)
        · refine lv_aload_n hx hb dX8_searches_85 rfl (lv_at hl 4 rfl) ?_
          refine m_get X V 6 0 21 rfl gin_6 rfl (by decide) rfl gm_444 (v := .ref (bd 9)) rfl dX8_searches_86 ?_
          refine lv_iconst (v := 4) hx hb dX8_searches_89 (by decide) ?_
          refine m_iald X V 9 rfl (by rw [vp_in_iff]; decide) dX8_searches_90 ?_
          refine lv_istore (lv' := [(5, .int (qo (Int32.toNatClampNeg 4))), (4, .int (qo (Int32.toNatClampNeg 3))), (3, .int (qo (Int32.toNatClampNeg 2))), (2, .int u33.1), (1, .int (qo (Int32.toNatClampNeg 6))), (0, .ref (bd 0))]) hx hb dX8_searches_91 hl (by decide) rfl (fun ls hl => ?_)
          refine lv_iload_n hx hb dX8_searches_93 rfl (lv_at hl 4 rfl) ?_
          refine lv_iconst (v := 4) hx hb dX8_searches_94 (by decide) ?_
          refine lv_iand hx hb dX8_searches_95 ?_
          refine lv_iconst (v := 4) hx hb dX8_searches_96 (by decide) ?_
          refine lv_icmp_ne (tgt := 104) hx hb dX8_searches_97 (by decide) (fun c_97 => ?_) (fun c_97 => ?_)
          · refine lv_iconst (v := 0) hx hb dX8_searches_104 (by decide) ?_
            refine lv_istore (lv' := [(6, .int 0), (5, .int (qo (Int32.toNatClampNeg 4))), (4, .int (qo (Int32.toNatClampNeg 3))), (3, .int (qo (Int32.toNatClampNeg 2))), (2, .int u33.1), (1, .int (qo (Int32.toNatClampNeg 6))), (0, .ref (bd 0))]) hx hb dX8_searches_105 hl (by decide) rfl (fun ls hl => ?_)
            refine lv_aload_n hx hb dX8_searches_107 rfl (lv_at hl 6 rfl) ?_
            refine m_get X V 6 0 11 rfl gin_6 rfl (by decide) rfl gm_434 (v := .int (u33.2.1 7)) rfl dX8_searches_108 ?_
            refine lv_sipush (v := 336) hx hb dX8_searches_111 (by decide) ?_
            refine lv_icmp_ne (tgt := 141) hx hb dX8_searches_114 (by decide) (fun c_114 => ?_) (fun c_114 => ?_)
            · refine lv_aload_n hx hb dX8_searches_141 rfl (lv_at hl 6 rfl) ?_
              refine lv_iload_n hx hb dX8_searches_142 rfl (lv_at hl 3 rfl) ?_
              refine lv_iload hx hb dX8_searches_143 (lv_at hl 2 rfl) ?_
              refine lv_iload hx hb dX8_searches_145 (lv_at hl 1 rfl) ?_
              obtain ⟨u147, hu147⟩ : ∃ u, pX8_byHalves u33.2.1 qm qo u33.2.2 (qo (Int32.toNatClampNeg 2)) (qo (Int32.toNatClampNeg 3)) (qo (Int32.toNatClampNeg 4)) = u := ⟨_, rfl⟩
              have hM := kX8_byHalves l D cB cI bd u33.2.1 qm ql qs qk qd qn qe qf qo qt qi u33.2.2 (qo (Int32.toNatClampNeg 2)) (qo (Int32.toNatClampNeg 3)) (qo (Int32.toNatClampNeg 4)) (keys_sz hu33 c_38) (show 0 ≤ Int32.toInt (qo (Int32.toNatClampNeg 4)) ∧ Int32.toInt (qo (Int32.toNatClampNeg 4)) ≤ 1024 by have e_2 : Int32.toInt 0 = 0 := rfl; have f_3 : ¬ Int32.toInt (qo (Int32.toNatClampNeg 4)) < Int32.toInt 0 := fun q => c_64 (Int32.lt_iff_toInt_lt.mpr q); have e_4 : Int32.toInt 1024 = 1024 := rfl; have f_5 : Int32.toInt (qo (Int32.toNatClampNeg 4)) ≤ Int32.toInt 1024 := Int32.le_iff_toInt_le.mp c_76; omega)
              rw [hu147] at hM
              refine m_VA X V (w1 := (wR cB cI bd u33.2.1 qm ql qs qk qd qn qe qf qo qt qi u33.2.2)) (rest := []) (st1 := [.int u147]) hM okX8_byHalves gm_598 gm_715 gm_597 ⟨⟨rfl, rfl⟩, ⟨by decide, by decide⟩, Nat.zero_le _, Nat.zero_le _⟩ rfl rfl (wR_fst _ _ _ _ _ _ _ _ _ _ _ _ _ _ _ _) (wR_fst _ _ _ _ _ _ _ _ _ _ _ _ _ _ _ _) rfl hl.1 (Nat.le_of_ble_eq_true rfl) dX8_searches_147 rfl rfl (fun H locs V => ?_)
              refine lv_istore (lv' := [(7, .int u147), (6, .int 0), (5, .int (qo (Int32.toNatClampNeg 4))), (4, .int (qo (Int32.toNatClampNeg 3))), (3, .int (qo (Int32.toNatClampNeg 2))), (2, .int u33.1), (1, .int (qo (Int32.toNatClampNeg 6))), (0, .ref (bd 0))]) hx hb dX8_searches_150 hl (by decide) rfl (fun ls hl => ?_)
              refine lv_iload hx hb dX8_searches_152 (lv_at hl 0 rfl) ?_
              refine lv_bipush (v := (-9)) hx hb dX8_searches_154 (by decide) ?_
              refine lv_icmp_ne (tgt := 161) hx hb dX8_searches_156 (by decide) (fun c_156 => ?_) (fun c_156 => ?_)
              · refine lv_aload_n hx hb dX8_searches_161 rfl (lv_at hl 7 rfl) ?_
                refine lv_iload hx hb dX8_searches_162 (lv_at hl 0 rfl) ?_
                refine lv_if_ge (tgt := 180) hx hb dX8_searches_164 (by decide) (fun c_164 => ?_) (fun c_164 => ?_)
                · refine lv_iload hx hb dX8_searches_180 (lv_at hl 1 rfl) ?_
                  refine lv_if_eq (tgt := 190) hx hb dX8_searches_182 (by decide) (fun _ => ?_) (fun h => absurd h (by decide))
                  refine lv_iload_n hx hb dX8_searches_190 rfl (lv_at hl 4 rfl) ?_
                  refine lv_iload hx hb dX8_searches_191 (lv_at hl 0 rfl) ?_
                  refine lv_iload hx hb dX8_searches_193 (lv_at hl 3 rfl) ?_
                  refine lv_imul hx hb dX8_searches_195 ?_
                  refine lv_iadd hx hb dX8_searches_196 ?_
                  obtain ⟨u197, hu197⟩ : ∃ u, pX8_gives u33.2.1 ((qo (Int32.toNatClampNeg 2)) + (u147 * (qo (Int32.toNatClampNeg 3)))) = u := ⟨_, rfl⟩
                  have hM := kX8_gives l D cB cI bd u33.2.1 qm ql qs qk qd qn qe qf qo qt qi u33.2.2 ((qo (Int32.toNatClampNeg 2)) + (u147 * (qo (Int32.toNatClampNeg 3))))
                  rw [hu197] at hM
                  refine m_VA X V (w1 := (wR cB cI bd u197.2 qm ql qs qk qd qn qe qf qo qt qi u33.2.2)) (rest := []) (st1 := [.int u197.1]) hM okX8_gives gm_553 gm_704 gm_552 ⟨⟨rfl, rfl⟩, ⟨by decide, by decide⟩, Nat.zero_le _, Nat.zero_le _⟩ rfl rfl (wR_fst _ _ _ _ _ _ _ _ _ _ _ _ _ _ _ _) (wR_fst _ _ _ _ _ _ _ _ _ _ _ _ _ _ _ _) rfl hl.1 (Nat.le_of_ble_eq_true rfl) dX8_searches_197 rfl rfl (fun H locs V => ?_)
                  have e9 : pX8_searches v qm qo qy = (u197.1, u197.2, u33.2.2) := by rw [pX8_searches, if_neg c_25, hu33, mLet_eq, if_pos c_38, if_neg c_64, if_pos c_76, if_neg c_97, if_neg c_114, hu147, mLet_eq, if_neg c_156, if_pos c_164, hu197, mLet_eq]
                  exact m_iret X hr hk V (by rw [e9]) (by rw [e9]) dX8_searches_200
                · refine lv_iload hx hb dX8_searches_167 (lv_at hl 1 rfl) ?_
                  refine lv_if_eq (tgt := 176) hx hb dX8_searches_169 (by decide) (fun _ => ?_) (fun h => absurd h (by decide))
                  refine lv_iconst (v := 0) hx hb dX8_searches_176 (by decide) ?_
                  refine lv_goto (tgt := 197) hx hb dX8_searches_177 (by decide) ?_
                  obtain ⟨u197, hu197⟩ : ∃ u, pX8_gives u33.2.1 0 = u := ⟨_, rfl⟩
                  have hM := kX8_gives l D cB cI bd u33.2.1 qm ql qs qk qd qn qe qf qo qt qi u33.2.2 0
                  rw [hu197] at hM
                  refine m_VA X V (w1 := (wR cB cI bd u197.2 qm ql qs qk qd qn qe qf qo qt qi u33.2.2)) (rest := []) (st1 := [.int u197.1]) hM okX8_gives gm_553 gm_704 gm_552 ⟨⟨rfl, rfl⟩, ⟨by decide, by decide⟩, Nat.zero_le _, Nat.zero_le _⟩ rfl rfl (wR_fst _ _ _ _ _ _ _ _ _ _ _ _ _ _ _ _) (wR_fst _ _ _ _ _ _ _ _ _ _ _ _ _ _ _ _) rfl hl.1 (Nat.le_of_ble_eq_true rfl) dX8_searches_197 rfl rfl (fun H locs V => ?_)
                  have e9 : pX8_searches v qm qo qy = (u197.1, u197.2, u33.2.2) := by rw [pX8_searches, if_neg c_25, hu33, mLet_eq, if_pos c_38, if_neg c_64, if_pos c_76, if_neg c_97, if_neg c_114, hu147, mLet_eq, if_neg c_156, if_neg c_164, hu197, mLet_eq]
                  exact m_iret X hr hk V (by rw [e9]) (by rw [e9]) dX8_searches_200
              · refine lv_iconst (v := 1) hx hb dX8_searches_159 (by decide) ?_
                have e9 : pX8_searches v qm qo qy = (1, u33.2.1, u33.2.2) := by rw [pX8_searches, if_neg c_25, hu33, mLet_eq, if_pos c_38, if_neg c_64, if_pos c_76, if_neg c_97, if_neg c_114, hu147, mLet_eq, if_pos c_156]
                exact m_iret X hr hk V (by rw [e9]) (by rw [e9]) dX8_searches_160
            · refine lv_aload_n hx hb dX8_searches_117 rfl (lv_at hl 6 rfl) ?_
              refine lv_iload_n hx hb dX8_searches_118 rfl (lv_at hl 3 rfl) ?_
              refine lv_iload hx hb dX8_searches_119 (lv_at hl 2 rfl) ?_
              refine lv_iload hx hb dX8_searches_121 (lv_at hl 1 rfl) ?_
              refine lv_iload_n hx hb dX8_searches_123 rfl (lv_at hl 5 rfl) ?_
              refine lv_iconst (v := 2) hx hb dX8_searches_124 (by decide) ?_
              refine lv_iand hx hb dX8_searches_125 ?_
              refine lv_iconst (v := 2) hx hb dX8_searches_126 (by decide) ?_
              refine lv_icmp_ne (tgt := 134) hx hb dX8_searches_127 (by decide) (fun c_127 => ?_) (fun c_127 => ?_)
              · refine lv_iconst (v := 0) hx hb dX8_searches_134 (by decide) ?_
                obtain ⟨u135, hu135⟩ : ∃ u, pX8_oneByOne u33.2.1 qm qo u33.2.2 (qo (Int32.toNatClampNeg 2)) (qo (Int32.toNatClampNeg 3)) (qo (Int32.toNatClampNeg 4)) 0 = u := ⟨_, rfl⟩
                have hM := kX8_oneByOne l D cB cI bd u33.2.1 qm ql qs qk qd qn qe qf qo qt qi u33.2.2 (qo (Int32.toNatClampNeg 2)) (qo (Int32.toNatClampNeg 3)) (qo (Int32.toNatClampNeg 4)) 0 (keys_sz hu33 c_38) (show 0 ≤ Int32.toInt (qo (Int32.toNatClampNeg 4)) ∧ Int32.toInt (qo (Int32.toNatClampNeg 4)) ≤ 1024 by have e_2 : Int32.toInt 0 = 0 := rfl; have f_3 : ¬ Int32.toInt (qo (Int32.toNatClampNeg 4)) < Int32.toInt 0 := fun q => c_64 (Int32.lt_iff_toInt_lt.mpr q); have e_4 : Int32.toInt 1024 = 1024 := rfl; have f_5 : Int32.toInt (qo (Int32.toNatClampNeg 4)) ≤ Int32.toInt 1024 := Int32.le_iff_toInt_le.mp c_76; omega)
                rw [hu135] at hM
                refine m_VA X V (w1 := (wR cB cI bd u33.2.1 qm ql qs qk qd qn qe qf qo qt qi u33.2.2)) (rest := []) (st1 := [.int u135]) hM okX8_oneByOne gm_589 gm_712 gm_588 ⟨⟨rfl, rfl⟩, ⟨by decide, by decide⟩, Nat.zero_le _, Nat.zero_le _⟩ rfl rfl (wR_fst _ _ _ _ _ _ _ _ _ _ _ _ _ _ _ _) (wR_fst _ _ _ _ _ _ _ _ _ _ _ _ _ _ _ _) rfl hl.1 (Nat.le_of_ble_eq_true rfl) dX8_searches_135 rfl rfl (fun H locs V => ?_)
                refine lv_goto (tgt := 150) hx hb dX8_searches_138 (by decide) ?_
                refine lv_istore (lv' := [(7, .int u135), (6, .int 0), (5, .int (qo (Int32.toNatClampNeg 4))), (4, .int (qo (Int32.toNatClampNeg 3))), (3, .int (qo (Int32.toNatClampNeg 2))), (2, .int u33.1), (1, .int (qo (Int32.toNatClampNeg 6))), (0, .ref (bd 0))]) hx hb dX8_searches_150 hl (by decide) rfl (fun ls hl => ?_)
                refine lv_iload hx hb dX8_searches_152 (lv_at hl 0 rfl) ?_
                refine lv_bipush (v := (-9)) hx hb dX8_searches_154 (by decide) ?_
                refine lv_icmp_ne (tgt := 161) hx hb dX8_searches_156 (by decide) (fun c_156 => ?_) (fun c_156 => ?_)
                · refine lv_aload_n hx hb dX8_searches_161 rfl (lv_at hl 7 rfl) ?_
                  refine lv_iload hx hb dX8_searches_162 (lv_at hl 0 rfl) ?_
                  refine lv_if_ge (tgt := 180) hx hb dX8_searches_164 (by decide) (fun c_164 => ?_) (fun c_164 => ?_)
                  · refine lv_iload hx hb dX8_searches_180 (lv_at hl 1 rfl) ?_
                    refine lv_if_eq (tgt := 190) hx hb dX8_searches_182 (by decide) (fun _ => ?_) (fun h => absurd h (by decide))
                    refine lv_iload_n hx hb dX8_searches_190 rfl (lv_at hl 4 rfl) ?_
                    refine lv_iload hx hb dX8_searches_191 (lv_at hl 0 rfl) ?_
                    refine lv_iload hx hb dX8_searches_193 (lv_at hl 3 rfl) ?_
                    refine lv_imul hx hb dX8_searches_195 ?_
                    refine lv_iadd hx hb dX8_searches_196 ?_
                    obtain ⟨u197, hu197⟩ : ∃ u, pX8_gives u33.2.1 ((qo (Int32.toNatClampNeg 2)) + (u135 * (qo (Int32.toNatClampNeg 3)))) = u := ⟨_, rfl⟩
                    have hM := kX8_gives l D cB cI bd u33.2.1 qm ql qs qk qd qn qe qf qo qt qi u33.2.2 ((qo (Int32.toNatClampNeg 2)) + (u135 * (qo (Int32.toNatClampNeg 3))))
                    rw [hu197] at hM
                    refine m_VA X V (w1 := (wR cB cI bd u197.2 qm ql qs qk qd qn qe qf qo qt qi u33.2.2)) (rest := []) (st1 := [.int u197.1]) hM okX8_gives gm_553 gm_704 gm_552 ⟨⟨rfl, rfl⟩, ⟨by decide, by decide⟩, Nat.zero_le _, Nat.zero_le _⟩ rfl rfl (wR_fst _ _ _ _ _ _ _ _ _ _ _ _ _ _ _ _) (wR_fst _ _ _ _ _ _ _ _ _ _ _ _ _ _ _ _) rfl hl.1 (Nat.le_of_ble_eq_true rfl) dX8_searches_197 rfl rfl (fun H locs V => ?_)
                    have e9 : pX8_searches v qm qo qy = (u197.1, u197.2, u33.2.2) := by rw [pX8_searches, if_neg c_25, hu33, mLet_eq, if_pos c_38, if_neg c_64, if_pos c_76, if_neg c_97, if_pos c_114, if_neg c_127, hu135, mLet_eq, if_neg c_156, if_pos c_164, hu197, mLet_eq]
                    exact m_iret X hr hk V (by rw [e9]) (by rw [e9]) dX8_searches_200
                  · refine lv_iload hx hb dX8_searches_167 (lv_at hl 1 rfl) ?_
                    refine lv_if_eq (tgt := 176) hx hb dX8_searches_169 (by decide) (fun _ => ?_) (fun h => absurd h (by decide))
                    refine lv_iconst (v := 0) hx hb dX8_searches_176 (by decide) ?_
                    refine lv_goto (tgt := 197) hx hb dX8_searches_177 (by decide) ?_
                    obtain ⟨u197, hu197⟩ : ∃ u, pX8_gives u33.2.1 0 = u := ⟨_, rfl⟩
                    have hM := kX8_gives l D cB cI bd u33.2.1 qm ql qs qk qd qn qe qf qo qt qi u33.2.2 0
                    rw [hu197] at hM
                    refine m_VA X V (w1 := (wR cB cI bd u197.2 qm ql qs qk qd qn qe qf qo qt qi u33.2.2)) (rest := []) (st1 := [.int u197.1]) hM okX8_gives gm_553 gm_704 gm_552 ⟨⟨rfl, rfl⟩, ⟨by decide, by decide⟩, Nat.zero_le _, Nat.zero_le _⟩ rfl rfl (wR_fst _ _ _ _ _ _ _ _ _ _ _ _ _ _ _ _) (wR_fst _ _ _ _ _ _ _ _ _ _ _ _ _ _ _ _) rfl hl.1 (Nat.le_of_ble_eq_true rfl) dX8_searches_197 rfl rfl (fun H locs V => ?_)
                    have e9 : pX8_searches v qm qo qy = (u197.1, u197.2, u33.2.2) := by rw [pX8_searches, if_neg c_25, hu33, mLet_eq, if_pos c_38, if_neg c_64, if_pos c_76, if_neg c_97, if_pos c_114, if_neg c_127, hu135, mLet_eq, if_neg c_156, if_neg c_164, hu197, mLet_eq]
                    exact m_iret X hr hk V (by rw [e9]) (by rw [e9]) dX8_searches_200
                · refine lv_iconst (v := 1) hx hb dX8_searches_159 (by decide) ?_
                  have e9 : pX8_searches v qm qo qy = (1, u33.2.1, u33.2.2) := by rw [pX8_searches, if_neg c_25, hu33, mLet_eq, if_pos c_38, if_neg c_64, if_pos c_76, if_neg c_97, if_pos c_114, if_neg c_127, hu135, mLet_eq, if_pos c_156]
                  exact m_iret X hr hk V (by rw [e9]) (by rw [e9]) dX8_searches_160
              · refine lv_iconst (v := 1) hx hb dX8_searches_130 (by decide) ?_
                refine lv_goto (tgt := 135) hx hb dX8_searches_131 (by decide) ?_
                obtain ⟨u135, hu135⟩ : ∃ u, pX8_oneByOne u33.2.1 qm qo u33.2.2 (qo (Int32.toNatClampNeg 2)) (qo (Int32.toNatClampNeg 3)) (qo (Int32.toNatClampNeg 4)) 1 = u := ⟨_, rfl⟩
                have hM := kX8_oneByOne l D cB cI bd u33.2.1 qm ql qs qk qd qn qe qf qo qt qi u33.2.2 (qo (Int32.toNatClampNeg 2)) (qo (Int32.toNatClampNeg 3)) (qo (Int32.toNatClampNeg 4)) 1 (keys_sz hu33 c_38) (show 0 ≤ Int32.toInt (qo (Int32.toNatClampNeg 4)) ∧ Int32.toInt (qo (Int32.toNatClampNeg 4)) ≤ 1024 by have e_2 : Int32.toInt 0 = 0 := rfl; have f_3 : ¬ Int32.toInt (qo (Int32.toNatClampNeg 4)) < Int32.toInt 0 := fun q => c_64 (Int32.lt_iff_toInt_lt.mpr q); have e_4 : Int32.toInt 1024 = 1024 := rfl; have f_5 : Int32.toInt (qo (Int32.toNatClampNeg 4)) ≤ Int32.toInt 1024 := Int32.le_iff_toInt_le.mp c_76; have e_6 : Int32.toInt 1 = 1 := rfl; omega)
                rw [hu135] at hM
                refine m_VA X V (w1 := (wR cB cI bd u33.2.1 qm ql qs qk qd qn qe qf qo qt qi u33.2.2)) (rest := []) (st1 := [.int u135]) hM okX8_oneByOne gm_589 gm_712 gm_588 ⟨⟨rfl, rfl⟩, ⟨by decide, by decide⟩, Nat.zero_le _, Nat.zero_le _⟩ rfl rfl (wR_fst _ _ _ _ _ _ _ _ _ _ _ _ _ _ _ _) (wR_fst _ _ _ _ _ _ _ _ _ _ _ _ _ _ _ _) rfl hl.1 (Nat.le_of_ble_eq_true rfl) dX8_searches_135 rfl rfl (fun H locs V => ?_)
                refine lv_goto (tgt := 150) hx hb dX8_searches_138 (by decide) ?_
                refine lv_istore (lv' := [(7, .int u135), (6, .int 0), (5, .int (qo (Int32.toNatClampNeg 4))), (4, .int (qo (Int32.toNatClampNeg 3))), (3, .int (qo (Int32.toNatClampNeg 2))), (2, .int u33.1), (1, .int (qo (Int32.toNatClampNeg 6))), (0, .ref (bd 0))]) hx hb dX8_searches_150 hl (by decide) rfl (fun ls hl => ?_)
                refine lv_iload hx hb dX8_searches_152 (lv_at hl 0 rfl) ?_
                refine lv_bipush (v := (-9)) hx hb dX8_searches_154 (by decide) ?_
                refine lv_icmp_ne (tgt := 161) hx hb dX8_searches_156 (by decide) (fun c_156 => ?_) (fun c_156 => ?_)
                · refine lv_aload_n hx hb dX8_searches_161 rfl (lv_at hl 7 rfl) ?_
                  refine lv_iload hx hb dX8_searches_162 (lv_at hl 0 rfl) ?_
                  refine lv_if_ge (tgt := 180) hx hb dX8_searches_164 (by decide) (fun c_164 => ?_) (fun c_164 => ?_)
                  · refine lv_iload hx hb dX8_searches_180 (lv_at hl 1 rfl) ?_
                    refine lv_if_eq (tgt := 190) hx hb dX8_searches_182 (by decide) (fun _ => ?_) (fun h => absurd h (by decide))
                    refine lv_iload_n hx hb dX8_searches_190 rfl (lv_at hl 4 rfl) ?_
                    refine lv_iload hx hb dX8_searches_191 (lv_at hl 0 rfl) ?_
                    refine lv_iload hx hb dX8_searches_193 (lv_at hl 3 rfl) ?_
                    refine lv_imul hx hb dX8_searches_195 ?_
                    refine lv_iadd hx hb dX8_searches_196 ?_
                    obtain ⟨u197, hu197⟩ : ∃ u, pX8_gives u33.2.1 ((qo (Int32.toNatClampNeg 2)) + (u135 * (qo (Int32.toNatClampNeg 3)))) = u := ⟨_, rfl⟩
                    have hM := kX8_gives l D cB cI bd u33.2.1 qm ql qs qk qd qn qe qf qo qt qi u33.2.2 ((qo (Int32.toNatClampNeg 2)) + (u135 * (qo (Int32.toNatClampNeg 3))))
                    rw [hu197] at hM
                    refine m_VA X V (w1 := (wR cB cI bd u197.2 qm ql qs qk qd qn qe qf qo qt qi u33.2.2)) (rest := []) (st1 := [.int u197.1]) hM okX8_gives gm_553 gm_704 gm_552 ⟨⟨rfl, rfl⟩, ⟨by decide, by decide⟩, Nat.zero_le _, Nat.zero_le _⟩ rfl rfl (wR_fst _ _ _ _ _ _ _ _ _ _ _ _ _ _ _ _) (wR_fst _ _ _ _ _ _ _ _ _ _ _ _ _ _ _ _) rfl hl.1 (Nat.le_of_ble_eq_true rfl) dX8_searches_197 rfl rfl (fun H locs V => ?_)
                    have e9 : pX8_searches v qm qo qy = (u197.1, u197.2, u33.2.2) := by rw [pX8_searches, if_neg c_25, hu33, mLet_eq, if_pos c_38, if_neg c_64, if_pos c_76, if_neg c_97, if_pos c_114, if_pos c_127, hu135, mLet_eq, if_neg c_156, if_pos c_164, hu197, mLet_eq]
                    exact m_iret X hr hk V (by rw [e9]) (by rw [e9]) dX8_searches_200
                  · refine lv_iload hx hb dX8_searches_167 (lv_at hl 1 rfl) ?_
                    refine lv_if_eq (tgt := 176) hx hb dX8_searches_169 (by decide) (fun _ => ?_) (fun h => absurd h (by decide))
                    refine lv_iconst (v := 0) hx hb dX8_searches_176 (by decide) ?_
                    refine lv_goto (tgt := 197) hx hb dX8_searches_177 (by decide) ?_
                    obtain ⟨u197, hu197⟩ : ∃ u, pX8_gives u33.2.1 0 = u := ⟨_, rfl⟩
                    have hM := kX8_gives l D cB cI bd u33.2.1 qm ql qs qk qd qn qe qf qo qt qi u33.2.2 0
                    rw [hu197] at hM
                    refine m_VA X V (w1 := (wR cB cI bd u197.2 qm ql qs qk qd qn qe qf qo qt qi u33.2.2)) (rest := []) (st1 := [.int u197.1]) hM okX8_gives gm_553 gm_704 gm_552 ⟨⟨rfl, rfl⟩, ⟨by decide, by decide⟩, Nat.zero_le _, Nat.zero_le _⟩ rfl rfl (wR_fst _ _ _ _ _ _ _ _ _ _ _ _ _ _ _ _) (wR_fst _ _ _ _ _ _ _ _ _ _ _ _ _ _ _ _) rfl hl.1 (Nat.le_of_ble_eq_true rfl) dX8_searches_197 rfl rfl (fun H locs V => ?_)
                    have e9 : pX8_searches v qm qo qy = (u197.1, u197.2, u33.2.2) := by rw [pX8_searches, if_neg c_25, hu33, mLet_eq, if_pos c_38, if_neg c_64, if_pos c_76, if_neg c_97, if_pos c_114, if_pos c_127, hu135, mLet_eq, if_neg c_156, if_neg c_164, hu197, mLet_eq]
                    exact m_iret X hr hk V (by rw [e9]) (by rw [e9]) dX8_searches_200
                · refine lv_iconst (v := 1) hx hb dX8_searches_159 (by decide) ?_
                  have e9 : pX8_searches v qm qo qy = (1, u33.2.1, u33.2.2) := by rw [pX8_searches, if_neg c_25, hu33, mLet_eq, if_pos c_38, if_neg c_64, if_pos c_76, if_neg c_97, if_pos c_114, if_pos c_127, hu135, mLet_eq, if_pos c_156]
                  exact m_iret X hr hk V (by rw [e9]) (by rw [e9]) dX8_searches_160
          · refine lv_iconst (v := 1) hx hb dX8_searches_100 (by decide) ?_
            refine lv_goto (tgt := 105) hx hb dX8_searches_101 (by decide) ?_
            refine lv_istore (lv' := [(6, .int 1), (5, .int (qo (Int32.toNatClampNeg 4))), (4, .int (qo (Int32.toNatClampNeg 3))), (3, .int (qo (Int32.toNatClampNeg 2))), (2, .int u33.1), (1, .int (qo (Int32.toNatClampNeg 6))), (0, .ref (bd 0))]) hx hb dX8_searches_105 hl (by decide) rfl (fun ls hl => ?_)
            refine lv_aload_n hx hb dX8_searches_107 rfl (lv_at hl 6 rfl) ?_
            refine m_get X V 6 0 11 rfl gin_6 rfl (by decide) rfl gm_434 (v := .int (u33.2.1 7)) rfl dX8_searches_108 ?_
            refine lv_sipush (v := 336) hx hb dX8_searches_111 (by decide) ?_
            refine lv_icmp_ne (tgt := 141) hx hb dX8_searches_114 (by decide) (fun c_114 => ?_) (fun c_114 => ?_)
            · refine lv_aload_n hx hb dX8_searches_141 rfl (lv_at hl 6 rfl) ?_
              refine lv_iload_n hx hb dX8_searches_142 rfl (lv_at hl 3 rfl) ?_
              refine lv_iload hx hb dX8_searches_143 (lv_at hl 2 rfl) ?_
              refine lv_iload hx hb dX8_searches_145 (lv_at hl 1 rfl) ?_
              obtain ⟨u147, hu147⟩ : ∃ u, pX8_byHalves u33.2.1 qm qo u33.2.2 (qo (Int32.toNatClampNeg 2)) (qo (Int32.toNatClampNeg 3)) (qo (Int32.toNatClampNeg 4)) = u := ⟨_, rfl⟩
              have hM := kX8_byHalves l D cB cI bd u33.2.1 qm ql qs qk qd qn qe qf qo qt qi u33.2.2 (qo (Int32.toNatClampNeg 2)) (qo (Int32.toNatClampNeg 3)) (qo (Int32.toNatClampNeg 4)) (keys_sz hu33 c_38) (show 0 ≤ Int32.toInt (qo (Int32.toNatClampNeg 4)) ∧ Int32.toInt (qo (Int32.toNatClampNeg 4)) ≤ 1024 by have e_2 : Int32.toInt 0 = 0 := rfl; have f_3 : ¬ Int32.toInt (qo (Int32.toNatClampNeg 4)) < Int32.toInt 0 := fun q => c_64 (Int32.lt_iff_toInt_lt.mpr q); have e_4 : Int32.toInt 1024 = 1024 := rfl; have f_5 : Int32.toInt (qo (Int32.toNatClampNeg 4)) ≤ Int32.toInt 1024 := Int32.le_iff_toInt_le.mp c_76; omega)
              rw [hu147] at hM
              refine m_VA X V (w1 := (wR cB cI bd u33.2.1 qm ql qs qk qd qn qe qf qo qt qi u33.2.2)) (rest := []) (st1 := [.int u147]) hM okX8_byHalves gm_598 gm_715 gm_597 ⟨⟨rfl, rfl⟩, ⟨by decide, by decide⟩, Nat.zero_le _, Nat.zero_le _⟩ rfl rfl (wR_fst _ _ _ _ _ _ _ _ _ _ _ _ _ _ _ _) (wR_fst _ _ _ _ _ _ _ _ _ _ _ _ _ _ _ _) rfl hl.1 (Nat.le_of_ble_eq_true rfl) dX8_searches_147 rfl rfl (fun H locs V => ?_)
              refine lv_istore (lv' := [(7, .int u147), (6, .int 1), (5, .int (qo (Int32.toNatClampNeg 4))), (4, .int (qo (Int32.toNatClampNeg 3))), (3, .int (qo (Int32.toNatClampNeg 2))), (2, .int u33.1), (1, .int (qo (Int32.toNatClampNeg 6))), (0, .ref (bd 0))]) hx hb dX8_searches_150 hl (by decide) rfl (fun ls hl => ?_)
              refine lv_iload hx hb dX8_searches_152 (lv_at hl 0 rfl) ?_
              refine lv_bipush (v := (-9)) hx hb dX8_searches_154 (by decide) ?_
              refine lv_icmp_ne (tgt := 161) hx hb dX8_searches_156 (by decide) (fun c_156 => ?_) (fun c_156 => ?_)
              · refine lv_aload_n hx hb dX8_searches_161 rfl (lv_at hl 7 rfl) ?_
                refine lv_iload hx hb dX8_searches_162 (lv_at hl 0 rfl) ?_
                refine lv_if_ge (tgt := 180) hx hb dX8_searches_164 (by decide) (fun c_164 => ?_) (fun c_164 => ?_)
                · refine lv_iload hx hb dX8_searches_180 (lv_at hl 1 rfl) ?_
                  refine lv_if_eq (tgt := 190) hx hb dX8_searches_182 (by decide) (fun h => absurd h (by decide)) (fun _ => ?_)
                  refine lv_iload hx hb dX8_searches_185 (lv_at hl 0 rfl) ?_
                  refine lv_goto (tgt := 197) hx hb dX8_searches_187 (by decide) ?_
                  obtain ⟨u197, hu197⟩ : ∃ u, pX8_gives u33.2.1 u147 = u := ⟨_, rfl⟩
                  have hM := kX8_gives l D cB cI bd u33.2.1 qm ql qs qk qd qn qe qf qo qt qi u33.2.2 u147
                  rw [hu197] at hM
                  refine m_VA X V (w1 := (wR cB cI bd u197.2 qm ql qs qk qd qn qe qf qo qt qi u33.2.2)) (rest := []) (st1 := [.int u197.1]) hM okX8_gives gm_553 gm_704 gm_552 ⟨⟨rfl, rfl⟩, ⟨by decide, by decide⟩, Nat.zero_le _, Nat.zero_le _⟩ rfl rfl (wR_fst _ _ _ _ _ _ _ _ _ _ _ _ _ _ _ _) (wR_fst _ _ _ _ _ _ _ _ _ _ _ _ _ _ _ _) rfl hl.1 (Nat.le_of_ble_eq_true rfl) dX8_searches_197 rfl rfl (fun H locs V => ?_)
                  have e9 : pX8_searches v qm qo qy = (u197.1, u197.2, u33.2.2) := by rw [pX8_searches, if_neg c_25, hu33, mLet_eq, if_pos c_38, if_neg c_64, if_pos c_76, if_pos c_97, if_neg c_114, hu147, mLet_eq, if_neg c_156, if_pos c_164, hu197, mLet_eq]
                  exact m_iret X hr hk V (by rw [e9]) (by rw [e9]) dX8_searches_200
                · refine lv_iload hx hb dX8_searches_167 (lv_at hl 1 rfl) ?_
                  refine lv_if_eq (tgt := 176) hx hb dX8_searches_169 (by decide) (fun h => absurd h (by decide)) (fun _ => ?_)
                  refine lv_iconst (v := (-1)) hx hb dX8_searches_172 (by decide) ?_
                  refine lv_goto (tgt := 197) hx hb dX8_searches_173 (by decide) ?_
                  obtain ⟨u197, hu197⟩ : ∃ u, pX8_gives u33.2.1 (-1) = u := ⟨_, rfl⟩
                  have hM := kX8_gives l D cB cI bd u33.2.1 qm ql qs qk qd qn qe qf qo qt qi u33.2.2 (-1)
                  rw [hu197] at hM
                  refine m_VA X V (w1 := (wR cB cI bd u197.2 qm ql qs qk qd qn qe qf qo qt qi u33.2.2)) (rest := []) (st1 := [.int u197.1]) hM okX8_gives gm_553 gm_704 gm_552 ⟨⟨rfl, rfl⟩, ⟨by decide, by decide⟩, Nat.zero_le _, Nat.zero_le _⟩ rfl rfl (wR_fst _ _ _ _ _ _ _ _ _ _ _ _ _ _ _ _) (wR_fst _ _ _ _ _ _ _ _ _ _ _ _ _ _ _ _) rfl hl.1 (Nat.le_of_ble_eq_true rfl) dX8_searches_197 rfl rfl (fun H locs V => ?_)
                  have e9 : pX8_searches v qm qo qy = (u197.1, u197.2, u33.2.2) := by rw [pX8_searches, if_neg c_25, hu33, mLet_eq, if_pos c_38, if_neg c_64, if_pos c_76, if_pos c_97, if_neg c_114, hu147, mLet_eq, if_neg c_156, if_neg c_164, hu197, mLet_eq]
                  exact m_iret X hr hk V (by rw [e9]) (by rw [e9]) dX8_searches_200
              · refine lv_iconst (v := 1) hx hb dX8_searches_159 (by decide) ?_
                have e9 : pX8_searches v qm qo qy = (1, u33.2.1, u33.2.2) := by rw [pX8_searches, if_neg c_25, hu33, mLet_eq, if_pos c_38, if_neg c_64, if_pos c_76, if_pos c_97, if_neg c_114, hu147, mLet_eq, if_pos c_156]
                exact m_iret X hr hk V (by rw [e9]) (by rw [e9]) dX8_searches_160
            · refine lv_aload_n hx hb dX8_searches_117 rfl (lv_at hl 6 rfl) ?_
              refine lv_iload_n hx hb dX8_searches_118 rfl (lv_at hl 3 rfl) ?_
              refine lv_iload hx hb dX8_searches_119 (lv_at hl 2 rfl) ?_
              refine lv_iload hx hb dX8_searches_121 (lv_at hl 1 rfl) ?_
              refine lv_iload_n hx hb dX8_searches_123 rfl (lv_at hl 5 rfl) ?_
              refine lv_iconst (v := 2) hx hb dX8_searches_124 (by decide) ?_
              refine lv_iand hx hb dX8_searches_125 ?_
              refine lv_iconst (v := 2) hx hb dX8_searches_126 (by decide) ?_
              refine lv_icmp_ne (tgt := 134) hx hb dX8_searches_127 (by decide) (fun c_127 => ?_) (fun c_127 => ?_)
              · refine lv_iconst (v := 0) hx hb dX8_searches_134 (by decide) ?_
                obtain ⟨u135, hu135⟩ : ∃ u, pX8_oneByOne u33.2.1 qm qo u33.2.2 (qo (Int32.toNatClampNeg 2)) (qo (Int32.toNatClampNeg 3)) (qo (Int32.toNatClampNeg 4)) 0 = u := ⟨_, rfl⟩
                have hM := kX8_oneByOne l D cB cI bd u33.2.1 qm ql qs qk qd qn qe qf qo qt qi u33.2.2 (qo (Int32.toNatClampNeg 2)) (qo (Int32.toNatClampNeg 3)) (qo (Int32.toNatClampNeg 4)) 0 (keys_sz hu33 c_38) (show 0 ≤ Int32.toInt (qo (Int32.toNatClampNeg 4)) ∧ Int32.toInt (qo (Int32.toNatClampNeg 4)) ≤ 1024 by have e_2 : Int32.toInt 0 = 0 := rfl; have f_3 : ¬ Int32.toInt (qo (Int32.toNatClampNeg 4)) < Int32.toInt 0 := fun q => c_64 (Int32.lt_iff_toInt_lt.mpr q); have e_4 : Int32.toInt 1024 = 1024 := rfl; have f_5 : Int32.toInt (qo (Int32.toNatClampNeg 4)) ≤ Int32.toInt 1024 := Int32.le_iff_toInt_le.mp c_76; omega)
                rw [hu135] at hM
                refine m_VA X V (w1 := (wR cB cI bd u33.2.1 qm ql qs qk qd qn qe qf qo qt qi u33.2.2)) (rest := []) (st1 := [.int u135]) hM okX8_oneByOne gm_589 gm_712 gm_588 ⟨⟨rfl, rfl⟩, ⟨by decide, by decide⟩, Nat.zero_le _, Nat.zero_le _⟩ rfl rfl (wR_fst _ _ _ _ _ _ _ _ _ _ _ _ _ _ _ _) (wR_fst _ _ _ _ _ _ _ _ _ _ _ _ _ _ _ _) rfl hl.1 (Nat.le_of_ble_eq_true rfl) dX8_searches_135 rfl rfl (fun H locs V => ?_)
                refine lv_goto (tgt := 150) hx hb dX8_searches_138 (by decide) ?_
                refine lv_istore (lv' := [(7, .int u135), (6, .int 1), (5, .int (qo (Int32.toNatClampNeg 4))), (4, .int (qo (Int32.toNatClampNeg 3))), (3, .int (qo (Int32.toNatClampNeg 2))), (2, .int u33.1), (1, .int (qo (Int32.toNatClampNeg 6))), (0, .ref (bd 0))]) hx hb dX8_searches_150 hl (by decide) rfl (fun ls hl => ?_)
                refine lv_iload hx hb dX8_searches_152 (lv_at hl 0 rfl) ?_
                refine lv_bipush (v := (-9)) hx hb dX8_searches_154 (by decide) ?_
                refine lv_icmp_ne (tgt := 161) hx hb dX8_searches_156 (by decide) (fun c_156 => ?_) (fun c_156 => ?_)
                · refine lv_aload_n hx hb dX8_searches_161 rfl (lv_at hl 7 rfl) ?_
                  refine lv_iload hx hb dX8_searches_162 (lv_at hl 0 rfl) ?_
                  refine lv_if_ge (tgt := 180) hx hb dX8_searches_164 (by decide) (fun c_164 => ?_) (fun c_164 => ?_)
                  · refine lv_iload hx hb dX8_searches_180 (lv_at hl 1 rfl) ?_
                    refine lv_if_eq (tgt := 190) hx hb dX8_searches_182 (by decide) (fun h => absurd h (by decide)) (fun _ => ?_)
                    refine lv_iload hx hb dX8_searches_185 (lv_at hl 0 rfl) ?_
                    refine lv_goto (tgt := 197) hx hb dX8_searches_187 (by decide) ?_
                    obtain ⟨u197, hu197⟩ : ∃ u, pX8_gives u33.2.1 u135 = u := ⟨_, rfl⟩
                    have hM := kX8_gives l D cB cI bd u33.2.1 qm ql qs qk qd qn qe qf qo qt qi u33.2.2 u135
                    rw [hu197] at hM
                    refine m_VA X V (w1 := (wR cB cI bd u197.2 qm ql qs qk qd qn qe qf qo qt qi u33.2.2)) (rest := []) (st1 := [.int u197.1]) hM okX8_gives gm_553 gm_704 gm_552 ⟨⟨rfl, rfl⟩, ⟨by decide, by decide⟩, Nat.zero_le _, Nat.zero_le _⟩ rfl rfl (wR_fst _ _ _ _ _ _ _ _ _ _ _ _ _ _ _ _) (wR_fst _ _ _ _ _ _ _ _ _ _ _ _ _ _ _ _) rfl hl.1 (Nat.le_of_ble_eq_true rfl) dX8_searches_197 rfl rfl (fun H locs V => ?_)
                    have e9 : pX8_searches v qm qo qy = (u197.1, u197.2, u33.2.2) := by rw [pX8_searches, if_neg c_25, hu33, mLet_eq, if_pos c_38, if_neg c_64, if_pos c_76, if_pos c_97, if_pos c_114, if_neg c_127, hu135, mLet_eq, if_neg c_156, if_pos c_164, hu197, mLet_eq]
                    exact m_iret X hr hk V (by rw [e9]) (by rw [e9]) dX8_searches_200
                  · refine lv_iload hx hb dX8_searches_167 (lv_at hl 1 rfl) ?_
                    refine lv_if_eq (tgt := 176) hx hb dX8_searches_169 (by decide) (fun h => absurd h (by decide)) (fun _ => ?_)
                    refine lv_iconst (v := (-1)) hx hb dX8_searches_172 (by decide) ?_
                    refine lv_goto (tgt := 197) hx hb dX8_searches_173 (by decide) ?_
                    obtain ⟨u197, hu197⟩ : ∃ u, pX8_gives u33.2.1 (-1) = u := ⟨_, rfl⟩
                    have hM := kX8_gives l D cB cI bd u33.2.1 qm ql qs qk qd qn qe qf qo qt qi u33.2.2 (-1)
                    rw [hu197] at hM
                    refine m_VA X V (w1 := (wR cB cI bd u197.2 qm ql qs qk qd qn qe qf qo qt qi u33.2.2)) (rest := []) (st1 := [.int u197.1]) hM okX8_gives gm_553 gm_704 gm_552 ⟨⟨rfl, rfl⟩, ⟨by decide, by decide⟩, Nat.zero_le _, Nat.zero_le _⟩ rfl rfl (wR_fst _ _ _ _ _ _ _ _ _ _ _ _ _ _ _ _) (wR_fst _ _ _ _ _ _ _ _ _ _ _ _ _ _ _ _) rfl hl.1 (Nat.le_of_ble_eq_true rfl) dX8_searches_197 rfl rfl (fun H locs V => ?_)
                    have e9 : pX8_searches v qm qo qy = (u197.1, u197.2, u33.2.2) := by rw [pX8_searches, if_neg c_25, hu33, mLet_eq, if_pos c_38, if_neg c_64, if_pos c_76, if_pos c_97, if_pos c_114, if_neg c_127, hu135, mLet_eq, if_neg c_156, if_neg c_164, hu197, mLet_eq]
                    exact m_iret X hr hk V (by rw [e9]) (by rw [e9]) dX8_searches_200
                · refine lv_iconst (v := 1) hx hb dX8_searches_159 (by decide) ?_
                  have e9 : pX8_searches v qm qo qy = (1, u33.2.1, u33.2.2) := by rw [pX8_searches, if_neg c_25, hu33, mLet_eq, if_pos c_38, if_neg c_64, if_pos c_76, if_pos c_97, if_pos c_114, if_neg c_127, hu135, mLet_eq, if_pos c_156]
                  exact m_iret X hr hk V (by rw [e9]) (by rw [e9]) dX8_searches_160
              · refine lv_iconst (v := 1) hx hb dX8_searches_130 (by decide) ?_
                refine lv_goto (tgt := 135) hx hb dX8_searches_131 (by decide) ?_
                obtain ⟨u135, hu135⟩ : ∃ u, pX8_oneByOne u33.2.1 qm qo u33.2.2 (qo (Int32.toNatClampNeg 2)) (qo (Int32.toNatClampNeg 3)) (qo (Int32.toNatClampNeg 4)) 1 = u := ⟨_, rfl⟩
                have hM := kX8_oneByOne l D cB cI bd u33.2.1 qm ql qs qk qd qn qe qf qo qt qi u33.2.2 (qo (Int32.toNatClampNeg 2)) (qo (Int32.toNatClampNeg 3)) (qo (Int32.toNatClampNeg 4)) 1 (keys_sz hu33 c_38) (show 0 ≤ Int32.toInt (qo (Int32.toNatClampNeg 4)) ∧ Int32.toInt (qo (Int32.toNatClampNeg 4)) ≤ 1024 by have e_2 : Int32.toInt 0 = 0 := rfl; have f_3 : ¬ Int32.toInt (qo (Int32.toNatClampNeg 4)) < Int32.toInt 0 := fun q => c_64 (Int32.lt_iff_toInt_lt.mpr q); have e_4 : Int32.toInt 1024 = 1024 := rfl; have f_5 : Int32.toInt (qo (Int32.toNatClampNeg 4)) ≤ Int32.toInt 1024 := Int32.le_iff_toInt_le.mp c_76; have e_6 : Int32.toInt 1 = 1 := rfl; omega)
                rw [hu135] at hM
                refine m_VA X V (w1 := (wR cB cI bd u33.2.1 qm ql qs qk qd qn qe qf qo qt qi u33.2.2)) (rest := []) (st1 := [.int u135]) hM okX8_oneByOne gm_589 gm_712 gm_588 ⟨⟨rfl, rfl⟩, ⟨by decide, by decide⟩, Nat.zero_le _, Nat.zero_le _⟩ rfl rfl (wR_fst _ _ _ _ _ _ _ _ _ _ _ _ _ _ _ _) (wR_fst _ _ _ _ _ _ _ _ _ _ _ _ _ _ _ _) rfl hl.1 (Nat.le_of_ble_eq_true rfl) dX8_searches_135 rfl rfl (fun H locs V => ?_)
                refine lv_goto (tgt := 150) hx hb dX8_searches_138 (by decide) ?_
                refine lv_istore (lv' := [(7, .int u135), (6, .int 1), (5, .int (qo (Int32.toNatClampNeg 4))), (4, .int (qo (Int32.toNatClampNeg 3))), (3, .int (qo (Int32.toNatClampNeg 2))), (2, .int u33.1), (1, .int (qo (Int32.toNatClampNeg 6))), (0, .ref (bd 0))]) hx hb dX8_searches_150 hl (by decide) rfl (fun ls hl => ?_)
                refine lv_iload hx hb dX8_searches_152 (lv_at hl 0 rfl) ?_
                refine lv_bipush (v := (-9)) hx hb dX8_searches_154 (by decide) ?_
                refine lv_icmp_ne (tgt := 161) hx hb dX8_searches_156 (by decide) (fun c_156 => ?_) (fun c_156 => ?_)
                · refine lv_aload_n hx hb dX8_searches_161 rfl (lv_at hl 7 rfl) ?_
                  refine lv_iload hx hb dX8_searches_162 (lv_at hl 0 rfl) ?_
                  refine lv_if_ge (tgt := 180) hx hb dX8_searches_164 (by decide) (fun c_164 => ?_) (fun c_164 => ?_)
                  · refine lv_iload hx hb dX8_searches_180 (lv_at hl 1 rfl) ?_
                    refine lv_if_eq (tgt := 190) hx hb dX8_searches_182 (by decide) (fun h => absurd h (by decide)) (fun _ => ?_)
                    refine lv_iload hx hb dX8_searches_185 (lv_at hl 0 rfl) ?_
                    refine lv_goto (tgt := 197) hx hb dX8_searches_187 (by decide) ?_
                    obtain ⟨u197, hu197⟩ : ∃ u, pX8_gives u33.2.1 u135 = u := ⟨_, rfl⟩
                    have hM := kX8_gives l D cB cI bd u33.2.1 qm ql qs qk qd qn qe qf qo qt qi u33.2.2 u135
                    rw [hu197] at hM
                    refine m_VA X V (w1 := (wR cB cI bd u197.2 qm ql qs qk qd qn qe qf qo qt qi u33.2.2)) (rest := []) (st1 := [.int u197.1]) hM okX8_gives gm_553 gm_704 gm_552 ⟨⟨rfl, rfl⟩, ⟨by decide, by decide⟩, Nat.zero_le _, Nat.zero_le _⟩ rfl rfl (wR_fst _ _ _ _ _ _ _ _ _ _ _ _ _ _ _ _) (wR_fst _ _ _ _ _ _ _ _ _ _ _ _ _ _ _ _) rfl hl.1 (Nat.le_of_ble_eq_true rfl) dX8_searches_197 rfl rfl (fun H locs V => ?_)
                    have e9 : pX8_searches v qm qo qy = (u197.1, u197.2, u33.2.2) := by rw [pX8_searches, if_neg c_25, hu33, mLet_eq, if_pos c_38, if_neg c_64, if_pos c_76, if_pos c_97, if_pos c_114, if_pos c_127, hu135, mLet_eq, if_neg c_156, if_pos c_164, hu197, mLet_eq]
                    exact m_iret X hr hk V (by rw [e9]) (by rw [e9]) dX8_searches_200
                  · refine lv_iload hx hb dX8_searches_167 (lv_at hl 1 rfl) ?_
                    refine lv_if_eq (tgt := 176) hx hb dX8_searches_169 (by decide) (fun h => absurd h (by decide)) (fun _ => ?_)
                    refine lv_iconst (v := (-1)) hx hb dX8_searches_172 (by decide) ?_
                    refine lv_goto (tgt := 197) hx hb dX8_searches_173 (by decide) ?_
                    obtain ⟨u197, hu197⟩ : ∃ u, pX8_gives u33.2.1 (-1) = u := ⟨_, rfl⟩
                    have hM := kX8_gives l D cB cI bd u33.2.1 qm ql qs qk qd qn qe qf qo qt qi u33.2.2 (-1)
                    rw [hu197] at hM
                    refine m_VA X V (w1 := (wR cB cI bd u197.2 qm ql qs qk qd qn qe qf qo qt qi u33.2.2)) (rest := []) (st1 := [.int u197.1]) hM okX8_gives gm_553 gm_704 gm_552 ⟨⟨rfl, rfl⟩, ⟨by decide, by decide⟩, Nat.zero_le _, Nat.zero_le _⟩ rfl rfl (wR_fst _ _ _ _ _ _ _ _ _ _ _ _ _ _ _ _) (wR_fst _ _ _ _ _ _ _ _ _ _ _ _ _ _ _ _) rfl hl.1 (Nat.le_of_ble_eq_true rfl) dX8_searches_197 rfl rfl (fun H locs V => ?_)
                    have e9 : pX8_searches v qm qo qy = (u197.1, u197.2, u33.2.2) := by rw [pX8_searches, if_neg c_25, hu33, mLet_eq, if_pos c_38, if_neg c_64, if_pos c_76, if_pos c_97, if_pos c_114, if_pos c_127, hu135, mLet_eq, if_neg c_156, if_neg c_164, hu197, mLet_eq]
                    exact m_iret X hr hk V (by rw [e9]) (by rw [e9]) dX8_searches_200
                · refine lv_iconst (v := 1) hx hb dX8_searches_159 (by decide) ?_
                  have e9 : pX8_searches v qm qo qy = (1, u33.2.1, u33.2.2) := by rw [pX8_searches, if_neg c_25, hu33, mLet_eq, if_pos c_38, if_neg c_64, if_pos c_76, if_pos c_97, if_pos c_114, if_pos c_127, hu135, mLet_eq, if_pos c_156]
                  exact m_iret X hr hk V (by rw [e9]) (by rw [e9]) dX8_searches_160
        · refine lv_sipush (v := 1024) hx hb dX8_searches_79 (by decide) ?_
          refine lv_goto (tgt := 91) hx hb dX8_searches_82 (by decide) ?_
          refine lv_istore (lv' := [(5, .int 1024), (4, .int (qo (Int32.toNatClampNeg 3))), (3, .int (qo (Int32.toNatClampNeg 2))), (2, .int u33.1), (1, .int (qo (Int32.toNatClampNeg 6))), (0, .ref (bd 0))]) hx hb dX8_searches_91 hl (by decide) rfl (fun ls hl => ?_)
          refine lv_iload_n hx hb dX8_searches_93 rfl (lv_at hl 4 rfl) ?_
          refine lv_iconst (v := 4) hx hb dX8_searches_94 (by decide) ?_
          refine lv_iand hx hb dX8_searches_95 ?_
          refine lv_iconst (v := 4) hx hb dX8_searches_96 (by decide) ?_
          refine lv_icmp_ne (tgt := 104) hx hb dX8_searches_97 (by decide) (fun c_97 => ?_) (fun c_97 => ?_)
          · refine lv_iconst (v := 0) hx hb dX8_searches_104 (by decide) ?_
            refine lv_istore (lv' := [(6, .int 0), (5, .int 1024), (4, .int (qo (Int32.toNatClampNeg 3))), (3, .int (qo (Int32.toNatClampNeg 2))), (2, .int u33.1), (1, .int (qo (Int32.toNatClampNeg 6))), (0, .ref (bd 0))]) hx hb dX8_searches_105 hl (by decide) rfl (fun ls hl => ?_)
            refine lv_aload_n hx hb dX8_searches_107 rfl (lv_at hl 6 rfl) ?_
            refine m_get X V 6 0 11 rfl gin_6 rfl (by decide) rfl gm_434 (v := .int (u33.2.1 7)) rfl dX8_searches_108 ?_
            refine lv_sipush (v := 336) hx hb dX8_searches_111 (by decide) ?_
            refine lv_icmp_ne (tgt := 141) hx hb dX8_searches_114 (by decide) (fun c_114 => ?_) (fun c_114 => ?_)
            · refine lv_aload_n hx hb dX8_searches_141 rfl (lv_at hl 6 rfl) ?_
              refine lv_iload_n hx hb dX8_searches_142 rfl (lv_at hl 3 rfl) ?_
              refine lv_iload hx hb dX8_searches_143 (lv_at hl 2 rfl) ?_
              refine lv_iload hx hb dX8_searches_145 (lv_at hl 1 rfl) ?_
              obtain ⟨u147, hu147⟩ : ∃ u, pX8_byHalves u33.2.1 qm qo u33.2.2 (qo (Int32.toNatClampNeg 2)) (qo (Int32.toNatClampNeg 3)) 1024 = u := ⟨_, rfl⟩
              have hM := kX8_byHalves l D cB cI bd u33.2.1 qm ql qs qk qd qn qe qf qo qt qi u33.2.2 (qo (Int32.toNatClampNeg 2)) (qo (Int32.toNatClampNeg 3)) 1024 (keys_sz hu33 c_38) (show 0 ≤ Int32.toInt 1024 ∧ Int32.toInt 1024 ≤ 1024 by have z_0 : Int32.toInt 1024 = 1024 := rfl; have e_1 : Int32.toInt 1024 = 1024 := rfl; omega)
              rw [hu147] at hM
              refine m_VA X V (w1 := (wR cB cI bd u33.2.1 qm ql qs qk qd qn qe qf qo qt qi u33.2.2)) (rest := []) (st1 := [.int u147]) hM okX8_byHalves gm_598 gm_715 gm_597 ⟨⟨rfl, rfl⟩, ⟨by decide, by decide⟩, Nat.zero_le _, Nat.zero_le _⟩ rfl rfl (wR_fst _ _ _ _ _ _ _ _ _ _ _ _ _ _ _ _) (wR_fst _ _ _ _ _ _ _ _ _ _ _ _ _ _ _ _) rfl hl.1 (Nat.le_of_ble_eq_true rfl) dX8_searches_147 rfl rfl (fun H locs V => ?_)
              refine lv_istore (lv' := [(7, .int u147), (6, .int 0), (5, .int 1024), (4, .int (qo (Int32.toNatClampNeg 3))), (3, .int (qo (Int32.toNatClampNeg 2))), (2, .int u33.1), (1, .int (qo (Int32.toNatClampNeg 6))), (0, .ref (bd 0))]) hx hb dX8_searches_150 hl (by decide) rfl (fun ls hl => ?_)
              refine lv_iload hx hb dX8_searches_152 (lv_at hl 0 rfl) ?_
              refine lv_bipush (v := (-9)) hx hb dX8_searches_154 (by decide) ?_
              refine lv_icmp_ne (tgt := 161) hx hb dX8_searches_156 (by decide) (fun c_156 => ?_) (fun c_156 => ?_)
              · refine lv_aload_n hx hb dX8_searches_161 rfl (lv_at hl 7 rfl) ?_
                refine lv_iload hx hb dX8_searches_162 (lv_at hl 0 rfl) ?_
                refine lv_if_ge (tgt := 180) hx hb dX8_searches_164 (by decide) (fun c_164 => ?_) (fun c_164 => ?_)
                · refine lv_iload hx hb dX8_searches_180 (lv_at hl 1 rfl) ?_
                  refine lv_if_eq (tgt := 190) hx hb dX8_searches_182 (by decide) (fun _ => ?_) (fun h => absurd h (by decide))
                  refine lv_iload_n hx hb dX8_searches_190 rfl (lv_at hl 4 rfl) ?_
                  refine lv_iload hx hb dX8_searches_191 (lv_at hl 0 rfl) ?_
                  refine lv_iload hx hb dX8_searches_193 (lv_at hl 3 rfl) ?_
                  refine lv_imul hx hb dX8_searches_195 ?_
                  refine lv_iadd hx hb dX8_searches_196 ?_
                  obtain ⟨u197, hu197⟩ : ∃ u, pX8_gives u33.2.1 ((qo (Int32.toNatClampNeg 2)) + (u147 * (qo (Int32.toNatClampNeg 3)))) = u := ⟨_, rfl⟩
                  have hM := kX8_gives l D cB cI bd u33.2.1 qm ql qs qk qd qn qe qf qo qt qi u33.2.2 ((qo (Int32.toNatClampNeg 2)) + (u147 * (qo (Int32.toNatClampNeg 3))))
                  rw [hu197] at hM
                  refine m_VA X V (w1 := (wR cB cI bd u197.2 qm ql qs qk qd qn qe qf qo qt qi u33.2.2)) (rest := []) (st1 := [.int u197.1]) hM okX8_gives gm_553 gm_704 gm_552 ⟨⟨rfl, rfl⟩, ⟨by decide, by decide⟩, Nat.zero_le _, Nat.zero_le _⟩ rfl rfl (wR_fst _ _ _ _ _ _ _ _ _ _ _ _ _ _ _ _) (wR_fst _ _ _ _ _ _ _ _ _ _ _ _ _ _ _ _) rfl hl.1 (Nat.le_of_ble_eq_true rfl) dX8_searches_197 rfl rfl (fun H locs V => ?_)
                  have e9 : pX8_searches v qm qo qy = (u197.1, u197.2, u33.2.2) := by rw [pX8_searches, if_neg c_25, hu33, mLet_eq, if_pos c_38, if_neg c_64, if_neg c_76, if_neg c_97, if_neg c_114, hu147, mLet_eq, if_neg c_156, if_pos c_164, hu197, mLet_eq]
                  exact m_iret X hr hk V (by rw [e9]) (by rw [e9]) dX8_searches_200
                · refine lv_iload hx hb dX8_searches_167 (lv_at hl 1 rfl) ?_
                  refine lv_if_eq (tgt := 176) hx hb dX8_searches_169 (by decide) (fun _ => ?_) (fun h => absurd h (by decide))
                  refine lv_iconst (v := 0) hx hb dX8_searches_176 (by decide) ?_
                  refine lv_goto (tgt := 197) hx hb dX8_searches_177 (by decide) ?_
                  obtain ⟨u197, hu197⟩ : ∃ u, pX8_gives u33.2.1 0 = u := ⟨_, rfl⟩
                  have hM := kX8_gives l D cB cI bd u33.2.1 qm ql qs qk qd qn qe qf qo qt qi u33.2.2 0
                  rw [hu197] at hM
                  refine m_VA X V (w1 := (wR cB cI bd u197.2 qm ql qs qk qd qn qe qf qo qt qi u33.2.2)) (rest := []) (st1 := [.int u197.1]) hM okX8_gives gm_553 gm_704 gm_552 ⟨⟨rfl, rfl⟩, ⟨by decide, by decide⟩, Nat.zero_le _, Nat.zero_le _⟩ rfl rfl (wR_fst _ _ _ _ _ _ _ _ _ _ _ _ _ _ _ _) (wR_fst _ _ _ _ _ _ _ _ _ _ _ _ _ _ _ _) rfl hl.1 (Nat.le_of_ble_eq_true rfl) dX8_searches_197 rfl rfl (fun H locs V => ?_)
                  have e9 : pX8_searches v qm qo qy = (u197.1, u197.2, u33.2.2) := by rw [pX8_searches, if_neg c_25, hu33, mLet_eq, if_pos c_38, if_neg c_64, if_neg c_76, if_neg c_97, if_neg c_114, hu147, mLet_eq, if_neg c_156, if_neg c_164, hu197, mLet_eq]
                  exact m_iret X hr hk V (by rw [e9]) (by rw [e9]) dX8_searches_200
              · refine lv_iconst (v := 1) hx hb dX8_searches_159 (by decide) ?_
                have e9 : pX8_searches v qm qo qy = (1, u33.2.1, u33.2.2) := by rw [pX8_searches, if_neg c_25, hu33, mLet_eq, if_pos c_38, if_neg c_64, if_neg c_76, if_neg c_97, if_neg c_114, hu147, mLet_eq, if_pos c_156]
                exact m_iret X hr hk V (by rw [e9]) (by rw [e9]) dX8_searches_160
            · refine lv_aload_n hx hb dX8_searches_117 rfl (lv_at hl 6 rfl) ?_
              refine lv_iload_n hx hb dX8_searches_118 rfl (lv_at hl 3 rfl) ?_
              refine lv_iload hx hb dX8_searches_119 (lv_at hl 2 rfl) ?_
              refine lv_iload hx hb dX8_searches_121 (lv_at hl 1 rfl) ?_
              refine lv_iload_n hx hb dX8_searches_123 rfl (lv_at hl 5 rfl) ?_
              refine lv_iconst (v := 2) hx hb dX8_searches_124 (by decide) ?_
              refine lv_iand hx hb dX8_searches_125 ?_
              refine lv_iconst (v := 2) hx hb dX8_searches_126 (by decide) ?_
              refine lv_icmp_ne (tgt := 134) hx hb dX8_searches_127 (by decide) (fun c_127 => ?_) (fun c_127 => ?_)
              · refine lv_iconst (v := 0) hx hb dX8_searches_134 (by decide) ?_
                obtain ⟨u135, hu135⟩ : ∃ u, pX8_oneByOne u33.2.1 qm qo u33.2.2 (qo (Int32.toNatClampNeg 2)) (qo (Int32.toNatClampNeg 3)) 1024 0 = u := ⟨_, rfl⟩
                have hM := kX8_oneByOne l D cB cI bd u33.2.1 qm ql qs qk qd qn qe qf qo qt qi u33.2.2 (qo (Int32.toNatClampNeg 2)) (qo (Int32.toNatClampNeg 3)) 1024 0 (keys_sz hu33 c_38) (show 0 ≤ Int32.toInt 1024 ∧ Int32.toInt 1024 ≤ 1024 by have z_0 : Int32.toInt 1024 = 1024 := rfl; have e_1 : Int32.toInt 1024 = 1024 := rfl; have e_2 : Int32.toInt 0 = 0 := rfl; omega)
                rw [hu135] at hM
                refine m_VA X V (w1 := (wR cB cI bd u33.2.1 qm ql qs qk qd qn qe qf qo qt qi u33.2.2)) (rest := []) (st1 := [.int u135]) hM okX8_oneByOne gm_589 gm_712 gm_588 ⟨⟨rfl, rfl⟩, ⟨by decide, by decide⟩, Nat.zero_le _, Nat.zero_le _⟩ rfl rfl (wR_fst _ _ _ _ _ _ _ _ _ _ _ _ _ _ _ _) (wR_fst _ _ _ _ _ _ _ _ _ _ _ _ _ _ _ _) rfl hl.1 (Nat.le_of_ble_eq_true rfl) dX8_searches_135 rfl rfl (fun H locs V => ?_)
                refine lv_goto (tgt := 150) hx hb dX8_searches_138 (by decide) ?_
                refine lv_istore (lv' := [(7, .int u135), (6, .int 0), (5, .int 1024), (4, .int (qo (Int32.toNatClampNeg 3))), (3, .int (qo (Int32.toNatClampNeg 2))), (2, .int u33.1), (1, .int (qo (Int32.toNatClampNeg 6))), (0, .ref (bd 0))]) hx hb dX8_searches_150 hl (by decide) rfl (fun ls hl => ?_)
                refine lv_iload hx hb dX8_searches_152 (lv_at hl 0 rfl) ?_
                refine lv_bipush (v := (-9)) hx hb dX8_searches_154 (by decide) ?_
                refine lv_icmp_ne (tgt := 161) hx hb dX8_searches_156 (by decide) (fun c_156 => ?_) (fun c_156 => ?_)
                · refine lv_aload_n hx hb dX8_searches_161 rfl (lv_at hl 7 rfl) ?_
                  refine lv_iload hx hb dX8_searches_162 (lv_at hl 0 rfl) ?_
                  refine lv_if_ge (tgt := 180) hx hb dX8_searches_164 (by decide) (fun c_164 => ?_) (fun c_164 => ?_)
                  · refine lv_iload hx hb dX8_searches_180 (lv_at hl 1 rfl) ?_
                    refine lv_if_eq (tgt := 190) hx hb dX8_searches_182 (by decide) (fun _ => ?_) (fun h => absurd h (by decide))
                    refine lv_iload_n hx hb dX8_searches_190 rfl (lv_at hl 4 rfl) ?_
                    refine lv_iload hx hb dX8_searches_191 (lv_at hl 0 rfl) ?_
                    refine lv_iload hx hb dX8_searches_193 (lv_at hl 3 rfl) ?_
                    refine lv_imul hx hb dX8_searches_195 ?_
                    refine lv_iadd hx hb dX8_searches_196 ?_
                    obtain ⟨u197, hu197⟩ : ∃ u, pX8_gives u33.2.1 ((qo (Int32.toNatClampNeg 2)) + (u135 * (qo (Int32.toNatClampNeg 3)))) = u := ⟨_, rfl⟩
                    have hM := kX8_gives l D cB cI bd u33.2.1 qm ql qs qk qd qn qe qf qo qt qi u33.2.2 ((qo (Int32.toNatClampNeg 2)) + (u135 * (qo (Int32.toNatClampNeg 3))))
                    rw [hu197] at hM
                    refine m_VA X V (w1 := (wR cB cI bd u197.2 qm ql qs qk qd qn qe qf qo qt qi u33.2.2)) (rest := []) (st1 := [.int u197.1]) hM okX8_gives gm_553 gm_704 gm_552 ⟨⟨rfl, rfl⟩, ⟨by decide, by decide⟩, Nat.zero_le _, Nat.zero_le _⟩ rfl rfl (wR_fst _ _ _ _ _ _ _ _ _ _ _ _ _ _ _ _) (wR_fst _ _ _ _ _ _ _ _ _ _ _ _ _ _ _ _) rfl hl.1 (Nat.le_of_ble_eq_true rfl) dX8_searches_197 rfl rfl (fun H locs V => ?_)
                    have e9 : pX8_searches v qm qo qy = (u197.1, u197.2, u33.2.2) := by rw [pX8_searches, if_neg c_25, hu33, mLet_eq, if_pos c_38, if_neg c_64, if_neg c_76, if_neg c_97, if_pos c_114, if_neg c_127, hu135, mLet_eq, if_neg c_156, if_pos c_164, hu197, mLet_eq]
                    exact m_iret X hr hk V (by rw [e9]) (by rw [e9]) dX8_searches_200
                  · refine lv_iload hx hb dX8_searches_167 (lv_at hl 1 rfl) ?_
                    refine lv_if_eq (tgt := 176) hx hb dX8_searches_169 (by decide) (fun _ => ?_) (fun h => absurd h (by decide))
                    refine lv_iconst (v := 0) hx hb dX8_searches_176 (by decide) ?_
                    refine lv_goto (tgt := 197) hx hb dX8_searches_177 (by decide) ?_
                    obtain ⟨u197, hu197⟩ : ∃ u, pX8_gives u33.2.1 0 = u := ⟨_, rfl⟩
                    have hM := kX8_gives l D cB cI bd u33.2.1 qm ql qs qk qd qn qe qf qo qt qi u33.2.2 0
                    rw [hu197] at hM
                    refine m_VA X V (w1 := (wR cB cI bd u197.2 qm ql qs qk qd qn qe qf qo qt qi u33.2.2)) (rest := []) (st1 := [.int u197.1]) hM okX8_gives gm_553 gm_704 gm_552 ⟨⟨rfl, rfl⟩, ⟨by decide, by decide⟩, Nat.zero_le _, Nat.zero_le _⟩ rfl rfl (wR_fst _ _ _ _ _ _ _ _ _ _ _ _ _ _ _ _) (wR_fst _ _ _ _ _ _ _ _ _ _ _ _ _ _ _ _) rfl hl.1 (Nat.le_of_ble_eq_true rfl) dX8_searches_197 rfl rfl (fun H locs V => ?_)
                    have e9 : pX8_searches v qm qo qy = (u197.1, u197.2, u33.2.2) := by rw [pX8_searches, if_neg c_25, hu33, mLet_eq, if_pos c_38, if_neg c_64, if_neg c_76, if_neg c_97, if_pos c_114, if_neg c_127, hu135, mLet_eq, if_neg c_156, if_neg c_164, hu197, mLet_eq]
                    exact m_iret X hr hk V (by rw [e9]) (by rw [e9]) dX8_searches_200
                · refine lv_iconst (v := 1) hx hb dX8_searches_159 (by decide) ?_
                  have e9 : pX8_searches v qm qo qy = (1, u33.2.1, u33.2.2) := by rw [pX8_searches, if_neg c_25, hu33, mLet_eq, if_pos c_38, if_neg c_64, if_neg c_76, if_neg c_97, if_pos c_114, if_neg c_127, hu135, mLet_eq, if_pos c_156]
                  exact m_iret X hr hk V (by rw [e9]) (by rw [e9]) dX8_searches_160
              · refine lv_iconst (v := 1) hx hb dX8_searches_130 (by decide) ?_
                refine lv_goto (tgt := 135) hx hb dX8_searches_131 (by decide) ?_
                obtain ⟨u135, hu135⟩ : ∃ u, pX8_oneByOne u33.2.1 qm qo u33.2.2 (qo (Int32.toNatClampNeg 2)) (qo (Int32.toNatClampNeg 3)) 1024 1 = u := ⟨_, rfl⟩
                have hM := kX8_oneByOne l D cB cI bd u33.2.1 qm ql qs qk qd qn qe qf qo qt qi u33.2.2 (qo (Int32.toNatClampNeg 2)) (qo (Int32.toNatClampNeg 3)) 1024 1 (keys_sz hu33 c_38) (show 0 ≤ Int32.toInt 1024 ∧ Int32.toInt 1024 ≤ 1024 by have z_0 : Int32.toInt 1024 = 1024 := rfl; have e_1 : Int32.toInt 1024 = 1024 := rfl; have e_2 : Int32.toInt 1 = 1 := rfl; omega)
                rw [hu135] at hM
                refine m_VA X V (w1 := (wR cB cI bd u33.2.1 qm ql qs qk qd qn qe qf qo qt qi u33.2.2)) (rest := []) (st1 := [.int u135]) hM okX8_oneByOne gm_589 gm_712 gm_588 ⟨⟨rfl, rfl⟩, ⟨by decide, by decide⟩, Nat.zero_le _, Nat.zero_le _⟩ rfl rfl (wR_fst _ _ _ _ _ _ _ _ _ _ _ _ _ _ _ _) (wR_fst _ _ _ _ _ _ _ _ _ _ _ _ _ _ _ _) rfl hl.1 (Nat.le_of_ble_eq_true rfl) dX8_searches_135 rfl rfl (fun H locs V => ?_)
                refine lv_goto (tgt := 150) hx hb dX8_searches_138 (by decide) ?_
                refine lv_istore (lv' := [(7, .int u135), (6, .int 0), (5, .int 1024), (4, .int (qo (Int32.toNatClampNeg 3))), (3, .int (qo (Int32.toNatClampNeg 2))), (2, .int u33.1), (1, .int (qo (Int32.toNatClampNeg 6))), (0, .ref (bd 0))]) hx hb dX8_searches_150 hl (by decide) rfl (fun ls hl => ?_)
                refine lv_iload hx hb dX8_searches_152 (lv_at hl 0 rfl) ?_
                refine lv_bipush (v := (-9)) hx hb dX8_searches_154 (by decide) ?_
                refine lv_icmp_ne (tgt := 161) hx hb dX8_searches_156 (by decide) (fun c_156 => ?_) (fun c_156 => ?_)
                · refine lv_aload_n hx hb dX8_searches_161 rfl (lv_at hl 7 rfl) ?_
                  refine lv_iload hx hb dX8_searches_162 (lv_at hl 0 rfl) ?_
                  refine lv_if_ge (tgt := 180) hx hb dX8_searches_164 (by decide) (fun c_164 => ?_) (fun c_164 => ?_)
                  · refine lv_iload hx hb dX8_searches_180 (lv_at hl 1 rfl) ?_
                    refine lv_if_eq (tgt := 190) hx hb dX8_searches_182 (by decide) (fun _ => ?_) (fun h => absurd h (by decide))
                    refine lv_iload_n hx hb dX8_searches_190 rfl (lv_at hl 4 rfl) ?_
                    refine lv_iload hx hb dX8_searches_191 (lv_at hl 0 rfl) ?_
                    refine lv_iload hx hb dX8_searches_193 (lv_at hl 3 rfl) ?_
                    refine lv_imul hx hb dX8_searches_195 ?_
                    refine lv_iadd hx hb dX8_searches_196 ?_
                    obtain ⟨u197, hu197⟩ : ∃ u, pX8_gives u33.2.1 ((qo (Int32.toNatClampNeg 2)) + (u135 * (qo (Int32.toNatClampNeg 3)))) = u := ⟨_, rfl⟩
                    have hM := kX8_gives l D cB cI bd u33.2.1 qm ql qs qk qd qn qe qf qo qt qi u33.2.2 ((qo (Int32.toNatClampNeg 2)) + (u135 * (qo (Int32.toNatClampNeg 3))))
                    rw [hu197] at hM
                    refine m_VA X V (w1 := (wR cB cI bd u197.2 qm ql qs qk qd qn qe qf qo qt qi u33.2.2)) (rest := []) (st1 := [.int u197.1]) hM okX8_gives gm_553 gm_704 gm_552 ⟨⟨rfl, rfl⟩, ⟨by decide, by decide⟩, Nat.zero_le _, Nat.zero_le _⟩ rfl rfl (wR_fst _ _ _ _ _ _ _ _ _ _ _ _ _ _ _ _) (wR_fst _ _ _ _ _ _ _ _ _ _ _ _ _ _ _ _) rfl hl.1 (Nat.le_of_ble_eq_true rfl) dX8_searches_197 rfl rfl (fun H locs V => ?_)
                    have e9 : pX8_searches v qm qo qy = (u197.1, u197.2, u33.2.2) := by rw [pX8_searches, if_neg c_25, hu33, mLet_eq, if_pos c_38, if_neg c_64, if_neg c_76, if_neg c_97, if_pos c_114, if_pos c_127, hu135, mLet_eq, if_neg c_156, if_pos c_164, hu197, mLet_eq]
                    exact m_iret X hr hk V (by rw [e9]) (by rw [e9]) dX8_searches_200
                  · refine lv_iload hx hb dX8_searches_167 (lv_at hl 1 rfl) ?_
                    refine lv_if_eq (tgt := 176) hx hb dX8_searches_169 (by decide) (fun _ => ?_) (fun h => absurd h (by decide))
                    refine lv_iconst (v := 0) hx hb dX8_searches_176 (by decide) ?_
                    refine lv_goto (tgt := 197) hx hb dX8_searches_177 (by decide) ?_
                    obtain ⟨u197, hu197⟩ : ∃ u, pX8_gives u33.2.1 0 = u := ⟨_, rfl⟩
                    have hM := kX8_gives l D cB cI bd u33.2.1 qm ql qs qk qd qn qe qf qo qt qi u33.2.2 0
                    rw [hu197] at hM
                    refine m_VA X V (w1 := (wR cB cI bd u197.2 qm ql qs qk qd qn qe qf qo qt qi u33.2.2)) (rest := []) (st1 := [.int u197.1]) hM okX8_gives gm_553 gm_704 gm_552 ⟨⟨rfl, rfl⟩, ⟨by decide, by decide⟩, Nat.zero_le _, Nat.zero_le _⟩ rfl rfl (wR_fst _ _ _ _ _ _ _ _ _ _ _ _ _ _ _ _) (wR_fst _ _ _ _ _ _ _ _ _ _ _ _ _ _ _ _) rfl hl.1 (Nat.le_of_ble_eq_true rfl) dX8_searches_197 rfl rfl (fun H locs V => ?_)
                    have e9 : pX8_searches v qm qo qy = (u197.1, u197.2, u33.2.2) := by rw [pX8_searches, if_neg c_25, hu33, mLet_eq, if_pos c_38, if_neg c_64, if_neg c_76, if_neg c_97, if_pos c_114, if_pos c_127, hu135, mLet_eq, if_neg c_156, if_neg c_164, hu197, mLet_eq]
                    exact m_iret X hr hk V (by rw [e9]) (by rw [e9]) dX8_searches_200
                · refine lv_iconst (v := 1) hx hb dX8_searches_159 (by decide) ?_
                  have e9 : pX8_searches v qm qo qy = (1, u33.2.1, u33.2.2) := by rw [pX8_searches, if_neg c_25, hu33, mLet_eq, if_pos c_38, if_neg c_64, if_neg c_76, if_neg c_97, if_pos c_114, if_pos c_127, hu135, mLet_eq, if_pos c_156]
                  exact m_iret X hr hk V (by rw [e9]) (by rw [e9]) dX8_searches_160
          · refine lv_iconst (v := 1) hx hb dX8_searches_100 (by decide) ?_
            refine lv_goto (tgt := 105) hx hb dX8_searches_101 (by decide) ?_
            refine lv_istore (lv' := [(6, .int 1), (5, .int 1024), (4, .int (qo (Int32.toNatClampNeg 3))), (3, .int (qo (Int32.toNatClampNeg 2))), (2, .int u33.1), (1, .int (qo (Int32.toNatClampNeg 6))), (0, .ref (bd 0))]) hx hb dX8_searches_105 hl (by decide) rfl (fun ls hl => ?_)
            refine lv_aload_n hx hb dX8_searches_107 rfl (lv_at hl 6 rfl) ?_
            refine m_get X V 6 0 11 rfl gin_6 rfl (by decide) rfl gm_434 (v := .int (u33.2.1 7)) rfl dX8_searches_108 ?_
            refine lv_sipush (v := 336) hx hb dX8_searches_111 (by decide) ?_
            refine lv_icmp_ne (tgt := 141) hx hb dX8_searches_114 (by decide) (fun c_114 => ?_) (fun c_114 => ?_)
            · refine lv_aload_n hx hb dX8_searches_141 rfl (lv_at hl 6 rfl) ?_
              refine lv_iload_n hx hb dX8_searches_142 rfl (lv_at hl 3 rfl) ?_
              refine lv_iload hx hb dX8_searches_143 (lv_at hl 2 rfl) ?_
              refine lv_iload hx hb dX8_searches_145 (lv_at hl 1 rfl) ?_
              obtain ⟨u147, hu147⟩ : ∃ u, pX8_byHalves u33.2.1 qm qo u33.2.2 (qo (Int32.toNatClampNeg 2)) (qo (Int32.toNatClampNeg 3)) 1024 = u := ⟨_, rfl⟩
              have hM := kX8_byHalves l D cB cI bd u33.2.1 qm ql qs qk qd qn qe qf qo qt qi u33.2.2 (qo (Int32.toNatClampNeg 2)) (qo (Int32.toNatClampNeg 3)) 1024 (keys_sz hu33 c_38) (show 0 ≤ Int32.toInt 1024 ∧ Int32.toInt 1024 ≤ 1024 by have z_0 : Int32.toInt 1024 = 1024 := rfl; have e_1 : Int32.toInt 1024 = 1024 := rfl; omega)
              rw [hu147] at hM
              refine m_VA X V (w1 := (wR cB cI bd u33.2.1 qm ql qs qk qd qn qe qf qo qt qi u33.2.2)) (rest := []) (st1 := [.int u147]) hM okX8_byHalves gm_598 gm_715 gm_597 ⟨⟨rfl, rfl⟩, ⟨by decide, by decide⟩, Nat.zero_le _, Nat.zero_le _⟩ rfl rfl (wR_fst _ _ _ _ _ _ _ _ _ _ _ _ _ _ _ _) (wR_fst _ _ _ _ _ _ _ _ _ _ _ _ _ _ _ _) rfl hl.1 (Nat.le_of_ble_eq_true rfl) dX8_searches_147 rfl rfl (fun H locs V => ?_)
              refine lv_istore (lv' := [(7, .int u147), (6, .int 1), (5, .int 1024), (4, .int (qo (Int32.toNatClampNeg 3))), (3, .int (qo (Int32.toNatClampNeg 2))), (2, .int u33.1), (1, .int (qo (Int32.toNatClampNeg 6))), (0, .ref (bd 0))]) hx hb dX8_searches_150 hl (by decide) rfl (fun ls hl => ?_)
              refine lv_iload hx hb dX8_searches_152 (lv_at hl 0 rfl) ?_
              refine lv_bipush (v := (-9)) hx hb dX8_searches_154 (by decide) ?_
              refine lv_icmp_ne (tgt := 161) hx hb dX8_searches_156 (by decide) (fun c_156 => ?_) (fun c_156 => ?_)
              · refine lv_aload_n hx hb dX8_searches_161 rfl (lv_at hl 7 rfl) ?_
                refine lv_iload hx hb dX8_searches_162 (lv_at hl 0 rfl) ?_
                refine lv_if_ge (tgt := 180) hx hb dX8_searches_164 (by decide) (fun c_164 => ?_) (fun c_164 => ?_)
                · refine lv_iload hx hb dX8_searches_180 (lv_at hl 1 rfl) ?_
                  refine lv_if_eq (tgt := 190) hx hb dX8_searches_182 (by decide) (fun h => absurd h (by decide)) (fun _ => ?_)
                  refine lv_iload hx hb dX8_searches_185 (lv_at hl 0 rfl) ?_
                  refine lv_goto (tgt := 197) hx hb dX8_searches_187 (by decide) ?_
                  obtain ⟨u197, hu197⟩ : ∃ u, pX8_gives u33.2.1 u147 = u := ⟨_, rfl⟩
                  have hM := kX8_gives l D cB cI bd u33.2.1 qm ql qs qk qd qn qe qf qo qt qi u33.2.2 u147
                  rw [hu197] at hM
                  refine m_VA X V (w1 := (wR cB cI bd u197.2 qm ql qs qk qd qn qe qf qo qt qi u33.2.2)) (rest := []) (st1 := [.int u197.1]) hM okX8_gives gm_553 gm_704 gm_552 ⟨⟨rfl, rfl⟩, ⟨by decide, by decide⟩, Nat.zero_le _, Nat.zero_le _⟩ rfl rfl (wR_fst _ _ _ _ _ _ _ _ _ _ _ _ _ _ _ _) (wR_fst _ _ _ _ _ _ _ _ _ _ _ _ _ _ _ _) rfl hl.1 (Nat.le_of_ble_eq_true rfl) dX8_searches_197 rfl rfl (fun H locs V => ?_)
                  have e9 : pX8_searches v qm qo qy = (u197.1, u197.2, u33.2.2) := by rw [pX8_searches, if_neg c_25, hu33, mLet_eq, if_pos c_38, if_neg c_64, if_neg c_76, if_pos c_97, if_neg c_114, hu147, mLet_eq, if_neg c_156, if_pos c_164, hu197, mLet_eq]
                  exact m_iret X hr hk V (by rw [e9]) (by rw [e9]) dX8_searches_200
                · refine lv_iload hx hb dX8_searches_167 (lv_at hl 1 rfl) ?_
                  refine lv_if_eq (tgt := 176) hx hb dX8_searches_169 (by decide) (fun h => absurd h (by decide)) (fun _ => ?_)
                  refine lv_iconst (v := (-1)) hx hb dX8_searches_172 (by decide) ?_
                  refine lv_goto (tgt := 197) hx hb dX8_searches_173 (by decide) ?_
                  obtain ⟨u197, hu197⟩ : ∃ u, pX8_gives u33.2.1 (-1) = u := ⟨_, rfl⟩
                  have hM := kX8_gives l D cB cI bd u33.2.1 qm ql qs qk qd qn qe qf qo qt qi u33.2.2 (-1)
                  rw [hu197] at hM
                  refine m_VA X V (w1 := (wR cB cI bd u197.2 qm ql qs qk qd qn qe qf qo qt qi u33.2.2)) (rest := []) (st1 := [.int u197.1]) hM okX8_gives gm_553 gm_704 gm_552 ⟨⟨rfl, rfl⟩, ⟨by decide, by decide⟩, Nat.zero_le _, Nat.zero_le _⟩ rfl rfl (wR_fst _ _ _ _ _ _ _ _ _ _ _ _ _ _ _ _) (wR_fst _ _ _ _ _ _ _ _ _ _ _ _ _ _ _ _) rfl hl.1 (Nat.le_of_ble_eq_true rfl) dX8_searches_197 rfl rfl (fun H locs V => ?_)
                  have e9 : pX8_searches v qm qo qy = (u197.1, u197.2, u33.2.2) := by rw [pX8_searches, if_neg c_25, hu33, mLet_eq, if_pos c_38, if_neg c_64, if_neg c_76, if_pos c_97, if_neg c_114, hu147, mLet_eq, if_neg c_156, if_neg c_164, hu197, mLet_eq]
                  exact m_iret X hr hk V (by rw [e9]) (by rw [e9]) dX8_searches_200
              · refine lv_iconst (v := 1) hx hb dX8_searches_159 (by decide) ?_
                have e9 : pX8_searches v qm qo qy = (1, u33.2.1, u33.2.2) := by rw [pX8_searches, if_neg c_25, hu33, mLet_eq, if_pos c_38, if_neg c_64, if_neg c_76, if_pos c_97, if_neg c_114, hu147, mLet_eq, if_pos c_156]
                exact m_iret X hr hk V (by rw [e9]) (by rw [e9]) dX8_searches_160
            · refine lv_aload_n hx hb dX8_searches_117 rfl (lv_at hl 6 rfl) ?_
              refine lv_iload_n hx hb dX8_searches_118 rfl (lv_at hl 3 rfl) ?_
              refine lv_iload hx hb dX8_searches_119 (lv_at hl 2 rfl) ?_
              refine lv_iload hx hb dX8_searches_121 (lv_at hl 1 rfl) ?_
              refine lv_iload_n hx hb dX8_searches_123 rfl (lv_at hl 5 rfl) ?_
              refine lv_iconst (v := 2) hx hb dX8_searches_124 (by decide) ?_
              refine lv_iand hx hb dX8_searches_125 ?_
              refine lv_iconst (v := 2) hx hb dX8_searches_126 (by decide) ?_
              refine lv_icmp_ne (tgt := 134) hx hb dX8_searches_127 (by decide) (fun c_127 => ?_) (fun c_127 => ?_)
              · refine lv_iconst (v := 0) hx hb dX8_searches_134 (by decide) ?_
                obtain ⟨u135, hu135⟩ : ∃ u, pX8_oneByOne u33.2.1 qm qo u33.2.2 (qo (Int32.toNatClampNeg 2)) (qo (Int32.toNatClampNeg 3)) 1024 0 = u := ⟨_, rfl⟩
                have hM := kX8_oneByOne l D cB cI bd u33.2.1 qm ql qs qk qd qn qe qf qo qt qi u33.2.2 (qo (Int32.toNatClampNeg 2)) (qo (Int32.toNatClampNeg 3)) 1024 0 (keys_sz hu33 c_38) (show 0 ≤ Int32.toInt 1024 ∧ Int32.toInt 1024 ≤ 1024 by have z_0 : Int32.toInt 1024 = 1024 := rfl; have e_1 : Int32.toInt 1024 = 1024 := rfl; have e_2 : Int32.toInt 0 = 0 := rfl; omega)
                rw [hu135] at hM
                refine m_VA X V (w1 := (wR cB cI bd u33.2.1 qm ql qs qk qd qn qe qf qo qt qi u33.2.2)) (rest := []) (st1 := [.int u135]) hM okX8_oneByOne gm_589 gm_712 gm_588 ⟨⟨rfl, rfl⟩, ⟨by decide, by decide⟩, Nat.zero_le _, Nat.zero_le _⟩ rfl rfl (wR_fst _ _ _ _ _ _ _ _ _ _ _ _ _ _ _ _) (wR_fst _ _ _ _ _ _ _ _ _ _ _ _ _ _ _ _) rfl hl.1 (Nat.le_of_ble_eq_true rfl) dX8_searches_135 rfl rfl (fun H locs V => ?_)
                refine lv_goto (tgt := 150) hx hb dX8_searches_138 (by decide) ?_
                refine lv_istore (lv' := [(7, .int u135), (6, .int 1), (5, .int 1024), (4, .int (qo (Int32.toNatClampNeg 3))), (3, .int (qo (Int32.toNatClampNeg 2))), (2, .int u33.1), (1, .int (qo (Int32.toNatClampNeg 6))), (0, .ref (bd 0))]) hx hb dX8_searches_150 hl (by decide) rfl (fun ls hl => ?_)
                refine lv_iload hx hb dX8_searches_152 (lv_at hl 0 rfl) ?_
                refine lv_bipush (v := (-9)) hx hb dX8_searches_154 (by decide) ?_
                refine lv_icmp_ne (tgt := 161) hx hb dX8_searches_156 (by decide) (fun c_156 => ?_) (fun c_156 => ?_)
                · refine lv_aload_n hx hb dX8_searches_161 rfl (lv_at hl 7 rfl) ?_
                  refine lv_iload hx hb dX8_searches_162 (lv_at hl 0 rfl) ?_
                  refine lv_if_ge (tgt := 180) hx hb dX8_searches_164 (by decide) (fun c_164 => ?_) (fun c_164 => ?_)
                  · refine lv_iload hx hb dX8_searches_180 (lv_at hl 1 rfl) ?_
                    refine lv_if_eq (tgt := 190) hx hb dX8_searches_182 (by decide) (fun h => absurd h (by decide)) (fun _ => ?_)
                    refine lv_iload hx hb dX8_searches_185 (lv_at hl 0 rfl) ?_
                    refine lv_goto (tgt := 197) hx hb dX8_searches_187 (by decide) ?_
                    obtain ⟨u197, hu197⟩ : ∃ u, pX8_gives u33.2.1 u135 = u := ⟨_, rfl⟩
                    have hM := kX8_gives l D cB cI bd u33.2.1 qm ql qs qk qd qn qe qf qo qt qi u33.2.2 u135
                    rw [hu197] at hM
                    refine m_VA X V (w1 := (wR cB cI bd u197.2 qm ql qs qk qd qn qe qf qo qt qi u33.2.2)) (rest := []) (st1 := [.int u197.1]) hM okX8_gives gm_553 gm_704 gm_552 ⟨⟨rfl, rfl⟩, ⟨by decide, by decide⟩, Nat.zero_le _, Nat.zero_le _⟩ rfl rfl (wR_fst _ _ _ _ _ _ _ _ _ _ _ _ _ _ _ _) (wR_fst _ _ _ _ _ _ _ _ _ _ _ _ _ _ _ _) rfl hl.1 (Nat.le_of_ble_eq_true rfl) dX8_searches_197 rfl rfl (fun H locs V => ?_)
                    have e9 : pX8_searches v qm qo qy = (u197.1, u197.2, u33.2.2) := by rw [pX8_searches, if_neg c_25, hu33, mLet_eq, if_pos c_38, if_neg c_64, if_neg c_76, if_pos c_97, if_pos c_114, if_neg c_127, hu135, mLet_eq, if_neg c_156, if_pos c_164, hu197, mLet_eq]
                    exact m_iret X hr hk V (by rw [e9]) (by rw [e9]) dX8_searches_200
                  · refine lv_iload hx hb dX8_searches_167 (lv_at hl 1 rfl) ?_
                    refine lv_if_eq (tgt := 176) hx hb dX8_searches_169 (by decide) (fun h => absurd h (by decide)) (fun _ => ?_)
                    refine lv_iconst (v := (-1)) hx hb dX8_searches_172 (by decide) ?_
                    refine lv_goto (tgt := 197) hx hb dX8_searches_173 (by decide) ?_
                    obtain ⟨u197, hu197⟩ : ∃ u, pX8_gives u33.2.1 (-1) = u := ⟨_, rfl⟩
                    have hM := kX8_gives l D cB cI bd u33.2.1 qm ql qs qk qd qn qe qf qo qt qi u33.2.2 (-1)
                    rw [hu197] at hM
                    refine m_VA X V (w1 := (wR cB cI bd u197.2 qm ql qs qk qd qn qe qf qo qt qi u33.2.2)) (rest := []) (st1 := [.int u197.1]) hM okX8_gives gm_553 gm_704 gm_552 ⟨⟨rfl, rfl⟩, ⟨by decide, by decide⟩, Nat.zero_le _, Nat.zero_le _⟩ rfl rfl (wR_fst _ _ _ _ _ _ _ _ _ _ _ _ _ _ _ _) (wR_fst _ _ _ _ _ _ _ _ _ _ _ _ _ _ _ _) rfl hl.1 (Nat.le_of_ble_eq_true rfl) dX8_searches_197 rfl rfl (fun H locs V => ?_)
                    have e9 : pX8_searches v qm qo qy = (u197.1, u197.2, u33.2.2) := by rw [pX8_searches, if_neg c_25, hu33, mLet_eq, if_pos c_38, if_neg c_64, if_neg c_76, if_pos c_97, if_pos c_114, if_neg c_127, hu135, mLet_eq, if_neg c_156, if_neg c_164, hu197, mLet_eq]
                    exact m_iret X hr hk V (by rw [e9]) (by rw [e9]) dX8_searches_200
                · refine lv_iconst (v := 1) hx hb dX8_searches_159 (by decide) ?_
                  have e9 : pX8_searches v qm qo qy = (1, u33.2.1, u33.2.2) := by rw [pX8_searches, if_neg c_25, hu33, mLet_eq, if_pos c_38, if_neg c_64, if_neg c_76, if_pos c_97, if_pos c_114, if_neg c_127, hu135, mLet_eq, if_pos c_156]
                  exact m_iret X hr hk V (by rw [e9]) (by rw [e9]) dX8_searches_160
              · refine lv_iconst (v := 1) hx hb dX8_searches_130 (by decide) ?_
                refine lv_goto (tgt := 135) hx hb dX8_searches_131 (by decide) ?_
                obtain ⟨u135, hu135⟩ : ∃ u, pX8_oneByOne u33.2.1 qm qo u33.2.2 (qo (Int32.toNatClampNeg 2)) (qo (Int32.toNatClampNeg 3)) 1024 1 = u := ⟨_, rfl⟩
                have hM := kX8_oneByOne l D cB cI bd u33.2.1 qm ql qs qk qd qn qe qf qo qt qi u33.2.2 (qo (Int32.toNatClampNeg 2)) (qo (Int32.toNatClampNeg 3)) 1024 1 (keys_sz hu33 c_38) (show 0 ≤ Int32.toInt 1024 ∧ Int32.toInt 1024 ≤ 1024 by have z_0 : Int32.toInt 1024 = 1024 := rfl; have e_1 : Int32.toInt 1024 = 1024 := rfl; have e_2 : Int32.toInt 1 = 1 := rfl; omega)
                rw [hu135] at hM
                refine m_VA X V (w1 := (wR cB cI bd u33.2.1 qm ql qs qk qd qn qe qf qo qt qi u33.2.2)) (rest := []) (st1 := [.int u135]) hM okX8_oneByOne gm_589 gm_712 gm_588 ⟨⟨rfl, rfl⟩, ⟨by decide, by decide⟩, Nat.zero_le _, Nat.zero_le _⟩ rfl rfl (wR_fst _ _ _ _ _ _ _ _ _ _ _ _ _ _ _ _) (wR_fst _ _ _ _ _ _ _ _ _ _ _ _ _ _ _ _) rfl hl.1 (Nat.le_of_ble_eq_true rfl) dX8_searches_135 rfl rfl (fun H locs V => ?_)
                refine lv_goto (tgt := 150) hx hb dX8_searches_138 (by decide) ?_
                refine lv_istore (lv' := [(7, .int u135), (6, .int 1), (5, .int 1024), (4, .int (qo (Int32.toNatClampNeg 3))), (3, .int (qo (Int32.toNatClampNeg 2))), (2, .int u33.1), (1, .int (qo (Int32.toNatClampNeg 6))), (0, .ref (bd 0))]) hx hb dX8_searches_150 hl (by decide) rfl (fun ls hl => ?_)
                refine lv_iload hx hb dX8_searches_152 (lv_at hl 0 rfl) ?_
                refine lv_bipush (v := (-9)) hx hb dX8_searches_154 (by decide) ?_
                refine lv_icmp_ne (tgt := 161) hx hb dX8_searches_156 (by decide) (fun c_156 => ?_) (fun c_156 => ?_)
                · refine lv_aload_n hx hb dX8_searches_161 rfl (lv_at hl 7 rfl) ?_
                  refine lv_iload hx hb dX8_searches_162 (lv_at hl 0 rfl) ?_
                  refine lv_if_ge (tgt := 180) hx hb dX8_searches_164 (by decide) (fun c_164 => ?_) (fun c_164 => ?_)
                  · refine lv_iload hx hb dX8_searches_180 (lv_at hl 1 rfl) ?_
                    refine lv_if_eq (tgt := 190) hx hb dX8_searches_182 (by decide) (fun h => absurd h (by decide)) (fun _ => ?_)
                    refine lv_iload hx hb dX8_searches_185 (lv_at hl 0 rfl) ?_
                    refine lv_goto (tgt := 197) hx hb dX8_searches_187 (by decide) ?_
                    obtain ⟨u197, hu197⟩ : ∃ u, pX8_gives u33.2.1 u135 = u := ⟨_, rfl⟩
                    have hM := kX8_gives l D cB cI bd u33.2.1 qm ql qs qk qd qn qe qf qo qt qi u33.2.2 u135
                    rw [hu197] at hM
                    refine m_VA X V (w1 := (wR cB cI bd u197.2 qm ql qs qk qd qn qe qf qo qt qi u33.2.2)) (rest := []) (st1 := [.int u197.1]) hM okX8_gives gm_553 gm_704 gm_552 ⟨⟨rfl, rfl⟩, ⟨by decide, by decide⟩, Nat.zero_le _, Nat.zero_le _⟩ rfl rfl (wR_fst _ _ _ _ _ _ _ _ _ _ _ _ _ _ _ _) (wR_fst _ _ _ _ _ _ _ _ _ _ _ _ _ _ _ _) rfl hl.1 (Nat.le_of_ble_eq_true rfl) dX8_searches_197 rfl rfl (fun H locs V => ?_)
                    have e9 : pX8_searches v qm qo qy = (u197.1, u197.2, u33.2.2) := by rw [pX8_searches, if_neg c_25, hu33, mLet_eq, if_pos c_38, if_neg c_64, if_neg c_76, if_pos c_97, if_pos c_114, if_pos c_127, hu135, mLet_eq, if_neg c_156, if_pos c_164, hu197, mLet_eq]
                    exact m_iret X hr hk V (by rw [e9]) (by rw [e9]) dX8_searches_200
                  · refine lv_iload hx hb dX8_searches_167 (lv_at hl 1 rfl) ?_
                    refine lv_if_eq (tgt := 176) hx hb dX8_searches_169 (by decide) (fun h => absurd h (by decide)) (fun _ => ?_)
                    refine lv_iconst (v := (-1)) hx hb dX8_searches_172 (by decide) ?_
                    refine lv_goto (tgt := 197) hx hb dX8_searches_173 (by decide) ?_
                    obtain ⟨u197, hu197⟩ : ∃ u, pX8_gives u33.2.1 (-1) = u := ⟨_, rfl⟩
                    have hM := kX8_gives l D cB cI bd u33.2.1 qm ql qs qk qd qn qe qf qo qt qi u33.2.2 (-1)
                    rw [hu197] at hM
                    refine m_VA X V (w1 := (wR cB cI bd u197.2 qm ql qs qk qd qn qe qf qo qt qi u33.2.2)) (rest := []) (st1 := [.int u197.1]) hM okX8_gives gm_553 gm_704 gm_552 ⟨⟨rfl, rfl⟩, ⟨by decide, by decide⟩, Nat.zero_le _, Nat.zero_le _⟩ rfl rfl (wR_fst _ _ _ _ _ _ _ _ _ _ _ _ _ _ _ _) (wR_fst _ _ _ _ _ _ _ _ _ _ _ _ _ _ _ _) rfl hl.1 (Nat.le_of_ble_eq_true rfl) dX8_searches_197 rfl rfl (fun H locs V => ?_)
                    have e9 : pX8_searches v qm qo qy = (u197.1, u197.2, u33.2.2) := by rw [pX8_searches, if_neg c_25, hu33, mLet_eq, if_pos c_38, if_neg c_64, if_neg c_76, if_pos c_97, if_pos c_114, if_pos c_127, hu135, mLet_eq, if_neg c_156, if_neg c_164, hu197, mLet_eq]
                    exact m_iret X hr hk V (by rw [e9]) (by rw [e9]) dX8_searches_200
                · refine lv_iconst (v := 1) hx hb dX8_searches_159 (by decide) ?_
                  have e9 : pX8_searches v qm qo qy = (1, u33.2.1, u33.2.2) := by rw [pX8_searches, if_neg c_25, hu33, mLet_eq, if_pos c_38, if_neg c_64, if_neg c_76, if_pos c_97, if_pos c_114, if_pos c_127, hu135, mLet_eq, if_pos c_156]
                  exact m_iret X hr hk V (by rw [e9]) (by rw [e9]) dX8_searches_160
    · refine lv_iload_n hx hb dX8_searches_41 rfl (lv_at hl 0 rfl) ?_
      have e9 : pX8_searches v qm qo qy = (u33.1, u33.2.1, u33.2.2) := by rw [pX8_searches, if_neg c_25, hu33, mLet_eq, if_neg c_38]
      exact m_iret X hr hk V (by rw [e9]) (by rw [e9]) dX8_searches_42
  · refine lv_iconst (v := 1) hx hb dX8_searches_28 (by decide) ?_
    refine lv_goto (tgt := 33) hx hb dX8_searches_29 (by decide) ?_
    obtain ⟨u33, hu33⟩ : ∃ u, pX8_keys v qm qy (qo (Int32.toNatClampNeg 0)) (qo (Int32.toNatClampNeg 1)) 1 = u := ⟨_, rfl⟩
    have hM := kX8_keys l D cB cI bd v qm ql qs qk qd qn qe qf qo qt qi qy (qo (Int32.toNatClampNeg 0)) (qo (Int32.toNatClampNeg 1)) 1
    rw [hu33] at hM
    refine m_VA X V (w1 := (wR cB cI bd u33.2.1 qm ql qs qk qd qn qe qf qo qt qi u33.2.2)) (rest := []) (st1 := [.int u33.1]) hM okX8_keys gm_586 gm_711 gm_585 ⟨⟨rfl, rfl⟩, ⟨by decide, by decide⟩, Nat.zero_le _, Nat.zero_le _⟩ rfl rfl (wR_fst _ _ _ _ _ _ _ _ _ _ _ _ _ _ _ _) (wR_fst _ _ _ _ _ _ _ _ _ _ _ _ _ _ _ _) rfl hl.1 (Nat.le_of_ble_eq_true rfl) dX8_searches_33 rfl rfl (fun H locs V => ?_)
    refine lv_istore_n (lv' := [(2, .int u33.1), (1, .int (qo (Int32.toNatClampNeg 6))), (0, .ref (bd 0))]) hx hb dX8_searches_36 rfl hl (by decide) rfl (fun ls hl => ?_)
    refine lv_iload_n hx hb dX8_searches_37 rfl (lv_at hl 0 rfl) ?_
    refine lv_if_eq (tgt := 43) hx hb dX8_searches_38 (by decide) (fun c_38 => ?_) (fun c_38 => ?_)
    · refine lv_aload_n hx hb dX8_searches_43 rfl (lv_at hl 2 rfl) ?_
      refine m_get X V 6 0 21 rfl gin_6 rfl (by decide) rfl gm_444 (v := .ref (bd 9)) rfl dX8_searches_44 ?_
      refine lv_iconst (v := 2) hx hb dX8_searches_47 (by decide) ?_
      refine m_iald X V 9 rfl (by rw [vp_in_iff]; decide) dX8_searches_48 ?_
      refine lv_istore_n (lv' := [(3, .int (qo (Int32.toNatClampNeg 2))), (2, .int u33.1), (1, .int (qo (Int32.toNatClampNeg 6))), (0, .ref (bd 0))]) hx hb dX8_searches_49 rfl hl (by decide) rfl (fun ls hl => ?_)
      refine lv_aload_n hx hb dX8_searches_50 rfl (lv_at hl 3 rfl) ?_
      refine m_get X V 6 0 21 rfl gin_6 rfl (by decide) rfl gm_444 (v := .ref (bd 9)) rfl dX8_searches_51 ?_
      refine lv_iconst (v := 3) hx hb dX8_searches_54 (by decide) ?_
      refine m_iald X V 9 rfl (by rw [vp_in_iff]; decide) dX8_searches_55 ?_
      refine lv_istore (lv' := [(4, .int (qo (Int32.toNatClampNeg 3))), (3, .int (qo (Int32.toNatClampNeg 2))), (2, .int u33.1), (1, .int (qo (Int32.toNatClampNeg 6))), (0, .ref (bd 0))]) hx hb dX8_searches_56 hl (by decide) rfl (fun ls hl => ?_)
      refine lv_aload_n hx hb dX8_searches_58 rfl (lv_at hl 4 rfl) ?_
      refine m_get X V 6 0 21 rfl gin_6 rfl (by decide) rfl gm_444 (v := .ref (bd 9)) rfl dX8_searches_59 ?_
      refine lv_iconst (v := 4) hx hb dX8_searches_62 (by decide) ?_
      refine m_iald X V 9 rfl (by rw [vp_in_iff]; decide) dX8_searches_63 ?_
      refine lv_if_lt (tgt := 79) hx hb dX8_searches_64 (by decide) (fun c_64 => ?_) (fun c_64 => ?_)
      · refine lv_sipush (v := 1024) hx hb dX8_searches_79 (by decide) ?_
        refine lv_goto (tgt := 91) hx hb dX8_searches_82 (by decide) ?_
        refine lv_istore (lv' := [(5, .int 1024), (4, .int (qo (Int32.toNatClampNeg 3))), (3, .int (qo (Int32.toNatClampNeg 2))), (2, .int u33.1), (1, .int (qo (Int32.toNatClampNeg 6))), (0, .ref (bd 0))]) hx hb dX8_searches_91 hl (by decide) rfl (fun ls hl => ?_)
        refine lv_iload_n hx hb dX8_searches_93 rfl (lv_at hl 4 rfl) ?_
        refine lv_iconst (v := 4) hx hb dX8_searches_94 (by decide) ?_
        refine lv_iand hx hb dX8_searches_95 ?_
        refine lv_iconst (v := 4) hx hb dX8_searches_96 (by decide) ?_
        refine lv_icmp_ne (tgt := 104) hx hb dX8_searches_97 (by decide) (fun c_97 => ?_) (fun c_97 => ?_)
        · refine lv_iconst (v := 0) hx hb dX8_searches_104 (by decide) ?_
          refine lv_istore (lv' := [(6, .int 0), (5, .int 1024), (4, .int (qo (Int32.toNatClampNeg 3))), (3, .int (qo (Int32.toNatClampNeg 2))), (2, .int u33.1), (1, .int (qo (Int32.toNatClampNeg 6))), (0, .ref (bd 0))]) hx hb dX8_searches_105 hl (by decide) rfl (fun ls hl => ?_)
          refine lv_aload_n hx hb dX8_searches_107 rfl (lv_at hl 6 rfl) ?_
          refine m_get X V 6 0 11 rfl gin_6 rfl (by decide) rfl gm_434 (v := .int (u33.2.1 7)) rfl dX8_searches_108 ?_
          refine lv_sipush (v := 336) hx hb dX8_searches_111 (by decide) ?_
          refine lv_icmp_ne (tgt := 141) hx hb dX8_searches_114 (by decide) (fun c_114 => ?_) (fun c_114 => ?_)
          · refine lv_aload_n hx hb dX8_searches_141 rfl (lv_at hl 6 rfl) ?_
            refine lv_iload_n hx hb dX8_searches_142 rfl (lv_at hl 3 rfl) ?_
            refine lv_iload hx hb dX8_searches_143 (lv_at hl 2 rfl) ?_
            refine lv_iload hx hb dX8_searches_145 (lv_at hl 1 rfl) ?_
            obtain ⟨u147, hu147⟩ : ∃ u, pX8_byHalves u33.2.1 qm qo u33.2.2 (qo (Int32.toNatClampNeg 2)) (qo (Int32.toNatClampNeg 3)) 1024 = u := ⟨_, rfl⟩
            have hM := kX8_byHalves l D cB cI bd u33.2.1 qm ql qs qk qd qn qe qf qo qt qi u33.2.2 (qo (Int32.toNatClampNeg 2)) (qo (Int32.toNatClampNeg 3)) 1024 (keys_sz hu33 c_38) (show 0 ≤ Int32.toInt 1024 ∧ Int32.toInt 1024 ≤ 1024 by have z_0 : Int32.toInt 1024 = 1024 := rfl; have e_1 : Int32.toInt 1024 = 1024 := rfl; omega)
            rw [hu147] at hM
            refine m_VA X V (w1 := (wR cB cI bd u33.2.1 qm ql qs qk qd qn qe qf qo qt qi u33.2.2)) (rest := []) (st1 := [.int u147]) hM okX8_byHalves gm_598 gm_715 gm_597 ⟨⟨rfl, rfl⟩, ⟨by decide, by decide⟩, Nat.zero_le _, Nat.zero_le _⟩ rfl rfl (wR_fst _ _ _ _ _ _ _ _ _ _ _ _ _ _ _ _) (wR_fst _ _ _ _ _ _ _ _ _ _ _ _ _ _ _ _) rfl hl.1 (Nat.le_of_ble_eq_true rfl) dX8_searches_147 rfl rfl (fun H locs V => ?_)
            refine lv_istore (lv' := [(7, .int u147), (6, .int 0), (5, .int 1024), (4, .int (qo (Int32.toNatClampNeg 3))), (3, .int (qo (Int32.toNatClampNeg 2))), (2, .int u33.1), (1, .int (qo (Int32.toNatClampNeg 6))), (0, .ref (bd 0))]) hx hb dX8_searches_150 hl (by decide) rfl (fun ls hl => ?_)
            refine lv_iload hx hb dX8_searches_152 (lv_at hl 0 rfl) ?_
            refine lv_bipush (v := (-9)) hx hb dX8_searches_154 (by decide) ?_
            refine lv_icmp_ne (tgt := 161) hx hb dX8_searches_156 (by decide) (fun c_156 => ?_) (fun c_156 => ?_)
            · refine lv_aload_n hx hb dX8_searches_161 rfl (lv_at hl 7 rfl) ?_
              refine lv_iload hx hb dX8_searches_162 (lv_at hl 0 rfl) ?_
              refine lv_if_ge (tgt := 180) hx hb dX8_searches_164 (by decide) (fun c_164 => ?_) (fun c_164 => ?_)
              · refine lv_iload hx hb dX8_searches_180 (lv_at hl 1 rfl) ?_
                refine lv_if_eq (tgt := 190) hx hb dX8_searches_182 (by decide) (fun _ => ?_) (fun h => absurd h (by decide))
                refine lv_iload_n hx hb dX8_searches_190 rfl (lv_at hl 4 rfl) ?_
                refine lv_iload hx hb dX8_searches_191 (lv_at hl 0 rfl) ?_
                refine lv_iload hx hb dX8_searches_193 (lv_at hl 3 rfl) ?_
                refine lv_imul hx hb dX8_searches_195 ?_
                refine lv_iadd hx hb dX8_searches_196 ?_
                obtain ⟨u197, hu197⟩ : ∃ u, pX8_gives u33.2.1 ((qo (Int32.toNatClampNeg 2)) + (u147 * (qo (Int32.toNatClampNeg 3)))) = u := ⟨_, rfl⟩
                have hM := kX8_gives l D cB cI bd u33.2.1 qm ql qs qk qd qn qe qf qo qt qi u33.2.2 ((qo (Int32.toNatClampNeg 2)) + (u147 * (qo (Int32.toNatClampNeg 3))))
                rw [hu197] at hM
                refine m_VA X V (w1 := (wR cB cI bd u197.2 qm ql qs qk qd qn qe qf qo qt qi u33.2.2)) (rest := []) (st1 := [.int u197.1]) hM okX8_gives gm_553 gm_704 gm_552 ⟨⟨rfl, rfl⟩, ⟨by decide, by decide⟩, Nat.zero_le _, Nat.zero_le _⟩ rfl rfl (wR_fst _ _ _ _ _ _ _ _ _ _ _ _ _ _ _ _) (wR_fst _ _ _ _ _ _ _ _ _ _ _ _ _ _ _ _) rfl hl.1 (Nat.le_of_ble_eq_true rfl) dX8_searches_197 rfl rfl (fun H locs V => ?_)
                have e9 : pX8_searches v qm qo qy = (u197.1, u197.2, u33.2.2) := by rw [pX8_searches, if_pos c_25, hu33, mLet_eq, if_pos c_38, if_pos c_64, if_neg c_97, if_neg c_114, hu147, mLet_eq, if_neg c_156, if_pos c_164, hu197, mLet_eq]
                exact m_iret X hr hk V (by rw [e9]) (by rw [e9]) dX8_searches_200
              · refine lv_iload hx hb dX8_searches_167 (lv_at hl 1 rfl) ?_
                refine lv_if_eq (tgt := 176) hx hb dX8_searches_169 (by decide) (fun _ => ?_) (fun h => absurd h (by decide))
                refine lv_iconst (v := 0) hx hb dX8_searches_176 (by decide) ?_
                refine lv_goto (tgt := 197) hx hb dX8_searches_177 (by decide) ?_
                obtain ⟨u197, hu197⟩ : ∃ u, pX8_gives u33.2.1 0 = u := ⟨_, rfl⟩
                have hM := kX8_gives l D cB cI bd u33.2.1 qm ql qs qk qd qn qe qf qo qt qi u33.2.2 0
                rw [hu197] at hM
                refine m_VA X V (w1 := (wR cB cI bd u197.2 qm ql qs qk qd qn qe qf qo qt qi u33.2.2)) (rest := []) (st1 := [.int u197.1]) hM okX8_gives gm_553 gm_704 gm_552 ⟨⟨rfl, rfl⟩, ⟨by decide, by decide⟩, Nat.zero_le _, Nat.zero_le _⟩ rfl rfl (wR_fst _ _ _ _ _ _ _ _ _ _ _ _ _ _ _ _) (wR_fst _ _ _ _ _ _ _ _ _ _ _ _ _ _ _ _) rfl hl.1 (Nat.le_of_ble_eq_true rfl) dX8_searches_197 rfl rfl (fun H locs V => ?_)
                have e9 : pX8_searches v qm qo qy = (u197.1, u197.2, u33.2.2) := by rw [pX8_searches, if_pos c_25, hu33, mLet_eq, if_pos c_38, if_pos c_64, if_neg c_97, if_neg c_114, hu147, mLet_eq, if_neg c_156, if_neg c_164, hu197, mLet_eq]
                exact m_iret X hr hk V (by rw [e9]) (by rw [e9]) dX8_searches_200
            · refine lv_iconst (v := 1) hx hb dX8_searches_159 (by decide) ?_
              have e9 : pX8_searches v qm qo qy = (1, u33.2.1, u33.2.2) := by rw [pX8_searches, if_pos c_25, hu33, mLet_eq, if_pos c_38, if_pos c_64, if_neg c_97, if_neg c_114, hu147, mLet_eq, if_pos c_156]
              exact m_iret X hr hk V (by rw [e9]) (by rw [e9]) dX8_searches_160
          · refine lv_aload_n hx hb dX8_searches_117 rfl (lv_at hl 6 rfl) ?_
            refine lv_iload_n hx hb dX8_searches_118 rfl (lv_at hl 3 rfl) ?_
            refine lv_iload hx hb dX8_searches_119 (lv_at hl 2 rfl) ?_
            refine lv_iload hx hb dX8_searches_121 (lv_at hl 1 rfl) ?_
            refine lv_iload_n hx hb dX8_searches_123 rfl (lv_at hl 5 rfl) ?_
            refine lv_iconst (v := 2) hx hb dX8_searches_124 (by decide) ?_
            refine lv_iand hx hb dX8_searches_125 ?_
            refine lv_iconst (v := 2) hx hb dX8_searches_126 (by decide) ?_
            refine lv_icmp_ne (tgt := 134) hx hb dX8_searches_127 (by decide) (fun c_127 => ?_) (fun c_127 => ?_)
            · refine lv_iconst (v := 0) hx hb dX8_searches_134 (by decide) ?_
              obtain ⟨u135, hu135⟩ : ∃ u, pX8_oneByOne u33.2.1 qm qo u33.2.2 (qo (Int32.toNatClampNeg 2)) (qo (Int32.toNatClampNeg 3)) 1024 0 = u := ⟨_, rfl⟩
              have hM := kX8_oneByOne l D cB cI bd u33.2.1 qm ql qs qk qd qn qe qf qo qt qi u33.2.2 (qo (Int32.toNatClampNeg 2)) (qo (Int32.toNatClampNeg 3)) 1024 0 (keys_sz hu33 c_38) (show 0 ≤ Int32.toInt 1024 ∧ Int32.toInt 1024 ≤ 1024 by have z_0 : Int32.toInt 1024 = 1024 := rfl; have e_1 : Int32.toInt 1024 = 1024 := rfl; have e_2 : Int32.toInt 0 = 0 := rfl; omega)
              rw [hu135] at hM
              refine m_VA X V (w1 := (wR cB cI bd u33.2.1 qm ql qs qk qd qn qe qf qo qt qi u33.2.2)) (rest := []) (st1 := [.int u135]) hM okX8_oneByOne gm_589 gm_712 gm_588 ⟨⟨rfl, rfl⟩, ⟨by decide, by decide⟩, Nat.zero_le _, Nat.zero_le _⟩ rfl rfl (wR_fst _ _ _ _ _ _ _ _ _ _ _ _ _ _ _ _) (wR_fst _ _ _ _ _ _ _ _ _ _ _ _ _ _ _ _) rfl hl.1 (Nat.le_of_ble_eq_true rfl) dX8_searches_135 rfl rfl (fun H locs V => ?_)
              refine lv_goto (tgt := 150) hx hb dX8_searches_138 (by decide) ?_
              refine lv_istore (lv' := [(7, .int u135), (6, .int 0), (5, .int 1024), (4, .int (qo (Int32.toNatClampNeg 3))), (3, .int (qo (Int32.toNatClampNeg 2))), (2, .int u33.1), (1, .int (qo (Int32.toNatClampNeg 6))), (0, .ref (bd 0))]) hx hb dX8_searches_150 hl (by decide) rfl (fun ls hl => ?_)
              refine lv_iload hx hb dX8_searches_152 (lv_at hl 0 rfl) ?_
              refine lv_bipush (v := (-9)) hx hb dX8_searches_154 (by decide) ?_
              refine lv_icmp_ne (tgt := 161) hx hb dX8_searches_156 (by decide) (fun c_156 => ?_) (fun c_156 => ?_)
              · refine lv_aload_n hx hb dX8_searches_161 rfl (lv_at hl 7 rfl) ?_
                refine lv_iload hx hb dX8_searches_162 (lv_at hl 0 rfl) ?_
                refine lv_if_ge (tgt := 180) hx hb dX8_searches_164 (by decide) (fun c_164 => ?_) (fun c_164 => ?_)
                · refine lv_iload hx hb dX8_searches_180 (lv_at hl 1 rfl) ?_
                  refine lv_if_eq (tgt := 190) hx hb dX8_searches_182 (by decide) (fun _ => ?_) (fun h => absurd h (by decide))
                  refine lv_iload_n hx hb dX8_searches_190 rfl (lv_at hl 4 rfl) ?_
                  refine lv_iload hx hb dX8_searches_191 (lv_at hl 0 rfl) ?_
                  refine lv_iload hx hb dX8_searches_193 (lv_at hl 3 rfl) ?_
                  refine lv_imul hx hb dX8_searches_195 ?_
                  refine lv_iadd hx hb dX8_searches_196 ?_
                  obtain ⟨u197, hu197⟩ : ∃ u, pX8_gives u33.2.1 ((qo (Int32.toNatClampNeg 2)) + (u135 * (qo (Int32.toNatClampNeg 3)))) = u := ⟨_, rfl⟩
                  have hM := kX8_gives l D cB cI bd u33.2.1 qm ql qs qk qd qn qe qf qo qt qi u33.2.2 ((qo (Int32.toNatClampNeg 2)) + (u135 * (qo (Int32.toNatClampNeg 3))))
                  rw [hu197] at hM
                  refine m_VA X V (w1 := (wR cB cI bd u197.2 qm ql qs qk qd qn qe qf qo qt qi u33.2.2)) (rest := []) (st1 := [.int u197.1]) hM okX8_gives gm_553 gm_704 gm_552 ⟨⟨rfl, rfl⟩, ⟨by decide, by decide⟩, Nat.zero_le _, Nat.zero_le _⟩ rfl rfl (wR_fst _ _ _ _ _ _ _ _ _ _ _ _ _ _ _ _) (wR_fst _ _ _ _ _ _ _ _ _ _ _ _ _ _ _ _) rfl hl.1 (Nat.le_of_ble_eq_true rfl) dX8_searches_197 rfl rfl (fun H locs V => ?_)
                  have e9 : pX8_searches v qm qo qy = (u197.1, u197.2, u33.2.2) := by rw [pX8_searches, if_pos c_25, hu33, mLet_eq, if_pos c_38, if_pos c_64, if_neg c_97, if_pos c_114, if_neg c_127, hu135, mLet_eq, if_neg c_156, if_pos c_164, hu197, mLet_eq]
                  exact m_iret X hr hk V (by rw [e9]) (by rw [e9]) dX8_searches_200
                · refine lv_iload hx hb dX8_searches_167 (lv_at hl 1 rfl) ?_
                  refine lv_if_eq (tgt := 176) hx hb dX8_searches_169 (by decide) (fun _ => ?_) (fun h => absurd h (by decide))
                  refine lv_iconst (v := 0) hx hb dX8_searches_176 (by decide) ?_
                  refine lv_goto (tgt := 197) hx hb dX8_searches_177 (by decide) ?_
                  obtain ⟨u197, hu197⟩ : ∃ u, pX8_gives u33.2.1 0 = u := ⟨_, rfl⟩
                  have hM := kX8_gives l D cB cI bd u33.2.1 qm ql qs qk qd qn qe qf qo qt qi u33.2.2 0
                  rw [hu197] at hM
                  refine m_VA X V (w1 := (wR cB cI bd u197.2 qm ql qs qk qd qn qe qf qo qt qi u33.2.2)) (rest := []) (st1 := [.int u197.1]) hM okX8_gives gm_553 gm_704 gm_552 ⟨⟨rfl, rfl⟩, ⟨by decide, by decide⟩, Nat.zero_le _, Nat.zero_le _⟩ rfl rfl (wR_fst _ _ _ _ _ _ _ _ _ _ _ _ _ _ _ _) (wR_fst _ _ _ _ _ _ _ _ _ _ _ _ _ _ _ _) rfl hl.1 (Nat.le_of_ble_eq_true rfl) dX8_searches_197 rfl rfl (fun H locs V => ?_)
                  have e9 : pX8_searches v qm qo qy = (u197.1, u197.2, u33.2.2) := by rw [pX8_searches, if_pos c_25, hu33, mLet_eq, if_pos c_38, if_pos c_64, if_neg c_97, if_pos c_114, if_neg c_127, hu135, mLet_eq, if_neg c_156, if_neg c_164, hu197, mLet_eq]
                  exact m_iret X hr hk V (by rw [e9]) (by rw [e9]) dX8_searches_200
              · refine lv_iconst (v := 1) hx hb dX8_searches_159 (by decide) ?_
                have e9 : pX8_searches v qm qo qy = (1, u33.2.1, u33.2.2) := by rw [pX8_searches, if_pos c_25, hu33, mLet_eq, if_pos c_38, if_pos c_64, if_neg c_97, if_pos c_114, if_neg c_127, hu135, mLet_eq, if_pos c_156]
                exact m_iret X hr hk V (by rw [e9]) (by rw [e9]) dX8_searches_160
            · refine lv_iconst (v := 1) hx hb dX8_searches_130 (by decide) ?_
              refine lv_goto (tgt := 135) hx hb dX8_searches_131 (by decide) ?_
              obtain ⟨u135, hu135⟩ : ∃ u, pX8_oneByOne u33.2.1 qm qo u33.2.2 (qo (Int32.toNatClampNeg 2)) (qo (Int32.toNatClampNeg 3)) 1024 1 = u := ⟨_, rfl⟩
              have hM := kX8_oneByOne l D cB cI bd u33.2.1 qm ql qs qk qd qn qe qf qo qt qi u33.2.2 (qo (Int32.toNatClampNeg 2)) (qo (Int32.toNatClampNeg 3)) 1024 1 (keys_sz hu33 c_38) (show 0 ≤ Int32.toInt 1024 ∧ Int32.toInt 1024 ≤ 1024 by have z_0 : Int32.toInt 1024 = 1024 := rfl; have e_1 : Int32.toInt 1024 = 1024 := rfl; have e_2 : Int32.toInt 1 = 1 := rfl; omega)
              rw [hu135] at hM
              refine m_VA X V (w1 := (wR cB cI bd u33.2.1 qm ql qs qk qd qn qe qf qo qt qi u33.2.2)) (rest := []) (st1 := [.int u135]) hM okX8_oneByOne gm_589 gm_712 gm_588 ⟨⟨rfl, rfl⟩, ⟨by decide, by decide⟩, Nat.zero_le _, Nat.zero_le _⟩ rfl rfl (wR_fst _ _ _ _ _ _ _ _ _ _ _ _ _ _ _ _) (wR_fst _ _ _ _ _ _ _ _ _ _ _ _ _ _ _ _) rfl hl.1 (Nat.le_of_ble_eq_true rfl) dX8_searches_135 rfl rfl (fun H locs V => ?_)
              refine lv_goto (tgt := 150) hx hb dX8_searches_138 (by decide) ?_
              refine lv_istore (lv' := [(7, .int u135), (6, .int 0), (5, .int 1024), (4, .int (qo (Int32.toNatClampNeg 3))), (3, .int (qo (Int32.toNatClampNeg 2))), (2, .int u33.1), (1, .int (qo (Int32.toNatClampNeg 6))), (0, .ref (bd 0))]) hx hb dX8_searches_150 hl (by decide) rfl (fun ls hl => ?_)
              refine lv_iload hx hb dX8_searches_152 (lv_at hl 0 rfl) ?_
              refine lv_bipush (v := (-9)) hx hb dX8_searches_154 (by decide) ?_
              refine lv_icmp_ne (tgt := 161) hx hb dX8_searches_156 (by decide) (fun c_156 => ?_) (fun c_156 => ?_)
              · refine lv_aload_n hx hb dX8_searches_161 rfl (lv_at hl 7 rfl) ?_
                refine lv_iload hx hb dX8_searches_162 (lv_at hl 0 rfl) ?_
                refine lv_if_ge (tgt := 180) hx hb dX8_searches_164 (by decide) (fun c_164 => ?_) (fun c_164 => ?_)
                · refine lv_iload hx hb dX8_searches_180 (lv_at hl 1 rfl) ?_
                  refine lv_if_eq (tgt := 190) hx hb dX8_searches_182 (by decide) (fun _ => ?_) (fun h => absurd h (by decide))
                  refine lv_iload_n hx hb dX8_searches_190 rfl (lv_at hl 4 rfl) ?_
                  refine lv_iload hx hb dX8_searches_191 (lv_at hl 0 rfl) ?_
                  refine lv_iload hx hb dX8_searches_193 (lv_at hl 3 rfl) ?_
                  refine lv_imul hx hb dX8_searches_195 ?_
                  refine lv_iadd hx hb dX8_searches_196 ?_
                  obtain ⟨u197, hu197⟩ : ∃ u, pX8_gives u33.2.1 ((qo (Int32.toNatClampNeg 2)) + (u135 * (qo (Int32.toNatClampNeg 3)))) = u := ⟨_, rfl⟩
                  have hM := kX8_gives l D cB cI bd u33.2.1 qm ql qs qk qd qn qe qf qo qt qi u33.2.2 ((qo (Int32.toNatClampNeg 2)) + (u135 * (qo (Int32.toNatClampNeg 3))))
                  rw [hu197] at hM
                  refine m_VA X V (w1 := (wR cB cI bd u197.2 qm ql qs qk qd qn qe qf qo qt qi u33.2.2)) (rest := []) (st1 := [.int u197.1]) hM okX8_gives gm_553 gm_704 gm_552 ⟨⟨rfl, rfl⟩, ⟨by decide, by decide⟩, Nat.zero_le _, Nat.zero_le _⟩ rfl rfl (wR_fst _ _ _ _ _ _ _ _ _ _ _ _ _ _ _ _) (wR_fst _ _ _ _ _ _ _ _ _ _ _ _ _ _ _ _) rfl hl.1 (Nat.le_of_ble_eq_true rfl) dX8_searches_197 rfl rfl (fun H locs V => ?_)
                  have e9 : pX8_searches v qm qo qy = (u197.1, u197.2, u33.2.2) := by rw [pX8_searches, if_pos c_25, hu33, mLet_eq, if_pos c_38, if_pos c_64, if_neg c_97, if_pos c_114, if_pos c_127, hu135, mLet_eq, if_neg c_156, if_pos c_164, hu197, mLet_eq]
                  exact m_iret X hr hk V (by rw [e9]) (by rw [e9]) dX8_searches_200
                · refine lv_iload hx hb dX8_searches_167 (lv_at hl 1 rfl) ?_
                  refine lv_if_eq (tgt := 176) hx hb dX8_searches_169 (by decide) (fun _ => ?_) (fun h => absurd h (by decide))
                  refine lv_iconst (v := 0) hx hb dX8_searches_176 (by decide) ?_
                  refine lv_goto (tgt := 197) hx hb dX8_searches_177 (by decide) ?_
                  obtain ⟨u197, hu197⟩ : ∃ u, pX8_gives u33.2.1 0 = u := ⟨_, rfl⟩
                  have hM := kX8_gives l D cB cI bd u33.2.1 qm ql qs qk qd qn qe qf qo qt qi u33.2.2 0
                  rw [hu197] at hM
                  refine m_VA X V (w1 := (wR cB cI bd u197.2 qm ql qs qk qd qn qe qf qo qt qi u33.2.2)) (rest := []) (st1 := [.int u197.1]) hM okX8_gives gm_553 gm_704 gm_552 ⟨⟨rfl, rfl⟩, ⟨by decide, by decide⟩, Nat.zero_le _, Nat.zero_le _⟩ rfl rfl (wR_fst _ _ _ _ _ _ _ _ _ _ _ _ _ _ _ _) (wR_fst _ _ _ _ _ _ _ _ _ _ _ _ _ _ _ _) rfl hl.1 (Nat.le_of_ble_eq_true rfl) dX8_searches_197 rfl rfl (fun H locs V => ?_)
                  have e9 : pX8_searches v qm qo qy = (u197.1, u197.2, u33.2.2) := by rw [pX8_searches, if_pos c_25, hu33, mLet_eq, if_pos c_38, if_pos c_64, if_neg c_97, if_pos c_114, if_pos c_127, hu135, mLet_eq, if_neg c_156, if_neg c_164, hu197, mLet_eq]
                  exact m_iret X hr hk V (by rw [e9]) (by rw [e9]) dX8_searches_200
              · refine lv_iconst (v := 1) hx hb dX8_searches_159 (by decide) ?_
                have e9 : pX8_searches v qm qo qy = (1, u33.2.1, u33.2.2) := by rw [pX8_searches, if_pos c_25, hu33, mLet_eq, if_pos c_38, if_pos c_64, if_neg c_97, if_pos c_114, if_pos c_127, hu135, mLet_eq, if_pos c_156]
                exact m_iret X hr hk V (by rw [e9]) (by rw [e9]) dX8_searches_160
        · refine lv_iconst (v := 1) hx hb dX8_searches_100 (by decide) ?_
          refine lv_goto (tgt := 105) hx hb dX8_searches_101 (by decide) ?_
          refine lv_istore (lv' := [(6, .int 1), (5, .int 1024), (4, .int (qo (Int32.toNatClampNeg 3))), (3, .int (qo (Int32.toNatClampNeg 2))), (2, .int u33.1), (1, .int (qo (Int32.toNatClampNeg 6))), (0, .ref (bd 0))]) hx hb dX8_searches_105 hl (by decide) rfl (fun ls hl => ?_)
          refine lv_aload_n hx hb dX8_searches_107 rfl (lv_at hl 6 rfl) ?_
          refine m_get X V 6 0 11 rfl gin_6 rfl (by decide) rfl gm_434 (v := .int (u33.2.1 7)) rfl dX8_searches_108 ?_
          refine lv_sipush (v := 336) hx hb dX8_searches_111 (by decide) ?_
          refine lv_icmp_ne (tgt := 141) hx hb dX8_searches_114 (by decide) (fun c_114 => ?_) (fun c_114 => ?_)
          · refine lv_aload_n hx hb dX8_searches_141 rfl (lv_at hl 6 rfl) ?_
            refine lv_iload_n hx hb dX8_searches_142 rfl (lv_at hl 3 rfl) ?_
            refine lv_iload hx hb dX8_searches_143 (lv_at hl 2 rfl) ?_
            refine lv_iload hx hb dX8_searches_145 (lv_at hl 1 rfl) ?_
            obtain ⟨u147, hu147⟩ : ∃ u, pX8_byHalves u33.2.1 qm qo u33.2.2 (qo (Int32.toNatClampNeg 2)) (qo (Int32.toNatClampNeg 3)) 1024 = u := ⟨_, rfl⟩
            have hM := kX8_byHalves l D cB cI bd u33.2.1 qm ql qs qk qd qn qe qf qo qt qi u33.2.2 (qo (Int32.toNatClampNeg 2)) (qo (Int32.toNatClampNeg 3)) 1024 (keys_sz hu33 c_38) (show 0 ≤ Int32.toInt 1024 ∧ Int32.toInt 1024 ≤ 1024 by have z_0 : Int32.toInt 1024 = 1024 := rfl; have e_1 : Int32.toInt 1024 = 1024 := rfl; omega)
            rw [hu147] at hM
            refine m_VA X V (w1 := (wR cB cI bd u33.2.1 qm ql qs qk qd qn qe qf qo qt qi u33.2.2)) (rest := []) (st1 := [.int u147]) hM okX8_byHalves gm_598 gm_715 gm_597 ⟨⟨rfl, rfl⟩, ⟨by decide, by decide⟩, Nat.zero_le _, Nat.zero_le _⟩ rfl rfl (wR_fst _ _ _ _ _ _ _ _ _ _ _ _ _ _ _ _) (wR_fst _ _ _ _ _ _ _ _ _ _ _ _ _ _ _ _) rfl hl.1 (Nat.le_of_ble_eq_true rfl) dX8_searches_147 rfl rfl (fun H locs V => ?_)
            refine lv_istore (lv' := [(7, .int u147), (6, .int 1), (5, .int 1024), (4, .int (qo (Int32.toNatClampNeg 3))), (3, .int (qo (Int32.toNatClampNeg 2))), (2, .int u33.1), (1, .int (qo (Int32.toNatClampNeg 6))), (0, .ref (bd 0))]) hx hb dX8_searches_150 hl (by decide) rfl (fun ls hl => ?_)
            refine lv_iload hx hb dX8_searches_152 (lv_at hl 0 rfl) ?_
            refine lv_bipush (v := (-9)) hx hb dX8_searches_154 (by decide) ?_
            refine lv_icmp_ne (tgt := 161) hx hb dX8_searches_156 (by decide) (fun c_156 => ?_) (fun c_156 => ?_)
            · refine lv_aload_n hx hb dX8_searches_161 rfl (lv_at hl 7 rfl) ?_
              refine lv_iload hx hb dX8_searches_162 (lv_at hl 0 rfl) ?_
              refine lv_if_ge (tgt := 180) hx hb dX8_searches_164 (by decide) (fun c_164 => ?_) (fun c_164 => ?_)
              · refine lv_iload hx hb dX8_searches_180 (lv_at hl 1 rfl) ?_
                refine lv_if_eq (tgt := 190) hx hb dX8_searches_182 (by decide) (fun h => absurd h (by decide)) (fun _ => ?_)
                refine lv_iload hx hb dX8_searches_185 (lv_at hl 0 rfl) ?_
                refine lv_goto (tgt := 197) hx hb dX8_searches_187 (by decide) ?_
                obtain ⟨u197, hu197⟩ : ∃ u, pX8_gives u33.2.1 u147 = u := ⟨_, rfl⟩
                have hM := kX8_gives l D cB cI bd u33.2.1 qm ql qs qk qd qn qe qf qo qt qi u33.2.2 u147
                rw [hu197] at hM
                refine m_VA X V (w1 := (wR cB cI bd u197.2 qm ql qs qk qd qn qe qf qo qt qi u33.2.2)) (rest := []) (st1 := [.int u197.1]) hM okX8_gives gm_553 gm_704 gm_552 ⟨⟨rfl, rfl⟩, ⟨by decide, by decide⟩, Nat.zero_le _, Nat.zero_le _⟩ rfl rfl (wR_fst _ _ _ _ _ _ _ _ _ _ _ _ _ _ _ _) (wR_fst _ _ _ _ _ _ _ _ _ _ _ _ _ _ _ _) rfl hl.1 (Nat.le_of_ble_eq_true rfl) dX8_searches_197 rfl rfl (fun H locs V => ?_)
                have e9 : pX8_searches v qm qo qy = (u197.1, u197.2, u33.2.2) := by rw [pX8_searches, if_pos c_25, hu33, mLet_eq, if_pos c_38, if_pos c_64, if_pos c_97, if_neg c_114, hu147, mLet_eq, if_neg c_156, if_pos c_164, hu197, mLet_eq]
                exact m_iret X hr hk V (by rw [e9]) (by rw [e9]) dX8_searches_200
              · refine lv_iload hx hb dX8_searches_167 (lv_at hl 1 rfl) ?_
                refine lv_if_eq (tgt := 176) hx hb dX8_searches_169 (by decide) (fun h => absurd h (by decide)) (fun _ => ?_)
                refine lv_iconst (v := (-1)) hx hb dX8_searches_172 (by decide) ?_
                refine lv_goto (tgt := 197) hx hb dX8_searches_173 (by decide) ?_
                obtain ⟨u197, hu197⟩ : ∃ u, pX8_gives u33.2.1 (-1) = u := ⟨_, rfl⟩
                have hM := kX8_gives l D cB cI bd u33.2.1 qm ql qs qk qd qn qe qf qo qt qi u33.2.2 (-1)
                rw [hu197] at hM
                refine m_VA X V (w1 := (wR cB cI bd u197.2 qm ql qs qk qd qn qe qf qo qt qi u33.2.2)) (rest := []) (st1 := [.int u197.1]) hM okX8_gives gm_553 gm_704 gm_552 ⟨⟨rfl, rfl⟩, ⟨by decide, by decide⟩, Nat.zero_le _, Nat.zero_le _⟩ rfl rfl (wR_fst _ _ _ _ _ _ _ _ _ _ _ _ _ _ _ _) (wR_fst _ _ _ _ _ _ _ _ _ _ _ _ _ _ _ _) rfl hl.1 (Nat.le_of_ble_eq_true rfl) dX8_searches_197 rfl rfl (fun H locs V => ?_)
                have e9 : pX8_searches v qm qo qy = (u197.1, u197.2, u33.2.2) := by rw [pX8_searches, if_pos c_25, hu33, mLet_eq, if_pos c_38, if_pos c_64, if_pos c_97, if_neg c_114, hu147, mLet_eq, if_neg c_156, if_neg c_164, hu197, mLet_eq]
                exact m_iret X hr hk V (by rw [e9]) (by rw [e9]) dX8_searches_200
            · refine lv_iconst (v := 1) hx hb dX8_searches_159 (by decide) ?_
              have e9 : pX8_searches v qm qo qy = (1, u33.2.1, u33.2.2) := by rw [pX8_searches, if_pos c_25, hu33, mLet_eq, if_pos c_38, if_pos c_64, if_pos c_97, if_neg c_114, hu147, mLet_eq, if_pos c_156]
              exact m_iret X hr hk V (by rw [e9]) (by rw [e9]) dX8_searches_160
          · refine lv_aload_n hx hb dX8_searches_117 rfl (lv_at hl 6 rfl) ?_
            refine lv_iload_n hx hb dX8_searches_118 rfl (lv_at hl 3 rfl) ?_
            refine lv_iload hx hb dX8_searches_119 (lv_at hl 2 rfl) ?_
            refine lv_iload hx hb dX8_searches_121 (lv_at hl 1 rfl) ?_
            refine lv_iload_n hx hb dX8_searches_123 rfl (lv_at hl 5 rfl) ?_
            refine lv_iconst (v := 2) hx hb dX8_searches_124 (by decide) ?_
            refine lv_iand hx hb dX8_searches_125 ?_
            refine lv_iconst (v := 2) hx hb dX8_searches_126 (by decide) ?_
            refine lv_icmp_ne (tgt := 134) hx hb dX8_searches_127 (by decide) (fun c_127 => ?_) (fun c_127 => ?_)
            · refine lv_iconst (v := 0) hx hb dX8_searches_134 (by decide) ?_
              obtain ⟨u135, hu135⟩ : ∃ u, pX8_oneByOne u33.2.1 qm qo u33.2.2 (qo (Int32.toNatClampNeg 2)) (qo (Int32.toNatClampNeg 3)) 1024 0 = u := ⟨_, rfl⟩
              have hM := kX8_oneByOne l D cB cI bd u33.2.1 qm ql qs qk qd qn qe qf qo qt qi u33.2.2 (qo (Int32.toNatClampNeg 2)) (qo (Int32.toNatClampNeg 3)) 1024 0 (keys_sz hu33 c_38) (show 0 ≤ Int32.toInt 1024 ∧ Int32.toInt 1024 ≤ 1024 by have z_0 : Int32.toInt 1024 = 1024 := rfl; have e_1 : Int32.toInt 1024 = 1024 := rfl; have e_2 : Int32.toInt 0 = 0 := rfl; omega)
              rw [hu135] at hM
              refine m_VA X V (w1 := (wR cB cI bd u33.2.1 qm ql qs qk qd qn qe qf qo qt qi u33.2.2)) (rest := []) (st1 := [.int u135]) hM okX8_oneByOne gm_589 gm_712 gm_588 ⟨⟨rfl, rfl⟩, ⟨by decide, by decide⟩, Nat.zero_le _, Nat.zero_le _⟩ rfl rfl (wR_fst _ _ _ _ _ _ _ _ _ _ _ _ _ _ _ _) (wR_fst _ _ _ _ _ _ _ _ _ _ _ _ _ _ _ _) rfl hl.1 (Nat.le_of_ble_eq_true rfl) dX8_searches_135 rfl rfl (fun H locs V => ?_)
              refine lv_goto (tgt := 150) hx hb dX8_searches_138 (by decide) ?_
              refine lv_istore (lv' := [(7, .int u135), (6, .int 1), (5, .int 1024), (4, .int (qo (Int32.toNatClampNeg 3))), (3, .int (qo (Int32.toNatClampNeg 2))), (2, .int u33.1), (1, .int (qo (Int32.toNatClampNeg 6))), (0, .ref (bd 0))]) hx hb dX8_searches_150 hl (by decide) rfl (fun ls hl => ?_)
              refine lv_iload hx hb dX8_searches_152 (lv_at hl 0 rfl) ?_
              refine lv_bipush (v := (-9)) hx hb dX8_searches_154 (by decide) ?_
              refine lv_icmp_ne (tgt := 161) hx hb dX8_searches_156 (by decide) (fun c_156 => ?_) (fun c_156 => ?_)
              · refine lv_aload_n hx hb dX8_searches_161 rfl (lv_at hl 7 rfl) ?_
                refine lv_iload hx hb dX8_searches_162 (lv_at hl 0 rfl) ?_
                refine lv_if_ge (tgt := 180) hx hb dX8_searches_164 (by decide) (fun c_164 => ?_) (fun c_164 => ?_)
                · refine lv_iload hx hb dX8_searches_180 (lv_at hl 1 rfl) ?_
                  refine lv_if_eq (tgt := 190) hx hb dX8_searches_182 (by decide) (fun h => absurd h (by decide)) (fun _ => ?_)
                  refine lv_iload hx hb dX8_searches_185 (lv_at hl 0 rfl) ?_
                  refine lv_goto (tgt := 197) hx hb dX8_searches_187 (by decide) ?_
                  obtain ⟨u197, hu197⟩ : ∃ u, pX8_gives u33.2.1 u135 = u := ⟨_, rfl⟩
                  have hM := kX8_gives l D cB cI bd u33.2.1 qm ql qs qk qd qn qe qf qo qt qi u33.2.2 u135
                  rw [hu197] at hM
                  refine m_VA X V (w1 := (wR cB cI bd u197.2 qm ql qs qk qd qn qe qf qo qt qi u33.2.2)) (rest := []) (st1 := [.int u197.1]) hM okX8_gives gm_553 gm_704 gm_552 ⟨⟨rfl, rfl⟩, ⟨by decide, by decide⟩, Nat.zero_le _, Nat.zero_le _⟩ rfl rfl (wR_fst _ _ _ _ _ _ _ _ _ _ _ _ _ _ _ _) (wR_fst _ _ _ _ _ _ _ _ _ _ _ _ _ _ _ _) rfl hl.1 (Nat.le_of_ble_eq_true rfl) dX8_searches_197 rfl rfl (fun H locs V => ?_)
                  have e9 : pX8_searches v qm qo qy = (u197.1, u197.2, u33.2.2) := by rw [pX8_searches, if_pos c_25, hu33, mLet_eq, if_pos c_38, if_pos c_64, if_pos c_97, if_pos c_114, if_neg c_127, hu135, mLet_eq, if_neg c_156, if_pos c_164, hu197, mLet_eq]
                  exact m_iret X hr hk V (by rw [e9]) (by rw [e9]) dX8_searches_200
                · refine lv_iload hx hb dX8_searches_167 (lv_at hl 1 rfl) ?_
                  refine lv_if_eq (tgt := 176) hx hb dX8_searches_169 (by decide) (fun h => absurd h (by decide)) (fun _ => ?_)
                  refine lv_iconst (v := (-1)) hx hb dX8_searches_172 (by decide) ?_
                  refine lv_goto (tgt := 197) hx hb dX8_searches_173 (by decide) ?_
                  obtain ⟨u197, hu197⟩ : ∃ u, pX8_gives u33.2.1 (-1) = u := ⟨_, rfl⟩
                  have hM := kX8_gives l D cB cI bd u33.2.1 qm ql qs qk qd qn qe qf qo qt qi u33.2.2 (-1)
                  rw [hu197] at hM
                  refine m_VA X V (w1 := (wR cB cI bd u197.2 qm ql qs qk qd qn qe qf qo qt qi u33.2.2)) (rest := []) (st1 := [.int u197.1]) hM okX8_gives gm_553 gm_704 gm_552 ⟨⟨rfl, rfl⟩, ⟨by decide, by decide⟩, Nat.zero_le _, Nat.zero_le _⟩ rfl rfl (wR_fst _ _ _ _ _ _ _ _ _ _ _ _ _ _ _ _) (wR_fst _ _ _ _ _ _ _ _ _ _ _ _ _ _ _ _) rfl hl.1 (Nat.le_of_ble_eq_true rfl) dX8_searches_197 rfl rfl (fun H locs V => ?_)
                  have e9 : pX8_searches v qm qo qy = (u197.1, u197.2, u33.2.2) := by rw [pX8_searches, if_pos c_25, hu33, mLet_eq, if_pos c_38, if_pos c_64, if_pos c_97, if_pos c_114, if_neg c_127, hu135, mLet_eq, if_neg c_156, if_neg c_164, hu197, mLet_eq]
                  exact m_iret X hr hk V (by rw [e9]) (by rw [e9]) dX8_searches_200
              · refine lv_iconst (v := 1) hx hb dX8_searches_159 (by decide) ?_
                have e9 : pX8_searches v qm qo qy = (1, u33.2.1, u33.2.2) := by rw [pX8_searches, if_pos c_25, hu33, mLet_eq, if_pos c_38, if_pos c_64, if_pos c_97, if_pos c_114, if_neg c_127, hu135, mLet_eq, if_pos c_156]
                exact m_iret X hr hk V (by rw [e9]) (by rw [e9]) dX8_searches_160
            · refine lv_iconst (v := 1) hx hb dX8_searches_130 (by decide) ?_
              refine lv_goto (tgt := 135) hx hb dX8_searches_131 (by decide) ?_
              obtain ⟨u135, hu135⟩ : ∃ u, pX8_oneByOne u33.2.1 qm qo u33.2.2 (qo (Int32.toNatClampNeg 2)) (qo (Int32.toNatClampNeg 3)) 1024 1 = u := ⟨_, rfl⟩
              have hM := kX8_oneByOne l D cB cI bd u33.2.1 qm ql qs qk qd qn qe qf qo qt qi u33.2.2 (qo (Int32.toNatClampNeg 2)) (qo (Int32.toNatClampNeg 3)) 1024 1 (keys_sz hu33 c_38) (show 0 ≤ Int32.toInt 1024 ∧ Int32.toInt 1024 ≤ 1024 by have z_0 : Int32.toInt 1024 = 1024 := rfl; have e_1 : Int32.toInt 1024 = 1024 := rfl; have e_2 : Int32.toInt 1 = 1 := rfl; omega)
              rw [hu135] at hM
              refine m_VA X V (w1 := (wR cB cI bd u33.2.1 qm ql qs qk qd qn qe qf qo qt qi u33.2.2)) (rest := []) (st1 := [.int u135]) hM okX8_oneByOne gm_589 gm_712 gm_588 ⟨⟨rfl, rfl⟩, ⟨by decide, by decide⟩, Nat.zero_le _, Nat.zero_le _⟩ rfl rfl (wR_fst _ _ _ _ _ _ _ _ _ _ _ _ _ _ _ _) (wR_fst _ _ _ _ _ _ _ _ _ _ _ _ _ _ _ _) rfl hl.1 (Nat.le_of_ble_eq_true rfl) dX8_searches_135 rfl rfl (fun H locs V => ?_)
              refine lv_goto (tgt := 150) hx hb dX8_searches_138 (by decide) ?_
              refine lv_istore (lv' := [(7, .int u135), (6, .int 1), (5, .int 1024), (4, .int (qo (Int32.toNatClampNeg 3))), (3, .int (qo (Int32.toNatClampNeg 2))), (2, .int u33.1), (1, .int (qo (Int32.toNatClampNeg 6))), (0, .ref (bd 0))]) hx hb dX8_searches_150 hl (by decide) rfl (fun ls hl => ?_)
              refine lv_iload hx hb dX8_searches_152 (lv_at hl 0 rfl) ?_
              refine lv_bipush (v := (-9)) hx hb dX8_searches_154 (by decide) ?_
              refine lv_icmp_ne (tgt := 161) hx hb dX8_searches_156 (by decide) (fun c_156 => ?_) (fun c_156 => ?_)
              · refine lv_aload_n hx hb dX8_searches_161 rfl (lv_at hl 7 rfl) ?_
                refine lv_iload hx hb dX8_searches_162 (lv_at hl 0 rfl) ?_
                refine lv_if_ge (tgt := 180) hx hb dX8_searches_164 (by decide) (fun c_164 => ?_) (fun c_164 => ?_)
                · refine lv_iload hx hb dX8_searches_180 (lv_at hl 1 rfl) ?_
                  refine lv_if_eq (tgt := 190) hx hb dX8_searches_182 (by decide) (fun h => absurd h (by decide)) (fun _ => ?_)
                  refine lv_iload hx hb dX8_searches_185 (lv_at hl 0 rfl) ?_
                  refine lv_goto (tgt := 197) hx hb dX8_searches_187 (by decide) ?_
                  obtain ⟨u197, hu197⟩ : ∃ u, pX8_gives u33.2.1 u135 = u := ⟨_, rfl⟩
                  have hM := kX8_gives l D cB cI bd u33.2.1 qm ql qs qk qd qn qe qf qo qt qi u33.2.2 u135
                  rw [hu197] at hM
                  refine m_VA X V (w1 := (wR cB cI bd u197.2 qm ql qs qk qd qn qe qf qo qt qi u33.2.2)) (rest := []) (st1 := [.int u197.1]) hM okX8_gives gm_553 gm_704 gm_552 ⟨⟨rfl, rfl⟩, ⟨by decide, by decide⟩, Nat.zero_le _, Nat.zero_le _⟩ rfl rfl (wR_fst _ _ _ _ _ _ _ _ _ _ _ _ _ _ _ _) (wR_fst _ _ _ _ _ _ _ _ _ _ _ _ _ _ _ _) rfl hl.1 (Nat.le_of_ble_eq_true rfl) dX8_searches_197 rfl rfl (fun H locs V => ?_)
                  have e9 : pX8_searches v qm qo qy = (u197.1, u197.2, u33.2.2) := by rw [pX8_searches, if_pos c_25, hu33, mLet_eq, if_pos c_38, if_pos c_64, if_pos c_97, if_pos c_114, if_pos c_127, hu135, mLet_eq, if_neg c_156, if_pos c_164, hu197, mLet_eq]
                  exact m_iret X hr hk V (by rw [e9]) (by rw [e9]) dX8_searches_200
                · refine lv_iload hx hb dX8_searches_167 (lv_at hl 1 rfl) ?_
                  refine lv_if_eq (tgt := 176) hx hb dX8_searches_169 (by decide) (fun h => absurd h (by decide)) (fun _ => ?_)
                  refine lv_iconst (v := (-1)) hx hb dX8_searches_172 (by decide) ?_
                  refine lv_goto (tgt := 197) hx hb dX8_searches_173 (by decide) ?_
                  obtain ⟨u197, hu197⟩ : ∃ u, pX8_gives u33.2.1 (-1) = u := ⟨_, rfl⟩
                  have hM := kX8_gives l D cB cI bd u33.2.1 qm ql qs qk qd qn qe qf qo qt qi u33.2.2 (-1)
                  rw [hu197] at hM
                  refine m_VA X V (w1 := (wR cB cI bd u197.2 qm ql qs qk qd qn qe qf qo qt qi u33.2.2)) (rest := []) (st1 := [.int u197.1]) hM okX8_gives gm_553 gm_704 gm_552 ⟨⟨rfl, rfl⟩, ⟨by decide, by decide⟩, Nat.zero_le _, Nat.zero_le _⟩ rfl rfl (wR_fst _ _ _ _ _ _ _ _ _ _ _ _ _ _ _ _) (wR_fst _ _ _ _ _ _ _ _ _ _ _ _ _ _ _ _) rfl hl.1 (Nat.le_of_ble_eq_true rfl) dX8_searches_197 rfl rfl (fun H locs V => ?_)
                  have e9 : pX8_searches v qm qo qy = (u197.1, u197.2, u33.2.2) := by rw [pX8_searches, if_pos c_25, hu33, mLet_eq, if_pos c_38, if_pos c_64, if_pos c_97, if_pos c_114, if_pos c_127, hu135, mLet_eq, if_neg c_156, if_neg c_164, hu197, mLet_eq]
                  exact m_iret X hr hk V (by rw [e9]) (by rw [e9]) dX8_searches_200
              · refine lv_iconst (v := 1) hx hb dX8_searches_159 (by decide) ?_
                have e9 : pX8_searches v qm qo qy = (1, u33.2.1, u33.2.2) := by rw [pX8_searches, if_pos c_25, hu33, mLet_eq, if_pos c_38, if_pos c_64, if_pos c_97, if_pos c_114, if_pos c_127, hu135, mLet_eq, if_pos c_156]
                exact m_iret X hr hk V (by rw [e9]) (by rw [e9]) dX8_searches_160
      · refine lv_aload_n hx hb dX8_searches_67 rfl (lv_at hl 4 rfl) ?_
        refine m_get X V 6 0 21 rfl gin_6 rfl (by decide) rfl gm_444 (v := .ref (bd 9)) rfl dX8_searches_68 ?_
        refine lv_iconst (v := 4) hx hb dX8_searches_71 (by decide) ?_
        refine m_iald X V 9 rfl (by rw [vp_in_iff]; decide) dX8_searches_72 ?_
        refine lv_sipush (v := 1024) hx hb dX8_searches_73 (by decide) ?_
        refine lv_icmp_le (tgt := 85) hx hb dX8_searches_76 (by decide) (fun c_76 => ?_) (fun c_76 => ?_)
        · refine lv_aload_n hx hb dX8_searches_85 rfl (lv_at hl 4 rfl) ?_
          refine m_get X V 6 0 21 rfl gin_6 rfl (by decide) rfl gm_444 (v := .ref (bd 9)) rfl dX8_searches_86 ?_
          refine lv_iconst (v := 4) hx hb dX8_searches_89 (by decide) ?_
          refine m_iald X V 9 rfl (by rw [vp_in_iff]; decide) dX8_searches_90 ?_
          refine lv_istore (lv' := [(5, .int (qo (Int32.toNatClampNeg 4))), (4, .int (qo (Int32.toNatClampNeg 3))), (3, .int (qo (Int32.toNatClampNeg 2))), (2, .int u33.1), (1, .int (qo (Int32.toNatClampNeg 6))), (0, .ref (bd 0))]) hx hb dX8_searches_91 hl (by decide) rfl (fun ls hl => ?_)
          refine lv_iload_n hx hb dX8_searches_93 rfl (lv_at hl 4 rfl) ?_
          refine lv_iconst (v := 4) hx hb dX8_searches_94 (by decide) ?_
          refine lv_iand hx hb dX8_searches_95 ?_
          refine lv_iconst (v := 4) hx hb dX8_searches_96 (by decide) ?_
          refine lv_icmp_ne (tgt := 104) hx hb dX8_searches_97 (by decide) (fun c_97 => ?_) (fun c_97 => ?_)
          · refine lv_iconst (v := 0) hx hb dX8_searches_104 (by decide) ?_
            refine lv_istore (lv' := [(6, .int 0), (5, .int (qo (Int32.toNatClampNeg 4))), (4, .int (qo (Int32.toNatClampNeg 3))), (3, .int (qo (Int32.toNatClampNeg 2))), (2, .int u33.1), (1, .int (qo (Int32.toNatClampNeg 6))), (0, .ref (bd 0))]) hx hb dX8_searches_105 hl (by decide) rfl (fun ls hl => ?_)
            refine lv_aload_n hx hb dX8_searches_107 rfl (lv_at hl 6 rfl) ?_
            refine m_get X V 6 0 11 rfl gin_6 rfl (by decide) rfl gm_434 (v := .int (u33.2.1 7)) rfl dX8_searches_108 ?_
            refine lv_sipush (v := 336) hx hb dX8_searches_111 (by decide) ?_
            refine lv_icmp_ne (tgt := 141) hx hb dX8_searches_114 (by decide) (fun c_114 => ?_) (fun c_114 => ?_)
            · refine lv_aload_n hx hb dX8_searches_141 rfl (lv_at hl 6 rfl) ?_
              refine lv_iload_n hx hb dX8_searches_142 rfl (lv_at hl 3 rfl) ?_
              refine lv_iload hx hb dX8_searches_143 (lv_at hl 2 rfl) ?_
              refine lv_iload hx hb dX8_searches_145 (lv_at hl 1 rfl) ?_
              obtain ⟨u147, hu147⟩ : ∃ u, pX8_byHalves u33.2.1 qm qo u33.2.2 (qo (Int32.toNatClampNeg 2)) (qo (Int32.toNatClampNeg 3)) (qo (Int32.toNatClampNeg 4)) = u := ⟨_, rfl⟩
              have hM := kX8_byHalves l D cB cI bd u33.2.1 qm ql qs qk qd qn qe qf qo qt qi u33.2.2 (qo (Int32.toNatClampNeg 2)) (qo (Int32.toNatClampNeg 3)) (qo (Int32.toNatClampNeg 4)) (keys_sz hu33 c_38) (show 0 ≤ Int32.toInt (qo (Int32.toNatClampNeg 4)) ∧ Int32.toInt (qo (Int32.toNatClampNeg 4)) ≤ 1024 by have e_2 : Int32.toInt 0 = 0 := rfl; have f_3 : ¬ Int32.toInt (qo (Int32.toNatClampNeg 4)) < Int32.toInt 0 := fun q => c_64 (Int32.lt_iff_toInt_lt.mpr q); have e_4 : Int32.toInt 1024 = 1024 := rfl; have f_5 : Int32.toInt (qo (Int32.toNatClampNeg 4)) ≤ Int32.toInt 1024 := Int32.le_iff_toInt_le.mp c_76; omega)
              rw [hu147] at hM
              refine m_VA X V (w1 := (wR cB cI bd u33.2.1 qm ql qs qk qd qn qe qf qo qt qi u33.2.2)) (rest := []) (st1 := [.int u147]) hM okX8_byHalves gm_598 gm_715 gm_597 ⟨⟨rfl, rfl⟩, ⟨by decide, by decide⟩, Nat.zero_le _, Nat.zero_le _⟩ rfl rfl (wR_fst _ _ _ _ _ _ _ _ _ _ _ _ _ _ _ _) (wR_fst _ _ _ _ _ _ _ _ _ _ _ _ _ _ _ _) rfl hl.1 (Nat.le_of_ble_eq_true rfl) dX8_searches_147 rfl rfl (fun H locs V => ?_)
              refine lv_istore (lv' := [(7, .int u147), (6, .int 0), (5, .int (qo (Int32.toNatClampNeg 4))), (4, .int (qo (Int32.toNatClampNeg 3))), (3, .int (qo (Int32.toNatClampNeg 2))), (2, .int u33.1), (1, .int (qo (Int32.toNatClampNeg 6))), (0, .ref (bd 0))]) hx hb dX8_searches_150 hl (by decide) rfl (fun ls hl => ?_)
              refine lv_iload hx hb dX8_searches_152 (lv_at hl 0 rfl) ?_
              refine lv_bipush (v := (-9)) hx hb dX8_searches_154 (by decide) ?_
              refine lv_icmp_ne (tgt := 161) hx hb dX8_searches_156 (by decide) (fun c_156 => ?_) (fun c_156 => ?_)
              · refine lv_aload_n hx hb dX8_searches_161 rfl (lv_at hl 7 rfl) ?_
                refine lv_iload hx hb dX8_searches_162 (lv_at hl 0 rfl) ?_
                refine lv_if_ge (tgt := 180) hx hb dX8_searches_164 (by decide) (fun c_164 => ?_) (fun c_164 => ?_)
                · refine lv_iload hx hb dX8_searches_180 (lv_at hl 1 rfl) ?_
                  refine lv_if_eq (tgt := 190) hx hb dX8_searches_182 (by decide) (fun _ => ?_) (fun h => absurd h (by decide))
                  refine lv_iload_n hx hb dX8_searches_190 rfl (lv_at hl 4 rfl) ?_
                  refine lv_iload hx hb dX8_searches_191 (lv_at hl 0 rfl) ?_
                  refine lv_iload hx hb dX8_searches_193 (lv_at hl 3 rfl) ?_
                  refine lv_imul hx hb dX8_searches_195 ?_
                  refine lv_iadd hx hb dX8_searches_196 ?_
                  obtain ⟨u197, hu197⟩ : ∃ u, pX8_gives u33.2.1 ((qo (Int32.toNatClampNeg 2)) + (u147 * (qo (Int32.toNatClampNeg 3)))) = u := ⟨_, rfl⟩
                  have hM := kX8_gives l D cB cI bd u33.2.1 qm ql qs qk qd qn qe qf qo qt qi u33.2.2 ((qo (Int32.toNatClampNeg 2)) + (u147 * (qo (Int32.toNatClampNeg 3))))
                  rw [hu197] at hM
                  refine m_VA X V (w1 := (wR cB cI bd u197.2 qm ql qs qk qd qn qe qf qo qt qi u33.2.2)) (rest := []) (st1 := [.int u197.1]) hM okX8_gives gm_553 gm_704 gm_552 ⟨⟨rfl, rfl⟩, ⟨by decide, by decide⟩, Nat.zero_le _, Nat.zero_le _⟩ rfl rfl (wR_fst _ _ _ _ _ _ _ _ _ _ _ _ _ _ _ _) (wR_fst _ _ _ _ _ _ _ _ _ _ _ _ _ _ _ _) rfl hl.1 (Nat.le_of_ble_eq_true rfl) dX8_searches_197 rfl rfl (fun H locs V => ?_)
                  have e9 : pX8_searches v qm qo qy = (u197.1, u197.2, u33.2.2) := by rw [pX8_searches, if_pos c_25, hu33, mLet_eq, if_pos c_38, if_neg c_64, if_pos c_76, if_neg c_97, if_neg c_114, hu147, mLet_eq, if_neg c_156, if_pos c_164, hu197, mLet_eq]
                  exact m_iret X hr hk V (by rw [e9]) (by rw [e9]) dX8_searches_200
                · refine lv_iload hx hb dX8_searches_167 (lv_at hl 1 rfl) ?_
                  refine lv_if_eq (tgt := 176) hx hb dX8_searches_169 (by decide) (fun _ => ?_) (fun h => absurd h (by decide))
                  refine lv_iconst (v := 0) hx hb dX8_searches_176 (by decide) ?_
                  refine lv_goto (tgt := 197) hx hb dX8_searches_177 (by decide) ?_
                  obtain ⟨u197, hu197⟩ : ∃ u, pX8_gives u33.2.1 0 = u := ⟨_, rfl⟩
                  have hM := kX8_gives l D cB cI bd u33.2.1 qm ql qs qk qd qn qe qf qo qt qi u33.2.2 0
                  rw [hu197] at hM
                  refine m_VA X V (w1 := (wR cB cI bd u197.2 qm ql qs qk qd qn qe qf qo qt qi u33.2.2)) (rest := []) (st1 := [.int u197.1]) hM okX8_gives gm_553 gm_704 gm_552 ⟨⟨rfl, rfl⟩, ⟨by decide, by decide⟩, Nat.zero_le _, Nat.zero_le _⟩ rfl rfl (wR_fst _ _ _ _ _ _ _ _ _ _ _ _ _ _ _ _) (wR_fst _ _ _ _ _ _ _ _ _ _ _ _ _ _ _ _) rfl hl.1 (Nat.le_of_ble_eq_true rfl) dX8_searches_197 rfl rfl (fun H locs V => ?_)
                  have e9 : pX8_searches v qm qo qy = (u197.1, u197.2, u33.2.2) := by rw [pX8_searches, if_pos c_25, hu33, mLet_eq, if_pos c_38, if_neg c_64, if_pos c_76, if_neg c_97, if_neg c_114, hu147, mLet_eq, if_neg c_156, if_neg c_164, hu197, mLet_eq]
                  exact m_iret X hr hk V (by rw [e9]) (by rw [e9]) dX8_searches_200
              · refine lv_iconst (v := 1) hx hb dX8_searches_159 (by decide) ?_
                have e9 : pX8_searches v qm qo qy = (1, u33.2.1, u33.2.2) := by rw [pX8_searches, if_pos c_25, hu33, mLet_eq, if_pos c_38, if_neg c_64, if_pos c_76, if_neg c_97, if_neg c_114, hu147, mLet_eq, if_pos c_156]
                exact m_iret X hr hk V (by rw [e9]) (by rw [e9]) dX8_searches_160
            · refine lv_aload_n hx hb dX8_searches_117 rfl (lv_at hl 6 rfl) ?_
              refine lv_iload_n hx hb dX8_searches_118 rfl (lv_at hl 3 rfl) ?_
              refine lv_iload hx hb dX8_searches_119 (lv_at hl 2 rfl) ?_
              refine lv_iload hx hb dX8_searches_121 (lv_at hl 1 rfl) ?_
              refine lv_iload_n hx hb dX8_searches_123 rfl (lv_at hl 5 rfl) ?_
              refine lv_iconst (v := 2) hx hb dX8_searches_124 (by decide) ?_
              refine lv_iand hx hb dX8_searches_125 ?_
              refine lv_iconst (v := 2) hx hb dX8_searches_126 (by decide) ?_
              refine lv_icmp_ne (tgt := 134) hx hb dX8_searches_127 (by decide) (fun c_127 => ?_) (fun c_127 => ?_)
              · refine lv_iconst (v := 0) hx hb dX8_searches_134 (by decide) ?_
                obtain ⟨u135, hu135⟩ : ∃ u, pX8_oneByOne u33.2.1 qm qo u33.2.2 (qo (Int32.toNatClampNeg 2)) (qo (Int32.toNatClampNeg 3)) (qo (Int32.toNatClampNeg 4)) 0 = u := ⟨_, rfl⟩
                have hM := kX8_oneByOne l D cB cI bd u33.2.1 qm ql qs qk qd qn qe qf qo qt qi u33.2.2 (qo (Int32.toNatClampNeg 2)) (qo (Int32.toNatClampNeg 3)) (qo (Int32.toNatClampNeg 4)) 0 (keys_sz hu33 c_38) (show 0 ≤ Int32.toInt (qo (Int32.toNatClampNeg 4)) ∧ Int32.toInt (qo (Int32.toNatClampNeg 4)) ≤ 1024 by have e_2 : Int32.toInt 0 = 0 := rfl; have f_3 : ¬ Int32.toInt (qo (Int32.toNatClampNeg 4)) < Int32.toInt 0 := fun q => c_64 (Int32.lt_iff_toInt_lt.mpr q); have e_4 : Int32.toInt 1024 = 1024 := rfl; have f_5 : Int32.toInt (qo (Int32.toNatClampNeg 4)) ≤ Int32.toInt 1024 := Int32.le_iff_toInt_le.mp c_76; omega)
                rw [hu135] at hM
                refine m_VA X V (w1 := (wR cB cI bd u33.2.1 qm ql qs qk qd qn qe qf qo qt qi u33.2.2)) (rest := []) (st1 := [.int u135]) hM okX8_oneByOne gm_589 gm_712 gm_588 ⟨⟨rfl, rfl⟩, ⟨by decide, by decide⟩, Nat.zero_le _, Nat.zero_le _⟩ rfl rfl (wR_fst _ _ _ _ _ _ _ _ _ _ _ _ _ _ _ _) (wR_fst _ _ _ _ _ _ _ _ _ _ _ _ _ _ _ _) rfl hl.1 (Nat.le_of_ble_eq_true rfl) dX8_searches_135 rfl rfl (fun H locs V => ?_)
                refine lv_goto (tgt := 150) hx hb dX8_searches_138 (by decide) ?_
                refine lv_istore (lv' := [(7, .int u135), (6, .int 0), (5, .int (qo (Int32.toNatClampNeg 4))), (4, .int (qo (Int32.toNatClampNeg 3))), (3, .int (qo (Int32.toNatClampNeg 2))), (2, .int u33.1), (1, .int (qo (Int32.toNatClampNeg 6))), (0, .ref (bd 0))]) hx hb dX8_searches_150 hl (by decide) rfl (fun ls hl => ?_)
                refine lv_iload hx hb dX8_searches_152 (lv_at hl 0 rfl) ?_
                refine lv_bipush (v := (-9)) hx hb dX8_searches_154 (by decide) ?_
                refine lv_icmp_ne (tgt := 161) hx hb dX8_searches_156 (by decide) (fun c_156 => ?_) (fun c_156 => ?_)
                · refine lv_aload_n hx hb dX8_searches_161 rfl (lv_at hl 7 rfl) ?_
                  refine lv_iload hx hb dX8_searches_162 (lv_at hl 0 rfl) ?_
                  refine lv_if_ge (tgt := 180) hx hb dX8_searches_164 (by decide) (fun c_164 => ?_) (fun c_164 => ?_)
                  · refine lv_iload hx hb dX8_searches_180 (lv_at hl 1 rfl) ?_
                    refine lv_if_eq (tgt := 190) hx hb dX8_searches_182 (by decide) (fun _ => ?_) (fun h => absurd h (by decide))
                    refine lv_iload_n hx hb dX8_searches_190 rfl (lv_at hl 4 rfl) ?_
                    refine lv_iload hx hb dX8_searches_191 (lv_at hl 0 rfl) ?_
                    refine lv_iload hx hb dX8_searches_193 (lv_at hl 3 rfl) ?_
                    refine lv_imul hx hb dX8_searches_195 ?_
                    refine lv_iadd hx hb dX8_searches_196 ?_
                    obtain ⟨u197, hu197⟩ : ∃ u, pX8_gives u33.2.1 ((qo (Int32.toNatClampNeg 2)) + (u135 * (qo (Int32.toNatClampNeg 3)))) = u := ⟨_, rfl⟩
                    have hM := kX8_gives l D cB cI bd u33.2.1 qm ql qs qk qd qn qe qf qo qt qi u33.2.2 ((qo (Int32.toNatClampNeg 2)) + (u135 * (qo (Int32.toNatClampNeg 3))))
                    rw [hu197] at hM
                    refine m_VA X V (w1 := (wR cB cI bd u197.2 qm ql qs qk qd qn qe qf qo qt qi u33.2.2)) (rest := []) (st1 := [.int u197.1]) hM okX8_gives gm_553 gm_704 gm_552 ⟨⟨rfl, rfl⟩, ⟨by decide, by decide⟩, Nat.zero_le _, Nat.zero_le _⟩ rfl rfl (wR_fst _ _ _ _ _ _ _ _ _ _ _ _ _ _ _ _) (wR_fst _ _ _ _ _ _ _ _ _ _ _ _ _ _ _ _) rfl hl.1 (Nat.le_of_ble_eq_true rfl) dX8_searches_197 rfl rfl (fun H locs V => ?_)
                    have e9 : pX8_searches v qm qo qy = (u197.1, u197.2, u33.2.2) := by rw [pX8_searches, if_pos c_25, hu33, mLet_eq, if_pos c_38, if_neg c_64, if_pos c_76, if_neg c_97, if_pos c_114, if_neg c_127, hu135, mLet_eq, if_neg c_156, if_pos c_164, hu197, mLet_eq]
                    exact m_iret X hr hk V (by rw [e9]) (by rw [e9]) dX8_searches_200
                  · refine lv_iload hx hb dX8_searches_167 (lv_at hl 1 rfl) ?_
                    refine lv_if_eq (tgt := 176) hx hb dX8_searches_169 (by decide) (fun _ => ?_) (fun h => absurd h (by decide))
                    refine lv_iconst (v := 0) hx hb dX8_searches_176 (by decide) ?_
                    refine lv_goto (tgt := 197) hx hb dX8_searches_177 (by decide) ?_
                    obtain ⟨u197, hu197⟩ : ∃ u, pX8_gives u33.2.1 0 = u := ⟨_, rfl⟩
                    have hM := kX8_gives l D cB cI bd u33.2.1 qm ql qs qk qd qn qe qf qo qt qi u33.2.2 0
                    rw [hu197] at hM
                    refine m_VA X V (w1 := (wR cB cI bd u197.2 qm ql qs qk qd qn qe qf qo qt qi u33.2.2)) (rest := []) (st1 := [.int u197.1]) hM okX8_gives gm_553 gm_704 gm_552 ⟨⟨rfl, rfl⟩, ⟨by decide, by decide⟩, Nat.zero_le _, Nat.zero_le _⟩ rfl rfl (wR_fst _ _ _ _ _ _ _ _ _ _ _ _ _ _ _ _) (wR_fst _ _ _ _ _ _ _ _ _ _ _ _ _ _ _ _) rfl hl.1 (Nat.le_of_ble_eq_true rfl) dX8_searches_197 rfl rfl (fun H locs V => ?_)
                    have e9 : pX8_searches v qm qo qy = (u197.1, u197.2, u33.2.2) := by rw [pX8_searches, if_pos c_25, hu33, mLet_eq, if_pos c_38, if_neg c_64, if_pos c_76, if_neg c_97, if_pos c_114, if_neg c_127, hu135, mLet_eq, if_neg c_156, if_neg c_164, hu197, mLet_eq]
                    exact m_iret X hr hk V (by rw [e9]) (by rw [e9]) dX8_searches_200
                · refine lv_iconst (v := 1) hx hb dX8_searches_159 (by decide) ?_
                  have e9 : pX8_searches v qm qo qy = (1, u33.2.1, u33.2.2) := by rw [pX8_searches, if_pos c_25, hu33, mLet_eq, if_pos c_38, if_neg c_64, if_pos c_76, if_neg c_97, if_pos c_114, if_neg c_127, hu135, mLet_eq, if_pos c_156]
                  exact m_iret X hr hk V (by rw [e9]) (by rw [e9]) dX8_searches_160
              · refine lv_iconst (v := 1) hx hb dX8_searches_130 (by decide) ?_
                refine lv_goto (tgt := 135) hx hb dX8_searches_131 (by decide) ?_
                obtain ⟨u135, hu135⟩ : ∃ u, pX8_oneByOne u33.2.1 qm qo u33.2.2 (qo (Int32.toNatClampNeg 2)) (qo (Int32.toNatClampNeg 3)) (qo (Int32.toNatClampNeg 4)) 1 = u := ⟨_, rfl⟩
                have hM := kX8_oneByOne l D cB cI bd u33.2.1 qm ql qs qk qd qn qe qf qo qt qi u33.2.2 (qo (Int32.toNatClampNeg 2)) (qo (Int32.toNatClampNeg 3)) (qo (Int32.toNatClampNeg 4)) 1 (keys_sz hu33 c_38) (show 0 ≤ Int32.toInt (qo (Int32.toNatClampNeg 4)) ∧ Int32.toInt (qo (Int32.toNatClampNeg 4)) ≤ 1024 by have e_2 : Int32.toInt 0 = 0 := rfl; have f_3 : ¬ Int32.toInt (qo (Int32.toNatClampNeg 4)) < Int32.toInt 0 := fun q => c_64 (Int32.lt_iff_toInt_lt.mpr q); have e_4 : Int32.toInt 1024 = 1024 := rfl; have f_5 : Int32.toInt (qo (Int32.toNatClampNeg 4)) ≤ Int32.toInt 1024 := Int32.le_iff_toInt_le.mp c_76; have e_6 : Int32.toInt 1 = 1 := rfl; omega)
                rw [hu135] at hM
                refine m_VA X V (w1 := (wR cB cI bd u33.2.1 qm ql qs qk qd qn qe qf qo qt qi u33.2.2)) (rest := []) (st1 := [.int u135]) hM okX8_oneByOne gm_589 gm_712 gm_588 ⟨⟨rfl, rfl⟩, ⟨by decide, by decide⟩, Nat.zero_le _, Nat.zero_le _⟩ rfl rfl (wR_fst _ _ _ _ _ _ _ _ _ _ _ _ _ _ _ _) (wR_fst _ _ _ _ _ _ _ _ _ _ _ _ _ _ _ _) rfl hl.1 (Nat.le_of_ble_eq_true rfl) dX8_searches_135 rfl rfl (fun H locs V => ?_)
                refine lv_goto (tgt := 150) hx hb dX8_searches_138 (by decide) ?_
                refine lv_istore (lv' := [(7, .int u135), (6, .int 0), (5, .int (qo (Int32.toNatClampNeg 4))), (4, .int (qo (Int32.toNatClampNeg 3))), (3, .int (qo (Int32.toNatClampNeg 2))), (2, .int u33.1), (1, .int (qo (Int32.toNatClampNeg 6))), (0, .ref (bd 0))]) hx hb dX8_searches_150 hl (by decide) rfl (fun ls hl => ?_)
                refine lv_iload hx hb dX8_searches_152 (lv_at hl 0 rfl) ?_
                refine lv_bipush (v := (-9)) hx hb dX8_searches_154 (by decide) ?_
                refine lv_icmp_ne (tgt := 161) hx hb dX8_searches_156 (by decide) (fun c_156 => ?_) (fun c_156 => ?_)
                · refine lv_aload_n hx hb dX8_searches_161 rfl (lv_at hl 7 rfl) ?_
                  refine lv_iload hx hb dX8_searches_162 (lv_at hl 0 rfl) ?_
                  refine lv_if_ge (tgt := 180) hx hb dX8_searches_164 (by decide) (fun c_164 => ?_) (fun c_164 => ?_)
                  · refine lv_iload hx hb dX8_searches_180 (lv_at hl 1 rfl) ?_
                    refine lv_if_eq (tgt := 190) hx hb dX8_searches_182 (by decide) (fun _ => ?_) (fun h => absurd h (by decide))
                    refine lv_iload_n hx hb dX8_searches_190 rfl (lv_at hl 4 rfl) ?_
                    refine lv_iload hx hb dX8_searches_191 (lv_at hl 0 rfl) ?_
                    refine lv_iload hx hb dX8_searches_193 (lv_at hl 3 rfl) ?_
                    refine lv_imul hx hb dX8_searches_195 ?_
                    refine lv_iadd hx hb dX8_searches_196 ?_
                    obtain ⟨u197, hu197⟩ : ∃ u, pX8_gives u33.2.1 ((qo (Int32.toNatClampNeg 2)) + (u135 * (qo (Int32.toNatClampNeg 3)))) = u := ⟨_, rfl⟩
                    have hM := kX8_gives l D cB cI bd u33.2.1 qm ql qs qk qd qn qe qf qo qt qi u33.2.2 ((qo (Int32.toNatClampNeg 2)) + (u135 * (qo (Int32.toNatClampNeg 3))))
                    rw [hu197] at hM
                    refine m_VA X V (w1 := (wR cB cI bd u197.2 qm ql qs qk qd qn qe qf qo qt qi u33.2.2)) (rest := []) (st1 := [.int u197.1]) hM okX8_gives gm_553 gm_704 gm_552 ⟨⟨rfl, rfl⟩, ⟨by decide, by decide⟩, Nat.zero_le _, Nat.zero_le _⟩ rfl rfl (wR_fst _ _ _ _ _ _ _ _ _ _ _ _ _ _ _ _) (wR_fst _ _ _ _ _ _ _ _ _ _ _ _ _ _ _ _) rfl hl.1 (Nat.le_of_ble_eq_true rfl) dX8_searches_197 rfl rfl (fun H locs V => ?_)
                    have e9 : pX8_searches v qm qo qy = (u197.1, u197.2, u33.2.2) := by rw [pX8_searches, if_pos c_25, hu33, mLet_eq, if_pos c_38, if_neg c_64, if_pos c_76, if_neg c_97, if_pos c_114, if_pos c_127, hu135, mLet_eq, if_neg c_156, if_pos c_164, hu197, mLet_eq]
                    exact m_iret X hr hk V (by rw [e9]) (by rw [e9]) dX8_searches_200
                  · refine lv_iload hx hb dX8_searches_167 (lv_at hl 1 rfl) ?_
                    refine lv_if_eq (tgt := 176) hx hb dX8_searches_169 (by decide) (fun _ => ?_) (fun h => absurd h (by decide))
                    refine lv_iconst (v := 0) hx hb dX8_searches_176 (by decide) ?_
                    refine lv_goto (tgt := 197) hx hb dX8_searches_177 (by decide) ?_
                    obtain ⟨u197, hu197⟩ : ∃ u, pX8_gives u33.2.1 0 = u := ⟨_, rfl⟩
                    have hM := kX8_gives l D cB cI bd u33.2.1 qm ql qs qk qd qn qe qf qo qt qi u33.2.2 0
                    rw [hu197] at hM
                    refine m_VA X V (w1 := (wR cB cI bd u197.2 qm ql qs qk qd qn qe qf qo qt qi u33.2.2)) (rest := []) (st1 := [.int u197.1]) hM okX8_gives gm_553 gm_704 gm_552 ⟨⟨rfl, rfl⟩, ⟨by decide, by decide⟩, Nat.zero_le _, Nat.zero_le _⟩ rfl rfl (wR_fst _ _ _ _ _ _ _ _ _ _ _ _ _ _ _ _) (wR_fst _ _ _ _ _ _ _ _ _ _ _ _ _ _ _ _) rfl hl.1 (Nat.le_of_ble_eq_true rfl) dX8_searches_197 rfl rfl (fun H locs V => ?_)
                    have e9 : pX8_searches v qm qo qy = (u197.1, u197.2, u33.2.2) := by rw [pX8_searches, if_pos c_25, hu33, mLet_eq, if_pos c_38, if_neg c_64, if_pos c_76, if_neg c_97, if_pos c_114, if_pos c_127, hu135, mLet_eq, if_neg c_156, if_neg c_164, hu197, mLet_eq]
                    exact m_iret X hr hk V (by rw [e9]) (by rw [e9]) dX8_searches_200
                · refine lv_iconst (v := 1) hx hb dX8_searches_159 (by decide) ?_
                  have e9 : pX8_searches v qm qo qy = (1, u33.2.1, u33.2.2) := by rw [pX8_searches, if_pos c_25, hu33, mLet_eq, if_pos c_38, if_neg c_64, if_pos c_76, if_neg c_97, if_pos c_114, if_pos c_127, hu135, mLet_eq, if_pos c_156]
                  exact m_iret X hr hk V (by rw [e9]) (by rw [e9]) dX8_searches_160
          · refine lv_iconst (v := 1) hx hb dX8_searches_100 (by decide) ?_
            refine lv_goto (tgt := 105) hx hb dX8_searches_101 (by decide) ?_
            refine lv_istore (lv' := [(6, .int 1), (5, .int (qo (Int32.toNatClampNeg 4))), (4, .int (qo (Int32.toNatClampNeg 3))), (3, .int (qo (Int32.toNatClampNeg 2))), (2, .int u33.1), (1, .int (qo (Int32.toNatClampNeg 6))), (0, .ref (bd 0))]) hx hb dX8_searches_105 hl (by decide) rfl (fun ls hl => ?_)
            refine lv_aload_n hx hb dX8_searches_107 rfl (lv_at hl 6 rfl) ?_
            refine m_get X V 6 0 11 rfl gin_6 rfl (by decide) rfl gm_434 (v := .int (u33.2.1 7)) rfl dX8_searches_108 ?_
            refine lv_sipush (v := 336) hx hb dX8_searches_111 (by decide) ?_
            refine lv_icmp_ne (tgt := 141) hx hb dX8_searches_114 (by decide) (fun c_114 => ?_) (fun c_114 => ?_)
            · refine lv_aload_n hx hb dX8_searches_141 rfl (lv_at hl 6 rfl) ?_
              refine lv_iload_n hx hb dX8_searches_142 rfl (lv_at hl 3 rfl) ?_
              refine lv_iload hx hb dX8_searches_143 (lv_at hl 2 rfl) ?_
              refine lv_iload hx hb dX8_searches_145 (lv_at hl 1 rfl) ?_
              obtain ⟨u147, hu147⟩ : ∃ u, pX8_byHalves u33.2.1 qm qo u33.2.2 (qo (Int32.toNatClampNeg 2)) (qo (Int32.toNatClampNeg 3)) (qo (Int32.toNatClampNeg 4)) = u := ⟨_, rfl⟩
              have hM := kX8_byHalves l D cB cI bd u33.2.1 qm ql qs qk qd qn qe qf qo qt qi u33.2.2 (qo (Int32.toNatClampNeg 2)) (qo (Int32.toNatClampNeg 3)) (qo (Int32.toNatClampNeg 4)) (keys_sz hu33 c_38) (show 0 ≤ Int32.toInt (qo (Int32.toNatClampNeg 4)) ∧ Int32.toInt (qo (Int32.toNatClampNeg 4)) ≤ 1024 by have e_2 : Int32.toInt 0 = 0 := rfl; have f_3 : ¬ Int32.toInt (qo (Int32.toNatClampNeg 4)) < Int32.toInt 0 := fun q => c_64 (Int32.lt_iff_toInt_lt.mpr q); have e_4 : Int32.toInt 1024 = 1024 := rfl; have f_5 : Int32.toInt (qo (Int32.toNatClampNeg 4)) ≤ Int32.toInt 1024 := Int32.le_iff_toInt_le.mp c_76; omega)
              rw [hu147] at hM
              refine m_VA X V (w1 := (wR cB cI bd u33.2.1 qm ql qs qk qd qn qe qf qo qt qi u33.2.2)) (rest := []) (st1 := [.int u147]) hM okX8_byHalves gm_598 gm_715 gm_597 ⟨⟨rfl, rfl⟩, ⟨by decide, by decide⟩, Nat.zero_le _, Nat.zero_le _⟩ rfl rfl (wR_fst _ _ _ _ _ _ _ _ _ _ _ _ _ _ _ _) (wR_fst _ _ _ _ _ _ _ _ _ _ _ _ _ _ _ _) rfl hl.1 (Nat.le_of_ble_eq_true rfl) dX8_searches_147 rfl rfl (fun H locs V => ?_)
              refine lv_istore (lv' := [(7, .int u147), (6, .int 1), (5, .int (qo (Int32.toNatClampNeg 4))), (4, .int (qo (Int32.toNatClampNeg 3))), (3, .int (qo (Int32.toNatClampNeg 2))), (2, .int u33.1), (1, .int (qo (Int32.toNatClampNeg 6))), (0, .ref (bd 0))]) hx hb dX8_searches_150 hl (by decide) rfl (fun ls hl => ?_)
              refine lv_iload hx hb dX8_searches_152 (lv_at hl 0 rfl) ?_
              refine lv_bipush (v := (-9)) hx hb dX8_searches_154 (by decide) ?_
              refine lv_icmp_ne (tgt := 161) hx hb dX8_searches_156 (by decide) (fun c_156 => ?_) (fun c_156 => ?_)
              · refine lv_aload_n hx hb dX8_searches_161 rfl (lv_at hl 7 rfl) ?_
                refine lv_iload hx hb dX8_searches_162 (lv_at hl 0 rfl) ?_
                refine lv_if_ge (tgt := 180) hx hb dX8_searches_164 (by decide) (fun c_164 => ?_) (fun c_164 => ?_)
                · refine lv_iload hx hb dX8_searches_180 (lv_at hl 1 rfl) ?_
                  refine lv_if_eq (tgt := 190) hx hb dX8_searches_182 (by decide) (fun h => absurd h (by decide)) (fun _ => ?_)
                  refine lv_iload hx hb dX8_searches_185 (lv_at hl 0 rfl) ?_
                  refine lv_goto (tgt := 197) hx hb dX8_searches_187 (by decide) ?_
                  obtain ⟨u197, hu197⟩ : ∃ u, pX8_gives u33.2.1 u147 = u := ⟨_, rfl⟩
                  have hM := kX8_gives l D cB cI bd u33.2.1 qm ql qs qk qd qn qe qf qo qt qi u33.2.2 u147
                  rw [hu197] at hM
                  refine m_VA X V (w1 := (wR cB cI bd u197.2 qm ql qs qk qd qn qe qf qo qt qi u33.2.2)) (rest := []) (st1 := [.int u197.1]) hM okX8_gives gm_553 gm_704 gm_552 ⟨⟨rfl, rfl⟩, ⟨by decide, by decide⟩, Nat.zero_le _, Nat.zero_le _⟩ rfl rfl (wR_fst _ _ _ _ _ _ _ _ _ _ _ _ _ _ _ _) (wR_fst _ _ _ _ _ _ _ _ _ _ _ _ _ _ _ _) rfl hl.1 (Nat.le_of_ble_eq_true rfl) dX8_searches_197 rfl rfl (fun H locs V => ?_)
                  have e9 : pX8_searches v qm qo qy = (u197.1, u197.2, u33.2.2) := by rw [pX8_searches, if_pos c_25, hu33, mLet_eq, if_pos c_38, if_neg c_64, if_pos c_76, if_pos c_97, if_neg c_114, hu147, mLet_eq, if_neg c_156, if_pos c_164, hu197, mLet_eq]
                  exact m_iret X hr hk V (by rw [e9]) (by rw [e9]) dX8_searches_200
                · refine lv_iload hx hb dX8_searches_167 (lv_at hl 1 rfl) ?_
                  refine lv_if_eq (tgt := 176) hx hb dX8_searches_169 (by decide) (fun h => absurd h (by decide)) (fun _ => ?_)
                  refine lv_iconst (v := (-1)) hx hb dX8_searches_172 (by decide) ?_
                  refine lv_goto (tgt := 197) hx hb dX8_searches_173 (by decide) ?_
                  obtain ⟨u197, hu197⟩ : ∃ u, pX8_gives u33.2.1 (-1) = u := ⟨_, rfl⟩
                  have hM := kX8_gives l D cB cI bd u33.2.1 qm ql qs qk qd qn qe qf qo qt qi u33.2.2 (-1)
                  rw [hu197] at hM
                  refine m_VA X V (w1 := (wR cB cI bd u197.2 qm ql qs qk qd qn qe qf qo qt qi u33.2.2)) (rest := []) (st1 := [.int u197.1]) hM okX8_gives gm_553 gm_704 gm_552 ⟨⟨rfl, rfl⟩, ⟨by decide, by decide⟩, Nat.zero_le _, Nat.zero_le _⟩ rfl rfl (wR_fst _ _ _ _ _ _ _ _ _ _ _ _ _ _ _ _) (wR_fst _ _ _ _ _ _ _ _ _ _ _ _ _ _ _ _) rfl hl.1 (Nat.le_of_ble_eq_true rfl) dX8_searches_197 rfl rfl (fun H locs V => ?_)
                  have e9 : pX8_searches v qm qo qy = (u197.1, u197.2, u33.2.2) := by rw [pX8_searches, if_pos c_25, hu33, mLet_eq, if_pos c_38, if_neg c_64, if_pos c_76, if_pos c_97, if_neg c_114, hu147, mLet_eq, if_neg c_156, if_neg c_164, hu197, mLet_eq]
                  exact m_iret X hr hk V (by rw [e9]) (by rw [e9]) dX8_searches_200
              · refine lv_iconst (v := 1) hx hb dX8_searches_159 (by decide) ?_
                have e9 : pX8_searches v qm qo qy = (1, u33.2.1, u33.2.2) := by rw [pX8_searches, if_pos c_25, hu33, mLet_eq, if_pos c_38, if_neg c_64, if_pos c_76, if_pos c_97, if_neg c_114, hu147, mLet_eq, if_pos c_156]
                exact m_iret X hr hk V (by rw [e9]) (by rw [e9]) dX8_searches_160
            · refine lv_aload_n hx hb dX8_searches_117 rfl (lv_at hl 6 rfl) ?_
              refine lv_iload_n hx hb dX8_searches_118 rfl (lv_at hl 3 rfl) ?_
              refine lv_iload hx hb dX8_searches_119 (lv_at hl 2 rfl) ?_
              refine lv_iload hx hb dX8_searches_121 (lv_at hl 1 rfl) ?_
              refine lv_iload_n hx hb dX8_searches_123 rfl (lv_at hl 5 rfl) ?_
              refine lv_iconst (v := 2) hx hb dX8_searches_124 (by decide) ?_
              refine lv_iand hx hb dX8_searches_125 ?_
              refine lv_iconst (v := 2) hx hb dX8_searches_126 (by decide) ?_
              refine lv_icmp_ne (tgt := 134) hx hb dX8_searches_127 (by decide) (fun c_127 => ?_) (fun c_127 => ?_)
              · refine lv_iconst (v := 0) hx hb dX8_searches_134 (by decide) ?_
                obtain ⟨u135, hu135⟩ : ∃ u, pX8_oneByOne u33.2.1 qm qo u33.2.2 (qo (Int32.toNatClampNeg 2)) (qo (Int32.toNatClampNeg 3)) (qo (Int32.toNatClampNeg 4)) 0 = u := ⟨_, rfl⟩
                have hM := kX8_oneByOne l D cB cI bd u33.2.1 qm ql qs qk qd qn qe qf qo qt qi u33.2.2 (qo (Int32.toNatClampNeg 2)) (qo (Int32.toNatClampNeg 3)) (qo (Int32.toNatClampNeg 4)) 0 (keys_sz hu33 c_38) (show 0 ≤ Int32.toInt (qo (Int32.toNatClampNeg 4)) ∧ Int32.toInt (qo (Int32.toNatClampNeg 4)) ≤ 1024 by have e_2 : Int32.toInt 0 = 0 := rfl; have f_3 : ¬ Int32.toInt (qo (Int32.toNatClampNeg 4)) < Int32.toInt 0 := fun q => c_64 (Int32.lt_iff_toInt_lt.mpr q); have e_4 : Int32.toInt 1024 = 1024 := rfl; have f_5 : Int32.toInt (qo (Int32.toNatClampNeg 4)) ≤ Int32.toInt 1024 := Int32.le_iff_toInt_le.mp c_76; omega)
                rw [hu135] at hM
                refine m_VA X V (w1 := (wR cB cI bd u33.2.1 qm ql qs qk qd qn qe qf qo qt qi u33.2.2)) (rest := []) (st1 := [.int u135]) hM okX8_oneByOne gm_589 gm_712 gm_588 ⟨⟨rfl, rfl⟩, ⟨by decide, by decide⟩, Nat.zero_le _, Nat.zero_le _⟩ rfl rfl (wR_fst _ _ _ _ _ _ _ _ _ _ _ _ _ _ _ _) (wR_fst _ _ _ _ _ _ _ _ _ _ _ _ _ _ _ _) rfl hl.1 (Nat.le_of_ble_eq_true rfl) dX8_searches_135 rfl rfl (fun H locs V => ?_)
                refine lv_goto (tgt := 150) hx hb dX8_searches_138 (by decide) ?_
                refine lv_istore (lv' := [(7, .int u135), (6, .int 1), (5, .int (qo (Int32.toNatClampNeg 4))), (4, .int (qo (Int32.toNatClampNeg 3))), (3, .int (qo (Int32.toNatClampNeg 2))), (2, .int u33.1), (1, .int (qo (Int32.toNatClampNeg 6))), (0, .ref (bd 0))]) hx hb dX8_searches_150 hl (by decide) rfl (fun ls hl => ?_)
                refine lv_iload hx hb dX8_searches_152 (lv_at hl 0 rfl) ?_
                refine lv_bipush (v := (-9)) hx hb dX8_searches_154 (by decide) ?_
                refine lv_icmp_ne (tgt := 161) hx hb dX8_searches_156 (by decide) (fun c_156 => ?_) (fun c_156 => ?_)
                · refine lv_aload_n hx hb dX8_searches_161 rfl (lv_at hl 7 rfl) ?_
                  refine lv_iload hx hb dX8_searches_162 (lv_at hl 0 rfl) ?_
                  refine lv_if_ge (tgt := 180) hx hb dX8_searches_164 (by decide) (fun c_164 => ?_) (fun c_164 => ?_)
                  · refine lv_iload hx hb dX8_searches_180 (lv_at hl 1 rfl) ?_
                    refine lv_if_eq (tgt := 190) hx hb dX8_searches_182 (by decide) (fun h => absurd h (by decide)) (fun _ => ?_)
                    refine lv_iload hx hb dX8_searches_185 (lv_at hl 0 rfl) ?_
                    refine lv_goto (tgt := 197) hx hb dX8_searches_187 (by decide) ?_
                    obtain ⟨u197, hu197⟩ : ∃ u, pX8_gives u33.2.1 u135 = u := ⟨_, rfl⟩
                    have hM := kX8_gives l D cB cI bd u33.2.1 qm ql qs qk qd qn qe qf qo qt qi u33.2.2 u135
                    rw [hu197] at hM
                    refine m_VA X V (w1 := (wR cB cI bd u197.2 qm ql qs qk qd qn qe qf qo qt qi u33.2.2)) (rest := []) (st1 := [.int u197.1]) hM okX8_gives gm_553 gm_704 gm_552 ⟨⟨rfl, rfl⟩, ⟨by decide, by decide⟩, Nat.zero_le _, Nat.zero_le _⟩ rfl rfl (wR_fst _ _ _ _ _ _ _ _ _ _ _ _ _ _ _ _) (wR_fst _ _ _ _ _ _ _ _ _ _ _ _ _ _ _ _) rfl hl.1 (Nat.le_of_ble_eq_true rfl) dX8_searches_197 rfl rfl (fun H locs V => ?_)
                    have e9 : pX8_searches v qm qo qy = (u197.1, u197.2, u33.2.2) := by rw [pX8_searches, if_pos c_25, hu33, mLet_eq, if_pos c_38, if_neg c_64, if_pos c_76, if_pos c_97, if_pos c_114, if_neg c_127, hu135, mLet_eq, if_neg c_156, if_pos c_164, hu197, mLet_eq]
                    exact m_iret X hr hk V (by rw [e9]) (by rw [e9]) dX8_searches_200
                  · refine lv_iload hx hb dX8_searches_167 (lv_at hl 1 rfl) ?_
                    refine lv_if_eq (tgt := 176) hx hb dX8_searches_169 (by decide) (fun h => absurd h (by decide)) (fun _ => ?_)
                    refine lv_iconst (v := (-1)) hx hb dX8_searches_172 (by decide) ?_
                    refine lv_goto (tgt := 197) hx hb dX8_searches_173 (by decide) ?_
                    obtain ⟨u197, hu197⟩ : ∃ u, pX8_gives u33.2.1 (-1) = u := ⟨_, rfl⟩
                    have hM := kX8_gives l D cB cI bd u33.2.1 qm ql qs qk qd qn qe qf qo qt qi u33.2.2 (-1)
                    rw [hu197] at hM
                    refine m_VA X V (w1 := (wR cB cI bd u197.2 qm ql qs qk qd qn qe qf qo qt qi u33.2.2)) (rest := []) (st1 := [.int u197.1]) hM okX8_gives gm_553 gm_704 gm_552 ⟨⟨rfl, rfl⟩, ⟨by decide, by decide⟩, Nat.zero_le _, Nat.zero_le _⟩ rfl rfl (wR_fst _ _ _ _ _ _ _ _ _ _ _ _ _ _ _ _) (wR_fst _ _ _ _ _ _ _ _ _ _ _ _ _ _ _ _) rfl hl.1 (Nat.le_of_ble_eq_true rfl) dX8_searches_197 rfl rfl (fun H locs V => ?_)
                    have e9 : pX8_searches v qm qo qy = (u197.1, u197.2, u33.2.2) := by rw [pX8_searches, if_pos c_25, hu33, mLet_eq, if_pos c_38, if_neg c_64, if_pos c_76, if_pos c_97, if_pos c_114, if_neg c_127, hu135, mLet_eq, if_neg c_156, if_neg c_164, hu197, mLet_eq]
                    exact m_iret X hr hk V (by rw [e9]) (by rw [e9]) dX8_searches_200
                · refine lv_iconst (v := 1) hx hb dX8_searches_159 (by decide) ?_
                  have e9 : pX8_searches v qm qo qy = (1, u33.2.1, u33.2.2) := by rw [pX8_searches, if_pos c_25, hu33, mLet_eq, if_pos c_38, if_neg c_64, if_pos c_76, if_pos c_97, if_pos c_114, if_neg c_127, hu135, mLet_eq, if_pos c_156]
                  exact m_iret X hr hk V (by rw [e9]) (by rw [e9]) dX8_searches_160
              · refine lv_iconst (v := 1) hx hb dX8_searches_130 (by decide) ?_
                refine lv_goto (tgt := 135) hx hb dX8_searches_131 (by decide) ?_
                obtain ⟨u135, hu135⟩ : ∃ u, pX8_oneByOne u33.2.1 qm qo u33.2.2 (qo (Int32.toNatClampNeg 2)) (qo (Int32.toNatClampNeg 3)) (qo (Int32.toNatClampNeg 4)) 1 = u := ⟨_, rfl⟩
                have hM := kX8_oneByOne l D cB cI bd u33.2.1 qm ql qs qk qd qn qe qf qo qt qi u33.2.2 (qo (Int32.toNatClampNeg 2)) (qo (Int32.toNatClampNeg 3)) (qo (Int32.toNatClampNeg 4)) 1 (keys_sz hu33 c_38) (show 0 ≤ Int32.toInt (qo (Int32.toNatClampNeg 4)) ∧ Int32.toInt (qo (Int32.toNatClampNeg 4)) ≤ 1024 by have e_2 : Int32.toInt 0 = 0 := rfl; have f_3 : ¬ Int32.toInt (qo (Int32.toNatClampNeg 4)) < Int32.toInt 0 := fun q => c_64 (Int32.lt_iff_toInt_lt.mpr q); have e_4 : Int32.toInt 1024 = 1024 := rfl; have f_5 : Int32.toInt (qo (Int32.toNatClampNeg 4)) ≤ Int32.toInt 1024 := Int32.le_iff_toInt_le.mp c_76; have e_6 : Int32.toInt 1 = 1 := rfl; omega)
                rw [hu135] at hM
                refine m_VA X V (w1 := (wR cB cI bd u33.2.1 qm ql qs qk qd qn qe qf qo qt qi u33.2.2)) (rest := []) (st1 := [.int u135]) hM okX8_oneByOne gm_589 gm_712 gm_588 ⟨⟨rfl, rfl⟩, ⟨by decide, by decide⟩, Nat.zero_le _, Nat.zero_le _⟩ rfl rfl (wR_fst _ _ _ _ _ _ _ _ _ _ _ _ _ _ _ _) (wR_fst _ _ _ _ _ _ _ _ _ _ _ _ _ _ _ _) rfl hl.1 (Nat.le_of_ble_eq_true rfl) dX8_searches_135 rfl rfl (fun H locs V => ?_)
                refine lv_goto (tgt := 150) hx hb dX8_searches_138 (by decide) ?_
                refine lv_istore (lv' := [(7, .int u135), (6, .int 1), (5, .int (qo (Int32.toNatClampNeg 4))), (4, .int (qo (Int32.toNatClampNeg 3))), (3, .int (qo (Int32.toNatClampNeg 2))), (2, .int u33.1), (1, .int (qo (Int32.toNatClampNeg 6))), (0, .ref (bd 0))]) hx hb dX8_searches_150 hl (by decide) rfl (fun ls hl => ?_)
                refine lv_iload hx hb dX8_searches_152 (lv_at hl 0 rfl) ?_
                refine lv_bipush (v := (-9)) hx hb dX8_searches_154 (by decide) ?_
                refine lv_icmp_ne (tgt := 161) hx hb dX8_searches_156 (by decide) (fun c_156 => ?_) (fun c_156 => ?_)
                · refine lv_aload_n hx hb dX8_searches_161 rfl (lv_at hl 7 rfl) ?_
                  refine lv_iload hx hb dX8_searches_162 (lv_at hl 0 rfl) ?_
                  refine lv_if_ge (tgt := 180) hx hb dX8_searches_164 (by decide) (fun c_164 => ?_) (fun c_164 => ?_)
                  · refine lv_iload hx hb dX8_searches_180 (lv_at hl 1 rfl) ?_
                    refine lv_if_eq (tgt := 190) hx hb dX8_searches_182 (by decide) (fun h => absurd h (by decide)) (fun _ => ?_)
                    refine lv_iload hx hb dX8_searches_185 (lv_at hl 0 rfl) ?_
                    refine lv_goto (tgt := 197) hx hb dX8_searches_187 (by decide) ?_
                    obtain ⟨u197, hu197⟩ : ∃ u, pX8_gives u33.2.1 u135 = u := ⟨_, rfl⟩
                    have hM := kX8_gives l D cB cI bd u33.2.1 qm ql qs qk qd qn qe qf qo qt qi u33.2.2 u135
                    rw [hu197] at hM
                    refine m_VA X V (w1 := (wR cB cI bd u197.2 qm ql qs qk qd qn qe qf qo qt qi u33.2.2)) (rest := []) (st1 := [.int u197.1]) hM okX8_gives gm_553 gm_704 gm_552 ⟨⟨rfl, rfl⟩, ⟨by decide, by decide⟩, Nat.zero_le _, Nat.zero_le _⟩ rfl rfl (wR_fst _ _ _ _ _ _ _ _ _ _ _ _ _ _ _ _) (wR_fst _ _ _ _ _ _ _ _ _ _ _ _ _ _ _ _) rfl hl.1 (Nat.le_of_ble_eq_true rfl) dX8_searches_197 rfl rfl (fun H locs V => ?_)
                    have e9 : pX8_searches v qm qo qy = (u197.1, u197.2, u33.2.2) := by rw [pX8_searches, if_pos c_25, hu33, mLet_eq, if_pos c_38, if_neg c_64, if_pos c_76, if_pos c_97, if_pos c_114, if_pos c_127, hu135, mLet_eq, if_neg c_156, if_pos c_164, hu197, mLet_eq]
                    exact m_iret X hr hk V (by rw [e9]) (by rw [e9]) dX8_searches_200
                  · refine lv_iload hx hb dX8_searches_167 (lv_at hl 1 rfl) ?_
                    refine lv_if_eq (tgt := 176) hx hb dX8_searches_169 (by decide) (fun h => absurd h (by decide)) (fun _ => ?_)
                    refine lv_iconst (v := (-1)) hx hb dX8_searches_172 (by decide) ?_
                    refine lv_goto (tgt := 197) hx hb dX8_searches_173 (by decide) ?_
                    obtain ⟨u197, hu197⟩ : ∃ u, pX8_gives u33.2.1 (-1) = u := ⟨_, rfl⟩
                    have hM := kX8_gives l D cB cI bd u33.2.1 qm ql qs qk qd qn qe qf qo qt qi u33.2.2 (-1)
                    rw [hu197] at hM
                    refine m_VA X V (w1 := (wR cB cI bd u197.2 qm ql qs qk qd qn qe qf qo qt qi u33.2.2)) (rest := []) (st1 := [.int u197.1]) hM okX8_gives gm_553 gm_704 gm_552 ⟨⟨rfl, rfl⟩, ⟨by decide, by decide⟩, Nat.zero_le _, Nat.zero_le _⟩ rfl rfl (wR_fst _ _ _ _ _ _ _ _ _ _ _ _ _ _ _ _) (wR_fst _ _ _ _ _ _ _ _ _ _ _ _ _ _ _ _) rfl hl.1 (Nat.le_of_ble_eq_true rfl) dX8_searches_197 rfl rfl (fun H locs V => ?_)
                    have e9 : pX8_searches v qm qo qy = (u197.1, u197.2, u33.2.2) := by rw [pX8_searches, if_pos c_25, hu33, mLet_eq, if_pos c_38, if_neg c_64, if_pos c_76, if_pos c_97, if_pos c_114, if_pos c_127, hu135, mLet_eq, if_neg c_156, if_neg c_164, hu197, mLet_eq]
                    exact m_iret X hr hk V (by rw [e9]) (by rw [e9]) dX8_searches_200
                · refine lv_iconst (v := 1) hx hb dX8_searches_159 (by decide) ?_
                  have e9 : pX8_searches v qm qo qy = (1, u33.2.1, u33.2.2) := by rw [pX8_searches, if_pos c_25, hu33, mLet_eq, if_pos c_38, if_neg c_64, if_pos c_76, if_pos c_97, if_pos c_114, if_pos c_127, hu135, mLet_eq, if_pos c_156]
                  exact m_iret X hr hk V (by rw [e9]) (by rw [e9]) dX8_searches_160
        · refine lv_sipush (v := 1024) hx hb dX8_searches_79 (by decide) ?_
          refine lv_goto (tgt := 91) hx hb dX8_searches_82 (by decide) ?_
          refine lv_istore (lv' := [(5, .int 1024), (4, .int (qo (Int32.toNatClampNeg 3))), (3, .int (qo (Int32.toNatClampNeg 2))), (2, .int u33.1), (1, .int (qo (Int32.toNatClampNeg 6))), (0, .ref (bd 0))]) hx hb dX8_searches_91 hl (by decide) rfl (fun ls hl => ?_)
          refine lv_iload_n hx hb dX8_searches_93 rfl (lv_at hl 4 rfl) ?_
          refine lv_iconst (v := 4) hx hb dX8_searches_94 (by decide) ?_
          refine lv_iand hx hb dX8_searches_95 ?_
          refine lv_iconst (v := 4) hx hb dX8_searches_96 (by decide) ?_
          refine lv_icmp_ne (tgt := 104) hx hb dX8_searches_97 (by decide) (fun c_97 => ?_) (fun c_97 => ?_)
          · refine lv_iconst (v := 0) hx hb dX8_searches_104 (by decide) ?_
            refine lv_istore (lv' := [(6, .int 0), (5, .int 1024), (4, .int (qo (Int32.toNatClampNeg 3))), (3, .int (qo (Int32.toNatClampNeg 2))), (2, .int u33.1), (1, .int (qo (Int32.toNatClampNeg 6))), (0, .ref (bd 0))]) hx hb dX8_searches_105 hl (by decide) rfl (fun ls hl => ?_)
            refine lv_aload_n hx hb dX8_searches_107 rfl (lv_at hl 6 rfl) ?_
            refine m_get X V 6 0 11 rfl gin_6 rfl (by decide) rfl gm_434 (v := .int (u33.2.1 7)) rfl dX8_searches_108 ?_
            refine lv_sipush (v := 336) hx hb dX8_searches_111 (by decide) ?_
            refine lv_icmp_ne (tgt := 141) hx hb dX8_searches_114 (by decide) (fun c_114 => ?_) (fun c_114 => ?_)
            · refine lv_aload_n hx hb dX8_searches_141 rfl (lv_at hl 6 rfl) ?_
              refine lv_iload_n hx hb dX8_searches_142 rfl (lv_at hl 3 rfl) ?_
              refine lv_iload hx hb dX8_searches_143 (lv_at hl 2 rfl) ?_
              refine lv_iload hx hb dX8_searches_145 (lv_at hl 1 rfl) ?_
              obtain ⟨u147, hu147⟩ : ∃ u, pX8_byHalves u33.2.1 qm qo u33.2.2 (qo (Int32.toNatClampNeg 2)) (qo (Int32.toNatClampNeg 3)) 1024 = u := ⟨_, rfl⟩
              have hM := kX8_byHalves l D cB cI bd u33.2.1 qm ql qs qk qd qn qe qf qo qt qi u33.2.2 (qo (Int32.toNatClampNeg 2)) (qo (Int32.toNatClampNeg 3)) 1024 (keys_sz hu33 c_38) (show 0 ≤ Int32.toInt 1024 ∧ Int32.toInt 1024 ≤ 1024 by have z_0 : Int32.toInt 1024 = 1024 := rfl; have e_1 : Int32.toInt 1024 = 1024 := rfl; omega)
              rw [hu147] at hM
              refine m_VA X V (w1 := (wR cB cI bd u33.2.1 qm ql qs qk qd qn qe qf qo qt qi u33.2.2)) (rest := []) (st1 := [.int u147]) hM okX8_byHalves gm_598 gm_715 gm_597 ⟨⟨rfl, rfl⟩, ⟨by decide, by decide⟩, Nat.zero_le _, Nat.zero_le _⟩ rfl rfl (wR_fst _ _ _ _ _ _ _ _ _ _ _ _ _ _ _ _) (wR_fst _ _ _ _ _ _ _ _ _ _ _ _ _ _ _ _) rfl hl.1 (Nat.le_of_ble_eq_true rfl) dX8_searches_147 rfl rfl (fun H locs V => ?_)
              refine lv_istore (lv' := [(7, .int u147), (6, .int 0), (5, .int 1024), (4, .int (qo (Int32.toNatClampNeg 3))), (3, .int (qo (Int32.toNatClampNeg 2))), (2, .int u33.1), (1, .int (qo (Int32.toNatClampNeg 6))), (0, .ref (bd 0))]) hx hb dX8_searches_150 hl (by decide) rfl (fun ls hl => ?_)
              refine lv_iload hx hb dX8_searches_152 (lv_at hl 0 rfl) ?_
              refine lv_bipush (v := (-9)) hx hb dX8_searches_154 (by decide) ?_
              refine lv_icmp_ne (tgt := 161) hx hb dX8_searches_156 (by decide) (fun c_156 => ?_) (fun c_156 => ?_)
              · refine lv_aload_n hx hb dX8_searches_161 rfl (lv_at hl 7 rfl) ?_
                refine lv_iload hx hb dX8_searches_162 (lv_at hl 0 rfl) ?_
                refine lv_if_ge (tgt := 180) hx hb dX8_searches_164 (by decide) (fun c_164 => ?_) (fun c_164 => ?_)
                · refine lv_iload hx hb dX8_searches_180 (lv_at hl 1 rfl) ?_
                  refine lv_if_eq (tgt := 190) hx hb dX8_searches_182 (by decide) (fun _ => ?_) (fun h => absurd h (by decide))
                  refine lv_iload_n hx hb dX8_searches_190 rfl (lv_at hl 4 rfl) ?_
                  refine lv_iload hx hb dX8_searches_191 (lv_at hl 0 rfl) ?_
                  refine lv_iload hx hb dX8_searches_193 (lv_at hl 3 rfl) ?_
                  refine lv_imul hx hb dX8_searches_195 ?_
                  refine lv_iadd hx hb dX8_searches_196 ?_
                  obtain ⟨u197, hu197⟩ : ∃ u, pX8_gives u33.2.1 ((qo (Int32.toNatClampNeg 2)) + (u147 * (qo (Int32.toNatClampNeg 3)))) = u := ⟨_, rfl⟩
                  have hM := kX8_gives l D cB cI bd u33.2.1 qm ql qs qk qd qn qe qf qo qt qi u33.2.2 ((qo (Int32.toNatClampNeg 2)) + (u147 * (qo (Int32.toNatClampNeg 3))))
                  rw [hu197] at hM
                  refine m_VA X V (w1 := (wR cB cI bd u197.2 qm ql qs qk qd qn qe qf qo qt qi u33.2.2)) (rest := []) (st1 := [.int u197.1]) hM okX8_gives gm_553 gm_704 gm_552 ⟨⟨rfl, rfl⟩, ⟨by decide, by decide⟩, Nat.zero_le _, Nat.zero_le _⟩ rfl rfl (wR_fst _ _ _ _ _ _ _ _ _ _ _ _ _ _ _ _) (wR_fst _ _ _ _ _ _ _ _ _ _ _ _ _ _ _ _) rfl hl.1 (Nat.le_of_ble_eq_true rfl) dX8_searches_197 rfl rfl (fun H locs V => ?_)
                  have e9 : pX8_searches v qm qo qy = (u197.1, u197.2, u33.2.2) := by rw [pX8_searches, if_pos c_25, hu33, mLet_eq, if_pos c_38, if_neg c_64, if_neg c_76, if_neg c_97, if_neg c_114, hu147, mLet_eq, if_neg c_156, if_pos c_164, hu197, mLet_eq]
                  exact m_iret X hr hk V (by rw [e9]) (by rw [e9]) dX8_searches_200
                · refine lv_iload hx hb dX8_searches_167 (lv_at hl 1 rfl) ?_
                  refine lv_if_eq (tgt := 176) hx hb dX8_searches_169 (by decide) (fun _ => ?_) (fun h => absurd h (by decide))
                  refine lv_iconst (v := 0) hx hb dX8_searches_176 (by decide) ?_
                  refine lv_goto (tgt := 197) hx hb dX8_searches_177 (by decide) ?_
                  obtain ⟨u197, hu197⟩ : ∃ u, pX8_gives u33.2.1 0 = u := ⟨_, rfl⟩
                  have hM := kX8_gives l D cB cI bd u33.2.1 qm ql qs qk qd qn qe qf qo qt qi u33.2.2 0
                  rw [hu197] at hM
                  refine m_VA X V (w1 := (wR cB cI bd u197.2 qm ql qs qk qd qn qe qf qo qt qi u33.2.2)) (rest := []) (st1 := [.int u197.1]) hM okX8_gives gm_553 gm_704 gm_552 ⟨⟨rfl, rfl⟩, ⟨by decide, by decide⟩, Nat.zero_le _, Nat.zero_le _⟩ rfl rfl (wR_fst _ _ _ _ _ _ _ _ _ _ _ _ _ _ _ _) (wR_fst _ _ _ _ _ _ _ _ _ _ _ _ _ _ _ _) rfl hl.1 (Nat.le_of_ble_eq_true rfl) dX8_searches_197 rfl rfl (fun H locs V => ?_)
                  have e9 : pX8_searches v qm qo qy = (u197.1, u197.2, u33.2.2) := by rw [pX8_searches, if_pos c_25, hu33, mLet_eq, if_pos c_38, if_neg c_64, if_neg c_76, if_neg c_97, if_neg c_114, hu147, mLet_eq, if_neg c_156, if_neg c_164, hu197, mLet_eq]
                  exact m_iret X hr hk V (by rw [e9]) (by rw [e9]) dX8_searches_200
              · refine lv_iconst (v := 1) hx hb dX8_searches_159 (by decide) ?_
                have e9 : pX8_searches v qm qo qy = (1, u33.2.1, u33.2.2) := by rw [pX8_searches, if_pos c_25, hu33, mLet_eq, if_pos c_38, if_neg c_64, if_neg c_76, if_neg c_97, if_neg c_114, hu147, mLet_eq, if_pos c_156]
                exact m_iret X hr hk V (by rw [e9]) (by rw [e9]) dX8_searches_160
            · refine lv_aload_n hx hb dX8_searches_117 rfl (lv_at hl 6 rfl) ?_
              refine lv_iload_n hx hb dX8_searches_118 rfl (lv_at hl 3 rfl) ?_
              refine lv_iload hx hb dX8_searches_119 (lv_at hl 2 rfl) ?_
              refine lv_iload hx hb dX8_searches_121 (lv_at hl 1 rfl) ?_
              refine lv_iload_n hx hb dX8_searches_123 rfl (lv_at hl 5 rfl) ?_
              refine lv_iconst (v := 2) hx hb dX8_searches_124 (by decide) ?_
              refine lv_iand hx hb dX8_searches_125 ?_
              refine lv_iconst (v := 2) hx hb dX8_searches_126 (by decide) ?_
              refine lv_icmp_ne (tgt := 134) hx hb dX8_searches_127 (by decide) (fun c_127 => ?_) (fun c_127 => ?_)
              · refine lv_iconst (v := 0) hx hb dX8_searches_134 (by decide) ?_
                obtain ⟨u135, hu135⟩ : ∃ u, pX8_oneByOne u33.2.1 qm qo u33.2.2 (qo (Int32.toNatClampNeg 2)) (qo (Int32.toNatClampNeg 3)) 1024 0 = u := ⟨_, rfl⟩
                have hM := kX8_oneByOne l D cB cI bd u33.2.1 qm ql qs qk qd qn qe qf qo qt qi u33.2.2 (qo (Int32.toNatClampNeg 2)) (qo (Int32.toNatClampNeg 3)) 1024 0 (keys_sz hu33 c_38) (show 0 ≤ Int32.toInt 1024 ∧ Int32.toInt 1024 ≤ 1024 by have z_0 : Int32.toInt 1024 = 1024 := rfl; have e_1 : Int32.toInt 1024 = 1024 := rfl; have e_2 : Int32.toInt 0 = 0 := rfl; omega)
                rw [hu135] at hM
                refine m_VA X V (w1 := (wR cB cI bd u33.2.1 qm ql qs qk qd qn qe qf qo qt qi u33.2.2)) (rest := []) (st1 := [.int u135]) hM okX8_oneByOne gm_589 gm_712 gm_588 ⟨⟨rfl, rfl⟩, ⟨by decide, by decide⟩, Nat.zero_le _, Nat.zero_le _⟩ rfl rfl (wR_fst _ _ _ _ _ _ _ _ _ _ _ _ _ _ _ _) (wR_fst _ _ _ _ _ _ _ _ _ _ _ _ _ _ _ _) rfl hl.1 (Nat.le_of_ble_eq_true rfl) dX8_searches_135 rfl rfl (fun H locs V => ?_)
                refine lv_goto (tgt := 150) hx hb dX8_searches_138 (by decide) ?_
                refine lv_istore (lv' := [(7, .int u135), (6, .int 0), (5, .int 1024), (4, .int (qo (Int32.toNatClampNeg 3))), (3, .int (qo (Int32.toNatClampNeg 2))), (2, .int u33.1), (1, .int (qo (Int32.toNatClampNeg 6))), (0, .ref (bd 0))]) hx hb dX8_searches_150 hl (by decide) rfl (fun ls hl => ?_)
                refine lv_iload hx hb dX8_searches_152 (lv_at hl 0 rfl) ?_
                refine lv_bipush (v := (-9)) hx hb dX8_searches_154 (by decide) ?_
                refine lv_icmp_ne (tgt := 161) hx hb dX8_searches_156 (by decide) (fun c_156 => ?_) (fun c_156 => ?_)
                · refine lv_aload_n hx hb dX8_searches_161 rfl (lv_at hl 7 rfl) ?_
                  refine lv_iload hx hb dX8_searches_162 (lv_at hl 0 rfl) ?_
                  refine lv_if_ge (tgt := 180) hx hb dX8_searches_164 (by decide) (fun c_164 => ?_) (fun c_164 => ?_)
                  · refine lv_iload hx hb dX8_searches_180 (lv_at hl 1 rfl) ?_
                    refine lv_if_eq (tgt := 190) hx hb dX8_searches_182 (by decide) (fun _ => ?_) (fun h => absurd h (by decide))
                    refine lv_iload_n hx hb dX8_searches_190 rfl (lv_at hl 4 rfl) ?_
                    refine lv_iload hx hb dX8_searches_191 (lv_at hl 0 rfl) ?_
                    refine lv_iload hx hb dX8_searches_193 (lv_at hl 3 rfl) ?_
                    refine lv_imul hx hb dX8_searches_195 ?_
                    refine lv_iadd hx hb dX8_searches_196 ?_
                    obtain ⟨u197, hu197⟩ : ∃ u, pX8_gives u33.2.1 ((qo (Int32.toNatClampNeg 2)) + (u135 * (qo (Int32.toNatClampNeg 3)))) = u := ⟨_, rfl⟩
                    have hM := kX8_gives l D cB cI bd u33.2.1 qm ql qs qk qd qn qe qf qo qt qi u33.2.2 ((qo (Int32.toNatClampNeg 2)) + (u135 * (qo (Int32.toNatClampNeg 3))))
                    rw [hu197] at hM
                    refine m_VA X V (w1 := (wR cB cI bd u197.2 qm ql qs qk qd qn qe qf qo qt qi u33.2.2)) (rest := []) (st1 := [.int u197.1]) hM okX8_gives gm_553 gm_704 gm_552 ⟨⟨rfl, rfl⟩, ⟨by decide, by decide⟩, Nat.zero_le _, Nat.zero_le _⟩ rfl rfl (wR_fst _ _ _ _ _ _ _ _ _ _ _ _ _ _ _ _) (wR_fst _ _ _ _ _ _ _ _ _ _ _ _ _ _ _ _) rfl hl.1 (Nat.le_of_ble_eq_true rfl) dX8_searches_197 rfl rfl (fun H locs V => ?_)
                    have e9 : pX8_searches v qm qo qy = (u197.1, u197.2, u33.2.2) := by rw [pX8_searches, if_pos c_25, hu33, mLet_eq, if_pos c_38, if_neg c_64, if_neg c_76, if_neg c_97, if_pos c_114, if_neg c_127, hu135, mLet_eq, if_neg c_156, if_pos c_164, hu197, mLet_eq]
                    exact m_iret X hr hk V (by rw [e9]) (by rw [e9]) dX8_searches_200
                  · refine lv_iload hx hb dX8_searches_167 (lv_at hl 1 rfl) ?_
                    refine lv_if_eq (tgt := 176) hx hb dX8_searches_169 (by decide) (fun _ => ?_) (fun h => absurd h (by decide))
                    refine lv_iconst (v := 0) hx hb dX8_searches_176 (by decide) ?_
                    refine lv_goto (tgt := 197) hx hb dX8_searches_177 (by decide) ?_
                    obtain ⟨u197, hu197⟩ : ∃ u, pX8_gives u33.2.1 0 = u := ⟨_, rfl⟩
                    have hM := kX8_gives l D cB cI bd u33.2.1 qm ql qs qk qd qn qe qf qo qt qi u33.2.2 0
                    rw [hu197] at hM
                    refine m_VA X V (w1 := (wR cB cI bd u197.2 qm ql qs qk qd qn qe qf qo qt qi u33.2.2)) (rest := []) (st1 := [.int u197.1]) hM okX8_gives gm_553 gm_704 gm_552 ⟨⟨rfl, rfl⟩, ⟨by decide, by decide⟩, Nat.zero_le _, Nat.zero_le _⟩ rfl rfl (wR_fst _ _ _ _ _ _ _ _ _ _ _ _ _ _ _ _) (wR_fst _ _ _ _ _ _ _ _ _ _ _ _ _ _ _ _) rfl hl.1 (Nat.le_of_ble_eq_true rfl) dX8_searches_197 rfl rfl (fun H locs V => ?_)
                    have e9 : pX8_searches v qm qo qy = (u197.1, u197.2, u33.2.2) := by rw [pX8_searches, if_pos c_25, hu33, mLet_eq, if_pos c_38, if_neg c_64, if_neg c_76, if_neg c_97, if_pos c_114, if_neg c_127, hu135, mLet_eq, if_neg c_156, if_neg c_164, hu197, mLet_eq]
                    exact m_iret X hr hk V (by rw [e9]) (by rw [e9]) dX8_searches_200
                · refine lv_iconst (v := 1) hx hb dX8_searches_159 (by decide) ?_
                  have e9 : pX8_searches v qm qo qy = (1, u33.2.1, u33.2.2) := by rw [pX8_searches, if_pos c_25, hu33, mLet_eq, if_pos c_38, if_neg c_64, if_neg c_76, if_neg c_97, if_pos c_114, if_neg c_127, hu135, mLet_eq, if_pos c_156]
                  exact m_iret X hr hk V (by rw [e9]) (by rw [e9]) dX8_searches_160
              · refine lv_iconst (v := 1) hx hb dX8_searches_130 (by decide) ?_
                refine lv_goto (tgt := 135) hx hb dX8_searches_131 (by decide) ?_
                obtain ⟨u135, hu135⟩ : ∃ u, pX8_oneByOne u33.2.1 qm qo u33.2.2 (qo (Int32.toNatClampNeg 2)) (qo (Int32.toNatClampNeg 3)) 1024 1 = u := ⟨_, rfl⟩
                have hM := kX8_oneByOne l D cB cI bd u33.2.1 qm ql qs qk qd qn qe qf qo qt qi u33.2.2 (qo (Int32.toNatClampNeg 2)) (qo (Int32.toNatClampNeg 3)) 1024 1 (keys_sz hu33 c_38) (show 0 ≤ Int32.toInt 1024 ∧ Int32.toInt 1024 ≤ 1024 by have z_0 : Int32.toInt 1024 = 1024 := rfl; have e_1 : Int32.toInt 1024 = 1024 := rfl; have e_2 : Int32.toInt 1 = 1 := rfl; omega)
                rw [hu135] at hM
                refine m_VA X V (w1 := (wR cB cI bd u33.2.1 qm ql qs qk qd qn qe qf qo qt qi u33.2.2)) (rest := []) (st1 := [.int u135]) hM okX8_oneByOne gm_589 gm_712 gm_588 ⟨⟨rfl, rfl⟩, ⟨by decide, by decide⟩, Nat.zero_le _, Nat.zero_le _⟩ rfl rfl (wR_fst _ _ _ _ _ _ _ _ _ _ _ _ _ _ _ _) (wR_fst _ _ _ _ _ _ _ _ _ _ _ _ _ _ _ _) rfl hl.1 (Nat.le_of_ble_eq_true rfl) dX8_searches_135 rfl rfl (fun H locs V => ?_)
                refine lv_goto (tgt := 150) hx hb dX8_searches_138 (by decide) ?_
                refine lv_istore (lv' := [(7, .int u135), (6, .int 0), (5, .int 1024), (4, .int (qo (Int32.toNatClampNeg 3))), (3, .int (qo (Int32.toNatClampNeg 2))), (2, .int u33.1), (1, .int (qo (Int32.toNatClampNeg 6))), (0, .ref (bd 0))]) hx hb dX8_searches_150 hl (by decide) rfl (fun ls hl => ?_)
                refine lv_iload hx hb dX8_searches_152 (lv_at hl 0 rfl) ?_
                refine lv_bipush (v := (-9)) hx hb dX8_searches_154 (by decide) ?_
                refine lv_icmp_ne (tgt := 161) hx hb dX8_searches_156 (by decide) (fun c_156 => ?_) (fun c_156 => ?_)
                · refine lv_aload_n hx hb dX8_searches_161 rfl (lv_at hl 7 rfl) ?_
                  refine lv_iload hx hb dX8_searches_162 (lv_at hl 0 rfl) ?_
                  refine lv_if_ge (tgt := 180) hx hb dX8_searches_164 (by decide) (fun c_164 => ?_) (fun c_164 => ?_)
                  · refine lv_iload hx hb dX8_searches_180 (lv_at hl 1 rfl) ?_
                    refine lv_if_eq (tgt := 190) hx hb dX8_searches_182 (by decide) (fun _ => ?_) (fun h => absurd h (by decide))
                    refine lv_iload_n hx hb dX8_searches_190 rfl (lv_at hl 4 rfl) ?_
                    refine lv_iload hx hb dX8_searches_191 (lv_at hl 0 rfl) ?_
                    refine lv_iload hx hb dX8_searches_193 (lv_at hl 3 rfl) ?_
                    refine lv_imul hx hb dX8_searches_195 ?_
                    refine lv_iadd hx hb dX8_searches_196 ?_
                    obtain ⟨u197, hu197⟩ : ∃ u, pX8_gives u33.2.1 ((qo (Int32.toNatClampNeg 2)) + (u135 * (qo (Int32.toNatClampNeg 3)))) = u := ⟨_, rfl⟩
                    have hM := kX8_gives l D cB cI bd u33.2.1 qm ql qs qk qd qn qe qf qo qt qi u33.2.2 ((qo (Int32.toNatClampNeg 2)) + (u135 * (qo (Int32.toNatClampNeg 3))))
                    rw [hu197] at hM
                    refine m_VA X V (w1 := (wR cB cI bd u197.2 qm ql qs qk qd qn qe qf qo qt qi u33.2.2)) (rest := []) (st1 := [.int u197.1]) hM okX8_gives gm_553 gm_704 gm_552 ⟨⟨rfl, rfl⟩, ⟨by decide, by decide⟩, Nat.zero_le _, Nat.zero_le _⟩ rfl rfl (wR_fst _ _ _ _ _ _ _ _ _ _ _ _ _ _ _ _) (wR_fst _ _ _ _ _ _ _ _ _ _ _ _ _ _ _ _) rfl hl.1 (Nat.le_of_ble_eq_true rfl) dX8_searches_197 rfl rfl (fun H locs V => ?_)
                    have e9 : pX8_searches v qm qo qy = (u197.1, u197.2, u33.2.2) := by rw [pX8_searches, if_pos c_25, hu33, mLet_eq, if_pos c_38, if_neg c_64, if_neg c_76, if_neg c_97, if_pos c_114, if_pos c_127, hu135, mLet_eq, if_neg c_156, if_pos c_164, hu197, mLet_eq]
                    exact m_iret X hr hk V (by rw [e9]) (by rw [e9]) dX8_searches_200
                  · refine lv_iload hx hb dX8_searches_167 (lv_at hl 1 rfl) ?_
                    refine lv_if_eq (tgt := 176) hx hb dX8_searches_169 (by decide) (fun _ => ?_) (fun h => absurd h (by decide))
                    refine lv_iconst (v := 0) hx hb dX8_searches_176 (by decide) ?_
                    refine lv_goto (tgt := 197) hx hb dX8_searches_177 (by decide) ?_
                    obtain ⟨u197, hu197⟩ : ∃ u, pX8_gives u33.2.1 0 = u := ⟨_, rfl⟩
                    have hM := kX8_gives l D cB cI bd u33.2.1 qm ql qs qk qd qn qe qf qo qt qi u33.2.2 0
                    rw [hu197] at hM
                    refine m_VA X V (w1 := (wR cB cI bd u197.2 qm ql qs qk qd qn qe qf qo qt qi u33.2.2)) (rest := []) (st1 := [.int u197.1]) hM okX8_gives gm_553 gm_704 gm_552 ⟨⟨rfl, rfl⟩, ⟨by decide, by decide⟩, Nat.zero_le _, Nat.zero_le _⟩ rfl rfl (wR_fst _ _ _ _ _ _ _ _ _ _ _ _ _ _ _ _) (wR_fst _ _ _ _ _ _ _ _ _ _ _ _ _ _ _ _) rfl hl.1 (Nat.le_of_ble_eq_true rfl) dX8_searches_197 rfl rfl (fun H locs V => ?_)
                    have e9 : pX8_searches v qm qo qy = (u197.1, u197.2, u33.2.2) := by rw [pX8_searches, if_pos c_25, hu33, mLet_eq, if_pos c_38, if_neg c_64, if_neg c_76, if_neg c_97, if_pos c_114, if_pos c_127, hu135, mLet_eq, if_neg c_156, if_neg c_164, hu197, mLet_eq]
                    exact m_iret X hr hk V (by rw [e9]) (by rw [e9]) dX8_searches_200
                · refine lv_iconst (v := 1) hx hb dX8_searches_159 (by decide) ?_
                  have e9 : pX8_searches v qm qo qy = (1, u33.2.1, u33.2.2) := by rw [pX8_searches, if_pos c_25, hu33, mLet_eq, if_pos c_38, if_neg c_64, if_neg c_76, if_neg c_97, if_pos c_114, if_pos c_127, hu135, mLet_eq, if_pos c_156]
                  exact m_iret X hr hk V (by rw [e9]) (by rw [e9]) dX8_searches_160
          · refine lv_iconst (v := 1) hx hb dX8_searches_100 (by decide) ?_
            refine lv_goto (tgt := 105) hx hb dX8_searches_101 (by decide) ?_
            refine lv_istore (lv' := [(6, .int 1), (5, .int 1024), (4, .int (qo (Int32.toNatClampNeg 3))), (3, .int (qo (Int32.toNatClampNeg 2))), (2, .int u33.1), (1, .int (qo (Int32.toNatClampNeg 6))), (0, .ref (bd 0))]) hx hb dX8_searches_105 hl (by decide) rfl (fun ls hl => ?_)
            refine lv_aload_n hx hb dX8_searches_107 rfl (lv_at hl 6 rfl) ?_
            refine m_get X V 6 0 11 rfl gin_6 rfl (by decide) rfl gm_434 (v := .int (u33.2.1 7)) rfl dX8_searches_108 ?_
            refine lv_sipush (v := 336) hx hb dX8_searches_111 (by decide) ?_
            refine lv_icmp_ne (tgt := 141) hx hb dX8_searches_114 (by decide) (fun c_114 => ?_) (fun c_114 => ?_)
            · refine lv_aload_n hx hb dX8_searches_141 rfl (lv_at hl 6 rfl) ?_
              refine lv_iload_n hx hb dX8_searches_142 rfl (lv_at hl 3 rfl) ?_
              refine lv_iload hx hb dX8_searches_143 (lv_at hl 2 rfl) ?_
              refine lv_iload hx hb dX8_searches_145 (lv_at hl 1 rfl) ?_
              obtain ⟨u147, hu147⟩ : ∃ u, pX8_byHalves u33.2.1 qm qo u33.2.2 (qo (Int32.toNatClampNeg 2)) (qo (Int32.toNatClampNeg 3)) 1024 = u := ⟨_, rfl⟩
              have hM := kX8_byHalves l D cB cI bd u33.2.1 qm ql qs qk qd qn qe qf qo qt qi u33.2.2 (qo (Int32.toNatClampNeg 2)) (qo (Int32.toNatClampNeg 3)) 1024 (keys_sz hu33 c_38) (show 0 ≤ Int32.toInt 1024 ∧ Int32.toInt 1024 ≤ 1024 by have z_0 : Int32.toInt 1024 = 1024 := rfl; have e_1 : Int32.toInt 1024 = 1024 := rfl; omega)
              rw [hu147] at hM
              refine m_VA X V (w1 := (wR cB cI bd u33.2.1 qm ql qs qk qd qn qe qf qo qt qi u33.2.2)) (rest := []) (st1 := [.int u147]) hM okX8_byHalves gm_598 gm_715 gm_597 ⟨⟨rfl, rfl⟩, ⟨by decide, by decide⟩, Nat.zero_le _, Nat.zero_le _⟩ rfl rfl (wR_fst _ _ _ _ _ _ _ _ _ _ _ _ _ _ _ _) (wR_fst _ _ _ _ _ _ _ _ _ _ _ _ _ _ _ _) rfl hl.1 (Nat.le_of_ble_eq_true rfl) dX8_searches_147 rfl rfl (fun H locs V => ?_)
              refine lv_istore (lv' := [(7, .int u147), (6, .int 1), (5, .int 1024), (4, .int (qo (Int32.toNatClampNeg 3))), (3, .int (qo (Int32.toNatClampNeg 2))), (2, .int u33.1), (1, .int (qo (Int32.toNatClampNeg 6))), (0, .ref (bd 0))]) hx hb dX8_searches_150 hl (by decide) rfl (fun ls hl => ?_)
              refine lv_iload hx hb dX8_searches_152 (lv_at hl 0 rfl) ?_
              refine lv_bipush (v := (-9)) hx hb dX8_searches_154 (by decide) ?_
              refine lv_icmp_ne (tgt := 161) hx hb dX8_searches_156 (by decide) (fun c_156 => ?_) (fun c_156 => ?_)
              · refine lv_aload_n hx hb dX8_searches_161 rfl (lv_at hl 7 rfl) ?_
                refine lv_iload hx hb dX8_searches_162 (lv_at hl 0 rfl) ?_
                refine lv_if_ge (tgt := 180) hx hb dX8_searches_164 (by decide) (fun c_164 => ?_) (fun c_164 => ?_)
                · refine lv_iload hx hb dX8_searches_180 (lv_at hl 1 rfl) ?_
                  refine lv_if_eq (tgt := 190) hx hb dX8_searches_182 (by decide) (fun h => absurd h (by decide)) (fun _ => ?_)
                  refine lv_iload hx hb dX8_searches_185 (lv_at hl 0 rfl) ?_
                  refine lv_goto (tgt := 197) hx hb dX8_searches_187 (by decide) ?_
                  obtain ⟨u197, hu197⟩ : ∃ u, pX8_gives u33.2.1 u147 = u := ⟨_, rfl⟩
                  have hM := kX8_gives l D cB cI bd u33.2.1 qm ql qs qk qd qn qe qf qo qt qi u33.2.2 u147
                  rw [hu197] at hM
                  refine m_VA X V (w1 := (wR cB cI bd u197.2 qm ql qs qk qd qn qe qf qo qt qi u33.2.2)) (rest := []) (st1 := [.int u197.1]) hM okX8_gives gm_553 gm_704 gm_552 ⟨⟨rfl, rfl⟩, ⟨by decide, by decide⟩, Nat.zero_le _, Nat.zero_le _⟩ rfl rfl (wR_fst _ _ _ _ _ _ _ _ _ _ _ _ _ _ _ _) (wR_fst _ _ _ _ _ _ _ _ _ _ _ _ _ _ _ _) rfl hl.1 (Nat.le_of_ble_eq_true rfl) dX8_searches_197 rfl rfl (fun H locs V => ?_)
                  have e9 : pX8_searches v qm qo qy = (u197.1, u197.2, u33.2.2) := by rw [pX8_searches, if_pos c_25, hu33, mLet_eq, if_pos c_38, if_neg c_64, if_neg c_76, if_pos c_97, if_neg c_114, hu147, mLet_eq, if_neg c_156, if_pos c_164, hu197, mLet_eq]
                  exact m_iret X hr hk V (by rw [e9]) (by rw [e9]) dX8_searches_200
                · refine lv_iload hx hb dX8_searches_167 (lv_at hl 1 rfl) ?_
                  refine lv_if_eq (tgt := 176) hx hb dX8_searches_169 (by decide) (fun h => absurd h (by decide)) (fun _ => ?_)
                  refine lv_iconst (v := (-1)) hx hb dX8_searches_172 (by decide) ?_
                  refine lv_goto (tgt := 197) hx hb dX8_searches_173 (by decide) ?_
                  obtain ⟨u197, hu197⟩ : ∃ u, pX8_gives u33.2.1 (-1) = u := ⟨_, rfl⟩
                  have hM := kX8_gives l D cB cI bd u33.2.1 qm ql qs qk qd qn qe qf qo qt qi u33.2.2 (-1)
                  rw [hu197] at hM
                  refine m_VA X V (w1 := (wR cB cI bd u197.2 qm ql qs qk qd qn qe qf qo qt qi u33.2.2)) (rest := []) (st1 := [.int u197.1]) hM okX8_gives gm_553 gm_704 gm_552 ⟨⟨rfl, rfl⟩, ⟨by decide, by decide⟩, Nat.zero_le _, Nat.zero_le _⟩ rfl rfl (wR_fst _ _ _ _ _ _ _ _ _ _ _ _ _ _ _ _) (wR_fst _ _ _ _ _ _ _ _ _ _ _ _ _ _ _ _) rfl hl.1 (Nat.le_of_ble_eq_true rfl) dX8_searches_197 rfl rfl (fun H locs V => ?_)
                  have e9 : pX8_searches v qm qo qy = (u197.1, u197.2, u33.2.2) := by rw [pX8_searches, if_pos c_25, hu33, mLet_eq, if_pos c_38, if_neg c_64, if_neg c_76, if_pos c_97, if_neg c_114, hu147, mLet_eq, if_neg c_156, if_neg c_164, hu197, mLet_eq]
                  exact m_iret X hr hk V (by rw [e9]) (by rw [e9]) dX8_searches_200
              · refine lv_iconst (v := 1) hx hb dX8_searches_159 (by decide) ?_
                have e9 : pX8_searches v qm qo qy = (1, u33.2.1, u33.2.2) := by rw [pX8_searches, if_pos c_25, hu33, mLet_eq, if_pos c_38, if_neg c_64, if_neg c_76, if_pos c_97, if_neg c_114, hu147, mLet_eq, if_pos c_156]
                exact m_iret X hr hk V (by rw [e9]) (by rw [e9]) dX8_searches_160
            · refine lv_aload_n hx hb dX8_searches_117 rfl (lv_at hl 6 rfl) ?_
              refine lv_iload_n hx hb dX8_searches_118 rfl (lv_at hl 3 rfl) ?_
              refine lv_iload hx hb dX8_searches_119 (lv_at hl 2 rfl) ?_
              refine lv_iload hx hb dX8_searches_121 (lv_at hl 1 rfl) ?_
              refine lv_iload_n hx hb dX8_searches_123 rfl (lv_at hl 5 rfl) ?_
              refine lv_iconst (v := 2) hx hb dX8_searches_124 (by decide) ?_
              refine lv_iand hx hb dX8_searches_125 ?_
              refine lv_iconst (v := 2) hx hb dX8_searches_126 (by decide) ?_
              refine lv_icmp_ne (tgt := 134) hx hb dX8_searches_127 (by decide) (fun c_127 => ?_) (fun c_127 => ?_)
              · refine lv_iconst (v := 0) hx hb dX8_searches_134 (by decide) ?_
                obtain ⟨u135, hu135⟩ : ∃ u, pX8_oneByOne u33.2.1 qm qo u33.2.2 (qo (Int32.toNatClampNeg 2)) (qo (Int32.toNatClampNeg 3)) 1024 0 = u := ⟨_, rfl⟩
                have hM := kX8_oneByOne l D cB cI bd u33.2.1 qm ql qs qk qd qn qe qf qo qt qi u33.2.2 (qo (Int32.toNatClampNeg 2)) (qo (Int32.toNatClampNeg 3)) 1024 0 (keys_sz hu33 c_38) (show 0 ≤ Int32.toInt 1024 ∧ Int32.toInt 1024 ≤ 1024 by have z_0 : Int32.toInt 1024 = 1024 := rfl; have e_1 : Int32.toInt 1024 = 1024 := rfl; have e_2 : Int32.toInt 0 = 0 := rfl; omega)
                rw [hu135] at hM
                refine m_VA X V (w1 := (wR cB cI bd u33.2.1 qm ql qs qk qd qn qe qf qo qt qi u33.2.2)) (rest := []) (st1 := [.int u135]) hM okX8_oneByOne gm_589 gm_712 gm_588 ⟨⟨rfl, rfl⟩, ⟨by decide, by decide⟩, Nat.zero_le _, Nat.zero_le _⟩ rfl rfl (wR_fst _ _ _ _ _ _ _ _ _ _ _ _ _ _ _ _) (wR_fst _ _ _ _ _ _ _ _ _ _ _ _ _ _ _ _) rfl hl.1 (Nat.le_of_ble_eq_true rfl) dX8_searches_135 rfl rfl (fun H locs V => ?_)
                refine lv_goto (tgt := 150) hx hb dX8_searches_138 (by decide) ?_
                refine lv_istore (lv' := [(7, .int u135), (6, .int 1), (5, .int 1024), (4, .int (qo (Int32.toNatClampNeg 3))), (3, .int (qo (Int32.toNatClampNeg 2))), (2, .int u33.1), (1, .int (qo (Int32.toNatClampNeg 6))), (0, .ref (bd 0))]) hx hb dX8_searches_150 hl (by decide) rfl (fun ls hl => ?_)
                refine lv_iload hx hb dX8_searches_152 (lv_at hl 0 rfl) ?_
                refine lv_bipush (v := (-9)) hx hb dX8_searches_154 (by decide) ?_
                refine lv_icmp_ne (tgt := 161) hx hb dX8_searches_156 (by decide) (fun c_156 => ?_) (fun c_156 => ?_)
                · refine lv_aload_n hx hb dX8_searches_161 rfl (lv_at hl 7 rfl) ?_
                  refine lv_iload hx hb dX8_searches_162 (lv_at hl 0 rfl) ?_
                  refine lv_if_ge (tgt := 180) hx hb dX8_searches_164 (by decide) (fun c_164 => ?_) (fun c_164 => ?_)
                  · refine lv_iload hx hb dX8_searches_180 (lv_at hl 1 rfl) ?_
                    refine lv_if_eq (tgt := 190) hx hb dX8_searches_182 (by decide) (fun h => absurd h (by decide)) (fun _ => ?_)
                    refine lv_iload hx hb dX8_searches_185 (lv_at hl 0 rfl) ?_
                    refine lv_goto (tgt := 197) hx hb dX8_searches_187 (by decide) ?_
                    obtain ⟨u197, hu197⟩ : ∃ u, pX8_gives u33.2.1 u135 = u := ⟨_, rfl⟩
                    have hM := kX8_gives l D cB cI bd u33.2.1 qm ql qs qk qd qn qe qf qo qt qi u33.2.2 u135
                    rw [hu197] at hM
                    refine m_VA X V (w1 := (wR cB cI bd u197.2 qm ql qs qk qd qn qe qf qo qt qi u33.2.2)) (rest := []) (st1 := [.int u197.1]) hM okX8_gives gm_553 gm_704 gm_552 ⟨⟨rfl, rfl⟩, ⟨by decide, by decide⟩, Nat.zero_le _, Nat.zero_le _⟩ rfl rfl (wR_fst _ _ _ _ _ _ _ _ _ _ _ _ _ _ _ _) (wR_fst _ _ _ _ _ _ _ _ _ _ _ _ _ _ _ _) rfl hl.1 (Nat.le_of_ble_eq_true rfl) dX8_searches_197 rfl rfl (fun H locs V => ?_)
                    have e9 : pX8_searches v qm qo qy = (u197.1, u197.2, u33.2.2) := by rw [pX8_searches, if_pos c_25, hu33, mLet_eq, if_pos c_38, if_neg c_64, if_neg c_76, if_pos c_97, if_pos c_114, if_neg c_127, hu135, mLet_eq, if_neg c_156, if_pos c_164, hu197, mLet_eq]
                    exact m_iret X hr hk V (by rw [e9]) (by rw [e9]) dX8_searches_200
                  · refine lv_iload hx hb dX8_searches_167 (lv_at hl 1 rfl) ?_
                    refine lv_if_eq (tgt := 176) hx hb dX8_searches_169 (by decide) (fun h => absurd h (by decide)) (fun _ => ?_)
                    refine lv_iconst (v := (-1)) hx hb dX8_searches_172 (by decide) ?_
                    refine lv_goto (tgt := 197) hx hb dX8_searches_173 (by decide) ?_
                    obtain ⟨u197, hu197⟩ : ∃ u, pX8_gives u33.2.1 (-1) = u := ⟨_, rfl⟩
                    have hM := kX8_gives l D cB cI bd u33.2.1 qm ql qs qk qd qn qe qf qo qt qi u33.2.2 (-1)
                    rw [hu197] at hM
                    refine m_VA X V (w1 := (wR cB cI bd u197.2 qm ql qs qk qd qn qe qf qo qt qi u33.2.2)) (rest := []) (st1 := [.int u197.1]) hM okX8_gives gm_553 gm_704 gm_552 ⟨⟨rfl, rfl⟩, ⟨by decide, by decide⟩, Nat.zero_le _, Nat.zero_le _⟩ rfl rfl (wR_fst _ _ _ _ _ _ _ _ _ _ _ _ _ _ _ _) (wR_fst _ _ _ _ _ _ _ _ _ _ _ _ _ _ _ _) rfl hl.1 (Nat.le_of_ble_eq_true rfl) dX8_searches_197 rfl rfl (fun H locs V => ?_)
                    have e9 : pX8_searches v qm qo qy = (u197.1, u197.2, u33.2.2) := by rw [pX8_searches, if_pos c_25, hu33, mLet_eq, if_pos c_38, if_neg c_64, if_neg c_76, if_pos c_97, if_pos c_114, if_neg c_127, hu135, mLet_eq, if_neg c_156, if_neg c_164, hu197, mLet_eq]
                    exact m_iret X hr hk V (by rw [e9]) (by rw [e9]) dX8_searches_200
                · refine lv_iconst (v := 1) hx hb dX8_searches_159 (by decide) ?_
                  have e9 : pX8_searches v qm qo qy = (1, u33.2.1, u33.2.2) := by rw [pX8_searches, if_pos c_25, hu33, mLet_eq, if_pos c_38, if_neg c_64, if_neg c_76, if_pos c_97, if_pos c_114, if_neg c_127, hu135, mLet_eq, if_pos c_156]
                  exact m_iret X hr hk V (by rw [e9]) (by rw [e9]) dX8_searches_160
              · refine lv_iconst (v := 1) hx hb dX8_searches_130 (by decide) ?_
                refine lv_goto (tgt := 135) hx hb dX8_searches_131 (by decide) ?_
                obtain ⟨u135, hu135⟩ : ∃ u, pX8_oneByOne u33.2.1 qm qo u33.2.2 (qo (Int32.toNatClampNeg 2)) (qo (Int32.toNatClampNeg 3)) 1024 1 = u := ⟨_, rfl⟩
                have hM := kX8_oneByOne l D cB cI bd u33.2.1 qm ql qs qk qd qn qe qf qo qt qi u33.2.2 (qo (Int32.toNatClampNeg 2)) (qo (Int32.toNatClampNeg 3)) 1024 1 (keys_sz hu33 c_38) (show 0 ≤ Int32.toInt 1024 ∧ Int32.toInt 1024 ≤ 1024 by have z_0 : Int32.toInt 1024 = 1024 := rfl; have e_1 : Int32.toInt 1024 = 1024 := rfl; have e_2 : Int32.toInt 1 = 1 := rfl; omega)
                rw [hu135] at hM
                refine m_VA X V (w1 := (wR cB cI bd u33.2.1 qm ql qs qk qd qn qe qf qo qt qi u33.2.2)) (rest := []) (st1 := [.int u135]) hM okX8_oneByOne gm_589 gm_712 gm_588 ⟨⟨rfl, rfl⟩, ⟨by decide, by decide⟩, Nat.zero_le _, Nat.zero_le _⟩ rfl rfl (wR_fst _ _ _ _ _ _ _ _ _ _ _ _ _ _ _ _) (wR_fst _ _ _ _ _ _ _ _ _ _ _ _ _ _ _ _) rfl hl.1 (Nat.le_of_ble_eq_true rfl) dX8_searches_135 rfl rfl (fun H locs V => ?_)
                refine lv_goto (tgt := 150) hx hb dX8_searches_138 (by decide) ?_
                refine lv_istore (lv' := [(7, .int u135), (6, .int 1), (5, .int 1024), (4, .int (qo (Int32.toNatClampNeg 3))), (3, .int (qo (Int32.toNatClampNeg 2))), (2, .int u33.1), (1, .int (qo (Int32.toNatClampNeg 6))), (0, .ref (bd 0))]) hx hb dX8_searches_150 hl (by decide) rfl (fun ls hl => ?_)
                refine lv_iload hx hb dX8_searches_152 (lv_at hl 0 rfl) ?_
                refine lv_bipush (v := (-9)) hx hb dX8_searches_154 (by decide) ?_
                refine lv_icmp_ne (tgt := 161) hx hb dX8_searches_156 (by decide) (fun c_156 => ?_) (fun c_156 => ?_)
                · refine lv_aload_n hx hb dX8_searches_161 rfl (lv_at hl 7 rfl) ?_
                  refine lv_iload hx hb dX8_searches_162 (lv_at hl 0 rfl) ?_
                  refine lv_if_ge (tgt := 180) hx hb dX8_searches_164 (by decide) (fun c_164 => ?_) (fun c_164 => ?_)
                  · refine lv_iload hx hb dX8_searches_180 (lv_at hl 1 rfl) ?_
                    refine lv_if_eq (tgt := 190) hx hb dX8_searches_182 (by decide) (fun h => absurd h (by decide)) (fun _ => ?_)
                    refine lv_iload hx hb dX8_searches_185 (lv_at hl 0 rfl) ?_
                    refine lv_goto (tgt := 197) hx hb dX8_searches_187 (by decide) ?_
                    obtain ⟨u197, hu197⟩ : ∃ u, pX8_gives u33.2.1 u135 = u := ⟨_, rfl⟩
                    have hM := kX8_gives l D cB cI bd u33.2.1 qm ql qs qk qd qn qe qf qo qt qi u33.2.2 u135
                    rw [hu197] at hM
                    refine m_VA X V (w1 := (wR cB cI bd u197.2 qm ql qs qk qd qn qe qf qo qt qi u33.2.2)) (rest := []) (st1 := [.int u197.1]) hM okX8_gives gm_553 gm_704 gm_552 ⟨⟨rfl, rfl⟩, ⟨by decide, by decide⟩, Nat.zero_le _, Nat.zero_le _⟩ rfl rfl (wR_fst _ _ _ _ _ _ _ _ _ _ _ _ _ _ _ _) (wR_fst _ _ _ _ _ _ _ _ _ _ _ _ _ _ _ _) rfl hl.1 (Nat.le_of_ble_eq_true rfl) dX8_searches_197 rfl rfl (fun H locs V => ?_)
                    have e9 : pX8_searches v qm qo qy = (u197.1, u197.2, u33.2.2) := by rw [pX8_searches, if_pos c_25, hu33, mLet_eq, if_pos c_38, if_neg c_64, if_neg c_76, if_pos c_97, if_pos c_114, if_pos c_127, hu135, mLet_eq, if_neg c_156, if_pos c_164, hu197, mLet_eq]
                    exact m_iret X hr hk V (by rw [e9]) (by rw [e9]) dX8_searches_200
                  · refine lv_iload hx hb dX8_searches_167 (lv_at hl 1 rfl) ?_
                    refine lv_if_eq (tgt := 176) hx hb dX8_searches_169 (by decide) (fun h => absurd h (by decide)) (fun _ => ?_)
                    refine lv_iconst (v := (-1)) hx hb dX8_searches_172 (by decide) ?_
                    refine lv_goto (tgt := 197) hx hb dX8_searches_173 (by decide) ?_
                    obtain ⟨u197, hu197⟩ : ∃ u, pX8_gives u33.2.1 (-1) = u := ⟨_, rfl⟩
                    have hM := kX8_gives l D cB cI bd u33.2.1 qm ql qs qk qd qn qe qf qo qt qi u33.2.2 (-1)
                    rw [hu197] at hM
                    refine m_VA X V (w1 := (wR cB cI bd u197.2 qm ql qs qk qd qn qe qf qo qt qi u33.2.2)) (rest := []) (st1 := [.int u197.1]) hM okX8_gives gm_553 gm_704 gm_552 ⟨⟨rfl, rfl⟩, ⟨by decide, by decide⟩, Nat.zero_le _, Nat.zero_le _⟩ rfl rfl (wR_fst _ _ _ _ _ _ _ _ _ _ _ _ _ _ _ _) (wR_fst _ _ _ _ _ _ _ _ _ _ _ _ _ _ _ _) rfl hl.1 (Nat.le_of_ble_eq_true rfl) dX8_searches_197 rfl rfl (fun H locs V => ?_)
                    have e9 : pX8_searches v qm qo qy = (u197.1, u197.2, u33.2.2) := by rw [pX8_searches, if_pos c_25, hu33, mLet_eq, if_pos c_38, if_neg c_64, if_neg c_76, if_pos c_97, if_pos c_114, if_pos c_127, hu135, mLet_eq, if_neg c_156, if_neg c_164, hu197, mLet_eq]
                    exact m_iret X hr hk V (by rw [e9]) (by rw [e9]) dX8_searches_200
                · refine lv_iconst (v := 1) hx hb dX8_searches_159 (by decide) ?_
                  have e9 : pX8_searches v qm qo qy = (1, u33.2.1, u33.2.2) := by rw [pX8_searches, if_pos c_25, hu33, mLet_eq, if_pos c_38, if_neg c_64, if_neg c_76, if_pos c_97, if_pos c_114, if_pos c_127, hu135, mLet_eq, if_pos c_156]
                  exact m_iret X hr hk V (by rw [e9]) (by rw [e9]) dX8_searches_160
    · refine lv_iload_n hx hb dX8_searches_41 rfl (lv_at hl 0 rfl) ?_
      have e9 : pX8_searches v qm qo qy = (u33.1, u33.2.1, u33.2.2) := by rw [pX8_searches, if_pos c_25, hu33, mLet_eq, if_neg c_38]
      exact m_iret X hr hk V (by rw [e9]) (by rw [e9]) dX8_searches_42
def pX8_turns_lp91 (x1 : Int32) : Nat → (Nat → Int32) → (Nat → Int32) → (Int32) → (Int32) → Int32 × (Nat → Int32) × (Nat → Int32)
  | 0, qs, qt, k4, k5 => (0, qs, qt)
  | n_ + 1, qs, qt, k4, k5 => (if x1 ≤ k5 then (0, qs, qt) else (pX8_turns_lp91 x1 n_ (upd qs (Int32.toNatClampNeg (k4 + k5)) (qt (Int32.toNatClampNeg k5))) qt k4 (k5 + 1)))
def pX8_turns_lp47 (x1 : Int32) : Nat → (Nat → Int32) → (Nat → Int32) → (Int32) → (Int32) → (Int32) → Int32 × (Nat → Int32) × (Nat → Int32)
  | 0, qs, qt, k3, k4, k5 => (0, qs, qt)
  | n_ + 1, qs, qt, k3, k4, k5 => (if x1 ≤ k5 then (pX8_turns_lp91 x1 ((Int32.toInt x1 - Int32.toInt 0).toNat + 1) qs qt k4 0) else (pX8_turns_lp47 x1 n_ qs (upd qt (Int32.toNatClampNeg ((x1 - 1) - k5)) (qs (Int32.toNatClampNeg (((k4 + x1) - 1) - ((k5 + k3) - (k5 + k3) / x1 * x1))))) k3 k4 (k5 + 1)))
def pX8_turns (v : Nat → Int32) (qs : Nat → Int32) (qt : Nat → Int32) (x1 : Int32) (x2 : Int32) : Int32 × (Nat → Int32) × (Nat → Int32) := (if x1 < 0 then (4, qs, qt) else (if x1 ≤ (v 0) then (if x1 ≤ 0 then (0, qs, qt) else (if 0 ≤ (x2 - x2 / x1 * x1) then (pX8_turns_lp47 x1 ((Int32.toInt x1 - Int32.toInt 0).toNat + 1) qs qt (x2 - x2 / x1 * x1) ((v 0) - x1) 0) else (pX8_turns_lp47 x1 ((Int32.toInt x1 - Int32.toInt 0).toNat + 1) qs qt ((x2 - x2 / x1 * x1) + x1) ((v 0) - x1) 0))) else (4, qs, qt)))
theorem okX8_turns : mOk yX8_turns cX8_turns 6 (some .int) 2 := ⟨gm_576, gm_8, by decide +kernel⟩
set_option maxRecDepth 100000 in
set_option maxHeartbeats 4000000 in
theorem lpX8_turns_91 {p : Program} {e : Env} {s : State} {m : MethodId} {args : Array Value} {below : List Frame} {meth : Method} {c : Code} {A : Nat → Prop} {l : Launch} {D : va_G} {cB cI : ClassId} {bd : Nat → Nat} {v : Nat → Int32} {qm : Nat → Int32} {ql : Nat → Int32} {qk : Nat → Int32} {qd : Nat → Int32} {qn : Nat → Int32} {qe : Nat → Int32} {qf : Nat → Int32} {qo : Nat → Int32} {qi : Nat → Int32} {qy : Nat → Int32} {x1 : Int32} (X : mCx p s m args c cX8_turns 6 RX8 D cB cI) (hr : meth.sig.returnType = (some .int)) (hk : meth.locks = false) (ht : 0 ≤ Int32.toInt (v 0) ∧ Int32.toInt (v 0) ≤ 40) : ∀ (n_ : Nat) (qs : Nat → Int32) (qt : Nat → Int32) (k4 : Int32) (k5 : Int32) (H : Heap) (locs : List Loc) (ls : Array Slot), (0 ≤ Int32.toInt k5) → (0 < Int32.toInt x1 ∧ Int32.toInt x1 ≤ 40) → (0 ≤ Int32.toInt k4 ∧ Int32.toInt k4 + Int32.toInt x1 ≤ 40) → (Int32.toInt x1 - Int32.toInt k5).toNat < n_ → mWd D A s (wR cB cI bd v qm ql qs qk qd qn qe qf qo qt qi qy) H locs → lv_has ls 6 [(0, .ref (bd 0)), (1, .int x1), (4, .int k4), (5, .int k5)] → W p l e { frames := 0, cells := 0, slots := 0, locals := 0 } s m args below meth c H locs 0 0 (MQ below (mQ D A (wR cB cI bd v qm ql ((pX8_turns_lp91 x1 n_ qs qt k4 k5).2.1) qk qd qn qe qf qo ((pX8_turns_lp91 x1 n_ qs qt k4 k5).2.2) qi qy) (some ((pX8_turns_lp91 x1 n_ qs qt k4 k5).1))) args s 0 0 A) (F0 m 91 ls []) := by
  have hx := X.1.1
  have hb := X.1.2.1
  intro n_
  induction n_ with
  | zero =>
    intro qs qt k4 k5 H locs ls hk5 hp hb4 hm V hl
    exact absurd hm (Nat.not_lt_zero _)
  | succ n_ ih =>
    intro qs qt k4 k5 H locs ls hk5 hp hb4 hm V hl
    refine lv_iload hx hb dX8_turns_91 (lv_at hl 3 rfl) ?_
    refine lv_iload_n hx hb dX8_turns_93 rfl (lv_at hl 1 rfl) ?_
    refine lv_icmp_ge (tgt := 120) hx hb dX8_turns_94 (by decide) (fun c_94 => ?_) (fun c_94 => ?_)
    · refine lv_iconst (v := 0) hx hb dX8_turns_120 (by decide) ?_
      have e9 : pX8_turns_lp91 x1 (n_ + 1) qs qt k4 k5 = (0, qs, qt) := by rw [pX8_turns_lp91, if_pos c_94]
      exact m_iret X hr hk V (by rw [e9]) (by rw [e9]) dX8_turns_121
    · refine lv_aload_n hx hb dX8_turns_97 rfl (lv_at hl 0 rfl) ?_
      refine m_get X V 6 0 2 rfl gin_6 rfl (by decide) rfl gm_425 (v := .ref (bd 3)) rfl dX8_turns_98 ?_
      refine lv_iload hx hb dX8_turns_101 (lv_at hl 2 rfl) ?_
      refine lv_iload hx hb dX8_turns_103 (lv_at hl 3 rfl) ?_
      refine lv_iadd hx hb dX8_turns_105 ?_
      refine lv_aload_n hx hb dX8_turns_106 rfl (lv_at hl 0 rfl) ?_
      refine m_get X V 6 0 25 rfl gin_6 rfl (by decide) rfl gm_448 (v := .ref (bd 10)) rfl dX8_turns_107 ?_
      refine lv_iload hx hb dX8_turns_110 (lv_at hl 3 rfl) ?_
      refine m_iald X V 10 rfl (by have f_3 : ¬ Int32.toInt x1 ≤ Int32.toInt k5 := fun q => c_94 (Int32.le_iff_toInt_le.mpr q); rw [vp_in_iff]; omega) dX8_turns_112 ?_
      refine m_iast X V (ws' := (wR cB cI bd v qm ql (upd qs (Int32.toNatClampNeg (k4 + k5)) (qt (Int32.toNatClampNeg k5))) qk qd qn qe qf qo qt qi qy)) 3 rfl (by have f_3 : ¬ Int32.toInt x1 ≤ Int32.toInt k5 := fun q => c_94 (Int32.le_iff_toInt_le.mpr q); have e_5 : Int32.toInt (k4 + k5) = Int32.toInt k4 + Int32.toInt k5 := ti_add (by omega) (by omega); rw [vp_in_iff]; omega) dX8_turns_113 rfl (fun H locs V => ?_)
      refine lv_iinc (v := (k5 + 1)) (lv' := [(5, .int (k5 + 1)), (0, .ref (bd 0)), (1, .int x1), (4, .int k4)]) hx hb dX8_turns_114 hl (k := 3) rfl rfl (by decide) rfl (fun ls hl => ?_)
      refine lv_goto (tgt := 91) hx hb dX8_turns_117 (by decide) ?_
      rw [show pX8_turns_lp91 x1 (n_ + 1) qs qt k4 k5 = pX8_turns_lp91 x1 n_ (upd qs (Int32.toNatClampNeg (k4 + k5)) (qt (Int32.toNatClampNeg k5))) qt k4 (k5 + 1) from by rw [pX8_turns_lp91, if_neg c_94]]
      exact ih (upd qs (Int32.toNatClampNeg (k4 + k5)) (qt (Int32.toNatClampNeg k5))) qt k4 (k5 + 1) _ _ _ (show 0 ≤ Int32.toInt (k5 + 1) by have f_3 : ¬ Int32.toInt x1 ≤ Int32.toInt k5 := fun q => c_94 (Int32.le_iff_toInt_le.mpr q); have e_4 : Int32.toInt 1 = 1 := rfl; have e_5 : Int32.toInt (k5 + 1) = Int32.toInt k5 + Int32.toInt 1 := ti_add (by omega) (by omega); omega) (show 0 < Int32.toInt x1 ∧ Int32.toInt x1 ≤ 40 by have f_3 : ¬ Int32.toInt x1 ≤ Int32.toInt k5 := fun q => c_94 (Int32.le_iff_toInt_le.mpr q); have e_4 : Int32.toInt 1 = 1 := rfl; have e_5 : Int32.toInt (k5 + 1) = Int32.toInt k5 + Int32.toInt 1 := ti_add (by omega) (by omega); omega) (show 0 ≤ Int32.toInt k4 ∧ Int32.toInt k4 + Int32.toInt x1 ≤ 40 by have f_3 : ¬ Int32.toInt x1 ≤ Int32.toInt k5 := fun q => c_94 (Int32.le_iff_toInt_le.mpr q); have e_4 : Int32.toInt 1 = 1 := rfl; have e_5 : Int32.toInt (k5 + 1) = Int32.toInt k5 + Int32.toInt 1 := ti_add (by omega) (by omega); omega) (ms_up c_94 hm) V (lv_sub hl [1, 2, 3, 0] rfl)
set_option maxRecDepth 100000 in
set_option maxHeartbeats 4000000 in
theorem lpX8_turns_47 {p : Program} {e : Env} {s : State} {m : MethodId} {args : Array Value} {below : List Frame} {meth : Method} {c : Code} {A : Nat → Prop} {l : Launch} {D : va_G} {cB cI : ClassId} {bd : Nat → Nat} {v : Nat → Int32} {qm : Nat → Int32} {ql : Nat → Int32} {qk : Nat → Int32} {qd : Nat → Int32} {qn : Nat → Int32} {qe : Nat → Int32} {qf : Nat → Int32} {qo : Nat → Int32} {qi : Nat → Int32} {qy : Nat → Int32} {x1 : Int32} (X : mCx p s m args c cX8_turns 6 RX8 D cB cI) (hr : meth.sig.returnType = (some .int)) (hk : meth.locks = false) (ht : 0 ≤ Int32.toInt (v 0) ∧ Int32.toInt (v 0) ≤ 40) : ∀ (n_ : Nat) (qs : Nat → Int32) (qt : Nat → Int32) (k3 : Int32) (k4 : Int32) (k5 : Int32) (H : Heap) (locs : List Loc) (ls : Array Slot), (0 ≤ Int32.toInt k5) → (0 < Int32.toInt x1 ∧ Int32.toInt x1 ≤ 40) → (0 ≤ Int32.toInt k3 ∧ Int32.toInt k3 < Int32.toInt x1) → (0 ≤ Int32.toInt k4 ∧ Int32.toInt k4 + Int32.toInt x1 ≤ 40) → (Int32.toInt x1 - Int32.toInt k5).toNat < n_ → mWd D A s (wR cB cI bd v qm ql qs qk qd qn qe qf qo qt qi qy) H locs → lv_has ls 6 [(0, .ref (bd 0)), (1, .int x1), (3, .int k3), (4, .int k4), (5, .int k5)] → W p l e { frames := 0, cells := 0, slots := 0, locals := 0 } s m args below meth c H locs 0 0 (MQ below (mQ D A (wR cB cI bd v qm ql ((pX8_turns_lp47 x1 n_ qs qt k3 k4 k5).2.1) qk qd qn qe qf qo ((pX8_turns_lp47 x1 n_ qs qt k3 k4 k5).2.2) qi qy) (some ((pX8_turns_lp47 x1 n_ qs qt k3 k4 k5).1))) args s 0 0 A) (F0 m 47 ls []) := by
  have hx := X.1.1
  have hb := X.1.2.1
  intro n_
  induction n_ with
  | zero =>
    intro qs qt k3 k4 k5 H locs ls hk5 hp hu hb4 hm V hl
    exact absurd hm (Nat.not_lt_zero _)
  | succ n_ ih =>
    intro qs qt k3 k4 k5 H locs ls hk5 hp hu hb4 hm V hl
    refine lv_iload hx hb dX8_turns_47 (lv_at hl 4 rfl) ?_
    refine lv_iload_n hx hb dX8_turns_49 rfl (lv_at hl 1 rfl) ?_
    refine lv_icmp_ge (tgt := 88) hx hb dX8_turns_50 (by decide) (fun c_50 => ?_) (fun c_50 => ?_)
    · refine lv_iconst (v := 0) hx hb dX8_turns_88 (by decide) ?_
      refine lv_istore (lv' := [(5, .int 0), (0, .ref (bd 0)), (1, .int x1), (3, .int k3), (4, .int k4)]) hx hb dX8_turns_89 hl (by decide) rfl (fun ls hl => ?_)
      rw [show pX8_turns_lp47 x1 (n_ + 1) qs qt k3 k4 k5 = (pX8_turns_lp91 x1 ((Int32.toInt x1 - Int32.toInt 0).toNat + 1) qs qt k4 0) from by rw [pX8_turns_lp47, if_pos c_50]]
      exact lpX8_turns_91 X hr hk ht ((Int32.toInt x1 - Int32.toInt 0).toNat + 1) qs qt k4 0 _ _ _ (show 0 ≤ Int32.toInt 0 by have z_0 : Int32.toInt 0 = 0 := rfl; omega) (show 0 < Int32.toInt x1 ∧ Int32.toInt x1 ≤ 40 by have f_3 : Int32.toInt x1 ≤ Int32.toInt k5 := Int32.le_iff_toInt_le.mp c_50; omega) (show 0 ≤ Int32.toInt k4 ∧ Int32.toInt k4 + Int32.toInt x1 ≤ 40 by have f_3 : Int32.toInt x1 ≤ Int32.toInt k5 := Int32.le_iff_toInt_le.mp c_50; omega) (Nat.lt_succ_self _) V (lv_sub hl [1, 2, 4, 0] rfl)
    · refine lv_aload_n hx hb dX8_turns_53 rfl (lv_at hl 0 rfl) ?_
      refine m_get X V 6 0 25 rfl gin_6 rfl (by decide) rfl gm_448 (v := .ref (bd 10)) rfl dX8_turns_54 ?_
      refine lv_iload_n hx hb dX8_turns_57 rfl (lv_at hl 1 rfl) ?_
      refine lv_iconst (v := 1) hx hb dX8_turns_58 (by decide) ?_
      refine lv_isub hx hb dX8_turns_59 ?_
      refine lv_iload hx hb dX8_turns_60 (lv_at hl 4 rfl) ?_
      refine lv_isub hx hb dX8_turns_62 ?_
      refine lv_aload_n hx hb dX8_turns_63 rfl (lv_at hl 0 rfl) ?_
      refine m_get X V 6 0 2 rfl gin_6 rfl (by decide) rfl gm_425 (v := .ref (bd 3)) rfl dX8_turns_64 ?_
      refine lv_iload hx hb dX8_turns_67 (lv_at hl 3 rfl) ?_
      refine lv_iload_n hx hb dX8_turns_69 rfl (lv_at hl 1 rfl) ?_
      refine lv_iadd hx hb dX8_turns_70 ?_
      refine lv_iconst (v := 1) hx hb dX8_turns_71 (by decide) ?_
      refine lv_isub hx hb dX8_turns_72 ?_
      refine lv_iload hx hb dX8_turns_73 (lv_at hl 4 rfl) ?_
      refine lv_iload_n hx hb dX8_turns_75 rfl (lv_at hl 2 rfl) ?_
      refine lv_iadd hx hb dX8_turns_76 ?_
      refine lv_iload_n hx hb dX8_turns_77 rfl (lv_at hl 1 rfl) ?_
      refine lv_irem hx hb dX8_turns_78 (ne_of_pos hp.1) ?_
      refine lv_isub hx hb dX8_turns_79 ?_
      refine m_iald X V 3 rfl (by have f_3 : ¬ Int32.toInt x1 ≤ Int32.toInt k5 := fun q => c_50 (Int32.le_iff_toInt_le.mpr q); have e_5 : Int32.toInt (k4 + x1) = Int32.toInt k4 + Int32.toInt x1 := ti_add (by omega) (by omega); have e_6 : Int32.toInt 1 = 1 := rfl; have e_7 : Int32.toInt ((k4 + x1) - 1) = Int32.toInt (k4 + x1) - Int32.toInt 1 := ti_sub (by omega) (by omega); have e_9 : Int32.toInt (k5 + k3) = Int32.toInt k5 + Int32.toInt k3 := ti_add (by omega) (by omega); have e_10 := ti_rem (a := (k5 + k3)) (b := x1) (by omega) (by omega); have e_11 : Int32.toInt (((k4 + x1) - 1) - ((k5 + k3) - (k5 + k3) / x1 * x1)) = Int32.toInt ((k4 + x1) - 1) - Int32.toInt ((k5 + k3) - (k5 + k3) / x1 * x1) := ti_sub (by omega) (by omega); rw [vp_in_iff]; omega) dX8_turns_80 ?_
      refine m_iast X V (ws' := (wR cB cI bd v qm ql qs qk qd qn qe qf qo (upd qt (Int32.toNatClampNeg ((x1 - 1) - k5)) (qs (Int32.toNatClampNeg (((k4 + x1) - 1) - ((k5 + k3) - (k5 + k3) / x1 * x1))))) qi qy)) 10 rfl (by have f_3 : ¬ Int32.toInt x1 ≤ Int32.toInt k5 := fun q => c_50 (Int32.le_iff_toInt_le.mpr q); have e_4 : Int32.toInt 1 = 1 := rfl; have e_5 : Int32.toInt (x1 - 1) = Int32.toInt x1 - Int32.toInt 1 := ti_sub (by omega) (by omega); have e_6 : Int32.toInt ((x1 - 1) - k5) = Int32.toInt (x1 - 1) - Int32.toInt k5 := ti_sub (by omega) (by omega); rw [vp_in_iff]; omega) dX8_turns_81 rfl (fun H locs V => ?_)
      refine lv_iinc (v := (k5 + 1)) (lv' := [(5, .int (k5 + 1)), (0, .ref (bd 0)), (1, .int x1), (3, .int k3), (4, .int k4)]) hx hb dX8_turns_82 hl (k := 4) rfl rfl (by decide) rfl (fun ls hl => ?_)
      refine lv_goto (tgt := 47) hx hb dX8_turns_85 (by decide) ?_
      rw [show pX8_turns_lp47 x1 (n_ + 1) qs qt k3 k4 k5 = pX8_turns_lp47 x1 n_ qs (upd qt (Int32.toNatClampNeg ((x1 - 1) - k5)) (qs (Int32.toNatClampNeg (((k4 + x1) - 1) - ((k5 + k3) - (k5 + k3) / x1 * x1))))) k3 k4 (k5 + 1) from by rw [pX8_turns_lp47, if_neg c_50]]
      exact ih qs (upd qt (Int32.toNatClampNeg ((x1 - 1) - k5)) (qs (Int32.toNatClampNeg (((k4 + x1) - 1) - ((k5 + k3) - (k5 + k3) / x1 * x1))))) k3 k4 (k5 + 1) _ _ _ (show 0 ≤ Int32.toInt (k5 + 1) by have f_3 : ¬ Int32.toInt x1 ≤ Int32.toInt k5 := fun q => c_50 (Int32.le_iff_toInt_le.mpr q); have e_4 : Int32.toInt 1 = 1 := rfl; have e_5 : Int32.toInt (k5 + 1) = Int32.toInt k5 + Int32.toInt 1 := ti_add (by omega) (by omega); omega) (show 0 < Int32.toInt x1 ∧ Int32.toInt x1 ≤ 40 by have f_3 : ¬ Int32.toInt x1 ≤ Int32.toInt k5 := fun q => c_50 (Int32.le_iff_toInt_le.mpr q); have e_4 : Int32.toInt 1 = 1 := rfl; have e_5 : Int32.toInt (k5 + 1) = Int32.toInt k5 + Int32.toInt 1 := ti_add (by omega) (by omega); omega) (show 0 ≤ Int32.toInt k3 ∧ Int32.toInt k3 < Int32.toInt x1 by have f_3 : ¬ Int32.toInt x1 ≤ Int32.toInt k5 := fun q => c_50 (Int32.le_iff_toInt_le.mpr q); have e_4 : Int32.toInt 1 = 1 := rfl; have e_5 : Int32.toInt (k5 + 1) = Int32.toInt k5 + Int32.toInt 1 := ti_add (by omega) (by omega); omega) (show 0 ≤ Int32.toInt k4 ∧ Int32.toInt k4 + Int32.toInt x1 ≤ 40 by have f_3 : ¬ Int32.toInt x1 ≤ Int32.toInt k5 := fun q => c_50 (Int32.le_iff_toInt_le.mpr q); have e_4 : Int32.toInt 1 = 1 := rfl; have e_5 : Int32.toInt (k5 + 1) = Int32.toInt k5 + Int32.toInt 1 := ti_add (by omega) (by omega); omega) (ms_up c_50 hm) V (lv_sub hl [1, 2, 3, 4, 0] rfl)
set_option maxRecDepth 100000 in
set_option maxHeartbeats 4000000 in
theorem kX8_turns (l : Launch) (D : va_G) (cB cI : ClassId) (bd : Nat → Nat) (v : Nat → Int32) (qm : Nat → Int32) (ql : Nat → Int32) (qs : Nat → Int32) (qk : Nat → Int32) (qd : Nat → Int32) (qn : Nat → Int32) (qe : Nat → Int32) (qf : Nat → Int32) (qo : Nat → Int32) (qt : Nat → Int32) (qi : Nat → Int32) (qy : Nat → Int32) (x1 : Int32) (x2 : Int32) (ht : 0 ≤ Int32.toInt (v 0) ∧ Int32.toInt (v 0) ≤ 40) : mM l D cB cI yX8_turns cX8_turns 6 (some .int) { frames := 0, cells := 0, slots := 0, locals := 0 } [.ref (bd 0), .int x1, .int x2] (wR cB cI bd v qm ql qs qk qd qn qe qf qo qt qi qy) (some ((pX8_turns v qs qt x1 x2).1)) (wR cB cI bd v qm ql ((pX8_turns v qs qt x1 x2).2.1) qk qd qn qe qf qo ((pX8_turns v qs qt x1 x2).2.2) qi qy) := by
  refine m_start (by decide +kernel) (Nat.le_of_ble_eq_true rfl) ?_
  intro p e s m below meth c A ls X hr hk V hl
  have X : mCx p s m _ c cX8_turns 6 RX8 D cB cI := X
  have hx := X.1.1
  have hb := X.1.2.1
  have hl : lv_has ls 6 [(0, .ref (bd 0)), (1, .int x1), (2, .int x2)] := hl
  refine lv_iload_n hx hb dX8_turns_0 rfl (lv_at hl 1 rfl) ?_
  refine lv_if_lt (tgt := 12) hx hb dX8_turns_1 (by decide) (fun c_1 => ?_) (fun c_1 => ?_)
  · refine lv_iconst (v := 4) hx hb dX8_turns_12 (by decide) ?_
    have e9 : pX8_turns v qs qt x1 x2 = (4, qs, qt) := by rw [pX8_turns, if_pos c_1]
    exact m_iret X hr hk V (by rw [e9]) (by rw [e9]) dX8_turns_13
  · refine lv_iload_n hx hb dX8_turns_4 rfl (lv_at hl 1 rfl) ?_
    refine lv_aload_n hx hb dX8_turns_5 rfl (lv_at hl 0 rfl) ?_
    refine m_get X V 6 0 4 rfl gin_6 rfl (by decide) rfl gm_427 (v := .int (v 0)) rfl dX8_turns_6 ?_
    refine lv_icmp_le (tgt := 14) hx hb dX8_turns_9 (by decide) (fun c_9 => ?_) (fun c_9 => ?_)
    · refine lv_iload_n hx hb dX8_turns_14 rfl (lv_at hl 1 rfl) ?_
      refine lv_if_le (tgt := 120) hx hb dX8_turns_15 (by decide) (fun c_15 => ?_) (fun c_15 => ?_)
      · refine lv_iconst (v := 0) hx hb dX8_turns_120 (by decide) ?_
        have e9 : pX8_turns v qs qt x1 x2 = (0, qs, qt) := by rw [pX8_turns, if_neg c_1, if_pos c_9, if_pos c_15]
        exact m_iret X hr hk V (by rw [e9]) (by rw [e9]) dX8_turns_121
      · refine lv_iload_n hx hb dX8_turns_18 rfl (lv_at hl 2 rfl) ?_
        refine lv_iload_n hx hb dX8_turns_19 rfl (lv_at hl 1 rfl) ?_
        refine lv_irem hx hb dX8_turns_20 (ne_of_nle c_15) ?_
        refine lv_if_ge (tgt := 32) hx hb dX8_turns_21 (by decide) (fun c_21 => ?_) (fun c_21 => ?_)
        · refine lv_iload_n hx hb dX8_turns_32 rfl (lv_at hl 2 rfl) ?_
          refine lv_iload_n hx hb dX8_turns_33 rfl (lv_at hl 1 rfl) ?_
          refine lv_irem hx hb dX8_turns_34 (ne_of_nle c_15) ?_
          refine lv_istore_n (lv' := [(3, .int (x2 - x2 / x1 * x1)), (0, .ref (bd 0)), (1, .int x1), (2, .int x2)]) hx hb dX8_turns_35 rfl hl (by decide) rfl (fun ls hl => ?_)
          refine lv_aload_n hx hb dX8_turns_36 rfl (lv_at hl 1 rfl) ?_
          refine m_get X V 6 0 4 rfl gin_6 rfl (by decide) rfl gm_427 (v := .int (v 0)) rfl dX8_turns_37 ?_
          refine lv_iload_n hx hb dX8_turns_40 rfl (lv_at hl 2 rfl) ?_
          refine lv_isub hx hb dX8_turns_41 ?_
          refine lv_istore (lv' := [(4, .int ((v 0) - x1)), (3, .int (x2 - x2 / x1 * x1)), (0, .ref (bd 0)), (1, .int x1), (2, .int x2)]) hx hb dX8_turns_42 hl (by decide) rfl (fun ls hl => ?_)
          refine lv_iconst (v := 0) hx hb dX8_turns_44 (by decide) ?_
          refine lv_istore (lv' := [(5, .int 0), (4, .int ((v 0) - x1)), (3, .int (x2 - x2 / x1 * x1)), (0, .ref (bd 0)), (1, .int x1), (2, .int x2)]) hx hb dX8_turns_45 hl (by decide) rfl (fun ls hl => ?_)
          rw [show pX8_turns v qs qt x1 x2 = (pX8_turns_lp47 x1 ((Int32.toInt x1 - Int32.toInt 0).toNat + 1) qs qt (x2 - x2 / x1 * x1) ((v 0) - x1) 0) from by rw [pX8_turns, if_neg c_1, if_pos c_9, if_neg c_15, if_pos c_21]]
          exact lpX8_turns_47 X hr hk ht ((Int32.toInt x1 - Int32.toInt 0).toNat + 1) qs qt (x2 - x2 / x1 * x1) ((v 0) - x1) 0 _ _ _ (show 0 ≤ Int32.toInt 0 by have z_0 : Int32.toInt 0 = 0 := rfl; have r_1 := rem_bd (a := x2) (b := x1) (by have q := c_15; rw [Int32.le_iff_toInt_le] at q; have z : Int32.toInt 0 = 0 := rfl; omega); have e_2 : Int32.toInt 0 = 0 := rfl; have f_3 : ¬ Int32.toInt x1 < Int32.toInt 0 := fun q => c_1 (Int32.lt_iff_toInt_lt.mpr q); have f_5 : Int32.toInt x1 ≤ Int32.toInt (v 0) := Int32.le_iff_toInt_le.mp c_9; have f_6 : ¬ Int32.toInt x1 ≤ Int32.toInt 0 := fun q => c_15 (Int32.le_iff_toInt_le.mpr q); have f_7 : Int32.toInt 0 ≤ Int32.toInt (x2 - x2 / x1 * x1) := Int32.le_iff_toInt_le.mp c_21; have e_8 : Int32.toInt ((v 0) - x1) = Int32.toInt (v 0) - Int32.toInt x1 := ti_sub (by omega) (by omega); omega) (show 0 < Int32.toInt x1 ∧ Int32.toInt x1 ≤ 40 by have r_1 := rem_bd (a := x2) (b := x1) (by have q := c_15; rw [Int32.le_iff_toInt_le] at q; have z : Int32.toInt 0 = 0 := rfl; omega); have e_2 : Int32.toInt 0 = 0 := rfl; have f_3 : ¬ Int32.toInt x1 < Int32.toInt 0 := fun q => c_1 (Int32.lt_iff_toInt_lt.mpr q); have f_5 : Int32.toInt x1 ≤ Int32.toInt (v 0) := Int32.le_iff_toInt_le.mp c_9; have f_6 : ¬ Int32.toInt x1 ≤ Int32.toInt 0 := fun q => c_15 (Int32.le_iff_toInt_le.mpr q); have f_7 : Int32.toInt 0 ≤ Int32.toInt (x2 - x2 / x1 * x1) := Int32.le_iff_toInt_le.mp c_21; have e_8 : Int32.toInt ((v 0) - x1) = Int32.toInt (v 0) - Int32.toInt x1 := ti_sub (by omega) (by omega); omega) (show 0 ≤ Int32.toInt (x2 - x2 / x1 * x1) ∧ Int32.toInt (x2 - x2 / x1 * x1) < Int32.toInt x1 by have r_1 := rem_bd (a := x2) (b := x1) (by have q := c_15; rw [Int32.le_iff_toInt_le] at q; have z : Int32.toInt 0 = 0 := rfl; omega); have e_2 : Int32.toInt 0 = 0 := rfl; have f_3 : ¬ Int32.toInt x1 < Int32.toInt 0 := fun q => c_1 (Int32.lt_iff_toInt_lt.mpr q); have f_5 : Int32.toInt x1 ≤ Int32.toInt (v 0) := Int32.le_iff_toInt_le.mp c_9; have f_6 : ¬ Int32.toInt x1 ≤ Int32.toInt 0 := fun q => c_15 (Int32.le_iff_toInt_le.mpr q); have f_7 : Int32.toInt 0 ≤ Int32.toInt (x2 - x2 / x1 * x1) := Int32.le_iff_toInt_le.mp c_21; have e_8 : Int32.toInt ((v 0) - x1) = Int32.toInt (v 0) - Int32.toInt x1 := ti_sub (by omega) (by omega); omega) (show 0 ≤ Int32.toInt ((v 0) - x1) ∧ Int32.toInt ((v 0) - x1) + Int32.toInt x1 ≤ 40 by have r_1 := rem_bd (a := x2) (b := x1) (by have q := c_15; rw [Int32.le_iff_toInt_le] at q; have z : Int32.toInt 0 = 0 := rfl; omega); have e_2 : Int32.toInt 0 = 0 := rfl; have f_3 : ¬ Int32.toInt x1 < Int32.toInt 0 := fun q => c_1 (Int32.lt_iff_toInt_lt.mpr q); have f_5 : Int32.toInt x1 ≤ Int32.toInt (v 0) := Int32.le_iff_toInt_le.mp c_9; have f_6 : ¬ Int32.toInt x1 ≤ Int32.toInt 0 := fun q => c_15 (Int32.le_iff_toInt_le.mpr q); have f_7 : Int32.toInt 0 ≤ Int32.toInt (x2 - x2 / x1 * x1) := Int32.le_iff_toInt_le.mp c_21; have e_8 : Int32.toInt ((v 0) - x1) = Int32.toInt (v 0) - Int32.toInt x1 := ti_sub (by omega) (by omega); omega) (Nat.lt_succ_self _) V (lv_sub hl [3, 4, 2, 1, 0] rfl)
        · refine lv_iload_n hx hb dX8_turns_24 rfl (lv_at hl 2 rfl) ?_
          refine lv_iload_n hx hb dX8_turns_25 rfl (lv_at hl 1 rfl) ?_
          refine lv_irem hx hb dX8_turns_26 (ne_of_nle c_15) ?_
          refine lv_iload_n hx hb dX8_turns_27 rfl (lv_at hl 1 rfl) ?_
          refine lv_iadd hx hb dX8_turns_28 ?_
          refine lv_goto (tgt := 35) hx hb dX8_turns_29 (by decide) ?_
          refine lv_istore_n (lv' := [(3, .int ((x2 - x2 / x1 * x1) + x1)), (0, .ref (bd 0)), (1, .int x1), (2, .int x2)]) hx hb dX8_turns_35 rfl hl (by decide) rfl (fun ls hl => ?_)
          refine lv_aload_n hx hb dX8_turns_36 rfl (lv_at hl 1 rfl) ?_
          refine m_get X V 6 0 4 rfl gin_6 rfl (by decide) rfl gm_427 (v := .int (v 0)) rfl dX8_turns_37 ?_
          refine lv_iload_n hx hb dX8_turns_40 rfl (lv_at hl 2 rfl) ?_
          refine lv_isub hx hb dX8_turns_41 ?_
          refine lv_istore (lv' := [(4, .int ((v 0) - x1)), (3, .int ((x2 - x2 / x1 * x1) + x1)), (0, .ref (bd 0)), (1, .int x1), (2, .int x2)]) hx hb dX8_turns_42 hl (by decide) rfl (fun ls hl => ?_)
          refine lv_iconst (v := 0) hx hb dX8_turns_44 (by decide) ?_
          refine lv_istore (lv' := [(5, .int 0), (4, .int ((v 0) - x1)), (3, .int ((x2 - x2 / x1 * x1) + x1)), (0, .ref (bd 0)), (1, .int x1), (2, .int x2)]) hx hb dX8_turns_45 hl (by decide) rfl (fun ls hl => ?_)
          rw [show pX8_turns v qs qt x1 x2 = (pX8_turns_lp47 x1 ((Int32.toInt x1 - Int32.toInt 0).toNat + 1) qs qt ((x2 - x2 / x1 * x1) + x1) ((v 0) - x1) 0) from by rw [pX8_turns, if_neg c_1, if_pos c_9, if_neg c_15, if_neg c_21]]
          exact lpX8_turns_47 X hr hk ht ((Int32.toInt x1 - Int32.toInt 0).toNat + 1) qs qt ((x2 - x2 / x1 * x1) + x1) ((v 0) - x1) 0 _ _ _ (show 0 ≤ Int32.toInt 0 by have z_0 : Int32.toInt 0 = 0 := rfl; have r_1 := rem_bd (a := x2) (b := x1) (by have q := c_15; rw [Int32.le_iff_toInt_le] at q; have z : Int32.toInt 0 = 0 := rfl; omega); have e_2 : Int32.toInt 0 = 0 := rfl; have f_3 : ¬ Int32.toInt x1 < Int32.toInt 0 := fun q => c_1 (Int32.lt_iff_toInt_lt.mpr q); have f_5 : Int32.toInt x1 ≤ Int32.toInt (v 0) := Int32.le_iff_toInt_le.mp c_9; have f_6 : ¬ Int32.toInt x1 ≤ Int32.toInt 0 := fun q => c_15 (Int32.le_iff_toInt_le.mpr q); have f_7 : ¬ Int32.toInt 0 ≤ Int32.toInt (x2 - x2 / x1 * x1) := fun q => c_21 (Int32.le_iff_toInt_le.mpr q); have e_8 : Int32.toInt ((x2 - x2 / x1 * x1) + x1) = Int32.toInt (x2 - x2 / x1 * x1) + Int32.toInt x1 := ti_add (by omega) (by omega); have e_9 : Int32.toInt ((v 0) - x1) = Int32.toInt (v 0) - Int32.toInt x1 := ti_sub (by omega) (by omega); omega) (show 0 < Int32.toInt x1 ∧ Int32.toInt x1 ≤ 40 by have r_1 := rem_bd (a := x2) (b := x1) (by have q := c_15; rw [Int32.le_iff_toInt_le] at q; have z : Int32.toInt 0 = 0 := rfl; omega); have e_2 : Int32.toInt 0 = 0 := rfl; have f_3 : ¬ Int32.toInt x1 < Int32.toInt 0 := fun q => c_1 (Int32.lt_iff_toInt_lt.mpr q); have f_5 : Int32.toInt x1 ≤ Int32.toInt (v 0) := Int32.le_iff_toInt_le.mp c_9; have f_6 : ¬ Int32.toInt x1 ≤ Int32.toInt 0 := fun q => c_15 (Int32.le_iff_toInt_le.mpr q); have f_7 : ¬ Int32.toInt 0 ≤ Int32.toInt (x2 - x2 / x1 * x1) := fun q => c_21 (Int32.le_iff_toInt_le.mpr q); have e_8 : Int32.toInt ((x2 - x2 / x1 * x1) + x1) = Int32.toInt (x2 - x2 / x1 * x1) + Int32.toInt x1 := ti_add (by omega) (by omega); have e_9 : Int32.toInt ((v 0) - x1) = Int32.toInt (v 0) - Int32.toInt x1 := ti_sub (by omega) (by omega); omega) (show 0 ≤ Int32.toInt ((x2 - x2 / x1 * x1) + x1) ∧ Int32.toInt ((x2 - x2 / x1 * x1) + x1) < Int32.toInt x1 by have r_1 := rem_bd (a := x2) (b := x1) (by have q := c_15; rw [Int32.le_iff_toInt_le] at q; have z : Int32.toInt 0 = 0 := rfl; omega); have e_2 : Int32.toInt 0 = 0 := rfl; have f_3 : ¬ Int32.toInt x1 < Int32.toInt 0 := fun q => c_1 (Int32.lt_iff_toInt_lt.mpr q); have f_5 : Int32.toInt x1 ≤ Int32.toInt (v 0) := Int32.le_iff_toInt_le.mp c_9; have f_6 : ¬ Int32.toInt x1 ≤ Int32.toInt 0 := fun q => c_15 (Int32.le_iff_toInt_le.mpr q); have f_7 : ¬ Int32.toInt 0 ≤ Int32.toInt (x2 - x2 / x1 * x1) := fun q => c_21 (Int32.le_iff_toInt_le.mpr q); have e_8 : Int32.toInt ((x2 - x2 / x1 * x1) + x1) = Int32.toInt (x2 - x2 / x1 * x1) + Int32.toInt x1 := ti_add (by omega) (by omega); have e_9 : Int32.toInt ((v 0) - x1) = Int32.toInt (v 0) - Int32.toInt x1 := ti_sub (by omega) (by omega); omega) (show 0 ≤ Int32.toInt ((v 0) - x1) ∧ Int32.toInt ((v 0) - x1) + Int32.toInt x1 ≤ 40 by have r_1 := rem_bd (a := x2) (b := x1) (by have q := c_15; rw [Int32.le_iff_toInt_le] at q; have z : Int32.toInt 0 = 0 := rfl; omega); have e_2 : Int32.toInt 0 = 0 := rfl; have f_3 : ¬ Int32.toInt x1 < Int32.toInt 0 := fun q => c_1 (Int32.lt_iff_toInt_lt.mpr q); have f_5 : Int32.toInt x1 ≤ Int32.toInt (v 0) := Int32.le_iff_toInt_le.mp c_9; have f_6 : ¬ Int32.toInt x1 ≤ Int32.toInt 0 := fun q => c_15 (Int32.le_iff_toInt_le.mpr q); have f_7 : ¬ Int32.toInt 0 ≤ Int32.toInt (x2 - x2 / x1 * x1) := fun q => c_21 (Int32.le_iff_toInt_le.mpr q); have e_8 : Int32.toInt ((x2 - x2 / x1 * x1) + x1) = Int32.toInt (x2 - x2 / x1 * x1) + Int32.toInt x1 := ti_add (by omega) (by omega); have e_9 : Int32.toInt ((v 0) - x1) = Int32.toInt (v 0) - Int32.toInt x1 := ti_sub (by omega) (by omega); omega) (Nat.lt_succ_self _) V (lv_sub hl [3, 4, 2, 1, 0] rfl)
    · refine lv_iconst (v := 4) hx hb dX8_turns_12 (by decide) ?_
      have e9 : pX8_turns v qs qt x1 x2 = (4, qs, qt) := by rw [pX8_turns, if_neg c_1, if_neg c_9]
      exact m_iret X hr hk V (by rw [e9]) (by rw [e9]) dX8_turns_13
def pX8_onStack_lp173 (x1 : Int32) : Nat → (Nat → Int32) → (Nat → Int32) → (Nat → Int32) → (Int32) → Int32 × (Nat → Int32) × (Nat → Int32) × (Nat → Int32)
  | 0, v, qs, qt, k3 => (0, v, qs, qt)
  | n_ + 1, v, qs, qt, k3 => (if x1 ≤ k3 then (0, (upd v 0 ((v 0) + x1)), qs, qt) else (pX8_onStack_lp173 x1 n_ v (upd qs (Int32.toNatClampNeg ((v 0) + k3)) (qs (Int32.toNatClampNeg (((v 0) - x1) + k3)))) qt (k3 + 1)))
def pX8_onStack (v : Nat → Int32) (qs : Nat → Int32) (qt : Nat → Int32) (x1 : Int32) (x2 : Int32) : Int32 × (Nat → Int32) × (Nat → Int32) × (Nat → Int32) := (if (v 7) = 80 then (mLet (pX8_gives v (v 0)) (fun (u41 : Int32 × (Nat → Int32)) => (u41.1, u41.2, qs, qt))) else (if (v 7) = 81 then (if x1 < 0 then (4, v, qs, qt) else (if x1 < (v 0) then (mLet (pX8_gives v (qs (Int32.toNatClampNeg (((v 0) - 1) - x1)))) (fun (u75 : Int32 × (Nat → Int32)) => (u75.1, u75.2, qs, qt))) else (4, v, qs, qt))) else (if (v 7) = 82 then (if 2 ≤ (v 0) then (0, v, (upd (upd qs (Int32.toNatClampNeg ((v 0) - 1)) (qs (Int32.toNatClampNeg ((v 0) - 2)))) (Int32.toNatClampNeg ((v 0) - 2)) (qs (Int32.toNatClampNeg ((v 0) - 1)))), qt) else (4, v, qs, qt)) else (if (v 7) = 83 then (mLet (pX8_turns v qs qt x1 x2) (fun (u140 : Int32 × (Nat → Int32) × (Nat → Int32)) => (u140.1, v, u140.2.1, u140.2.2))) else (if x1 < 0 then (4, v, qs, qt) else (if x1 ≤ (v 0) then (if ((v 0) + x1) ≤ 40 then (pX8_onStack_lp173 x1 ((Int32.toInt x1 - Int32.toInt 0).toNat + 1) v qs qt 0) else (5, v, qs, qt)) else (4, v, qs, qt)))))))
theorem okX8_onStack : mOk yX8_onStack cX8_onStack 4 (some .int) 2 := ⟨gm_573, gm_8, by decide +kernel⟩
set_option maxRecDepth 100000 in
set_option maxHeartbeats 4000000 in
theorem lpX8_onStack_173 {p : Program} {e : Env} {s : State} {m : MethodId} {args : Array Value} {below : List Frame} {meth : Method} {c : Code} {A : Nat → Prop} {l : Launch} {D : va_G} {cB cI : ClassId} {bd : Nat → Nat} {qm : Nat → Int32} {ql : Nat → Int32} {qk : Nat → Int32} {qd : Nat → Int32} {qn : Nat → Int32} {qe : Nat → Int32} {qf : Nat → Int32} {qo : Nat → Int32} {qi : Nat → Int32} {qy : Nat → Int32} {x1 : Int32} (X : mCx p s m args c cX8_onStack 4 RX8 D cB cI) (hr : meth.sig.returnType = (some .int)) (hk : meth.locks = false) : ∀ (n_ : Nat) (v : Nat → Int32) (qs : Nat → Int32) (qt : Nat → Int32) (k3 : Int32) (H : Heap) (locs : List Loc) (ls : Array Slot), (0 ≤ Int32.toInt k3) → (0 ≤ Int32.toInt x1 ∧ Int32.toInt x1 ≤ Int32.toInt (v 0) ∧ Int32.toInt (v 0) + Int32.toInt x1 ≤ 40) → (Int32.toInt x1 - Int32.toInt k3).toNat < n_ → mWd D A s (wR cB cI bd v qm ql qs qk qd qn qe qf qo qt qi qy) H locs → lv_has ls 4 [(0, .ref (bd 0)), (1, .int x1), (3, .int k3)] → W p l e { frames := 1, cells := 0, slots := 0, locals := 25 } s m args below meth c H locs 0 0 (MQ below (mQ D A (wR cB cI bd ((pX8_onStack_lp173 x1 n_ v qs qt k3).2.1) qm ql ((pX8_onStack_lp173 x1 n_ v qs qt k3).2.2.1) qk qd qn qe qf qo ((pX8_onStack_lp173 x1 n_ v qs qt k3).2.2.2) qi qy) (some ((pX8_onStack_lp173 x1 n_ v qs qt k3).1))) args s 0 0 A) (F0 m 173 ls []) := by
  have hx := X.1.1
  have hb := X.1.2.1
  intro n_
  induction n_ with
  | zero =>
    intro v qs qt k3 H locs ls hk3 hq hm V hl
    exact absurd hm (Nat.not_lt_zero _)
  | succ n_ ih =>
    intro v qs qt k3 H locs ls hk3 hq hm V hl
    refine lv_iload_n hx hb dX8_onStack_173 rfl (lv_at hl 2 rfl) ?_
    refine lv_iload_n hx hb dX8_onStack_174 rfl (lv_at hl 1 rfl) ?_
    refine lv_icmp_ge (tgt := 208) hx hb dX8_onStack_175 (by decide) (fun c_175 => ?_) (fun c_175 => ?_)
    · refine lv_aload_n hx hb dX8_onStack_208 rfl (lv_at hl 0 rfl) ?_
      refine lv_dup hx hb dX8_onStack_209 rfl ?_
      refine m_get X V 6 0 4 rfl gin_6 rfl (by decide) rfl gm_427 (v := .int (v 0)) rfl dX8_onStack_210 ?_
      refine lv_iload_n hx hb dX8_onStack_213 rfl (lv_at hl 1 rfl) ?_
      refine lv_iadd hx hb dX8_onStack_214 ?_
      refine m_put X V (ws' := (wR cB cI bd (upd v 0 ((v 0) + x1)) qm ql qs qk qd qn qe qf qo qt qi qy)) 6 0 4 rfl gin_6 tyX8_ok nmX8 rfl (by decide) rfl gm_427 rfl rfl rfl (Nat.le_of_ble_eq_true rfl) dX8_onStack_215 rfl (fun H locs V => ?_)
      refine lv_iconst (v := 0) hx hb dX8_onStack_218 (by decide) ?_
      have e9 : pX8_onStack_lp173 x1 (n_ + 1) v qs qt k3 = (0, (upd v 0 ((v 0) + x1)), qs, qt) := by rw [pX8_onStack_lp173, if_pos c_175]
      exact m_iret X hr hk V (by rw [e9]) (by rw [e9]) dX8_onStack_219
    · refine lv_aload_n hx hb dX8_onStack_178 rfl (lv_at hl 0 rfl) ?_
      refine m_get X V 6 0 2 rfl gin_6 rfl (by decide) rfl gm_425 (v := .ref (bd 3)) rfl dX8_onStack_179 ?_
      refine lv_aload_n hx hb dX8_onStack_182 rfl (lv_at hl 0 rfl) ?_
      refine m_get X V 6 0 4 rfl gin_6 rfl (by decide) rfl gm_427 (v := .int (v 0)) rfl dX8_onStack_183 ?_
      refine lv_iload_n hx hb dX8_onStack_186 rfl (lv_at hl 2 rfl) ?_
      refine lv_iadd hx hb dX8_onStack_187 ?_
      refine lv_aload_n hx hb dX8_onStack_188 rfl (lv_at hl 0 rfl) ?_
      refine m_get X V 6 0 2 rfl gin_6 rfl (by decide) rfl gm_425 (v := .ref (bd 3)) rfl dX8_onStack_189 ?_
      refine lv_aload_n hx hb dX8_onStack_192 rfl (lv_at hl 0 rfl) ?_
      refine m_get X V 6 0 4 rfl gin_6 rfl (by decide) rfl gm_427 (v := .int (v 0)) rfl dX8_onStack_193 ?_
      refine lv_iload_n hx hb dX8_onStack_196 rfl (lv_at hl 1 rfl) ?_
      refine lv_isub hx hb dX8_onStack_197 ?_
      refine lv_iload_n hx hb dX8_onStack_198 rfl (lv_at hl 2 rfl) ?_
      refine lv_iadd hx hb dX8_onStack_199 ?_
      refine m_iald X V 3 rfl (by have f_3 : ¬ Int32.toInt x1 ≤ Int32.toInt k3 := fun q => c_175 (Int32.le_iff_toInt_le.mpr q); have e_5 : Int32.toInt ((v 0) - x1) = Int32.toInt (v 0) - Int32.toInt x1 := ti_sub (by omega) (by omega); have e_6 : Int32.toInt (((v 0) - x1) + k3) = Int32.toInt ((v 0) - x1) + Int32.toInt k3 := ti_add (by omega) (by omega); rw [vp_in_iff]; omega) dX8_onStack_200 ?_
      refine m_iast X V (ws' := (wR cB cI bd v qm ql (upd qs (Int32.toNatClampNeg ((v 0) + k3)) (qs (Int32.toNatClampNeg (((v 0) - x1) + k3)))) qk qd qn qe qf qo qt qi qy)) 3 rfl (by have f_3 : ¬ Int32.toInt x1 ≤ Int32.toInt k3 := fun q => c_175 (Int32.le_iff_toInt_le.mpr q); have e_5 : Int32.toInt ((v 0) + k3) = Int32.toInt (v 0) + Int32.toInt k3 := ti_add (by omega) (by omega); rw [vp_in_iff]; omega) dX8_onStack_201 rfl (fun H locs V => ?_)
      refine lv_iinc (v := (k3 + 1)) (lv' := [(3, .int (k3 + 1)), (0, .ref (bd 0)), (1, .int x1)]) hx hb dX8_onStack_202 hl (k := 2) rfl rfl (by decide) rfl (fun ls hl => ?_)
      refine lv_goto (tgt := 173) hx hb dX8_onStack_205 (by decide) ?_
      rw [show pX8_onStack_lp173 x1 (n_ + 1) v qs qt k3 = pX8_onStack_lp173 x1 n_ v (upd qs (Int32.toNatClampNeg ((v 0) + k3)) (qs (Int32.toNatClampNeg (((v 0) - x1) + k3)))) qt (k3 + 1) from by rw [pX8_onStack_lp173, if_neg c_175]]
      exact ih v (upd qs (Int32.toNatClampNeg ((v 0) + k3)) (qs (Int32.toNatClampNeg (((v 0) - x1) + k3)))) qt (k3 + 1) _ _ _ (show 0 ≤ Int32.toInt (k3 + 1) by have f_3 : ¬ Int32.toInt x1 ≤ Int32.toInt k3 := fun q => c_175 (Int32.le_iff_toInt_le.mpr q); have e_4 : Int32.toInt 1 = 1 := rfl; have e_5 : Int32.toInt (k3 + 1) = Int32.toInt k3 + Int32.toInt 1 := ti_add (by omega) (by omega); omega) (show 0 ≤ Int32.toInt x1 ∧ Int32.toInt x1 ≤ Int32.toInt (v 0) ∧ Int32.toInt (v 0) + Int32.toInt x1 ≤ 40 by have f_3 : ¬ Int32.toInt x1 ≤ Int32.toInt k3 := fun q => c_175 (Int32.le_iff_toInt_le.mpr q); have e_4 : Int32.toInt 1 = 1 := rfl; have e_5 : Int32.toInt (k3 + 1) = Int32.toInt k3 + Int32.toInt 1 := ti_add (by omega) (by omega); omega) (ms_up c_175 hm) V (lv_sub hl [1, 2, 0] rfl)
set_option maxRecDepth 100000 in
set_option maxHeartbeats 4000000 in
theorem kX8_onStack (l : Launch) (D : va_G) (cB cI : ClassId) (bd : Nat → Nat) (v : Nat → Int32) (qm : Nat → Int32) (ql : Nat → Int32) (qs : Nat → Int32) (qk : Nat → Int32) (qd : Nat → Int32) (qn : Nat → Int32) (qe : Nat → Int32) (qf : Nat → Int32) (qo : Nat → Int32) (qt : Nat → Int32) (qi : Nat → Int32) (qy : Nat → Int32) (x1 : Int32) (x2 : Int32) (ht : 0 ≤ Int32.toInt (v 0) ∧ Int32.toInt (v 0) ≤ 40) : mM l D cB cI yX8_onStack cX8_onStack 4 (some .int) { frames := 1, cells := 0, slots := 0, locals := 25 } [.ref (bd 0), .int x1, .int x2] (wR cB cI bd v qm ql qs qk qd qn qe qf qo qt qi qy) (some ((pX8_onStack v qs qt x1 x2).1)) (wR cB cI bd ((pX8_onStack v qs qt x1 x2).2.1) qm ql ((pX8_onStack v qs qt x1 x2).2.2.1) qk qd qn qe qf qo ((pX8_onStack v qs qt x1 x2).2.2.2) qi qy) := by
  refine m_start (by decide +kernel) (Nat.le_of_ble_eq_true rfl) ?_
  intro p e s m below meth c A ls X hr hk V hl
  have X : mCx p s m _ c cX8_onStack 4 RX8 D cB cI := X
  have hx := X.1.1
  have hb := X.1.2.1
  have hl : lv_has ls 4 [(0, .ref (bd 0)), (1, .int x1), (2, .int x2)] := hl
  refine lv_aload_n hx hb dX8_onStack_0 rfl (lv_at hl 0 rfl) ?_
  refine m_get X V 6 0 11 rfl gin_6 rfl (by decide) rfl gm_434 (v := .int (v 7)) rfl dX8_onStack_1 ?_
  by_cases w_4_80 : (v 7) = 80
  · refine lv_tableIn (off := 32) (tgt := 36) hx hb dX8_onStack_4 (by rw [w_4_80]; decide) (by rw [w_4_80]; decide) (by rw [w_4_80]; rfl) (by decide) ?_
    refine lv_aload_n hx hb dX8_onStack_36 rfl (lv_at hl 0 rfl) ?_
    refine lv_aload_n hx hb dX8_onStack_37 rfl (lv_at hl 0 rfl) ?_
    refine m_get X V 6 0 4 rfl gin_6 rfl (by decide) rfl gm_427 (v := .int (v 0)) rfl dX8_onStack_38 ?_
    obtain ⟨u41, hu41⟩ : ∃ u, pX8_gives v (v 0) = u := ⟨_, rfl⟩
    have hM := kX8_gives l D cB cI bd v qm ql qs qk qd qn qe qf qo qt qi qy (v 0)
    rw [hu41] at hM
    refine m_VA X V (w1 := (wR cB cI bd u41.2 qm ql qs qk qd qn qe qf qo qt qi qy)) (rest := []) (st1 := [.int u41.1]) hM okX8_gives gm_553 gm_704 gm_552 ⟨⟨rfl, rfl⟩, ⟨by decide, by decide⟩, Nat.zero_le _, Nat.zero_le _⟩ rfl rfl (wR_fst _ _ _ _ _ _ _ _ _ _ _ _ _ _ _ _) (wR_fst _ _ _ _ _ _ _ _ _ _ _ _ _ _ _ _) rfl hl.1 (Nat.le_of_ble_eq_true rfl) dX8_onStack_41 rfl rfl (fun H locs V => ?_)
    have e9 : pX8_onStack v qs qt x1 x2 = (u41.1, u41.2, qs, qt) := by rw [pX8_onStack, if_pos w_4_80, hu41, mLet_eq]
    exact m_iret X hr hk V (by rw [e9]) (by rw [e9]) dX8_onStack_44
  by_cases w_4_81 : (v 7) = 81
  · refine lv_tableIn (off := 41) (tgt := 45) hx hb dX8_onStack_4 (by rw [w_4_81]; decide) (by rw [w_4_81]; decide) (by rw [w_4_81]; rfl) (by decide) ?_
    refine lv_iload_n hx hb dX8_onStack_45 rfl (lv_at hl 1 rfl) ?_
    refine lv_if_lt (tgt := 57) hx hb dX8_onStack_46 (by decide) (fun c_46 => ?_) (fun c_46 => ?_)
    · refine lv_iconst (v := 4) hx hb dX8_onStack_57 (by decide) ?_
      refine lv_goto (tgt := 78) hx hb dX8_onStack_58 (by decide) ?_
      have e9 : pX8_onStack v qs qt x1 x2 = (4, v, qs, qt) := by rw [pX8_onStack, if_neg w_4_80, if_pos w_4_81, if_pos c_46]
      exact m_iret X hr hk V (by rw [e9]) (by rw [e9]) dX8_onStack_78
    · refine lv_iload_n hx hb dX8_onStack_49 rfl (lv_at hl 1 rfl) ?_
      refine lv_aload_n hx hb dX8_onStack_50 rfl (lv_at hl 0 rfl) ?_
      refine m_get X V 6 0 4 rfl gin_6 rfl (by decide) rfl gm_427 (v := .int (v 0)) rfl dX8_onStack_51 ?_
      refine lv_icmp_lt (tgt := 61) hx hb dX8_onStack_54 (by decide) (fun c_54 => ?_) (fun c_54 => ?_)
      · refine lv_aload_n hx hb dX8_onStack_61 rfl (lv_at hl 0 rfl) ?_
        refine lv_aload_n hx hb dX8_onStack_62 rfl (lv_at hl 0 rfl) ?_
        refine m_get X V 6 0 2 rfl gin_6 rfl (by decide) rfl gm_425 (v := .ref (bd 3)) rfl dX8_onStack_63 ?_
        refine lv_aload_n hx hb dX8_onStack_66 rfl (lv_at hl 0 rfl) ?_
        refine m_get X V 6 0 4 rfl gin_6 rfl (by decide) rfl gm_427 (v := .int (v 0)) rfl dX8_onStack_67 ?_
        refine lv_iconst (v := 1) hx hb dX8_onStack_70 (by decide) ?_
        refine lv_isub hx hb dX8_onStack_71 ?_
        refine lv_iload_n hx hb dX8_onStack_72 rfl (lv_at hl 1 rfl) ?_
        refine lv_isub hx hb dX8_onStack_73 ?_
        refine m_iald X V 3 rfl (by have e_2 : Int32.toInt 0 = 0 := rfl; have f_3 : ¬ Int32.toInt x1 < Int32.toInt 0 := fun q => c_46 (Int32.lt_iff_toInt_lt.mpr q); have f_5 : Int32.toInt x1 < Int32.toInt (v 0) := Int32.lt_iff_toInt_lt.mp c_54; have e_6 : Int32.toInt 1 = 1 := rfl; have e_7 : Int32.toInt ((v 0) - 1) = Int32.toInt (v 0) - Int32.toInt 1 := ti_sub (by omega) (by omega); have e_8 : Int32.toInt (((v 0) - 1) - x1) = Int32.toInt ((v 0) - 1) - Int32.toInt x1 := ti_sub (by omega) (by omega); rw [vp_in_iff]; omega) dX8_onStack_74 ?_
        obtain ⟨u75, hu75⟩ : ∃ u, pX8_gives v (qs (Int32.toNatClampNeg (((v 0) - 1) - x1))) = u := ⟨_, rfl⟩
        have hM := kX8_gives l D cB cI bd v qm ql qs qk qd qn qe qf qo qt qi qy (qs (Int32.toNatClampNeg (((v 0) - 1) - x1)))
        rw [hu75] at hM
        refine m_VA X V (w1 := (wR cB cI bd u75.2 qm ql qs qk qd qn qe qf qo qt qi qy)) (rest := []) (st1 := [.int u75.1]) hM okX8_gives gm_553 gm_704 gm_552 ⟨⟨rfl, rfl⟩, ⟨by decide, by decide⟩, Nat.zero_le _, Nat.zero_le _⟩ rfl rfl (wR_fst _ _ _ _ _ _ _ _ _ _ _ _ _ _ _ _) (wR_fst _ _ _ _ _ _ _ _ _ _ _ _ _ _ _ _) rfl hl.1 (Nat.le_of_ble_eq_true rfl) dX8_onStack_75 rfl rfl (fun H locs V => ?_)
        have e9 : pX8_onStack v qs qt x1 x2 = (u75.1, u75.2, qs, qt) := by rw [pX8_onStack, if_neg w_4_80, if_pos w_4_81, if_neg c_46, if_pos c_54, hu75, mLet_eq]
        exact m_iret X hr hk V (by rw [e9]) (by rw [e9]) dX8_onStack_78
      · refine lv_iconst (v := 4) hx hb dX8_onStack_57 (by decide) ?_
        refine lv_goto (tgt := 78) hx hb dX8_onStack_58 (by decide) ?_
        have e9 : pX8_onStack v qs qt x1 x2 = (4, v, qs, qt) := by rw [pX8_onStack, if_neg w_4_80, if_pos w_4_81, if_neg c_46, if_neg c_54]
        exact m_iret X hr hk V (by rw [e9]) (by rw [e9]) dX8_onStack_78
  by_cases w_4_82 : (v 7) = 82
  · refine lv_tableIn (off := 75) (tgt := 79) hx hb dX8_onStack_4 (by rw [w_4_82]; decide) (by rw [w_4_82]; decide) (by rw [w_4_82]; rfl) (by decide) ?_
    refine lv_aload_n hx hb dX8_onStack_79 rfl (lv_at hl 0 rfl) ?_
    refine m_get X V 6 0 4 rfl gin_6 rfl (by decide) rfl gm_427 (v := .int (v 0)) rfl dX8_onStack_80 ?_
    refine lv_iconst (v := 2) hx hb dX8_onStack_83 (by decide) ?_
    refine lv_icmp_ge (tgt := 89) hx hb dX8_onStack_84 (by decide) (fun c_84 => ?_) (fun c_84 => ?_)
    · refine lv_aload_n hx hb dX8_onStack_89 rfl (lv_at hl 0 rfl) ?_
      refine m_get X V 6 0 2 rfl gin_6 rfl (by decide) rfl gm_425 (v := .ref (bd 3)) rfl dX8_onStack_90 ?_
      refine lv_aload_n hx hb dX8_onStack_93 rfl (lv_at hl 0 rfl) ?_
      refine m_get X V 6 0 4 rfl gin_6 rfl (by decide) rfl gm_427 (v := .int (v 0)) rfl dX8_onStack_94 ?_
      refine lv_iconst (v := 1) hx hb dX8_onStack_97 (by decide) ?_
      refine lv_isub hx hb dX8_onStack_98 ?_
      refine m_iald X V 3 rfl (by have e_1 : Int32.toInt 2 = 2 := rfl; have f_3 : Int32.toInt 2 ≤ Int32.toInt (v 0) := Int32.le_iff_toInt_le.mp c_84; have e_4 : Int32.toInt 1 = 1 := rfl; have e_5 : Int32.toInt ((v 0) - 1) = Int32.toInt (v 0) - Int32.toInt 1 := ti_sub (by omega) (by omega); rw [vp_in_iff]; omega) dX8_onStack_99 ?_
      refine lv_istore_n (lv' := [(3, .int (qs (Int32.toNatClampNeg ((v 0) - 1)))), (0, .ref (bd 0)), (1, .int x1), (2, .int x2)]) hx hb dX8_onStack_100 rfl hl (by decide) rfl (fun ls hl => ?_)
      refine lv_aload_n hx hb dX8_onStack_101 rfl (lv_at hl 1 rfl) ?_
      refine m_get X V 6 0 2 rfl gin_6 rfl (by decide) rfl gm_425 (v := .ref (bd 3)) rfl dX8_onStack_102 ?_
      refine lv_aload_n hx hb dX8_onStack_105 rfl (lv_at hl 1 rfl) ?_
      refine m_get X V 6 0 4 rfl gin_6 rfl (by decide) rfl gm_427 (v := .int (v 0)) rfl dX8_onStack_106 ?_
      refine lv_iconst (v := 1) hx hb dX8_onStack_109 (by decide) ?_
      refine lv_isub hx hb dX8_onStack_110 ?_
      refine lv_aload_n hx hb dX8_onStack_111 rfl (lv_at hl 1 rfl) ?_
      refine m_get X V 6 0 2 rfl gin_6 rfl (by decide) rfl gm_425 (v := .ref (bd 3)) rfl dX8_onStack_112 ?_
      refine lv_aload_n hx hb dX8_onStack_115 rfl (lv_at hl 1 rfl) ?_
      refine m_get X V 6 0 4 rfl gin_6 rfl (by decide) rfl gm_427 (v := .int (v 0)) rfl dX8_onStack_116 ?_
      refine lv_iconst (v := 2) hx hb dX8_onStack_119 (by decide) ?_
      refine lv_isub hx hb dX8_onStack_120 ?_
      refine m_iald X V 3 rfl (by have e_1 : Int32.toInt 2 = 2 := rfl; have f_3 : Int32.toInt 2 ≤ Int32.toInt (v 0) := Int32.le_iff_toInt_le.mp c_84; have e_4 : Int32.toInt ((v 0) - 2) = Int32.toInt (v 0) - Int32.toInt 2 := ti_sub (by omega) (by omega); rw [vp_in_iff]; omega) dX8_onStack_121 ?_
      refine m_iast X V (ws' := (wR cB cI bd v qm ql (upd qs (Int32.toNatClampNeg ((v 0) - 1)) (qs (Int32.toNatClampNeg ((v 0) - 2)))) qk qd qn qe qf qo qt qi qy)) 3 rfl (by have e_1 : Int32.toInt 2 = 2 := rfl; have f_3 : Int32.toInt 2 ≤ Int32.toInt (v 0) := Int32.le_iff_toInt_le.mp c_84; have e_4 : Int32.toInt 1 = 1 := rfl; have e_5 : Int32.toInt ((v 0) - 1) = Int32.toInt (v 0) - Int32.toInt 1 := ti_sub (by omega) (by omega); rw [vp_in_iff]; omega) dX8_onStack_122 rfl (fun H locs V => ?_)
      refine lv_aload_n hx hb dX8_onStack_123 rfl (lv_at hl 1 rfl) ?_
      refine m_get X V 6 0 2 rfl gin_6 rfl (by decide) rfl gm_425 (v := .ref (bd 3)) rfl dX8_onStack_124 ?_
      refine lv_aload_n hx hb dX8_onStack_127 rfl (lv_at hl 1 rfl) ?_
      refine m_get X V 6 0 4 rfl gin_6 rfl (by decide) rfl gm_427 (v := .int (v 0)) rfl dX8_onStack_128 ?_
      refine lv_iconst (v := 2) hx hb dX8_onStack_131 (by decide) ?_
      refine lv_isub hx hb dX8_onStack_132 ?_
      refine lv_iload_n hx hb dX8_onStack_133 rfl (lv_at hl 0 rfl) ?_
      refine m_iast X V (ws' := (wR cB cI bd v qm ql (upd (upd qs (Int32.toNatClampNeg ((v 0) - 1)) (qs (Int32.toNatClampNeg ((v 0) - 2)))) (Int32.toNatClampNeg ((v 0) - 2)) (qs (Int32.toNatClampNeg ((v 0) - 1)))) qk qd qn qe qf qo qt qi qy)) 3 rfl (by have e_1 : Int32.toInt 2 = 2 := rfl; have f_3 : Int32.toInt 2 ≤ Int32.toInt (v 0) := Int32.le_iff_toInt_le.mp c_84; have e_4 : Int32.toInt ((v 0) - 2) = Int32.toInt (v 0) - Int32.toInt 2 := ti_sub (by omega) (by omega); rw [vp_in_iff]; omega) dX8_onStack_134 rfl (fun H locs V => ?_)
      refine lv_iconst (v := 0) hx hb dX8_onStack_135 (by decide) ?_
      have e9 : pX8_onStack v qs qt x1 x2 = (0, v, (upd (upd qs (Int32.toNatClampNeg ((v 0) - 1)) (qs (Int32.toNatClampNeg ((v 0) - 2)))) (Int32.toNatClampNeg ((v 0) - 2)) (qs (Int32.toNatClampNeg ((v 0) - 1)))), qt) := by rw [pX8_onStack, if_neg w_4_80, if_neg w_4_81, if_pos w_4_82, if_pos c_84]
      exact m_iret X hr hk V (by rw [e9]) (by rw [e9]) dX8_onStack_136
    · refine lv_iconst (v := 4) hx hb dX8_onStack_87 (by decide) ?_
      have e9 : pX8_onStack v qs qt x1 x2 = (4, v, qs, qt) := by rw [pX8_onStack, if_neg w_4_80, if_neg w_4_81, if_pos w_4_82, if_neg c_84]
      exact m_iret X hr hk V (by rw [e9]) (by rw [e9]) dX8_onStack_88
  by_cases w_4_83 : (v 7) = 83
  · refine lv_tableIn (off := 133) (tgt := 137) hx hb dX8_onStack_4 (by rw [w_4_83]; decide) (by rw [w_4_83]; decide) (by rw [w_4_83]; rfl) (by decide) ?_
    refine lv_aload_n hx hb dX8_onStack_137 rfl (lv_at hl 0 rfl) ?_
    refine lv_iload_n hx hb dX8_onStack_138 rfl (lv_at hl 1 rfl) ?_
    refine lv_iload_n hx hb dX8_onStack_139 rfl (lv_at hl 2 rfl) ?_
    obtain ⟨u140, hu140⟩ : ∃ u, pX8_turns v qs qt x1 x2 = u := ⟨_, rfl⟩
    have hM := kX8_turns l D cB cI bd v qm ql qs qk qd qn qe qf qo qt qi qy x1 x2 (show 0 ≤ Int32.toInt (v 0) ∧ Int32.toInt (v 0) ≤ 40 by omega)
    rw [hu140] at hM
    refine m_VA X V (w1 := (wR cB cI bd v qm ql u140.2.1 qk qd qn qe qf qo u140.2.2 qi qy)) (rest := []) (st1 := [.int u140.1]) hM okX8_turns gm_575 gm_709 gm_574 ⟨⟨rfl, rfl⟩, ⟨by decide, by decide⟩, Nat.zero_le _, Nat.zero_le _⟩ rfl rfl (wR_fst _ _ _ _ _ _ _ _ _ _ _ _ _ _ _ _) (wR_fst _ _ _ _ _ _ _ _ _ _ _ _ _ _ _ _) rfl hl.1 (Nat.le_of_ble_eq_true rfl) dX8_onStack_140 rfl rfl (fun H locs V => ?_)
    have e9 : pX8_onStack v qs qt x1 x2 = (u140.1, v, u140.2.1, u140.2.2) := by rw [pX8_onStack, if_neg w_4_80, if_neg w_4_81, if_neg w_4_82, if_pos w_4_83, hu140, mLet_eq]
    exact m_iret X hr hk V (by rw [e9]) (by rw [e9]) dX8_onStack_143
  have o_0 := lv_neT w_4_80 (a := 80) rfl
  have o_1 := lv_neT w_4_81 (a := 81) rfl
  have o_2 := lv_neT w_4_82 (a := 82) rfl
  have o_3 := lv_neT w_4_83 (a := 83) rfl
  refine m_tabD (x := (v 7)) (tgt := 144) hx hb dX8_onStack_4 (by decide) (by decide) (fun off h1 h2 h3 => by omega) ?_
  refine lv_iload_n hx hb dX8_onStack_144 rfl (lv_at hl 1 rfl) ?_
  refine lv_if_lt (tgt := 156) hx hb dX8_onStack_145 (by decide) (fun c_145 => ?_) (fun c_145 => ?_)
  · refine lv_iconst (v := 4) hx hb dX8_onStack_156 (by decide) ?_
    have e9 : pX8_onStack v qs qt x1 x2 = (4, v, qs, qt) := by rw [pX8_onStack, if_neg w_4_80, if_neg w_4_81, if_neg w_4_82, if_neg w_4_83, if_pos c_145]
    exact m_iret X hr hk V (by rw [e9]) (by rw [e9]) dX8_onStack_157
  · refine lv_iload_n hx hb dX8_onStack_148 rfl (lv_at hl 1 rfl) ?_
    refine lv_aload_n hx hb dX8_onStack_149 rfl (lv_at hl 0 rfl) ?_
    refine m_get X V 6 0 4 rfl gin_6 rfl (by decide) rfl gm_427 (v := .int (v 0)) rfl dX8_onStack_150 ?_
    refine lv_icmp_le (tgt := 158) hx hb dX8_onStack_153 (by decide) (fun c_153 => ?_) (fun c_153 => ?_)
    · refine lv_aload_n hx hb dX8_onStack_158 rfl (lv_at hl 0 rfl) ?_
      refine m_get X V 6 0 4 rfl gin_6 rfl (by decide) rfl gm_427 (v := .int (v 0)) rfl dX8_onStack_159 ?_
      refine lv_iload_n hx hb dX8_onStack_162 rfl (lv_at hl 1 rfl) ?_
      refine lv_iadd hx hb dX8_onStack_163 ?_
      refine lv_bipush (v := 40) hx hb dX8_onStack_164 (by decide) ?_
      refine lv_icmp_le (tgt := 171) hx hb dX8_onStack_166 (by decide) (fun c_166 => ?_) (fun c_166 => ?_)
      · refine lv_iconst (v := 0) hx hb dX8_onStack_171 (by decide) ?_
        refine lv_istore_n (lv' := [(3, .int 0), (0, .ref (bd 0)), (1, .int x1), (2, .int x2)]) hx hb dX8_onStack_172 rfl hl (by decide) rfl (fun ls hl => ?_)
        rw [show pX8_onStack v qs qt x1 x2 = (pX8_onStack_lp173 x1 ((Int32.toInt x1 - Int32.toInt 0).toNat + 1) v qs qt 0) from by rw [pX8_onStack, if_neg w_4_80, if_neg w_4_81, if_neg w_4_82, if_neg w_4_83, if_neg c_145, if_pos c_153, if_pos c_166]]
        exact lpX8_onStack_173 X hr hk  ((Int32.toInt x1 - Int32.toInt 0).toNat + 1) v qs qt 0 _ _ _ (show 0 ≤ Int32.toInt 0 by have z_0 : Int32.toInt 0 = 0 := rfl; omega) (show 0 ≤ Int32.toInt x1 ∧ Int32.toInt x1 ≤ Int32.toInt (v 0) ∧ Int32.toInt (v 0) + Int32.toInt x1 ≤ 40 by have e_2 : Int32.toInt 0 = 0 := rfl; have f_3 : ¬ Int32.toInt x1 < Int32.toInt 0 := fun q => c_145 (Int32.lt_iff_toInt_lt.mpr q); have f_5 : Int32.toInt x1 ≤ Int32.toInt (v 0) := Int32.le_iff_toInt_le.mp c_153; have e_6 : Int32.toInt ((v 0) + x1) = Int32.toInt (v 0) + Int32.toInt x1 := ti_add (by omega) (by omega); have e_7 : Int32.toInt 40 = 40 := rfl; have f_8 : Int32.toInt ((v 0) + x1) ≤ Int32.toInt 40 := Int32.le_iff_toInt_le.mp c_166; omega) (Nat.lt_succ_self _) V (lv_sub hl [1, 2, 0] rfl)
      · refine lv_iconst (v := 5) hx hb dX8_onStack_169 (by decide) ?_
        have e9 : pX8_onStack v qs qt x1 x2 = (5, v, qs, qt) := by rw [pX8_onStack, if_neg w_4_80, if_neg w_4_81, if_neg w_4_82, if_neg w_4_83, if_neg c_145, if_pos c_153, if_neg c_166]
        exact m_iret X hr hk V (by rw [e9]) (by rw [e9]) dX8_onStack_170
    · refine lv_iconst (v := 4) hx hb dX8_onStack_156 (by decide) ?_
      have e9 : pX8_onStack v qs qt x1 x2 = (4, v, qs, qt) := by rw [pX8_onStack, if_neg w_4_80, if_neg w_4_81, if_neg w_4_82, if_neg w_4_83, if_neg c_145, if_neg c_153]
      exact m_iret X hr hk V (by rw [e9]) (by rw [e9]) dX8_onStack_157
def pX8_does (v : Nat → Int32) (qm : Nat → Int32) (qs : Nat → Int32) (qo : Nat → Int32) (qt : Nat → Int32) (qi : Nat → Int32) (qy : Nat → Int32) : Int32 × (Nat → Int32) × (Nat → Int32) × (Nat → Int32) × (Nat → Int32) × (Nat → Int32) × (Nat → Int32) := (if (v 7) < 16 then (if (v 7) < 32 then (if (v 7) < 72 then (if (v 7) < 80 then (if (v 7) = 49 then (0, (upd (upd v 3 1) 15 (qo (Int32.toNatClampNeg 0))), qm, qs, qt, qi, qy) else (if (v 7) = 64 then (mLet (pX8_gives v (qo (Int32.toNatClampNeg 0))) (fun (u291 : Int32 × (Nat → Int32)) => (u291.1, u291.2, qm, qs, qt, qi, qy))) else (if (v 7) = 65 then (mLet (pX8_gives v (qo (Int32.toNatClampNeg 0))) (fun (u291 : Int32 × (Nat → Int32)) => (u291.1, u291.2, qm, qs, qt, qi, qy))) else (if (v 7) = 66 then (mLet (pX8_gives v (qo (Int32.toNatClampNeg 0))) (fun (u291 : Int32 × (Nat → Int32)) => (u291.1, u291.2, qm, qs, qt, qi, qy))) else (if (v 7) = 68 then (mLet (pX8_gives v ((Int32.toInt16 (qo (Int32.toNatClampNeg 0))).toInt32)) (fun (u298 : Int32 × (Nat → Int32)) => (u298.1, u298.2, qm, qs, qt, qi, qy))) else (if (v 7) = 69 then (mLet (pX8_gives v ((Int32.toInt8 (qo (Int32.toNatClampNeg 0))).toInt32)) (fun (u305 : Int32 × (Nat → Int32)) => (u305.1, u305.2, qm, qs, qt, qi, qy))) else (if (v 7) = 256 then (mLet (pX8_gestalt (qo (Int32.toNatClampNeg 0))) (fun (u311 : Int32) => (mLet (pX8_gives v u311) (fun (u314 : Int32 × (Nat → Int32)) => (u314.1, u314.2, qm, qs, qt, qi, qy))))) else (if (v 7) = 260 then (0, (upd v 14 (qo (Int32.toNatClampNeg 0))), qm, qs, qt, qi, qy) else (if (v 7) = 288 then (0, (upd (upd v 3 1) 15 0), qm, qs, qt, qi, qy) else (if (v 7) = 336 then (mLet (pX8_searches v qm qo qy) (fun (u326 : Int32 × (Nat → Int32) × (Nat → Int32)) => (u326.1, u326.2.1, qm, qs, qt, qi, u326.2.2))) else (if (v 7) = 337 then (mLet (pX8_searches v qm qo qy) (fun (u326 : Int32 × (Nat → Int32) × (Nat → Int32)) => (u326.1, u326.2.1, qm, qs, qt, qi, u326.2.2))) else (if (v 7) = 368 then (mLet (pX8_clears v qm (qo (Int32.toNatClampNeg 0)) (qo (Int32.toNatClampNeg 1))) (fun (u333 : Int32 × (Nat → Int32)) => (u333.1, v, u333.2, qs, qt, qi, qy))) else (if (v 7) = 369 then (mLet (pX8_copies v qm qi (qo (Int32.toNatClampNeg 0)) (qo (Int32.toNatClampNeg 1)) (qo (Int32.toNatClampNeg 2))) (fun (u341 : Int32 × (Nat → Int32) × (Nat → Int32)) => (u341.1, v, u341.2.1, qs, qt, u341.2.2, qy))) else (0, v, qm, qs, qt, qi, qy)))))))))))))) else (if 84 < (v 7) then (if (v 7) = 49 then (0, (upd (upd v 3 1) 15 (qo (Int32.toNatClampNeg 0))), qm, qs, qt, qi, qy) else (if (v 7) = 64 then (mLet (pX8_gives v (qo (Int32.toNatClampNeg 0))) (fun (u291 : Int32 × (Nat → Int32)) => (u291.1, u291.2, qm, qs, qt, qi, qy))) else (if (v 7) = 65 then (mLet (pX8_gives v (qo (Int32.toNatClampNeg 0))) (fun (u291 : Int32 × (Nat → Int32)) => (u291.1, u291.2, qm, qs, qt, qi, qy))) else (if (v 7) = 66 then (mLet (pX8_gives v (qo (Int32.toNatClampNeg 0))) (fun (u291 : Int32 × (Nat → Int32)) => (u291.1, u291.2, qm, qs, qt, qi, qy))) else (if (v 7) = 68 then (mLet (pX8_gives v ((Int32.toInt16 (qo (Int32.toNatClampNeg 0))).toInt32)) (fun (u298 : Int32 × (Nat → Int32)) => (u298.1, u298.2, qm, qs, qt, qi, qy))) else (if (v 7) = 69 then (mLet (pX8_gives v ((Int32.toInt8 (qo (Int32.toNatClampNeg 0))).toInt32)) (fun (u305 : Int32 × (Nat → Int32)) => (u305.1, u305.2, qm, qs, qt, qi, qy))) else (if (v 7) = 256 then (mLet (pX8_gestalt (qo (Int32.toNatClampNeg 0))) (fun (u311 : Int32) => (mLet (pX8_gives v u311) (fun (u314 : Int32 × (Nat → Int32)) => (u314.1, u314.2, qm, qs, qt, qi, qy))))) else (if (v 7) = 260 then (0, (upd v 14 (qo (Int32.toNatClampNeg 0))), qm, qs, qt, qi, qy) else (if (v 7) = 288 then (0, (upd (upd v 3 1) 15 0), qm, qs, qt, qi, qy) else (if (v 7) = 336 then (mLet (pX8_searches v qm qo qy) (fun (u326 : Int32 × (Nat → Int32) × (Nat → Int32)) => (u326.1, u326.2.1, qm, qs, qt, qi, u326.2.2))) else (if (v 7) = 337 then (mLet (pX8_searches v qm qo qy) (fun (u326 : Int32 × (Nat → Int32) × (Nat → Int32)) => (u326.1, u326.2.1, qm, qs, qt, qi, u326.2.2))) else (if (v 7) = 368 then (mLet (pX8_clears v qm (qo (Int32.toNatClampNeg 0)) (qo (Int32.toNatClampNeg 1))) (fun (u333 : Int32 × (Nat → Int32)) => (u333.1, v, u333.2, qs, qt, qi, qy))) else (if (v 7) = 369 then (mLet (pX8_copies v qm qi (qo (Int32.toNatClampNeg 0)) (qo (Int32.toNatClampNeg 1)) (qo (Int32.toNatClampNeg 2))) (fun (u341 : Int32 × (Nat → Int32) × (Nat → Int32)) => (u341.1, v, u341.2.1, qs, qt, u341.2.2, qy))) else (0, v, qm, qs, qt, qi, qy)))))))))))))) else (mLet (pX8_onStack v qs qt (qo (Int32.toNatClampNeg 0)) (qo (Int32.toNatClampNeg 1))) (fun (u140 : Int32 × (Nat → Int32) × (Nat → Int32) × (Nat → Int32)) => (u140.1, u140.2.1, qm, u140.2.2.1, u140.2.2.2, qi, qy))))) else (if 79 < (v 7) then (if (v 7) < 80 then (if (v 7) = 49 then (0, (upd (upd v 3 1) 15 (qo (Int32.toNatClampNeg 0))), qm, qs, qt, qi, qy) else (if (v 7) = 64 then (mLet (pX8_gives v (qo (Int32.toNatClampNeg 0))) (fun (u291 : Int32 × (Nat → Int32)) => (u291.1, u291.2, qm, qs, qt, qi, qy))) else (if (v 7) = 65 then (mLet (pX8_gives v (qo (Int32.toNatClampNeg 0))) (fun (u291 : Int32 × (Nat → Int32)) => (u291.1, u291.2, qm, qs, qt, qi, qy))) else (if (v 7) = 66 then (mLet (pX8_gives v (qo (Int32.toNatClampNeg 0))) (fun (u291 : Int32 × (Nat → Int32)) => (u291.1, u291.2, qm, qs, qt, qi, qy))) else (if (v 7) = 68 then (mLet (pX8_gives v ((Int32.toInt16 (qo (Int32.toNatClampNeg 0))).toInt32)) (fun (u298 : Int32 × (Nat → Int32)) => (u298.1, u298.2, qm, qs, qt, qi, qy))) else (if (v 7) = 69 then (mLet (pX8_gives v ((Int32.toInt8 (qo (Int32.toNatClampNeg 0))).toInt32)) (fun (u305 : Int32 × (Nat → Int32)) => (u305.1, u305.2, qm, qs, qt, qi, qy))) else (if (v 7) = 256 then (mLet (pX8_gestalt (qo (Int32.toNatClampNeg 0))) (fun (u311 : Int32) => (mLet (pX8_gives v u311) (fun (u314 : Int32 × (Nat → Int32)) => (u314.1, u314.2, qm, qs, qt, qi, qy))))) else (if (v 7) = 260 then (0, (upd v 14 (qo (Int32.toNatClampNeg 0))), qm, qs, qt, qi, qy) else (if (v 7) = 288 then (0, (upd (upd v 3 1) 15 0), qm, qs, qt, qi, qy) else (if (v 7) = 336 then (mLet (pX8_searches v qm qo qy) (fun (u326 : Int32 × (Nat → Int32) × (Nat → Int32)) => (u326.1, u326.2.1, qm, qs, qt, qi, u326.2.2))) else (if (v 7) = 337 then (mLet (pX8_searches v qm qo qy) (fun (u326 : Int32 × (Nat → Int32) × (Nat → Int32)) => (u326.1, u326.2.1, qm, qs, qt, qi, u326.2.2))) else (if (v 7) = 368 then (mLet (pX8_clears v qm (qo (Int32.toNatClampNeg 0)) (qo (Int32.toNatClampNeg 1))) (fun (u333 : Int32 × (Nat → Int32)) => (u333.1, v, u333.2, qs, qt, qi, qy))) else (if (v 7) = 369 then (mLet (pX8_copies v qm qi (qo (Int32.toNatClampNeg 0)) (qo (Int32.toNatClampNeg 1)) (qo (Int32.toNatClampNeg 2))) (fun (u341 : Int32 × (Nat → Int32) × (Nat → Int32)) => (u341.1, v, u341.2.1, qs, qt, u341.2.2, qy))) else (0, v, qm, qs, qt, qi, qy)))))))))))))) else (if 84 < (v 7) then (if (v 7) = 49 then (0, (upd (upd v 3 1) 15 (qo (Int32.toNatClampNeg 0))), qm, qs, qt, qi, qy) else (if (v 7) = 64 then (mLet (pX8_gives v (qo (Int32.toNatClampNeg 0))) (fun (u291 : Int32 × (Nat → Int32)) => (u291.1, u291.2, qm, qs, qt, qi, qy))) else (if (v 7) = 65 then (mLet (pX8_gives v (qo (Int32.toNatClampNeg 0))) (fun (u291 : Int32 × (Nat → Int32)) => (u291.1, u291.2, qm, qs, qt, qi, qy))) else (if (v 7) = 66 then (mLet (pX8_gives v (qo (Int32.toNatClampNeg 0))) (fun (u291 : Int32 × (Nat → Int32)) => (u291.1, u291.2, qm, qs, qt, qi, qy))) else (if (v 7) = 68 then (mLet (pX8_gives v ((Int32.toInt16 (qo (Int32.toNatClampNeg 0))).toInt32)) (fun (u298 : Int32 × (Nat → Int32)) => (u298.1, u298.2, qm, qs, qt, qi, qy))) else (if (v 7) = 69 then (mLet (pX8_gives v ((Int32.toInt8 (qo (Int32.toNatClampNeg 0))).toInt32)) (fun (u305 : Int32 × (Nat → Int32)) => (u305.1, u305.2, qm, qs, qt, qi, qy))) else (if (v 7) = 256 then (mLet (pX8_gestalt (qo (Int32.toNatClampNeg 0))) (fun (u311 : Int32) => (mLet (pX8_gives v u311) (fun (u314 : Int32 × (Nat → Int32)) => (u314.1, u314.2, qm, qs, qt, qi, qy))))) else (if (v 7) = 260 then (0, (upd v 14 (qo (Int32.toNatClampNeg 0))), qm, qs, qt, qi, qy) else (if (v 7) = 288 then (0, (upd (upd v 3 1) 15 0), qm, qs, qt, qi, qy) else (if (v 7) = 336 then (mLet (pX8_searches v qm qo qy) (fun (u326 : Int32 × (Nat → Int32) × (Nat → Int32)) => (u326.1, u326.2.1, qm, qs, qt, qi, u326.2.2))) else (if (v 7) = 337 then (mLet (pX8_searches v qm qo qy) (fun (u326 : Int32 × (Nat → Int32) × (Nat → Int32)) => (u326.1, u326.2.1, qm, qs, qt, qi, u326.2.2))) else (if (v 7) = 368 then (mLet (pX8_clears v qm (qo (Int32.toNatClampNeg 0)) (qo (Int32.toNatClampNeg 1))) (fun (u333 : Int32 × (Nat → Int32)) => (u333.1, v, u333.2, qs, qt, qi, qy))) else (if (v 7) = 369 then (mLet (pX8_copies v qm qi (qo (Int32.toNatClampNeg 0)) (qo (Int32.toNatClampNeg 1)) (qo (Int32.toNatClampNeg 2))) (fun (u341 : Int32 × (Nat → Int32) × (Nat → Int32)) => (u341.1, v, u341.2.1, qs, qt, u341.2.2, qy))) else (0, v, qm, qs, qt, qi, qy)))))))))))))) else (mLet (pX8_onStack v qs qt (qo (Int32.toNatClampNeg 0)) (qo (Int32.toNatClampNeg 1))) (fun (u140 : Int32 × (Nat → Int32) × (Nat → Int32) × (Nat → Int32)) => (u140.1, u140.2.1, qm, u140.2.2.1, u140.2.2.2, qi, qy))))) else (mLet (pX8_items v qm (qo (Int32.toNatClampNeg 0)) (qo (Int32.toNatClampNeg 1)) (qo (Int32.toNatClampNeg 2))) (fun (u115 : Int32 × (Nat → Int32) × (Nat → Int32)) => (u115.1, u115.2.1, u115.2.2, qs, qt, qi, qy))))) else (if 45 < (v 7) then (if (v 7) < 72 then (if (v 7) < 80 then (if (v 7) = 49 then (0, (upd (upd v 3 1) 15 (qo (Int32.toNatClampNeg 0))), qm, qs, qt, qi, qy) else (if (v 7) = 64 then (mLet (pX8_gives v (qo (Int32.toNatClampNeg 0))) (fun (u291 : Int32 × (Nat → Int32)) => (u291.1, u291.2, qm, qs, qt, qi, qy))) else (if (v 7) = 65 then (mLet (pX8_gives v (qo (Int32.toNatClampNeg 0))) (fun (u291 : Int32 × (Nat → Int32)) => (u291.1, u291.2, qm, qs, qt, qi, qy))) else (if (v 7) = 66 then (mLet (pX8_gives v (qo (Int32.toNatClampNeg 0))) (fun (u291 : Int32 × (Nat → Int32)) => (u291.1, u291.2, qm, qs, qt, qi, qy))) else (if (v 7) = 68 then (mLet (pX8_gives v ((Int32.toInt16 (qo (Int32.toNatClampNeg 0))).toInt32)) (fun (u298 : Int32 × (Nat → Int32)) => (u298.1, u298.2, qm, qs, qt, qi, qy))) else (if (v 7) = 69 then (mLet (pX8_gives v ((Int32.toInt8 (qo (Int32.toNatClampNeg 0))).toInt32)) (fun (u305 : Int32 × (Nat → Int32)) => (u305.1, u305.2, qm, qs, qt, qi, qy))) else (if (v 7) = 256 then (mLet (pX8_gestalt (qo (Int32.toNatClampNeg 0))) (fun (u311 : Int32) => (mLet (pX8_gives v u311) (fun (u314 : Int32 × (Nat → Int32)) => (u314.1, u314.2, qm, qs, qt, qi, qy))))) else (if (v 7) = 260 then (0, (upd v 14 (qo (Int32.toNatClampNeg 0))), qm, qs, qt, qi, qy) else (if (v 7) = 288 then (0, (upd (upd v 3 1) 15 0), qm, qs, qt, qi, qy) else (if (v 7) = 336 then (mLet (pX8_searches v qm qo qy) (fun (u326 : Int32 × (Nat → Int32) × (Nat → Int32)) => (u326.1, u326.2.1, qm, qs, qt, qi, u326.2.2))) else (if (v 7) = 337 then (mLet (pX8_searches v qm qo qy) (fun (u326 : Int32 × (Nat → Int32) × (Nat → Int32)) => (u326.1, u326.2.1, qm, qs, qt, qi, u326.2.2))) else (if (v 7) = 368 then (mLet (pX8_clears v qm (qo (Int32.toNatClampNeg 0)) (qo (Int32.toNatClampNeg 1))) (fun (u333 : Int32 × (Nat → Int32)) => (u333.1, v, u333.2, qs, qt, qi, qy))) else (if (v 7) = 369 then (mLet (pX8_copies v qm qi (qo (Int32.toNatClampNeg 0)) (qo (Int32.toNatClampNeg 1)) (qo (Int32.toNatClampNeg 2))) (fun (u341 : Int32 × (Nat → Int32) × (Nat → Int32)) => (u341.1, v, u341.2.1, qs, qt, u341.2.2, qy))) else (0, v, qm, qs, qt, qi, qy)))))))))))))) else (if 84 < (v 7) then (if (v 7) = 49 then (0, (upd (upd v 3 1) 15 (qo (Int32.toNatClampNeg 0))), qm, qs, qt, qi, qy) else (if (v 7) = 64 then (mLet (pX8_gives v (qo (Int32.toNatClampNeg 0))) (fun (u291 : Int32 × (Nat → Int32)) => (u291.1, u291.2, qm, qs, qt, qi, qy))) else (if (v 7) = 65 then (mLet (pX8_gives v (qo (Int32.toNatClampNeg 0))) (fun (u291 : Int32 × (Nat → Int32)) => (u291.1, u291.2, qm, qs, qt, qi, qy))) else (if (v 7) = 66 then (mLet (pX8_gives v (qo (Int32.toNatClampNeg 0))) (fun (u291 : Int32 × (Nat → Int32)) => (u291.1, u291.2, qm, qs, qt, qi, qy))) else (if (v 7) = 68 then (mLet (pX8_gives v ((Int32.toInt16 (qo (Int32.toNatClampNeg 0))).toInt32)) (fun (u298 : Int32 × (Nat → Int32)) => (u298.1, u298.2, qm, qs, qt, qi, qy))) else (if (v 7) = 69 then (mLet (pX8_gives v ((Int32.toInt8 (qo (Int32.toNatClampNeg 0))).toInt32)) (fun (u305 : Int32 × (Nat → Int32)) => (u305.1, u305.2, qm, qs, qt, qi, qy))) else (if (v 7) = 256 then (mLet (pX8_gestalt (qo (Int32.toNatClampNeg 0))) (fun (u311 : Int32) => (mLet (pX8_gives v u311) (fun (u314 : Int32 × (Nat → Int32)) => (u314.1, u314.2, qm, qs, qt, qi, qy))))) else (if (v 7) = 260 then (0, (upd v 14 (qo (Int32.toNatClampNeg 0))), qm, qs, qt, qi, qy) else (if (v 7) = 288 then (0, (upd (upd v 3 1) 15 0), qm, qs, qt, qi, qy) else (if (v 7) = 336 then (mLet (pX8_searches v qm qo qy) (fun (u326 : Int32 × (Nat → Int32) × (Nat → Int32)) => (u326.1, u326.2.1, qm, qs, qt, qi, u326.2.2))) else (if (v 7) = 337 then (mLet (pX8_searches v qm qo qy) (fun (u326 : Int32 × (Nat → Int32) × (Nat → Int32)) => (u326.1, u326.2.1, qm, qs, qt, qi, u326.2.2))) else (if (v 7) = 368 then (mLet (pX8_clears v qm (qo (Int32.toNatClampNeg 0)) (qo (Int32.toNatClampNeg 1))) (fun (u333 : Int32 × (Nat → Int32)) => (u333.1, v, u333.2, qs, qt, qi, qy))) else (if (v 7) = 369 then (mLet (pX8_copies v qm qi (qo (Int32.toNatClampNeg 0)) (qo (Int32.toNatClampNeg 1)) (qo (Int32.toNatClampNeg 2))) (fun (u341 : Int32 × (Nat → Int32) × (Nat → Int32)) => (u341.1, v, u341.2.1, qs, qt, u341.2.2, qy))) else (0, v, qm, qs, qt, qi, qy)))))))))))))) else (mLet (pX8_onStack v qs qt (qo (Int32.toNatClampNeg 0)) (qo (Int32.toNatClampNeg 1))) (fun (u140 : Int32 × (Nat → Int32) × (Nat → Int32) × (Nat → Int32)) => (u140.1, u140.2.1, qm, u140.2.2.1, u140.2.2.2, qi, qy))))) else (if 79 < (v 7) then (if (v 7) < 80 then (if (v 7) = 49 then (0, (upd (upd v 3 1) 15 (qo (Int32.toNatClampNeg 0))), qm, qs, qt, qi, qy) else (if (v 7) = 64 then (mLet (pX8_gives v (qo (Int32.toNatClampNeg 0))) (fun (u291 : Int32 × (Nat → Int32)) => (u291.1, u291.2, qm, qs, qt, qi, qy))) else (if (v 7) = 65 then (mLet (pX8_gives v (qo (Int32.toNatClampNeg 0))) (fun (u291 : Int32 × (Nat → Int32)) => (u291.1, u291.2, qm, qs, qt, qi, qy))) else (if (v 7) = 66 then (mLet (pX8_gives v (qo (Int32.toNatClampNeg 0))) (fun (u291 : Int32 × (Nat → Int32)) => (u291.1, u291.2, qm, qs, qt, qi, qy))) else (if (v 7) = 68 then (mLet (pX8_gives v ((Int32.toInt16 (qo (Int32.toNatClampNeg 0))).toInt32)) (fun (u298 : Int32 × (Nat → Int32)) => (u298.1, u298.2, qm, qs, qt, qi, qy))) else (if (v 7) = 69 then (mLet (pX8_gives v ((Int32.toInt8 (qo (Int32.toNatClampNeg 0))).toInt32)) (fun (u305 : Int32 × (Nat → Int32)) => (u305.1, u305.2, qm, qs, qt, qi, qy))) else (if (v 7) = 256 then (mLet (pX8_gestalt (qo (Int32.toNatClampNeg 0))) (fun (u311 : Int32) => (mLet (pX8_gives v u311) (fun (u314 : Int32 × (Nat → Int32)) => (u314.1, u314.2, qm, qs, qt, qi, qy))))) else (if (v 7) = 260 then (0, (upd v 14 (qo (Int32.toNatClampNeg 0))), qm, qs, qt, qi, qy) else (if (v 7) = 288 then (0, (upd (upd v 3 1) 15 0), qm, qs, qt, qi, qy) else (if (v 7) = 336 then (mLet (pX8_searches v qm qo qy) (fun (u326 : Int32 × (Nat → Int32) × (Nat → Int32)) => (u326.1, u326.2.1, qm, qs, qt, qi, u326.2.2))) else (if (v 7) = 337 then (mLet (pX8_searches v qm qo qy) (fun (u326 : Int32 × (Nat → Int32) × (Nat → Int32)) => (u326.1, u326.2.1, qm, qs, qt, qi, u326.2.2))) else (if (v 7) = 368 then (mLet (pX8_clears v qm (qo (Int32.toNatClampNeg 0)) (qo (Int32.toNatClampNeg 1))) (fun (u333 : Int32 × (Nat → Int32)) => (u333.1, v, u333.2, qs, qt, qi, qy))) else (if (v 7) = 369 then (mLet (pX8_copies v qm qi (qo (Int32.toNatClampNeg 0)) (qo (Int32.toNatClampNeg 1)) (qo (Int32.toNatClampNeg 2))) (fun (u341 : Int32 × (Nat → Int32) × (Nat → Int32)) => (u341.1, v, u341.2.1, qs, qt, u341.2.2, qy))) else (0, v, qm, qs, qt, qi, qy)))))))))))))) else (if 84 < (v 7) then (if (v 7) = 49 then (0, (upd (upd v 3 1) 15 (qo (Int32.toNatClampNeg 0))), qm, qs, qt, qi, qy) else (if (v 7) = 64 then (mLet (pX8_gives v (qo (Int32.toNatClampNeg 0))) (fun (u291 : Int32 × (Nat → Int32)) => (u291.1, u291.2, qm, qs, qt, qi, qy))) else (if (v 7) = 65 then (mLet (pX8_gives v (qo (Int32.toNatClampNeg 0))) (fun (u291 : Int32 × (Nat → Int32)) => (u291.1, u291.2, qm, qs, qt, qi, qy))) else (if (v 7) = 66 then (mLet (pX8_gives v (qo (Int32.toNatClampNeg 0))) (fun (u291 : Int32 × (Nat → Int32)) => (u291.1, u291.2, qm, qs, qt, qi, qy))) else (if (v 7) = 68 then (mLet (pX8_gives v ((Int32.toInt16 (qo (Int32.toNatClampNeg 0))).toInt32)) (fun (u298 : Int32 × (Nat → Int32)) => (u298.1, u298.2, qm, qs, qt, qi, qy))) else (if (v 7) = 69 then (mLet (pX8_gives v ((Int32.toInt8 (qo (Int32.toNatClampNeg 0))).toInt32)) (fun (u305 : Int32 × (Nat → Int32)) => (u305.1, u305.2, qm, qs, qt, qi, qy))) else (if (v 7) = 256 then (mLet (pX8_gestalt (qo (Int32.toNatClampNeg 0))) (fun (u311 : Int32) => (mLet (pX8_gives v u311) (fun (u314 : Int32 × (Nat → Int32)) => (u314.1, u314.2, qm, qs, qt, qi, qy))))) else (if (v 7) = 260 then (0, (upd v 14 (qo (Int32.toNatClampNeg 0))), qm, qs, qt, qi, qy) else (if (v 7) = 288 then (0, (upd (upd v 3 1) 15 0), qm, qs, qt, qi, qy) else (if (v 7) = 336 then (mLet (pX8_searches v qm qo qy) (fun (u326 : Int32 × (Nat → Int32) × (Nat → Int32)) => (u326.1, u326.2.1, qm, qs, qt, qi, u326.2.2))) else (if (v 7) = 337 then (mLet (pX8_searches v qm qo qy) (fun (u326 : Int32 × (Nat → Int32) × (Nat → Int32)) => (u326.1, u326.2.1, qm, qs, qt, qi, u326.2.2))) else (if (v 7) = 368 then (mLet (pX8_clears v qm (qo (Int32.toNatClampNeg 0)) (qo (Int32.toNatClampNeg 1))) (fun (u333 : Int32 × (Nat → Int32)) => (u333.1, v, u333.2, qs, qt, qi, qy))) else (if (v 7) = 369 then (mLet (pX8_copies v qm qi (qo (Int32.toNatClampNeg 0)) (qo (Int32.toNatClampNeg 1)) (qo (Int32.toNatClampNeg 2))) (fun (u341 : Int32 × (Nat → Int32) × (Nat → Int32)) => (u341.1, v, u341.2.1, qs, qt, u341.2.2, qy))) else (0, v, qm, qs, qt, qi, qy)))))))))))))) else (mLet (pX8_onStack v qs qt (qo (Int32.toNatClampNeg 0)) (qo (Int32.toNatClampNeg 1))) (fun (u140 : Int32 × (Nat → Int32) × (Nat → Int32) × (Nat → Int32)) => (u140.1, u140.2.1, qm, u140.2.2.1, u140.2.2.2, qi, qy))))) else (mLet (pX8_items v qm (qo (Int32.toNatClampNeg 0)) (qo (Int32.toNatClampNeg 1)) (qo (Int32.toNatClampNeg 2))) (fun (u115 : Int32 × (Nat → Int32) × (Nat → Int32)) => (u115.1, u115.2.1, u115.2.2, qs, qt, qi, qy))))) else (mLet (pX8_isSo (v 7) (qo (Int32.toNatClampNeg 0)) (qo (Int32.toNatClampNeg 1))) (fun (u70 : Int32) => (if u70 = 0 then (0, v, qm, qs, qt, qi, qy) else (mLet (pX8_branches v (qo (Int32.toNatClampNeg ((v 8) - 1)))) (fun (u88 : (Nat → Int32)) => (0, u88, qm, qs, qt, qi, qy)))))))) else (if 30 < (v 7) then (if (v 7) < 32 then (if (v 7) < 72 then (if (v 7) < 80 then (if (v 7) = 49 then (0, (upd (upd v 3 1) 15 (qo (Int32.toNatClampNeg 0))), qm, qs, qt, qi, qy) else (if (v 7) = 64 then (mLet (pX8_gives v (qo (Int32.toNatClampNeg 0))) (fun (u291 : Int32 × (Nat → Int32)) => (u291.1, u291.2, qm, qs, qt, qi, qy))) else (if (v 7) = 65 then (mLet (pX8_gives v (qo (Int32.toNatClampNeg 0))) (fun (u291 : Int32 × (Nat → Int32)) => (u291.1, u291.2, qm, qs, qt, qi, qy))) else (if (v 7) = 66 then (mLet (pX8_gives v (qo (Int32.toNatClampNeg 0))) (fun (u291 : Int32 × (Nat → Int32)) => (u291.1, u291.2, qm, qs, qt, qi, qy))) else (if (v 7) = 68 then (mLet (pX8_gives v ((Int32.toInt16 (qo (Int32.toNatClampNeg 0))).toInt32)) (fun (u298 : Int32 × (Nat → Int32)) => (u298.1, u298.2, qm, qs, qt, qi, qy))) else (if (v 7) = 69 then (mLet (pX8_gives v ((Int32.toInt8 (qo (Int32.toNatClampNeg 0))).toInt32)) (fun (u305 : Int32 × (Nat → Int32)) => (u305.1, u305.2, qm, qs, qt, qi, qy))) else (if (v 7) = 256 then (mLet (pX8_gestalt (qo (Int32.toNatClampNeg 0))) (fun (u311 : Int32) => (mLet (pX8_gives v u311) (fun (u314 : Int32 × (Nat → Int32)) => (u314.1, u314.2, qm, qs, qt, qi, qy))))) else (if (v 7) = 260 then (0, (upd v 14 (qo (Int32.toNatClampNeg 0))), qm, qs, qt, qi, qy) else (if (v 7) = 288 then (0, (upd (upd v 3 1) 15 0), qm, qs, qt, qi, qy) else (if (v 7) = 336 then (mLet (pX8_searches v qm qo qy) (fun (u326 : Int32 × (Nat → Int32) × (Nat → Int32)) => (u326.1, u326.2.1, qm, qs, qt, qi, u326.2.2))) else (if (v 7) = 337 then (mLet (pX8_searches v qm qo qy) (fun (u326 : Int32 × (Nat → Int32) × (Nat → Int32)) => (u326.1, u326.2.1, qm, qs, qt, qi, u326.2.2))) else (if (v 7) = 368 then (mLet (pX8_clears v qm (qo (Int32.toNatClampNeg 0)) (qo (Int32.toNatClampNeg 1))) (fun (u333 : Int32 × (Nat → Int32)) => (u333.1, v, u333.2, qs, qt, qi, qy))) else (if (v 7) = 369 then (mLet (pX8_copies v qm qi (qo (Int32.toNatClampNeg 0)) (qo (Int32.toNatClampNeg 1)) (qo (Int32.toNatClampNeg 2))) (fun (u341 : Int32 × (Nat → Int32) × (Nat → Int32)) => (u341.1, v, u341.2.1, qs, qt, u341.2.2, qy))) else (0, v, qm, qs, qt, qi, qy)))))))))))))) else (if 84 < (v 7) then (if (v 7) = 49 then (0, (upd (upd v 3 1) 15 (qo (Int32.toNatClampNeg 0))), qm, qs, qt, qi, qy) else (if (v 7) = 64 then (mLet (pX8_gives v (qo (Int32.toNatClampNeg 0))) (fun (u291 : Int32 × (Nat → Int32)) => (u291.1, u291.2, qm, qs, qt, qi, qy))) else (if (v 7) = 65 then (mLet (pX8_gives v (qo (Int32.toNatClampNeg 0))) (fun (u291 : Int32 × (Nat → Int32)) => (u291.1, u291.2, qm, qs, qt, qi, qy))) else (if (v 7) = 66 then (mLet (pX8_gives v (qo (Int32.toNatClampNeg 0))) (fun (u291 : Int32 × (Nat → Int32)) => (u291.1, u291.2, qm, qs, qt, qi, qy))) else (if (v 7) = 68 then (mLet (pX8_gives v ((Int32.toInt16 (qo (Int32.toNatClampNeg 0))).toInt32)) (fun (u298 : Int32 × (Nat → Int32)) => (u298.1, u298.2, qm, qs, qt, qi, qy))) else (if (v 7) = 69 then (mLet (pX8_gives v ((Int32.toInt8 (qo (Int32.toNatClampNeg 0))).toInt32)) (fun (u305 : Int32 × (Nat → Int32)) => (u305.1, u305.2, qm, qs, qt, qi, qy))) else (if (v 7) = 256 then (mLet (pX8_gestalt (qo (Int32.toNatClampNeg 0))) (fun (u311 : Int32) => (mLet (pX8_gives v u311) (fun (u314 : Int32 × (Nat → Int32)) => (u314.1, u314.2, qm, qs, qt, qi, qy))))) else (if (v 7) = 260 then (0, (upd v 14 (qo (Int32.toNatClampNeg 0))), qm, qs, qt, qi, qy) else (if (v 7) = 288 then (0, (upd (upd v 3 1) 15 0), qm, qs, qt, qi, qy) else (if (v 7) = 336 then (mLet (pX8_searches v qm qo qy) (fun (u326 : Int32 × (Nat → Int32) × (Nat → Int32)) => (u326.1, u326.2.1, qm, qs, qt, qi, u326.2.2))) else (if (v 7) = 337 then (mLet (pX8_searches v qm qo qy) (fun (u326 : Int32 × (Nat → Int32) × (Nat → Int32)) => (u326.1, u326.2.1, qm, qs, qt, qi, u326.2.2))) else (if (v 7) = 368 then (mLet (pX8_clears v qm (qo (Int32.toNatClampNeg 0)) (qo (Int32.toNatClampNeg 1))) (fun (u333 : Int32 × (Nat → Int32)) => (u333.1, v, u333.2, qs, qt, qi, qy))) else (if (v 7) = 369 then (mLet (pX8_copies v qm qi (qo (Int32.toNatClampNeg 0)) (qo (Int32.toNatClampNeg 1)) (qo (Int32.toNatClampNeg 2))) (fun (u341 : Int32 × (Nat → Int32) × (Nat → Int32)) => (u341.1, v, u341.2.1, qs, qt, u341.2.2, qy))) else (0, v, qm, qs, qt, qi, qy)))))))))))))) else (mLet (pX8_onStack v qs qt (qo (Int32.toNatClampNeg 0)) (qo (Int32.toNatClampNeg 1))) (fun (u140 : Int32 × (Nat → Int32) × (Nat → Int32) × (Nat → Int32)) => (u140.1, u140.2.1, qm, u140.2.2.1, u140.2.2.2, qi, qy))))) else (if 79 < (v 7) then (if (v 7) < 80 then (if (v 7) = 49 then (0, (upd (upd v 3 1) 15 (qo (Int32.toNatClampNeg 0))), qm, qs, qt, qi, qy) else (if (v 7) = 64 then (mLet (pX8_gives v (qo (Int32.toNatClampNeg 0))) (fun (u291 : Int32 × (Nat → Int32)) => (u291.1, u291.2, qm, qs, qt, qi, qy))) else (if (v 7) = 65 then (mLet (pX8_gives v (qo (Int32.toNatClampNeg 0))) (fun (u291 : Int32 × (Nat → Int32)) => (u291.1, u291.2, qm, qs, qt, qi, qy))) else (if (v 7) = 66 then (mLet (pX8_gives v (qo (Int32.toNatClampNeg 0))) (fun (u291 : Int32 × (Nat → Int32)) => (u291.1, u291.2, qm, qs, qt, qi, qy))) else (if (v 7) = 68 then (mLet (pX8_gives v ((Int32.toInt16 (qo (Int32.toNatClampNeg 0))).toInt32)) (fun (u298 : Int32 × (Nat → Int32)) => (u298.1, u298.2, qm, qs, qt, qi, qy))) else (if (v 7) = 69 then (mLet (pX8_gives v ((Int32.toInt8 (qo (Int32.toNatClampNeg 0))).toInt32)) (fun (u305 : Int32 × (Nat → Int32)) => (u305.1, u305.2, qm, qs, qt, qi, qy))) else (if (v 7) = 256 then (mLet (pX8_gestalt (qo (Int32.toNatClampNeg 0))) (fun (u311 : Int32) => (mLet (pX8_gives v u311) (fun (u314 : Int32 × (Nat → Int32)) => (u314.1, u314.2, qm, qs, qt, qi, qy))))) else (if (v 7) = 260 then (0, (upd v 14 (qo (Int32.toNatClampNeg 0))), qm, qs, qt, qi, qy) else (if (v 7) = 288 then (0, (upd (upd v 3 1) 15 0), qm, qs, qt, qi, qy) else (if (v 7) = 336 then (mLet (pX8_searches v qm qo qy) (fun (u326 : Int32 × (Nat → Int32) × (Nat → Int32)) => (u326.1, u326.2.1, qm, qs, qt, qi, u326.2.2))) else (if (v 7) = 337 then (mLet (pX8_searches v qm qo qy) (fun (u326 : Int32 × (Nat → Int32) × (Nat → Int32)) => (u326.1, u326.2.1, qm, qs, qt, qi, u326.2.2))) else (if (v 7) = 368 then (mLet (pX8_clears v qm (qo (Int32.toNatClampNeg 0)) (qo (Int32.toNatClampNeg 1))) (fun (u333 : Int32 × (Nat → Int32)) => (u333.1, v, u333.2, qs, qt, qi, qy))) else (if (v 7) = 369 then (mLet (pX8_copies v qm qi (qo (Int32.toNatClampNeg 0)) (qo (Int32.toNatClampNeg 1)) (qo (Int32.toNatClampNeg 2))) (fun (u341 : Int32 × (Nat → Int32) × (Nat → Int32)) => (u341.1, v, u341.2.1, qs, qt, u341.2.2, qy))) else (0, v, qm, qs, qt, qi, qy)))))))))))))) else (if 84 < (v 7) then (if (v 7) = 49 then (0, (upd (upd v 3 1) 15 (qo (Int32.toNatClampNeg 0))), qm, qs, qt, qi, qy) else (if (v 7) = 64 then (mLet (pX8_gives v (qo (Int32.toNatClampNeg 0))) (fun (u291 : Int32 × (Nat → Int32)) => (u291.1, u291.2, qm, qs, qt, qi, qy))) else (if (v 7) = 65 then (mLet (pX8_gives v (qo (Int32.toNatClampNeg 0))) (fun (u291 : Int32 × (Nat → Int32)) => (u291.1, u291.2, qm, qs, qt, qi, qy))) else (if (v 7) = 66 then (mLet (pX8_gives v (qo (Int32.toNatClampNeg 0))) (fun (u291 : Int32 × (Nat → Int32)) => (u291.1, u291.2, qm, qs, qt, qi, qy))) else (if (v 7) = 68 then (mLet (pX8_gives v ((Int32.toInt16 (qo (Int32.toNatClampNeg 0))).toInt32)) (fun (u298 : Int32 × (Nat → Int32)) => (u298.1, u298.2, qm, qs, qt, qi, qy))) else (if (v 7) = 69 then (mLet (pX8_gives v ((Int32.toInt8 (qo (Int32.toNatClampNeg 0))).toInt32)) (fun (u305 : Int32 × (Nat → Int32)) => (u305.1, u305.2, qm, qs, qt, qi, qy))) else (if (v 7) = 256 then (mLet (pX8_gestalt (qo (Int32.toNatClampNeg 0))) (fun (u311 : Int32) => (mLet (pX8_gives v u311) (fun (u314 : Int32 × (Nat → Int32)) => (u314.1, u314.2, qm, qs, qt, qi, qy))))) else (if (v 7) = 260 then (0, (upd v 14 (qo (Int32.toNatClampNeg 0))), qm, qs, qt, qi, qy) else (if (v 7) = 288 then (0, (upd (upd v 3 1) 15 0), qm, qs, qt, qi, qy) else (if (v 7) = 336 then (mLet (pX8_searches v qm qo qy) (fun (u326 : Int32 × (Nat → Int32) × (Nat → Int32)) => (u326.1, u326.2.1, qm, qs, qt, qi, u326.2.2))) else (if (v 7) = 337 then (mLet (pX8_searches v qm qo qy) (fun (u326 : Int32 × (Nat → Int32) × (Nat → Int32)) => (u326.1, u326.2.1, qm, qs, qt, qi, u326.2.2))) else (if (v 7) = 368 then (mLet (pX8_clears v qm (qo (Int32.toNatClampNeg 0)) (qo (Int32.toNatClampNeg 1))) (fun (u333 : Int32 × (Nat → Int32)) => (u333.1, v, u333.2, qs, qt, qi, qy))) else (if (v 7) = 369 then (mLet (pX8_copies v qm qi (qo (Int32.toNatClampNeg 0)) (qo (Int32.toNatClampNeg 1)) (qo (Int32.toNatClampNeg 2))) (fun (u341 : Int32 × (Nat → Int32) × (Nat → Int32)) => (u341.1, v, u341.2.1, qs, qt, u341.2.2, qy))) else (0, v, qm, qs, qt, qi, qy)))))))))))))) else (mLet (pX8_onStack v qs qt (qo (Int32.toNatClampNeg 0)) (qo (Int32.toNatClampNeg 1))) (fun (u140 : Int32 × (Nat → Int32) × (Nat → Int32) × (Nat → Int32)) => (u140.1, u140.2.1, qm, u140.2.2.1, u140.2.2.2, qi, qy))))) else (mLet (pX8_items v qm (qo (Int32.toNatClampNeg 0)) (qo (Int32.toNatClampNeg 1)) (qo (Int32.toNatClampNeg 2))) (fun (u115 : Int32 × (Nat → Int32) × (Nat → Int32)) => (u115.1, u115.2.1, u115.2.2, qs, qt, qi, qy))))) else (if 45 < (v 7) then (if (v 7) < 72 then (if (v 7) < 80 then (if (v 7) = 49 then (0, (upd (upd v 3 1) 15 (qo (Int32.toNatClampNeg 0))), qm, qs, qt, qi, qy) else (if (v 7) = 64 then (mLet (pX8_gives v (qo (Int32.toNatClampNeg 0))) (fun (u291 : Int32 × (Nat → Int32)) => (u291.1, u291.2, qm, qs, qt, qi, qy))) else (if (v 7) = 65 then (mLet (pX8_gives v (qo (Int32.toNatClampNeg 0))) (fun (u291 : Int32 × (Nat → Int32)) => (u291.1, u291.2, qm, qs, qt, qi, qy))) else (if (v 7) = 66 then (mLet (pX8_gives v (qo (Int32.toNatClampNeg 0))) (fun (u291 : Int32 × (Nat → Int32)) => (u291.1, u291.2, qm, qs, qt, qi, qy))) else (if (v 7) = 68 then (mLet (pX8_gives v ((Int32.toInt16 (qo (Int32.toNatClampNeg 0))).toInt32)) (fun (u298 : Int32 × (Nat → Int32)) => (u298.1, u298.2, qm, qs, qt, qi, qy))) else (if (v 7) = 69 then (mLet (pX8_gives v ((Int32.toInt8 (qo (Int32.toNatClampNeg 0))).toInt32)) (fun (u305 : Int32 × (Nat → Int32)) => (u305.1, u305.2, qm, qs, qt, qi, qy))) else (if (v 7) = 256 then (mLet (pX8_gestalt (qo (Int32.toNatClampNeg 0))) (fun (u311 : Int32) => (mLet (pX8_gives v u311) (fun (u314 : Int32 × (Nat → Int32)) => (u314.1, u314.2, qm, qs, qt, qi, qy))))) else (if (v 7) = 260 then (0, (upd v 14 (qo (Int32.toNatClampNeg 0))), qm, qs, qt, qi, qy) else (if (v 7) = 288 then (0, (upd (upd v 3 1) 15 0), qm, qs, qt, qi, qy) else (if (v 7) = 336 then (mLet (pX8_searches v qm qo qy) (fun (u326 : Int32 × (Nat → Int32) × (Nat → Int32)) => (u326.1, u326.2.1, qm, qs, qt, qi, u326.2.2))) else (if (v 7) = 337 then (mLet (pX8_searches v qm qo qy) (fun (u326 : Int32 × (Nat → Int32) × (Nat → Int32)) => (u326.1, u326.2.1, qm, qs, qt, qi, u326.2.2))) else (if (v 7) = 368 then (mLet (pX8_clears v qm (qo (Int32.toNatClampNeg 0)) (qo (Int32.toNatClampNeg 1))) (fun (u333 : Int32 × (Nat → Int32)) => (u333.1, v, u333.2, qs, qt, qi, qy))) else (if (v 7) = 369 then (mLet (pX8_copies v qm qi (qo (Int32.toNatClampNeg 0)) (qo (Int32.toNatClampNeg 1)) (qo (Int32.toNatClampNeg 2))) (fun (u341 : Int32 × (Nat → Int32) × (Nat → Int32)) => (u341.1, v, u341.2.1, qs, qt, u341.2.2, qy))) else (0, v, qm, qs, qt, qi, qy)))))))))))))) else (if 84 < (v 7) then (if (v 7) = 49 then (0, (upd (upd v 3 1) 15 (qo (Int32.toNatClampNeg 0))), qm, qs, qt, qi, qy) else (if (v 7) = 64 then (mLet (pX8_gives v (qo (Int32.toNatClampNeg 0))) (fun (u291 : Int32 × (Nat → Int32)) => (u291.1, u291.2, qm, qs, qt, qi, qy))) else (if (v 7) = 65 then (mLet (pX8_gives v (qo (Int32.toNatClampNeg 0))) (fun (u291 : Int32 × (Nat → Int32)) => (u291.1, u291.2, qm, qs, qt, qi, qy))) else (if (v 7) = 66 then (mLet (pX8_gives v (qo (Int32.toNatClampNeg 0))) (fun (u291 : Int32 × (Nat → Int32)) => (u291.1, u291.2, qm, qs, qt, qi, qy))) else (if (v 7) = 68 then (mLet (pX8_gives v ((Int32.toInt16 (qo (Int32.toNatClampNeg 0))).toInt32)) (fun (u298 : Int32 × (Nat → Int32)) => (u298.1, u298.2, qm, qs, qt, qi, qy))) else (if (v 7) = 69 then (mLet (pX8_gives v ((Int32.toInt8 (qo (Int32.toNatClampNeg 0))).toInt32)) (fun (u305 : Int32 × (Nat → Int32)) => (u305.1, u305.2, qm, qs, qt, qi, qy))) else (if (v 7) = 256 then (mLet (pX8_gestalt (qo (Int32.toNatClampNeg 0))) (fun (u311 : Int32) => (mLet (pX8_gives v u311) (fun (u314 : Int32 × (Nat → Int32)) => (u314.1, u314.2, qm, qs, qt, qi, qy))))) else (if (v 7) = 260 then (0, (upd v 14 (qo (Int32.toNatClampNeg 0))), qm, qs, qt, qi, qy) else (if (v 7) = 288 then (0, (upd (upd v 3 1) 15 0), qm, qs, qt, qi, qy) else (if (v 7) = 336 then (mLet (pX8_searches v qm qo qy) (fun (u326 : Int32 × (Nat → Int32) × (Nat → Int32)) => (u326.1, u326.2.1, qm, qs, qt, qi, u326.2.2))) else (if (v 7) = 337 then (mLet (pX8_searches v qm qo qy) (fun (u326 : Int32 × (Nat → Int32) × (Nat → Int32)) => (u326.1, u326.2.1, qm, qs, qt, qi, u326.2.2))) else (if (v 7) = 368 then (mLet (pX8_clears v qm (qo (Int32.toNatClampNeg 0)) (qo (Int32.toNatClampNeg 1))) (fun (u333 : Int32 × (Nat → Int32)) => (u333.1, v, u333.2, qs, qt, qi, qy))) else (if (v 7) = 369 then (mLet (pX8_copies v qm qi (qo (Int32.toNatClampNeg 0)) (qo (Int32.toNatClampNeg 1)) (qo (Int32.toNatClampNeg 2))) (fun (u341 : Int32 × (Nat → Int32) × (Nat → Int32)) => (u341.1, v, u341.2.1, qs, qt, u341.2.2, qy))) else (0, v, qm, qs, qt, qi, qy)))))))))))))) else (mLet (pX8_onStack v qs qt (qo (Int32.toNatClampNeg 0)) (qo (Int32.toNatClampNeg 1))) (fun (u140 : Int32 × (Nat → Int32) × (Nat → Int32) × (Nat → Int32)) => (u140.1, u140.2.1, qm, u140.2.2.1, u140.2.2.2, qi, qy))))) else (if 79 < (v 7) then (if (v 7) < 80 then (if (v 7) = 49 then (0, (upd (upd v 3 1) 15 (qo (Int32.toNatClampNeg 0))), qm, qs, qt, qi, qy) else (if (v 7) = 64 then (mLet (pX8_gives v (qo (Int32.toNatClampNeg 0))) (fun (u291 : Int32 × (Nat → Int32)) => (u291.1, u291.2, qm, qs, qt, qi, qy))) else (if (v 7) = 65 then (mLet (pX8_gives v (qo (Int32.toNatClampNeg 0))) (fun (u291 : Int32 × (Nat → Int32)) => (u291.1, u291.2, qm, qs, qt, qi, qy))) else (if (v 7) = 66 then (mLet (pX8_gives v (qo (Int32.toNatClampNeg 0))) (fun (u291 : Int32 × (Nat → Int32)) => (u291.1, u291.2, qm, qs, qt, qi, qy))) else (if (v 7) = 68 then (mLet (pX8_gives v ((Int32.toInt16 (qo (Int32.toNatClampNeg 0))).toInt32)) (fun (u298 : Int32 × (Nat → Int32)) => (u298.1, u298.2, qm, qs, qt, qi, qy))) else (if (v 7) = 69 then (mLet (pX8_gives v ((Int32.toInt8 (qo (Int32.toNatClampNeg 0))).toInt32)) (fun (u305 : Int32 × (Nat → Int32)) => (u305.1, u305.2, qm, qs, qt, qi, qy))) else (if (v 7) = 256 then (mLet (pX8_gestalt (qo (Int32.toNatClampNeg 0))) (fun (u311 : Int32) => (mLet (pX8_gives v u311) (fun (u314 : Int32 × (Nat → Int32)) => (u314.1, u314.2, qm, qs, qt, qi, qy))))) else (if (v 7) = 260 then (0, (upd v 14 (qo (Int32.toNatClampNeg 0))), qm, qs, qt, qi, qy) else (if (v 7) = 288 then (0, (upd (upd v 3 1) 15 0), qm, qs, qt, qi, qy) else (if (v 7) = 336 then (mLet (pX8_searches v qm qo qy) (fun (u326 : Int32 × (Nat → Int32) × (Nat → Int32)) => (u326.1, u326.2.1, qm, qs, qt, qi, u326.2.2))) else (if (v 7) = 337 then (mLet (pX8_searches v qm qo qy) (fun (u326 : Int32 × (Nat → Int32) × (Nat → Int32)) => (u326.1, u326.2.1, qm, qs, qt, qi, u326.2.2))) else (if (v 7) = 368 then (mLet (pX8_clears v qm (qo (Int32.toNatClampNeg 0)) (qo (Int32.toNatClampNeg 1))) (fun (u333 : Int32 × (Nat → Int32)) => (u333.1, v, u333.2, qs, qt, qi, qy))) else (if (v 7) = 369 then (mLet (pX8_copies v qm qi (qo (Int32.toNatClampNeg 0)) (qo (Int32.toNatClampNeg 1)) (qo (Int32.toNatClampNeg 2))) (fun (u341 : Int32 × (Nat → Int32) × (Nat → Int32)) => (u341.1, v, u341.2.1, qs, qt, u341.2.2, qy))) else (0, v, qm, qs, qt, qi, qy)))))))))))))) else (if 84 < (v 7) then (if (v 7) = 49 then (0, (upd (upd v 3 1) 15 (qo (Int32.toNatClampNeg 0))), qm, qs, qt, qi, qy) else (if (v 7) = 64 then (mLet (pX8_gives v (qo (Int32.toNatClampNeg 0))) (fun (u291 : Int32 × (Nat → Int32)) => (u291.1, u291.2, qm, qs, qt, qi, qy))) else (if (v 7) = 65 then (mLet (pX8_gives v (qo (Int32.toNatClampNeg 0))) (fun (u291 : Int32 × (Nat → Int32)) => (u291.1, u291.2, qm, qs, qt, qi, qy))) else (if (v 7) = 66 then (mLet (pX8_gives v (qo (Int32.toNatClampNeg 0))) (fun (u291 : Int32 × (Nat → Int32)) => (u291.1, u291.2, qm, qs, qt, qi, qy))) else (if (v 7) = 68 then (mLet (pX8_gives v ((Int32.toInt16 (qo (Int32.toNatClampNeg 0))).toInt32)) (fun (u298 : Int32 × (Nat → Int32)) => (u298.1, u298.2, qm, qs, qt, qi, qy))) else (if (v 7) = 69 then (mLet (pX8_gives v ((Int32.toInt8 (qo (Int32.toNatClampNeg 0))).toInt32)) (fun (u305 : Int32 × (Nat → Int32)) => (u305.1, u305.2, qm, qs, qt, qi, qy))) else (if (v 7) = 256 then (mLet (pX8_gestalt (qo (Int32.toNatClampNeg 0))) (fun (u311 : Int32) => (mLet (pX8_gives v u311) (fun (u314 : Int32 × (Nat → Int32)) => (u314.1, u314.2, qm, qs, qt, qi, qy))))) else (if (v 7) = 260 then (0, (upd v 14 (qo (Int32.toNatClampNeg 0))), qm, qs, qt, qi, qy) else (if (v 7) = 288 then (0, (upd (upd v 3 1) 15 0), qm, qs, qt, qi, qy) else (if (v 7) = 336 then (mLet (pX8_searches v qm qo qy) (fun (u326 : Int32 × (Nat → Int32) × (Nat → Int32)) => (u326.1, u326.2.1, qm, qs, qt, qi, u326.2.2))) else (if (v 7) = 337 then (mLet (pX8_searches v qm qo qy) (fun (u326 : Int32 × (Nat → Int32) × (Nat → Int32)) => (u326.1, u326.2.1, qm, qs, qt, qi, u326.2.2))) else (if (v 7) = 368 then (mLet (pX8_clears v qm (qo (Int32.toNatClampNeg 0)) (qo (Int32.toNatClampNeg 1))) (fun (u333 : Int32 × (Nat → Int32)) => (u333.1, v, u333.2, qs, qt, qi, qy))) else (if (v 7) = 369 then (mLet (pX8_copies v qm qi (qo (Int32.toNatClampNeg 0)) (qo (Int32.toNatClampNeg 1)) (qo (Int32.toNatClampNeg 2))) (fun (u341 : Int32 × (Nat → Int32) × (Nat → Int32)) => (u341.1, v, u341.2.1, qs, qt, u341.2.2, qy))) else (0, v, qm, qs, qt, qi, qy)))))))))))))) else (mLet (pX8_onStack v qs qt (qo (Int32.toNatClampNeg 0)) (qo (Int32.toNatClampNeg 1))) (fun (u140 : Int32 × (Nat → Int32) × (Nat → Int32) × (Nat → Int32)) => (u140.1, u140.2.1, qm, u140.2.2.1, u140.2.2.2, qi, qy))))) else (mLet (pX8_items v qm (qo (Int32.toNatClampNeg 0)) (qo (Int32.toNatClampNeg 1)) (qo (Int32.toNatClampNeg 2))) (fun (u115 : Int32 × (Nat → Int32) × (Nat → Int32)) => (u115.1, u115.2.1, u115.2.2, qs, qt, qi, qy))))) else (mLet (pX8_isSo (v 7) (qo (Int32.toNatClampNeg 0)) (qo (Int32.toNatClampNeg 1))) (fun (u70 : Int32) => (if u70 = 0 then (0, v, qm, qs, qt, qi, qy) else (mLet (pX8_branches v (qo (Int32.toNatClampNeg ((v 8) - 1)))) (fun (u88 : (Nat → Int32)) => (0, u88, qm, qs, qt, qi, qy)))))))) else (mLet (pX8_reckons v (qo (Int32.toNatClampNeg 0)) (qo (Int32.toNatClampNeg 1))) (fun (u42 : Int32 × (Nat → Int32)) => (u42.1, u42.2, qm, qs, qt, qi, qy)))))
theorem okX8_does : mOk yX8_does cX8_does 4 (some .int) 0 := ⟨gm_548, gm_8, by decide +kernel⟩
set_option maxRecDepth 100000 in
set_option maxHeartbeats 4000000 in
theorem kX8_does (l : Launch) (D : va_G) (cB cI : ClassId) (bd : Nat → Nat) (v : Nat → Int32) (qm : Nat → Int32) (ql : Nat → Int32) (qs : Nat → Int32) (qk : Nat → Int32) (qd : Nat → Int32) (qn : Nat → Int32) (qe : Nat → Int32) (qf : Nat → Int32) (qo : Nat → Int32) (qt : Nat → Int32) (qi : Nat → Int32) (qy : Nat → Int32) (hbr : 32 ≤ Int32.toInt (v 7) → Int32.toInt (v 7) ≤ 45 → 1 ≤ Int32.toInt (v 8) ∧ Int32.toInt (v 8) ≤ 8) (ht : 0 ≤ Int32.toInt (v 0) ∧ Int32.toInt (v 0) ≤ 40) : mM l D cB cI yX8_does cX8_does 4 (some .int) { frames := 3, cells := 0, slots := 0, locals := 77 } [.ref (bd 0)] (wR cB cI bd v qm ql qs qk qd qn qe qf qo qt qi qy) (some ((pX8_does v qm qs qo qt qi qy).1)) (wR cB cI bd ((pX8_does v qm qs qo qt qi qy).2.1) ((pX8_does v qm qs qo qt qi qy).2.2.1) ql ((pX8_does v qm qs qo qt qi qy).2.2.2.1) qk qd qn qe qf qo ((pX8_does v qm qs qo qt qi qy).2.2.2.2.1) ((pX8_does v qm qs qo qt qi qy).2.2.2.2.2.1) ((pX8_does v qm qs qo qt qi qy).2.2.2.2.2.2)) := by
  refine m_start (by decide +kernel) (Nat.le_of_ble_eq_true rfl) ?_
  intro p e s m below meth c A ls X hr hk V hl
  have X : mCx p s m _ c cX8_does 4 RX8 D cB cI := X
  have hx := X.1.1
  have hb := X.1.2.1
  have hl : lv_has ls 4 [(0, .ref (bd 0))] := hl
  refine lv_aload_n hx hb dX8_does_0 rfl (lv_at hl 0 rfl) ?_
  refine m_get X V 6 0 21 rfl gin_6 rfl (by decide) rfl gm_444 (v := .ref (bd 9)) rfl dX8_does_1 ?_
  refine lv_iconst (v := 0) hx hb dX8_does_4 (by decide) ?_
  refine m_iald X V 9 rfl (by rw [vp_in_iff]; decide) dX8_does_5 ?_
  refine lv_istore_n (lv' := [(1, .int (qo (Int32.toNatClampNeg 0))), (0, .ref (bd 0))]) hx hb dX8_does_6 rfl hl (by decide) rfl (fun ls hl => ?_)
  refine lv_aload_n hx hb dX8_does_7 rfl (lv_at hl 1 rfl) ?_
  refine m_get X V 6 0 21 rfl gin_6 rfl (by decide) rfl gm_444 (v := .ref (bd 9)) rfl dX8_does_8 ?_
  refine lv_iconst (v := 1) hx hb dX8_does_11 (by decide) ?_
  refine m_iald X V 9 rfl (by rw [vp_in_iff]; decide) dX8_does_12 ?_
  refine lv_istore_n (lv' := [(2, .int (qo (Int32.toNatClampNeg 1))), (1, .int (qo (Int32.toNatClampNeg 0))), (0, .ref (bd 0))]) hx hb dX8_does_13 rfl hl (by decide) rfl (fun ls hl => ?_)
  refine lv_aload_n hx hb dX8_does_14 rfl (lv_at hl 2 rfl) ?_
  refine m_get X V 6 0 21 rfl gin_6 rfl (by decide) rfl gm_444 (v := .ref (bd 9)) rfl dX8_does_15 ?_
  refine lv_iconst (v := 2) hx hb dX8_does_18 (by decide) ?_
  refine m_iald X V 9 rfl (by rw [vp_in_iff]; decide) dX8_does_19 ?_
  refine lv_istore_n (lv' := [(3, .int (qo (Int32.toNatClampNeg 2))), (2, .int (qo (Int32.toNatClampNeg 1))), (1, .int (qo (Int32.toNatClampNeg 0))), (0, .ref (bd 0))]) hx hb dX8_does_20 rfl hl (by decide) rfl (fun ls hl => ?_)
  refine lv_aload_n hx hb dX8_does_21 rfl (lv_at hl 3 rfl) ?_
  refine m_get X V 6 0 11 rfl gin_6 rfl (by decide) rfl gm_434 (v := .int (v 7)) rfl dX8_does_22 ?_
  refine lv_bipush (v := 16) hx hb dX8_does_25 (by decide) ?_
  refine lv_icmp_lt (tgt := 46) hx hb dX8_does_27 (by decide) (fun c_27 => ?_) (fun c_27 => ?_)
  · refine lv_aload_n hx hb dX8_does_46 rfl (lv_at hl 3 rfl) ?_
    refine m_get X V 6 0 11 rfl gin_6 rfl (by decide) rfl gm_434 (v := .int (v 7)) rfl dX8_does_47 ?_
    refine lv_bipush (v := 32) hx hb dX8_does_50 (by decide) ?_
    refine lv_icmp_lt (tgt := 93) hx hb dX8_does_52 (by decide) (fun c_52 => ?_) (fun c_52 => ?_)
    · refine lv_aload_n hx hb dX8_does_93 rfl (lv_at hl 3 rfl) ?_
      refine m_get X V 6 0 11 rfl gin_6 rfl (by decide) rfl gm_434 (v := .int (v 7)) rfl dX8_does_94 ?_
      refine lv_bipush (v := 72) hx hb dX8_does_97 (by decide) ?_
      refine lv_icmp_lt (tgt := 119) hx hb dX8_does_99 (by decide) (fun c_99 => ?_) (fun c_99 => ?_)
      · refine lv_aload_n hx hb dX8_does_119 rfl (lv_at hl 3 rfl) ?_
        refine m_get X V 6 0 11 rfl gin_6 rfl (by decide) rfl gm_434 (v := .int (v 7)) rfl dX8_does_120 ?_
        refine lv_bipush (v := 80) hx hb dX8_does_123 (by decide) ?_
        refine lv_icmp_lt (tgt := 144) hx hb dX8_does_125 (by decide) (fun c_125 => ?_) (fun c_125 => ?_)
        · refine lv_aload_n hx hb dX8_does_144 rfl (lv_at hl 3 rfl) ?_
          refine m_get X V 6 0 11 rfl gin_6 rfl (by decide) rfl gm_434 (v := .int (v 7)) rfl dX8_does_145 ?_
          by_cases w_148_49 : (v 7) = 49
          · refine lv_lookup (off := 116) (tgt := 264) hx hb dX8_does_148 (by decide +kernel) (by rw [w_148_49]; rfl) (by decide) ?_
            refine lv_aload_n hx hb dX8_does_264 rfl (lv_at hl 3 rfl) ?_
            refine lv_aload_n hx hb dX8_does_265 rfl (lv_at hl 3 rfl) ?_
            refine m_get X V 6 0 11 rfl gin_6 rfl (by decide) rfl gm_434 (v := .int (v 7)) rfl dX8_does_266 ?_
            refine lv_bipush (v := 49) hx hb dX8_does_269 (by decide) ?_
            refine lv_icmp_ne (tgt := 278) hx hb dX8_does_271 (by decide) (fun h => absurd w_148_49 h) (fun _ => ?_)
            refine lv_iload_n hx hb dX8_does_274 rfl (lv_at hl 2 rfl) ?_
            refine lv_goto (tgt := 279) hx hb dX8_does_275 (by decide) ?_
            refine m_put X V (ws' := (wR cB cI bd (upd v 15 (qo (Int32.toNatClampNeg 0))) qm ql qs qk qd qn qe qf qo qt qi qy)) 6 0 24 rfl gin_6 tyX8_ok nmX8 rfl (by decide) rfl gm_447 rfl rfl rfl (Nat.le_of_ble_eq_true rfl) dX8_does_279 rfl (fun H locs V => ?_)
            refine lv_aload_n hx hb dX8_does_282 rfl (lv_at hl 3 rfl) ?_
            refine lv_iconst (v := 1) hx hb dX8_does_283 (by decide) ?_
            refine m_put X V (ws' := (wR cB cI bd (upd (upd v 3 1) 15 (qo (Int32.toNatClampNeg 0))) qm ql qs qk qd qn qe qf qo qt qi qy)) 6 0 7 rfl gin_6 tyX8_ok nmX8 rfl (by decide) rfl gm_430 rfl rfl rfl (Nat.le_of_ble_eq_true rfl) dX8_does_284 rfl (fun H locs V => ?_)
            refine lv_iconst (v := 0) hx hb dX8_does_287 (by decide) ?_
            have e9 : pX8_does v qm qs qo qt qi qy = (0, (upd (upd v 3 1) 15 (qo (Int32.toNatClampNeg 0))), qm, qs, qt, qi, qy) := by rw [pX8_does, if_pos c_27, if_pos c_52, if_pos c_99, if_pos c_125, if_pos w_148_49]
            exact m_iret X hr hk V (by rw [e9]) (by rw [e9]) dX8_does_288
          by_cases w_148_64 : (v 7) = 64
          · refine lv_lookup (off := 141) (tgt := 289) hx hb dX8_does_148 (by decide +kernel) (by rw [w_148_64]; rfl) (by decide) ?_
            refine lv_aload_n hx hb dX8_does_289 rfl (lv_at hl 3 rfl) ?_
            refine lv_iload_n hx hb dX8_does_290 rfl (lv_at hl 2 rfl) ?_
            obtain ⟨u291, hu291⟩ : ∃ u, pX8_gives v (qo (Int32.toNatClampNeg 0)) = u := ⟨_, rfl⟩
            have hM := kX8_gives l D cB cI bd v qm ql qs qk qd qn qe qf qo qt qi qy (qo (Int32.toNatClampNeg 0))
            rw [hu291] at hM
            refine m_VA X V (w1 := (wR cB cI bd u291.2 qm ql qs qk qd qn qe qf qo qt qi qy)) (rest := []) (st1 := [.int u291.1]) hM okX8_gives gm_553 gm_704 gm_552 ⟨⟨rfl, rfl⟩, ⟨by decide, by decide⟩, Nat.zero_le _, Nat.zero_le _⟩ rfl rfl (wR_fst _ _ _ _ _ _ _ _ _ _ _ _ _ _ _ _) (wR_fst _ _ _ _ _ _ _ _ _ _ _ _ _ _ _ _) rfl hl.1 (Nat.le_of_ble_eq_true rfl) dX8_does_291 rfl rfl (fun H locs V => ?_)
            have e9 : pX8_does v qm qs qo qt qi qy = (u291.1, u291.2, qm, qs, qt, qi, qy) := by rw [pX8_does, if_pos c_27, if_pos c_52, if_pos c_99, if_pos c_125, if_neg w_148_49, if_pos w_148_64, hu291, mLet_eq]
            exact m_iret X hr hk V (by rw [e9]) (by rw [e9]) dX8_does_294
          by_cases w_148_65 : (v 7) = 65
          · refine lv_lookup (off := 141) (tgt := 289) hx hb dX8_does_148 (by decide +kernel) (by rw [w_148_65]; rfl) (by decide) ?_
            refine lv_aload_n hx hb dX8_does_289 rfl (lv_at hl 3 rfl) ?_
            refine lv_iload_n hx hb dX8_does_290 rfl (lv_at hl 2 rfl) ?_
            obtain ⟨u291, hu291⟩ : ∃ u, pX8_gives v (qo (Int32.toNatClampNeg 0)) = u := ⟨_, rfl⟩
            have hM := kX8_gives l D cB cI bd v qm ql qs qk qd qn qe qf qo qt qi qy (qo (Int32.toNatClampNeg 0))
            rw [hu291] at hM
            refine m_VA X V (w1 := (wR cB cI bd u291.2 qm ql qs qk qd qn qe qf qo qt qi qy)) (rest := []) (st1 := [.int u291.1]) hM okX8_gives gm_553 gm_704 gm_552 ⟨⟨rfl, rfl⟩, ⟨by decide, by decide⟩, Nat.zero_le _, Nat.zero_le _⟩ rfl rfl (wR_fst _ _ _ _ _ _ _ _ _ _ _ _ _ _ _ _) (wR_fst _ _ _ _ _ _ _ _ _ _ _ _ _ _ _ _) rfl hl.1 (Nat.le_of_ble_eq_true rfl) dX8_does_291 rfl rfl (fun H locs V => ?_)
            have e9 : pX8_does v qm qs qo qt qi qy = (u291.1, u291.2, qm, qs, qt, qi, qy) := by rw [pX8_does, if_pos c_27, if_pos c_52, if_pos c_99, if_pos c_125, if_neg w_148_49, if_neg w_148_64, if_pos w_148_65, hu291, mLet_eq]
            exact m_iret X hr hk V (by rw [e9]) (by rw [e9]) dX8_does_294
          by_cases w_148_66 : (v 7) = 66
          · refine lv_lookup (off := 141) (tgt := 289) hx hb dX8_does_148 (by decide +kernel) (by rw [w_148_66]; rfl) (by decide) ?_
            refine lv_aload_n hx hb dX8_does_289 rfl (lv_at hl 3 rfl) ?_
            refine lv_iload_n hx hb dX8_does_290 rfl (lv_at hl 2 rfl) ?_
            obtain ⟨u291, hu291⟩ : ∃ u, pX8_gives v (qo (Int32.toNatClampNeg 0)) = u := ⟨_, rfl⟩
            have hM := kX8_gives l D cB cI bd v qm ql qs qk qd qn qe qf qo qt qi qy (qo (Int32.toNatClampNeg 0))
            rw [hu291] at hM
            refine m_VA X V (w1 := (wR cB cI bd u291.2 qm ql qs qk qd qn qe qf qo qt qi qy)) (rest := []) (st1 := [.int u291.1]) hM okX8_gives gm_553 gm_704 gm_552 ⟨⟨rfl, rfl⟩, ⟨by decide, by decide⟩, Nat.zero_le _, Nat.zero_le _⟩ rfl rfl (wR_fst _ _ _ _ _ _ _ _ _ _ _ _ _ _ _ _) (wR_fst _ _ _ _ _ _ _ _ _ _ _ _ _ _ _ _) rfl hl.1 (Nat.le_of_ble_eq_true rfl) dX8_does_291 rfl rfl (fun H locs V => ?_)
            have e9 : pX8_does v qm qs qo qt qi qy = (u291.1, u291.2, qm, qs, qt, qi, qy) := by rw [pX8_does, if_pos c_27, if_pos c_52, if_pos c_99, if_pos c_125, if_neg w_148_49, if_neg w_148_64, if_neg w_148_65, if_pos w_148_66, hu291, mLet_eq]
            exact m_iret X hr hk V (by rw [e9]) (by rw [e9]) dX8_does_294
          by_cases w_148_68 : (v 7) = 68
          · refine lv_lookup (off := 147) (tgt := 295) hx hb dX8_does_148 (by decide +kernel) (by rw [w_148_68]; rfl) (by decide) ?_
            refine lv_aload_n hx hb dX8_does_295 rfl (lv_at hl 3 rfl) ?_
            refine lv_iload_n hx hb dX8_does_296 rfl (lv_at hl 2 rfl) ?_
            refine lv_i2s hx hb dX8_does_297 rfl ?_
            obtain ⟨u298, hu298⟩ : ∃ u, pX8_gives v ((Int32.toInt16 (qo (Int32.toNatClampNeg 0))).toInt32) = u := ⟨_, rfl⟩
            have hM := kX8_gives l D cB cI bd v qm ql qs qk qd qn qe qf qo qt qi qy ((Int32.toInt16 (qo (Int32.toNatClampNeg 0))).toInt32)
            rw [hu298] at hM
            refine m_VA X V (w1 := (wR cB cI bd u298.2 qm ql qs qk qd qn qe qf qo qt qi qy)) (rest := []) (st1 := [.int u298.1]) hM okX8_gives gm_553 gm_704 gm_552 ⟨⟨rfl, rfl⟩, ⟨by decide, by decide⟩, Nat.zero_le _, Nat.zero_le _⟩ rfl rfl (wR_fst _ _ _ _ _ _ _ _ _ _ _ _ _ _ _ _) (wR_fst _ _ _ _ _ _ _ _ _ _ _ _ _ _ _ _) rfl hl.1 (Nat.le_of_ble_eq_true rfl) dX8_does_298 rfl rfl (fun H locs V => ?_)
            have e9 : pX8_does v qm qs qo qt qi qy = (u298.1, u298.2, qm, qs, qt, qi, qy) := by rw [pX8_does, if_pos c_27, if_pos c_52, if_pos c_99, if_pos c_125, if_neg w_148_49, if_neg w_148_64, if_neg w_148_65, if_neg w_148_66, if_pos w_148_68, hu298, mLet_eq]
            exact m_iret X hr hk V (by rw [e9]) (by rw [e9]) dX8_does_301
          by_cases w_148_69 : (v 7) = 69
          · refine lv_lookup (off := 154) (tgt := 302) hx hb dX8_does_148 (by decide +kernel) (by rw [w_148_69]; rfl) (by decide) ?_
            refine lv_aload_n hx hb dX8_does_302 rfl (lv_at hl 3 rfl) ?_
            refine lv_iload_n hx hb dX8_does_303 rfl (lv_at hl 2 rfl) ?_
            refine lv_i2b hx hb dX8_does_304 rfl ?_
            obtain ⟨u305, hu305⟩ : ∃ u, pX8_gives v ((Int32.toInt8 (qo (Int32.toNatClampNeg 0))).toInt32) = u := ⟨_, rfl⟩
            have hM := kX8_gives l D cB cI bd v qm ql qs qk qd qn qe qf qo qt qi qy ((Int32.toInt8 (qo (Int32.toNatClampNeg 0))).toInt32)
            rw [hu305] at hM
            refine m_VA X V (w1 := (wR cB cI bd u305.2 qm ql qs qk qd qn qe qf qo qt qi qy)) (rest := []) (st1 := [.int u305.1]) hM okX8_gives gm_553 gm_704 gm_552 ⟨⟨rfl, rfl⟩, ⟨by decide, by decide⟩, Nat.zero_le _, Nat.zero_le _⟩ rfl rfl (wR_fst _ _ _ _ _ _ _ _ _ _ _ _ _ _ _ _) (wR_fst _ _ _ _ _ _ _ _ _ _ _ _ _ _ _ _) rfl hl.1 (Nat.le_of_ble_eq_true rfl) dX8_does_305 rfl rfl (fun H locs V => ?_)
            have e9 : pX8_does v qm qs qo qt qi qy = (u305.1, u305.2, qm, qs, qt, qi, qy) := by rw [pX8_does, if_pos c_27, if_pos c_52, if_pos c_99, if_pos c_125, if_neg w_148_49, if_neg w_148_64, if_neg w_148_65, if_neg w_148_66, if_neg w_148_68, if_pos w_148_69, hu305, mLet_eq]
            exact m_iret X hr hk V (by rw [e9]) (by rw [e9]) dX8_does_308
          by_cases w_148_256 : (v 7) = 256
          · refine lv_lookup (off := 161) (tgt := 309) hx hb dX8_does_148 (by decide +kernel) (by rw [w_148_256]; rfl) (by decide) ?_
            refine lv_aload_n hx hb dX8_does_309 rfl (lv_at hl 3 rfl) ?_
            refine lv_iload_n hx hb dX8_does_310 rfl (lv_at hl 2 rfl) ?_
            obtain ⟨u311, hu311⟩ : ∃ u, pX8_gestalt (qo (Int32.toNatClampNeg 0)) = u := ⟨_, rfl⟩
            have hM := kX8_gestalt l D cB cI (qo (Int32.toNatClampNeg 0))
            rw [hu311] at hM
            refine m_S X V (rest := [.ref (bd 0)]) (st1 := [.int u311, .ref (bd 0)]) hM okX8_gestalt gm_578 gm_577 ⟨⟨rfl, rfl⟩, ⟨by decide, by decide⟩, Nat.zero_le _, Nat.zero_le _⟩ rfl hl.1 (Nat.le_of_ble_eq_true rfl) dX8_does_311 rfl rfl (fun H locs V => ?_)
            obtain ⟨u314, hu314⟩ : ∃ u, pX8_gives v u311 = u := ⟨_, rfl⟩
            have hM := kX8_gives l D cB cI bd v qm ql qs qk qd qn qe qf qo qt qi qy u311
            rw [hu314] at hM
            refine m_VA X V (w1 := (wR cB cI bd u314.2 qm ql qs qk qd qn qe qf qo qt qi qy)) (rest := []) (st1 := [.int u314.1]) hM okX8_gives gm_553 gm_704 gm_552 ⟨⟨rfl, rfl⟩, ⟨by decide, by decide⟩, Nat.zero_le _, Nat.zero_le _⟩ rfl rfl (wR_fst _ _ _ _ _ _ _ _ _ _ _ _ _ _ _ _) (wR_fst _ _ _ _ _ _ _ _ _ _ _ _ _ _ _ _) rfl hl.1 (Nat.le_of_ble_eq_true rfl) dX8_does_314 rfl rfl (fun H locs V => ?_)
            have e9 : pX8_does v qm qs qo qt qi qy = (u314.1, u314.2, qm, qs, qt, qi, qy) := by rw [pX8_does, if_pos c_27, if_pos c_52, if_pos c_99, if_pos c_125, if_neg w_148_49, if_neg w_148_64, if_neg w_148_65, if_neg w_148_66, if_neg w_148_68, if_neg w_148_69, if_pos w_148_256, hu311, mLet_eq, hu314, mLet_eq]
            exact m_iret X hr hk V (by rw [e9]) (by rw [e9]) dX8_does_317
          by_cases w_148_260 : (v 7) = 260
          · refine lv_lookup (off := 170) (tgt := 318) hx hb dX8_does_148 (by decide +kernel) (by rw [w_148_260]; rfl) (by decide) ?_
            refine lv_aload_n hx hb dX8_does_318 rfl (lv_at hl 3 rfl) ?_
            refine lv_iload_n hx hb dX8_does_319 rfl (lv_at hl 2 rfl) ?_
            refine m_put X V (ws' := (wR cB cI bd (upd v 14 (qo (Int32.toNatClampNeg 0))) qm ql qs qk qd qn qe qf qo qt qi qy)) 6 0 23 rfl gin_6 tyX8_ok nmX8 rfl (by decide) rfl gm_446 rfl rfl rfl (Nat.le_of_ble_eq_true rfl) dX8_does_320 rfl (fun H locs V => ?_)
            refine lv_iconst (v := 0) hx hb dX8_does_323 (by decide) ?_
            have e9 : pX8_does v qm qs qo qt qi qy = (0, (upd v 14 (qo (Int32.toNatClampNeg 0))), qm, qs, qt, qi, qy) := by rw [pX8_does, if_pos c_27, if_pos c_52, if_pos c_99, if_pos c_125, if_neg w_148_49, if_neg w_148_64, if_neg w_148_65, if_neg w_148_66, if_neg w_148_68, if_neg w_148_69, if_neg w_148_256, if_pos w_148_260]
            exact m_iret X hr hk V (by rw [e9]) (by rw [e9]) dX8_does_324
          by_cases w_148_288 : (v 7) = 288
          · refine lv_lookup (off := 116) (tgt := 264) hx hb dX8_does_148 (by decide +kernel) (by rw [w_148_288]; rfl) (by decide) ?_
            refine lv_aload_n hx hb dX8_does_264 rfl (lv_at hl 3 rfl) ?_
            refine lv_aload_n hx hb dX8_does_265 rfl (lv_at hl 3 rfl) ?_
            refine m_get X V 6 0 11 rfl gin_6 rfl (by decide) rfl gm_434 (v := .int (v 7)) rfl dX8_does_266 ?_
            refine lv_bipush (v := 49) hx hb dX8_does_269 (by decide) ?_
            refine lv_icmp_ne (tgt := 278) hx hb dX8_does_271 (by decide) (fun _ => ?_) (fun h => absurd h w_148_49)
            refine lv_iconst (v := 0) hx hb dX8_does_278 (by decide) ?_
            refine m_put X V (ws' := (wR cB cI bd (upd v 15 0) qm ql qs qk qd qn qe qf qo qt qi qy)) 6 0 24 rfl gin_6 tyX8_ok nmX8 rfl (by decide) rfl gm_447 rfl rfl rfl (Nat.le_of_ble_eq_true rfl) dX8_does_279 rfl (fun H locs V => ?_)
            refine lv_aload_n hx hb dX8_does_282 rfl (lv_at hl 3 rfl) ?_
            refine lv_iconst (v := 1) hx hb dX8_does_283 (by decide) ?_
            refine m_put X V (ws' := (wR cB cI bd (upd (upd v 3 1) 15 0) qm ql qs qk qd qn qe qf qo qt qi qy)) 6 0 7 rfl gin_6 tyX8_ok nmX8 rfl (by decide) rfl gm_430 rfl rfl rfl (Nat.le_of_ble_eq_true rfl) dX8_does_284 rfl (fun H locs V => ?_)
            refine lv_iconst (v := 0) hx hb dX8_does_287 (by decide) ?_
            have e9 : pX8_does v qm qs qo qt qi qy = (0, (upd (upd v 3 1) 15 0), qm, qs, qt, qi, qy) := by rw [pX8_does, if_pos c_27, if_pos c_52, if_pos c_99, if_pos c_125, if_neg w_148_49, if_neg w_148_64, if_neg w_148_65, if_neg w_148_66, if_neg w_148_68, if_neg w_148_69, if_neg w_148_256, if_neg w_148_260, if_pos w_148_288]
            exact m_iret X hr hk V (by rw [e9]) (by rw [e9]) dX8_does_288
          by_cases w_148_336 : (v 7) = 336
          · refine lv_lookup (off := 177) (tgt := 325) hx hb dX8_does_148 (by decide +kernel) (by rw [w_148_336]; rfl) (by decide) ?_
            refine lv_aload_n hx hb dX8_does_325 rfl (lv_at hl 3 rfl) ?_
            obtain ⟨u326, hu326⟩ : ∃ u, pX8_searches v qm qo qy = u := ⟨_, rfl⟩
            have hM := kX8_searches l D cB cI bd v qm ql qs qk qd qn qe qf qo qt qi qy
            rw [hu326] at hM
            refine m_VA X V (w1 := (wR cB cI bd u326.2.1 qm ql qs qk qd qn qe qf qo qt qi u326.2.2)) (rest := []) (st1 := [.int u326.1]) hM okX8_searches gm_583 gm_710 gm_582 ⟨⟨rfl, rfl⟩, ⟨by decide, by decide⟩, Nat.zero_le _, Nat.zero_le _⟩ rfl rfl (wR_fst _ _ _ _ _ _ _ _ _ _ _ _ _ _ _ _) (wR_fst _ _ _ _ _ _ _ _ _ _ _ _ _ _ _ _) rfl hl.1 (Nat.le_of_ble_eq_true rfl) dX8_does_326 rfl rfl (fun H locs V => ?_)
            have e9 : pX8_does v qm qs qo qt qi qy = (u326.1, u326.2.1, qm, qs, qt, qi, u326.2.2) := by rw [pX8_does, if_pos c_27, if_pos c_52, if_pos c_99, if_pos c_125, if_neg w_148_49, if_neg w_148_64, if_neg w_148_65, if_neg w_148_66, if_neg w_148_68, if_neg w_148_69, if_neg w_148_256, if_neg w_148_260, if_neg w_148_288, if_pos w_148_336, hu326, mLet_eq]
            exact m_iret X hr hk V (by rw [e9]) (by rw [e9]) dX8_does_329
          by_cases w_148_337 : (v 7) = 337
          · refine lv_lookup (off := 177) (tgt := 325) hx hb dX8_does_148 (by decide +kernel) (by rw [w_148_337]; rfl) (by decide) ?_
            refine lv_aload_n hx hb dX8_does_325 rfl (lv_at hl 3 rfl) ?_
            obtain ⟨u326, hu326⟩ : ∃ u, pX8_searches v qm qo qy = u := ⟨_, rfl⟩
            have hM := kX8_searches l D cB cI bd v qm ql qs qk qd qn qe qf qo qt qi qy
            rw [hu326] at hM
            refine m_VA X V (w1 := (wR cB cI bd u326.2.1 qm ql qs qk qd qn qe qf qo qt qi u326.2.2)) (rest := []) (st1 := [.int u326.1]) hM okX8_searches gm_583 gm_710 gm_582 ⟨⟨rfl, rfl⟩, ⟨by decide, by decide⟩, Nat.zero_le _, Nat.zero_le _⟩ rfl rfl (wR_fst _ _ _ _ _ _ _ _ _ _ _ _ _ _ _ _) (wR_fst _ _ _ _ _ _ _ _ _ _ _ _ _ _ _ _) rfl hl.1 (Nat.le_of_ble_eq_true rfl) dX8_does_326 rfl rfl (fun H locs V => ?_)
            have e9 : pX8_does v qm qs qo qt qi qy = (u326.1, u326.2.1, qm, qs, qt, qi, u326.2.2) := by rw [pX8_does, if_pos c_27, if_pos c_52, if_pos c_99, if_pos c_125, if_neg w_148_49, if_neg w_148_64, if_neg w_148_65, if_neg w_148_66, if_neg w_148_68, if_neg w_148_69, if_neg w_148_256, if_neg w_148_260, if_neg w_148_288, if_neg w_148_336, if_pos w_148_337, hu326, mLet_eq]
            exact m_iret X hr hk V (by rw [e9]) (by rw [e9]) dX8_does_329
          by_cases w_148_368 : (v 7) = 368
          · refine lv_lookup (off := 182) (tgt := 330) hx hb dX8_does_148 (by decide +kernel) (by rw [w_148_368]; rfl) (by decide) ?_
            refine lv_aload_n hx hb dX8_does_330 rfl (lv_at hl 3 rfl) ?_
            refine lv_iload_n hx hb dX8_does_331 rfl (lv_at hl 2 rfl) ?_
            refine lv_iload_n hx hb dX8_does_332 rfl (lv_at hl 1 rfl) ?_
            obtain ⟨u333, hu333⟩ : ∃ u, pX8_clears v qm (qo (Int32.toNatClampNeg 0)) (qo (Int32.toNatClampNeg 1)) = u := ⟨_, rfl⟩
            have hM := kX8_clears l D cB cI bd v qm ql qs qk qd qn qe qf qo qt qi qy (qo (Int32.toNatClampNeg 0)) (qo (Int32.toNatClampNeg 1))
            rw [hu333] at hM
            refine m_VA X V (w1 := (wR cB cI bd v u333.2 ql qs qk qd qn qe qf qo qt qi qy)) (rest := []) (st1 := [.int u333.1]) hM okX8_clears gm_601 gm_716 gm_600 ⟨⟨rfl, rfl⟩, ⟨by decide, by decide⟩, Nat.zero_le _, Nat.zero_le _⟩ rfl rfl (wR_fst _ _ _ _ _ _ _ _ _ _ _ _ _ _ _ _) (wR_fst _ _ _ _ _ _ _ _ _ _ _ _ _ _ _ _) rfl hl.1 (Nat.le_of_ble_eq_true rfl) dX8_does_333 rfl rfl (fun H locs V => ?_)
            have e9 : pX8_does v qm qs qo qt qi qy = (u333.1, v, u333.2, qs, qt, qi, qy) := by rw [pX8_does, if_pos c_27, if_pos c_52, if_pos c_99, if_pos c_125, if_neg w_148_49, if_neg w_148_64, if_neg w_148_65, if_neg w_148_66, if_neg w_148_68, if_neg w_148_69, if_neg w_148_256, if_neg w_148_260, if_neg w_148_288, if_neg w_148_336, if_neg w_148_337, if_pos w_148_368, hu333, mLet_eq]
            exact m_iret X hr hk V (by rw [e9]) (by rw [e9]) dX8_does_336
          by_cases w_148_369 : (v 7) = 369
          · refine lv_lookup (off := 189) (tgt := 337) hx hb dX8_does_148 (by decide +kernel) (by rw [w_148_369]; rfl) (by decide) ?_
            refine lv_aload_n hx hb dX8_does_337 rfl (lv_at hl 3 rfl) ?_
            refine lv_iload_n hx hb dX8_does_338 rfl (lv_at hl 2 rfl) ?_
            refine lv_iload_n hx hb dX8_does_339 rfl (lv_at hl 1 rfl) ?_
            refine lv_iload_n hx hb dX8_does_340 rfl (lv_at hl 0 rfl) ?_
            obtain ⟨u341, hu341⟩ : ∃ u, pX8_copies v qm qi (qo (Int32.toNatClampNeg 0)) (qo (Int32.toNatClampNeg 1)) (qo (Int32.toNatClampNeg 2)) = u := ⟨_, rfl⟩
            have hM := kX8_copies l D cB cI bd v qm ql qs qk qd qn qe qf qo qt qi qy (qo (Int32.toNatClampNeg 0)) (qo (Int32.toNatClampNeg 1)) (qo (Int32.toNatClampNeg 2))
            rw [hu341] at hM
            refine m_VA X V (w1 := (wR cB cI bd v u341.2.1 ql qs qk qd qn qe qf qo qt u341.2.2 qy)) (rest := []) (st1 := [.int u341.1]) hM okX8_copies gm_604 gm_717 gm_603 ⟨⟨rfl, rfl⟩, ⟨by decide, by decide⟩, Nat.zero_le _, Nat.zero_le _⟩ rfl rfl (wR_fst _ _ _ _ _ _ _ _ _ _ _ _ _ _ _ _) (wR_fst _ _ _ _ _ _ _ _ _ _ _ _ _ _ _ _) rfl hl.1 (Nat.le_of_ble_eq_true rfl) dX8_does_341 rfl rfl (fun H locs V => ?_)
            have e9 : pX8_does v qm qs qo qt qi qy = (u341.1, v, u341.2.1, qs, qt, u341.2.2, qy) := by rw [pX8_does, if_pos c_27, if_pos c_52, if_pos c_99, if_pos c_125, if_neg w_148_49, if_neg w_148_64, if_neg w_148_65, if_neg w_148_66, if_neg w_148_68, if_neg w_148_69, if_neg w_148_256, if_neg w_148_260, if_neg w_148_288, if_neg w_148_336, if_neg w_148_337, if_neg w_148_368, if_pos w_148_369, hu341, mLet_eq]
            exact m_iret X hr hk V (by rw [e9]) (by rw [e9]) dX8_does_344
          refine lv_lookup (off := 197) (tgt := 345) hx hb dX8_does_148 (by decide +kernel) ((lv_osw w_148_49 rfl).trans ((lv_osw w_148_64 rfl).trans ((lv_osw w_148_65 rfl).trans ((lv_osw w_148_66 rfl).trans ((lv_osw w_148_68 rfl).trans ((lv_osw w_148_69 rfl).trans ((lv_osw w_148_256 rfl).trans ((lv_osw w_148_260 rfl).trans ((lv_osw w_148_288 rfl).trans ((lv_osw w_148_336 rfl).trans ((lv_osw w_148_337 rfl).trans ((lv_osw w_148_368 rfl).trans ((lv_osw w_148_369 rfl).trans (rfl)))))))))))))) (by decide) ?_
          refine lv_iconst (v := 0) hx hb dX8_does_345 (by decide) ?_
          have e9 : pX8_does v qm qs qo qt qi qy = (0, v, qm, qs, qt, qi, qy) := by rw [pX8_does, if_pos c_27, if_pos c_52, if_pos c_99, if_pos c_125, if_neg w_148_49, if_neg w_148_64, if_neg w_148_65, if_neg w_148_66, if_neg w_148_68, if_neg w_148_69, if_neg w_148_256, if_neg w_148_260, if_neg w_148_288, if_neg w_148_336, if_neg w_148_337, if_neg w_148_368, if_neg w_148_369]
          exact m_iret X hr hk V (by rw [e9]) (by rw [e9]) dX8_does_346
        · refine lv_aload_n hx hb dX8_does_128 rfl (lv_at hl 3 rfl) ?_
          refine m_get X V 6 0 11 rfl gin_6 rfl (by decide) rfl gm_434 (v := .int (v 7)) rfl dX8_does_129 ?_
          refine lv_bipush (v := 84) hx hb dX8_does_132 (by decide) ?_
          refine lv_icmp_gt (tgt := 144) hx hb dX8_does_134 (by decide) (fun c_134 => ?_) (fun c_134 => ?_)
          · refine lv_aload_n hx hb dX8_does_144 rfl (lv_at hl 3 rfl) ?_
            refine m_get X V 6 0 11 rfl gin_6 rfl (by decide) rfl gm_434 (v := .int (v 7)) rfl dX8_does_145 ?_
            by_cases w_148_49 : (v 7) = 49
            · refine lv_lookup (off := 116) (tgt := 264) hx hb dX8_does_148 (by decide +kernel) (by rw [w_148_49]; rfl) (by decide) ?_
              refine lv_aload_n hx hb dX8_does_264 rfl (lv_at hl 3 rfl) ?_
              refine lv_aload_n hx hb dX8_does_265 rfl (lv_at hl 3 rfl) ?_
              refine m_get X V 6 0 11 rfl gin_6 rfl (by decide) rfl gm_434 (v := .int (v 7)) rfl dX8_does_266 ?_
              refine lv_bipush (v := 49) hx hb dX8_does_269 (by decide) ?_
              refine lv_icmp_ne (tgt := 278) hx hb dX8_does_271 (by decide) (fun h => absurd w_148_49 h) (fun _ => ?_)
              refine lv_iload_n hx hb dX8_does_274 rfl (lv_at hl 2 rfl) ?_
              refine lv_goto (tgt := 279) hx hb dX8_does_275 (by decide) ?_
              refine m_put X V (ws' := (wR cB cI bd (upd v 15 (qo (Int32.toNatClampNeg 0))) qm ql qs qk qd qn qe qf qo qt qi qy)) 6 0 24 rfl gin_6 tyX8_ok nmX8 rfl (by decide) rfl gm_447 rfl rfl rfl (Nat.le_of_ble_eq_true rfl) dX8_does_279 rfl (fun H locs V => ?_)
              refine lv_aload_n hx hb dX8_does_282 rfl (lv_at hl 3 rfl) ?_
              refine lv_iconst (v := 1) hx hb dX8_does_283 (by decide) ?_
              refine m_put X V (ws' := (wR cB cI bd (upd (upd v 3 1) 15 (qo (Int32.toNatClampNeg 0))) qm ql qs qk qd qn qe qf qo qt qi qy)) 6 0 7 rfl gin_6 tyX8_ok nmX8 rfl (by decide) rfl gm_430 rfl rfl rfl (Nat.le_of_ble_eq_true rfl) dX8_does_284 rfl (fun H locs V => ?_)
              refine lv_iconst (v := 0) hx hb dX8_does_287 (by decide) ?_
              have e9 : pX8_does v qm qs qo qt qi qy = (0, (upd (upd v 3 1) 15 (qo (Int32.toNatClampNeg 0))), qm, qs, qt, qi, qy) := by rw [pX8_does, if_pos c_27, if_pos c_52, if_pos c_99, if_neg c_125, if_pos c_134, if_pos w_148_49]
              exact m_iret X hr hk V (by rw [e9]) (by rw [e9]) dX8_does_288
            by_cases w_148_64 : (v 7) = 64
            · refine lv_lookup (off := 141) (tgt := 289) hx hb dX8_does_148 (by decide +kernel) (by rw [w_148_64]; rfl) (by decide) ?_
              refine lv_aload_n hx hb dX8_does_289 rfl (lv_at hl 3 rfl) ?_
              refine lv_iload_n hx hb dX8_does_290 rfl (lv_at hl 2 rfl) ?_
              obtain ⟨u291, hu291⟩ : ∃ u, pX8_gives v (qo (Int32.toNatClampNeg 0)) = u := ⟨_, rfl⟩
              have hM := kX8_gives l D cB cI bd v qm ql qs qk qd qn qe qf qo qt qi qy (qo (Int32.toNatClampNeg 0))
              rw [hu291] at hM
              refine m_VA X V (w1 := (wR cB cI bd u291.2 qm ql qs qk qd qn qe qf qo qt qi qy)) (rest := []) (st1 := [.int u291.1]) hM okX8_gives gm_553 gm_704 gm_552 ⟨⟨rfl, rfl⟩, ⟨by decide, by decide⟩, Nat.zero_le _, Nat.zero_le _⟩ rfl rfl (wR_fst _ _ _ _ _ _ _ _ _ _ _ _ _ _ _ _) (wR_fst _ _ _ _ _ _ _ _ _ _ _ _ _ _ _ _) rfl hl.1 (Nat.le_of_ble_eq_true rfl) dX8_does_291 rfl rfl (fun H locs V => ?_)
              have e9 : pX8_does v qm qs qo qt qi qy = (u291.1, u291.2, qm, qs, qt, qi, qy) := by rw [pX8_does, if_pos c_27, if_pos c_52, if_pos c_99, if_neg c_125, if_pos c_134, if_neg w_148_49, if_pos w_148_64, hu291, mLet_eq]
              exact m_iret X hr hk V (by rw [e9]) (by rw [e9]) dX8_does_294
            by_cases w_148_65 : (v 7) = 65
            · refine lv_lookup (off := 141) (tgt := 289) hx hb dX8_does_148 (by decide +kernel) (by rw [w_148_65]; rfl) (by decide) ?_
              refine lv_aload_n hx hb dX8_does_289 rfl (lv_at hl 3 rfl) ?_
              refine lv_iload_n hx hb dX8_does_290 rfl (lv_at hl 2 rfl) ?_
              obtain ⟨u291, hu291⟩ : ∃ u, pX8_gives v (qo (Int32.toNatClampNeg 0)) = u := ⟨_, rfl⟩
              have hM := kX8_gives l D cB cI bd v qm ql qs qk qd qn qe qf qo qt qi qy (qo (Int32.toNatClampNeg 0))
              rw [hu291] at hM
              refine m_VA X V (w1 := (wR cB cI bd u291.2 qm ql qs qk qd qn qe qf qo qt qi qy)) (rest := []) (st1 := [.int u291.1]) hM okX8_gives gm_553 gm_704 gm_552 ⟨⟨rfl, rfl⟩, ⟨by decide, by decide⟩, Nat.zero_le _, Nat.zero_le _⟩ rfl rfl (wR_fst _ _ _ _ _ _ _ _ _ _ _ _ _ _ _ _) (wR_fst _ _ _ _ _ _ _ _ _ _ _ _ _ _ _ _) rfl hl.1 (Nat.le_of_ble_eq_true rfl) dX8_does_291 rfl rfl (fun H locs V => ?_)
              have e9 : pX8_does v qm qs qo qt qi qy = (u291.1, u291.2, qm, qs, qt, qi, qy) := by rw [pX8_does, if_pos c_27, if_pos c_52, if_pos c_99, if_neg c_125, if_pos c_134, if_neg w_148_49, if_neg w_148_64, if_pos w_148_65, hu291, mLet_eq]
              exact m_iret X hr hk V (by rw [e9]) (by rw [e9]) dX8_does_294
            by_cases w_148_66 : (v 7) = 66
            · refine lv_lookup (off := 141) (tgt := 289) hx hb dX8_does_148 (by decide +kernel) (by rw [w_148_66]; rfl) (by decide) ?_
              refine lv_aload_n hx hb dX8_does_289 rfl (lv_at hl 3 rfl) ?_
              refine lv_iload_n hx hb dX8_does_290 rfl (lv_at hl 2 rfl) ?_
              obtain ⟨u291, hu291⟩ : ∃ u, pX8_gives v (qo (Int32.toNatClampNeg 0)) = u := ⟨_, rfl⟩
              have hM := kX8_gives l D cB cI bd v qm ql qs qk qd qn qe qf qo qt qi qy (qo (Int32.toNatClampNeg 0))
              rw [hu291] at hM
              refine m_VA X V (w1 := (wR cB cI bd u291.2 qm ql qs qk qd qn qe qf qo qt qi qy)) (rest := []) (st1 := [.int u291.1]) hM okX8_gives gm_553 gm_704 gm_552 ⟨⟨rfl, rfl⟩, ⟨by decide, by decide⟩, Nat.zero_le _, Nat.zero_le _⟩ rfl rfl (wR_fst _ _ _ _ _ _ _ _ _ _ _ _ _ _ _ _) (wR_fst _ _ _ _ _ _ _ _ _ _ _ _ _ _ _ _) rfl hl.1 (Nat.le_of_ble_eq_true rfl) dX8_does_291 rfl rfl (fun H locs V => ?_)
              have e9 : pX8_does v qm qs qo qt qi qy = (u291.1, u291.2, qm, qs, qt, qi, qy) := by rw [pX8_does, if_pos c_27, if_pos c_52, if_pos c_99, if_neg c_125, if_pos c_134, if_neg w_148_49, if_neg w_148_64, if_neg w_148_65, if_pos w_148_66, hu291, mLet_eq]
              exact m_iret X hr hk V (by rw [e9]) (by rw [e9]) dX8_does_294
            by_cases w_148_68 : (v 7) = 68
            · refine lv_lookup (off := 147) (tgt := 295) hx hb dX8_does_148 (by decide +kernel) (by rw [w_148_68]; rfl) (by decide) ?_
              refine lv_aload_n hx hb dX8_does_295 rfl (lv_at hl 3 rfl) ?_
              refine lv_iload_n hx hb dX8_does_296 rfl (lv_at hl 2 rfl) ?_
              refine lv_i2s hx hb dX8_does_297 rfl ?_
              obtain ⟨u298, hu298⟩ : ∃ u, pX8_gives v ((Int32.toInt16 (qo (Int32.toNatClampNeg 0))).toInt32) = u := ⟨_, rfl⟩
              have hM := kX8_gives l D cB cI bd v qm ql qs qk qd qn qe qf qo qt qi qy ((Int32.toInt16 (qo (Int32.toNatClampNeg 0))).toInt32)
              rw [hu298] at hM
              refine m_VA X V (w1 := (wR cB cI bd u298.2 qm ql qs qk qd qn qe qf qo qt qi qy)) (rest := []) (st1 := [.int u298.1]) hM okX8_gives gm_553 gm_704 gm_552 ⟨⟨rfl, rfl⟩, ⟨by decide, by decide⟩, Nat.zero_le _, Nat.zero_le _⟩ rfl rfl (wR_fst _ _ _ _ _ _ _ _ _ _ _ _ _ _ _ _) (wR_fst _ _ _ _ _ _ _ _ _ _ _ _ _ _ _ _) rfl hl.1 (Nat.le_of_ble_eq_true rfl) dX8_does_298 rfl rfl (fun H locs V => ?_)
              have e9 : pX8_does v qm qs qo qt qi qy = (u298.1, u298.2, qm, qs, qt, qi, qy) := by rw [pX8_does, if_pos c_27, if_pos c_52, if_pos c_99, if_neg c_125, if_pos c_134, if_neg w_148_49, if_neg w_148_64, if_neg w_148_65, if_neg w_148_66, if_pos w_148_68, hu298, mLet_eq]
              exact m_iret X hr hk V (by rw [e9]) (by rw [e9]) dX8_does_301
            by_cases w_148_69 : (v 7) = 69
            · refine lv_lookup (off := 154) (tgt := 302) hx hb dX8_does_148 (by decide +kernel) (by rw [w_148_69]; rfl) (by decide) ?_
              refine lv_aload_n hx hb dX8_does_302 rfl (lv_at hl 3 rfl) ?_
              refine lv_iload_n hx hb dX8_does_303 rfl (lv_at hl 2 rfl) ?_
              refine lv_i2b hx hb dX8_does_304 rfl ?_
              obtain ⟨u305, hu305⟩ : ∃ u, pX8_gives v ((Int32.toInt8 (qo (Int32.toNatClampNeg 0))).toInt32) = u := ⟨_, rfl⟩
              have hM := kX8_gives l D cB cI bd v qm ql qs qk qd qn qe qf qo qt qi qy ((Int32.toInt8 (qo (Int32.toNatClampNeg 0))).toInt32)
              rw [hu305] at hM
              refine m_VA X V (w1 := (wR cB cI bd u305.2 qm ql qs qk qd qn qe qf qo qt qi qy)) (rest := []) (st1 := [.int u305.1]) hM okX8_gives gm_553 gm_704 gm_552 ⟨⟨rfl, rfl⟩, ⟨by decide, by decide⟩, Nat.zero_le _, Nat.zero_le _⟩ rfl rfl (wR_fst _ _ _ _ _ _ _ _ _ _ _ _ _ _ _ _) (wR_fst _ _ _ _ _ _ _ _ _ _ _ _ _ _ _ _) rfl hl.1 (Nat.le_of_ble_eq_true rfl) dX8_does_305 rfl rfl (fun H locs V => ?_)
              have e9 : pX8_does v qm qs qo qt qi qy = (u305.1, u305.2, qm, qs, qt, qi, qy) := by rw [pX8_does, if_pos c_27, if_pos c_52, if_pos c_99, if_neg c_125, if_pos c_134, if_neg w_148_49, if_neg w_148_64, if_neg w_148_65, if_neg w_148_66, if_neg w_148_68, if_pos w_148_69, hu305, mLet_eq]
              exact m_iret X hr hk V (by rw [e9]) (by rw [e9]) dX8_does_308
            by_cases w_148_256 : (v 7) = 256
            · refine lv_lookup (off := 161) (tgt := 309) hx hb dX8_does_148 (by decide +kernel) (by rw [w_148_256]; rfl) (by decide) ?_
              refine lv_aload_n hx hb dX8_does_309 rfl (lv_at hl 3 rfl) ?_
              refine lv_iload_n hx hb dX8_does_310 rfl (lv_at hl 2 rfl) ?_
              obtain ⟨u311, hu311⟩ : ∃ u, pX8_gestalt (qo (Int32.toNatClampNeg 0)) = u := ⟨_, rfl⟩
              have hM := kX8_gestalt l D cB cI (qo (Int32.toNatClampNeg 0))
              rw [hu311] at hM
              refine m_S X V (rest := [.ref (bd 0)]) (st1 := [.int u311, .ref (bd 0)]) hM okX8_gestalt gm_578 gm_577 ⟨⟨rfl, rfl⟩, ⟨by decide, by decide⟩, Nat.zero_le _, Nat.zero_le _⟩ rfl hl.1 (Nat.le_of_ble_eq_true rfl) dX8_does_311 rfl rfl (fun H locs V => ?_)
              obtain ⟨u314, hu314⟩ : ∃ u, pX8_gives v u311 = u := ⟨_, rfl⟩
              have hM := kX8_gives l D cB cI bd v qm ql qs qk qd qn qe qf qo qt qi qy u311
              rw [hu314] at hM
              refine m_VA X V (w1 := (wR cB cI bd u314.2 qm ql qs qk qd qn qe qf qo qt qi qy)) (rest := []) (st1 := [.int u314.1]) hM okX8_gives gm_553 gm_704 gm_552 ⟨⟨rfl, rfl⟩, ⟨by decide, by decide⟩, Nat.zero_le _, Nat.zero_le _⟩ rfl rfl (wR_fst _ _ _ _ _ _ _ _ _ _ _ _ _ _ _ _) (wR_fst _ _ _ _ _ _ _ _ _ _ _ _ _ _ _ _) rfl hl.1 (Nat.le_of_ble_eq_true rfl) dX8_does_314 rfl rfl (fun H locs V => ?_)
              have e9 : pX8_does v qm qs qo qt qi qy = (u314.1, u314.2, qm, qs, qt, qi, qy) := by rw [pX8_does, if_pos c_27, if_pos c_52, if_pos c_99, if_neg c_125, if_pos c_134, if_neg w_148_49, if_neg w_148_64, if_neg w_148_65, if_neg w_148_66, if_neg w_148_68, if_neg w_148_69, if_pos w_148_256, hu311, mLet_eq, hu314, mLet_eq]
              exact m_iret X hr hk V (by rw [e9]) (by rw [e9]) dX8_does_317
            by_cases w_148_260 : (v 7) = 260
            · refine lv_lookup (off := 170) (tgt := 318) hx hb dX8_does_148 (by decide +kernel) (by rw [w_148_260]; rfl) (by decide) ?_
              refine lv_aload_n hx hb dX8_does_318 rfl (lv_at hl 3 rfl) ?_
              refine lv_iload_n hx hb dX8_does_319 rfl (lv_at hl 2 rfl) ?_
              refine m_put X V (ws' := (wR cB cI bd (upd v 14 (qo (Int32.toNatClampNeg 0))) qm ql qs qk qd qn qe qf qo qt qi qy)) 6 0 23 rfl gin_6 tyX8_ok nmX8 rfl (by decide) rfl gm_446 rfl rfl rfl (Nat.le_of_ble_eq_true rfl) dX8_does_320 rfl (fun H locs V => ?_)
              refine lv_iconst (v := 0) hx hb dX8_does_323 (by decide) ?_
              have e9 : pX8_does v qm qs qo qt qi qy = (0, (upd v 14 (qo (Int32.toNatClampNeg 0))), qm, qs, qt, qi, qy) := by rw [pX8_does, if_pos c_27, if_pos c_52, if_pos c_99, if_neg c_125, if_pos c_134, if_neg w_148_49, if_neg w_148_64, if_neg w_148_65, if_neg w_148_66, if_neg w_148_68, if_neg w_148_69, if_neg w_148_256, if_pos w_148_260]
              exact m_iret X hr hk V (by rw [e9]) (by rw [e9]) dX8_does_324
            by_cases w_148_288 : (v 7) = 288
            · refine lv_lookup (off := 116) (tgt := 264) hx hb dX8_does_148 (by decide +kernel) (by rw [w_148_288]; rfl) (by decide) ?_
              refine lv_aload_n hx hb dX8_does_264 rfl (lv_at hl 3 rfl) ?_
              refine lv_aload_n hx hb dX8_does_265 rfl (lv_at hl 3 rfl) ?_
              refine m_get X V 6 0 11 rfl gin_6 rfl (by decide) rfl gm_434 (v := .int (v 7)) rfl dX8_does_266 ?_
              refine lv_bipush (v := 49) hx hb dX8_does_269 (by decide) ?_
              refine lv_icmp_ne (tgt := 278) hx hb dX8_does_271 (by decide) (fun _ => ?_) (fun h => absurd h w_148_49)
              refine lv_iconst (v := 0) hx hb dX8_does_278 (by decide) ?_
              refine m_put X V (ws' := (wR cB cI bd (upd v 15 0) qm ql qs qk qd qn qe qf qo qt qi qy)) 6 0 24 rfl gin_6 tyX8_ok nmX8 rfl (by decide) rfl gm_447 rfl rfl rfl (Nat.le_of_ble_eq_true rfl) dX8_does_279 rfl (fun H locs V => ?_)
              refine lv_aload_n hx hb dX8_does_282 rfl (lv_at hl 3 rfl) ?_
              refine lv_iconst (v := 1) hx hb dX8_does_283 (by decide) ?_
              refine m_put X V (ws' := (wR cB cI bd (upd (upd v 3 1) 15 0) qm ql qs qk qd qn qe qf qo qt qi qy)) 6 0 7 rfl gin_6 tyX8_ok nmX8 rfl (by decide) rfl gm_430 rfl rfl rfl (Nat.le_of_ble_eq_true rfl) dX8_does_284 rfl (fun H locs V => ?_)
              refine lv_iconst (v := 0) hx hb dX8_does_287 (by decide) ?_
              have e9 : pX8_does v qm qs qo qt qi qy = (0, (upd (upd v 3 1) 15 0), qm, qs, qt, qi, qy) := by rw [pX8_does, if_pos c_27, if_pos c_52, if_pos c_99, if_neg c_125, if_pos c_134, if_neg w_148_49, if_neg w_148_64, if_neg w_148_65, if_neg w_148_66, if_neg w_148_68, if_neg w_148_69, if_neg w_148_256, if_neg w_148_260, if_pos w_148_288]
              exact m_iret X hr hk V (by rw [e9]) (by rw [e9]) dX8_does_288
            by_cases w_148_336 : (v 7) = 336
            · refine lv_lookup (off := 177) (tgt := 325) hx hb dX8_does_148 (by decide +kernel) (by rw [w_148_336]; rfl) (by decide) ?_
              refine lv_aload_n hx hb dX8_does_325 rfl (lv_at hl 3 rfl) ?_
              obtain ⟨u326, hu326⟩ : ∃ u, pX8_searches v qm qo qy = u := ⟨_, rfl⟩
              have hM := kX8_searches l D cB cI bd v qm ql qs qk qd qn qe qf qo qt qi qy
              rw [hu326] at hM
              refine m_VA X V (w1 := (wR cB cI bd u326.2.1 qm ql qs qk qd qn qe qf qo qt qi u326.2.2)) (rest := []) (st1 := [.int u326.1]) hM okX8_searches gm_583 gm_710 gm_582 ⟨⟨rfl, rfl⟩, ⟨by decide, by decide⟩, Nat.zero_le _, Nat.zero_le _⟩ rfl rfl (wR_fst _ _ _ _ _ _ _ _ _ _ _ _ _ _ _ _) (wR_fst _ _ _ _ _ _ _ _ _ _ _ _ _ _ _ _) rfl hl.1 (Nat.le_of_ble_eq_true rfl) dX8_does_326 rfl rfl (fun H locs V => ?_)
              have e9 : pX8_does v qm qs qo qt qi qy = (u326.1, u326.2.1, qm, qs, qt, qi, u326.2.2) := by rw [pX8_does, if_pos c_27, if_pos c_52, if_pos c_99, if_neg c_125, if_pos c_134, if_neg w_148_49, if_neg w_148_64, if_neg w_148_65, if_neg w_148_66, if_neg w_148_68, if_neg w_148_69, if_neg w_148_256, if_neg w_148_260, if_neg w_148_288, if_pos w_148_336, hu326, mLet_eq]
              exact m_iret X hr hk V (by rw [e9]) (by rw [e9]) dX8_does_329
            by_cases w_148_337 : (v 7) = 337
            · refine lv_lookup (off := 177) (tgt := 325) hx hb dX8_does_148 (by decide +kernel) (by rw [w_148_337]; rfl) (by decide) ?_
              refine lv_aload_n hx hb dX8_does_325 rfl (lv_at hl 3 rfl) ?_
              obtain ⟨u326, hu326⟩ : ∃ u, pX8_searches v qm qo qy = u := ⟨_, rfl⟩
              have hM := kX8_searches l D cB cI bd v qm ql qs qk qd qn qe qf qo qt qi qy
              rw [hu326] at hM
              refine m_VA X V (w1 := (wR cB cI bd u326.2.1 qm ql qs qk qd qn qe qf qo qt qi u326.2.2)) (rest := []) (st1 := [.int u326.1]) hM okX8_searches gm_583 gm_710 gm_582 ⟨⟨rfl, rfl⟩, ⟨by decide, by decide⟩, Nat.zero_le _, Nat.zero_le _⟩ rfl rfl (wR_fst _ _ _ _ _ _ _ _ _ _ _ _ _ _ _ _) (wR_fst _ _ _ _ _ _ _ _ _ _ _ _ _ _ _ _) rfl hl.1 (Nat.le_of_ble_eq_true rfl) dX8_does_326 rfl rfl (fun H locs V => ?_)
              have e9 : pX8_does v qm qs qo qt qi qy = (u326.1, u326.2.1, qm, qs, qt, qi, u326.2.2) := by rw [pX8_does, if_pos c_27, if_pos c_52, if_pos c_99, if_neg c_125, if_pos c_134, if_neg w_148_49, if_neg w_148_64, if_neg w_148_65, if_neg w_148_66, if_neg w_148_68, if_neg w_148_69, if_neg w_148_256, if_neg w_148_260, if_neg w_148_288, if_neg w_148_336, if_pos w_148_337, hu326, mLet_eq]
              exact m_iret X hr hk V (by rw [e9]) (by rw [e9]) dX8_does_329
            by_cases w_148_368 : (v 7) = 368
            · refine lv_lookup (off := 182) (tgt := 330) hx hb dX8_does_148 (by decide +kernel) (by rw [w_148_368]; rfl) (by decide) ?_
              refine lv_aload_n hx hb dX8_does_330 rfl (lv_at hl 3 rfl) ?_
              refine lv_iload_n hx hb dX8_does_331 rfl (lv_at hl 2 rfl) ?_
              refine lv_iload_n hx hb dX8_does_332 rfl (lv_at hl 1 rfl) ?_
              obtain ⟨u333, hu333⟩ : ∃ u, pX8_clears v qm (qo (Int32.toNatClampNeg 0)) (qo (Int32.toNatClampNeg 1)) = u := ⟨_, rfl⟩
              have hM := kX8_clears l D cB cI bd v qm ql qs qk qd qn qe qf qo qt qi qy (qo (Int32.toNatClampNeg 0)) (qo (Int32.toNatClampNeg 1))
              rw [hu333] at hM
              refine m_VA X V (w1 := (wR cB cI bd v u333.2 ql qs qk qd qn qe qf qo qt qi qy)) (rest := []) (st1 := [.int u333.1]) hM okX8_clears gm_601 gm_716 gm_600 ⟨⟨rfl, rfl⟩, ⟨by decide, by decide⟩, Nat.zero_le _, Nat.zero_le _⟩ rfl rfl (wR_fst _ _ _ _ _ _ _ _ _ _ _ _ _ _ _ _) (wR_fst _ _ _ _ _ _ _ _ _ _ _ _ _ _ _ _) rfl hl.1 (Nat.le_of_ble_eq_true rfl) dX8_does_333 rfl rfl (fun H locs V => ?_)
              have e9 : pX8_does v qm qs qo qt qi qy = (u333.1, v, u333.2, qs, qt, qi, qy) := by rw [pX8_does, if_pos c_27, if_pos c_52, if_pos c_99, if_neg c_125, if_pos c_134, if_neg w_148_49, if_neg w_148_64, if_neg w_148_65, if_neg w_148_66, if_neg w_148_68, if_neg w_148_69, if_neg w_148_256, if_neg w_148_260, if_neg w_148_288, if_neg w_148_336, if_neg w_148_337, if_pos w_148_368, hu333, mLet_eq]
              exact m_iret X hr hk V (by rw [e9]) (by rw [e9]) dX8_does_336
            by_cases w_148_369 : (v 7) = 369
            · refine lv_lookup (off := 189) (tgt := 337) hx hb dX8_does_148 (by decide +kernel) (by rw [w_148_369]; rfl) (by decide) ?_
              refine lv_aload_n hx hb dX8_does_337 rfl (lv_at hl 3 rfl) ?_
              refine lv_iload_n hx hb dX8_does_338 rfl (lv_at hl 2 rfl) ?_
              refine lv_iload_n hx hb dX8_does_339 rfl (lv_at hl 1 rfl) ?_
              refine lv_iload_n hx hb dX8_does_340 rfl (lv_at hl 0 rfl) ?_
              obtain ⟨u341, hu341⟩ : ∃ u, pX8_copies v qm qi (qo (Int32.toNatClampNeg 0)) (qo (Int32.toNatClampNeg 1)) (qo (Int32.toNatClampNeg 2)) = u := ⟨_, rfl⟩
              have hM := kX8_copies l D cB cI bd v qm ql qs qk qd qn qe qf qo qt qi qy (qo (Int32.toNatClampNeg 0)) (qo (Int32.toNatClampNeg 1)) (qo (Int32.toNatClampNeg 2))
              rw [hu341] at hM
              refine m_VA X V (w1 := (wR cB cI bd v u341.2.1 ql qs qk qd qn qe qf qo qt u341.2.2 qy)) (rest := []) (st1 := [.int u341.1]) hM okX8_copies gm_604 gm_717 gm_603 ⟨⟨rfl, rfl⟩, ⟨by decide, by decide⟩, Nat.zero_le _, Nat.zero_le _⟩ rfl rfl (wR_fst _ _ _ _ _ _ _ _ _ _ _ _ _ _ _ _) (wR_fst _ _ _ _ _ _ _ _ _ _ _ _ _ _ _ _) rfl hl.1 (Nat.le_of_ble_eq_true rfl) dX8_does_341 rfl rfl (fun H locs V => ?_)
              have e9 : pX8_does v qm qs qo qt qi qy = (u341.1, v, u341.2.1, qs, qt, u341.2.2, qy) := by rw [pX8_does, if_pos c_27, if_pos c_52, if_pos c_99, if_neg c_125, if_pos c_134, if_neg w_148_49, if_neg w_148_64, if_neg w_148_65, if_neg w_148_66, if_neg w_148_68, if_neg w_148_69, if_neg w_148_256, if_neg w_148_260, if_neg w_148_288, if_neg w_148_336, if_neg w_148_337, if_neg w_148_368, if_pos w_148_369, hu341, mLet_eq]
              exact m_iret X hr hk V (by rw [e9]) (by rw [e9]) dX8_does_344
            refine lv_lookup (off := 197) (tgt := 345) hx hb dX8_does_148 (by decide +kernel) ((lv_osw w_148_49 rfl).trans ((lv_osw w_148_64 rfl).trans ((lv_osw w_148_65 rfl).trans ((lv_osw w_148_66 rfl).trans ((lv_osw w_148_68 rfl).trans ((lv_osw w_148_69 rfl).trans ((lv_osw w_148_256 rfl).trans ((lv_osw w_148_260 rfl).trans ((lv_osw w_148_288 rfl).trans ((lv_osw w_148_336 rfl).trans ((lv_osw w_148_337 rfl).trans ((lv_osw w_148_368 rfl).trans ((lv_osw w_148_369 rfl).trans (rfl)))))))))))))) (by decide) ?_
            refine lv_iconst (v := 0) hx hb dX8_does_345 (by decide) ?_
            have e9 : pX8_does v qm qs qo qt qi qy = (0, v, qm, qs, qt, qi, qy) := by rw [pX8_does, if_pos c_27, if_pos c_52, if_pos c_99, if_neg c_125, if_pos c_134, if_neg w_148_49, if_neg w_148_64, if_neg w_148_65, if_neg w_148_66, if_neg w_148_68, if_neg w_148_69, if_neg w_148_256, if_neg w_148_260, if_neg w_148_288, if_neg w_148_336, if_neg w_148_337, if_neg w_148_368, if_neg w_148_369]
            exact m_iret X hr hk V (by rw [e9]) (by rw [e9]) dX8_does_346
          · refine lv_aload_n hx hb dX8_does_137 rfl (lv_at hl 3 rfl) ?_
            refine lv_iload_n hx hb dX8_does_138 rfl (lv_at hl 2 rfl) ?_
            refine lv_iload_n hx hb dX8_does_139 rfl (lv_at hl 1 rfl) ?_
            obtain ⟨u140, hu140⟩ : ∃ u, pX8_onStack v qs qt (qo (Int32.toNatClampNeg 0)) (qo (Int32.toNatClampNeg 1)) = u := ⟨_, rfl⟩
            have hM := kX8_onStack l D cB cI bd v qm ql qs qk qd qn qe qf qo qt qi qy (qo (Int32.toNatClampNeg 0)) (qo (Int32.toNatClampNeg 1)) (show 0 ≤ Int32.toInt (v 0) ∧ Int32.toInt (v 0) ≤ 40 by omega)
            rw [hu140] at hM
            refine m_VA X V (w1 := (wR cB cI bd u140.2.1 qm ql u140.2.2.1 qk qd qn qe qf qo u140.2.2.2 qi qy)) (rest := []) (st1 := [.int u140.1]) hM okX8_onStack gm_572 gm_708 gm_571 ⟨⟨rfl, rfl⟩, ⟨by decide, by decide⟩, Nat.zero_le _, Nat.zero_le _⟩ rfl rfl (wR_fst _ _ _ _ _ _ _ _ _ _ _ _ _ _ _ _) (wR_fst _ _ _ _ _ _ _ _ _ _ _ _ _ _ _ _) rfl hl.1 (Nat.le_of_ble_eq_true rfl) dX8_does_140 rfl rfl (fun H locs V => ?_)
            have e9 : pX8_does v qm qs qo qt qi qy = (u140.1, u140.2.1, qm, u140.2.2.1, u140.2.2.2, qi, qy) := by rw [pX8_does, if_pos c_27, if_pos c_52, if_pos c_99, if_neg c_125, if_neg c_134, hu140, mLet_eq]
            exact m_iret X hr hk V (by rw [e9]) (by rw [e9]) dX8_does_143
      · refine lv_aload_n hx hb dX8_does_102 rfl (lv_at hl 3 rfl) ?_
        refine m_get X V 6 0 11 rfl gin_6 rfl (by decide) rfl gm_434 (v := .int (v 7)) rfl dX8_does_103 ?_
        refine lv_bipush (v := 79) hx hb dX8_does_106 (by decide) ?_
        refine lv_icmp_gt (tgt := 119) hx hb dX8_does_108 (by decide) (fun c_108 => ?_) (fun c_108 => ?_)
        · refine lv_aload_n hx hb dX8_does_119 rfl (lv_at hl 3 rfl) ?_
          refine m_get X V 6 0 11 rfl gin_6 rfl (by decide) rfl gm_434 (v := .int (v 7)) rfl dX8_does_120 ?_
          refine lv_bipush (v := 80) hx hb dX8_does_123 (by decide) ?_
          refine lv_icmp_lt (tgt := 144) hx hb dX8_does_125 (by decide) (fun c_125 => ?_) (fun c_125 => ?_)
          · refine lv_aload_n hx hb dX8_does_144 rfl (lv_at hl 3 rfl) ?_
            refine m_get X V 6 0 11 rfl gin_6 rfl (by decide) rfl gm_434 (v := .int (v 7)) rfl dX8_does_145 ?_
            by_cases w_148_49 : (v 7) = 49
            · refine lv_lookup (off := 116) (tgt := 264) hx hb dX8_does_148 (by decide +kernel) (by rw [w_148_49]; rfl) (by decide) ?_
              refine lv_aload_n hx hb dX8_does_264 rfl (lv_at hl 3 rfl) ?_
              refine lv_aload_n hx hb dX8_does_265 rfl (lv_at hl 3 rfl) ?_
              refine m_get X V 6 0 11 rfl gin_6 rfl (by decide) rfl gm_434 (v := .int (v 7)) rfl dX8_does_266 ?_
              refine lv_bipush (v := 49) hx hb dX8_does_269 (by decide) ?_
              refine lv_icmp_ne (tgt := 278) hx hb dX8_does_271 (by decide) (fun h => absurd w_148_49 h) (fun _ => ?_)
              refine lv_iload_n hx hb dX8_does_274 rfl (lv_at hl 2 rfl) ?_
              refine lv_goto (tgt := 279) hx hb dX8_does_275 (by decide) ?_
              refine m_put X V (ws' := (wR cB cI bd (upd v 15 (qo (Int32.toNatClampNeg 0))) qm ql qs qk qd qn qe qf qo qt qi qy)) 6 0 24 rfl gin_6 tyX8_ok nmX8 rfl (by decide) rfl gm_447 rfl rfl rfl (Nat.le_of_ble_eq_true rfl) dX8_does_279 rfl (fun H locs V => ?_)
              refine lv_aload_n hx hb dX8_does_282 rfl (lv_at hl 3 rfl) ?_
              refine lv_iconst (v := 1) hx hb dX8_does_283 (by decide) ?_
              refine m_put X V (ws' := (wR cB cI bd (upd (upd v 3 1) 15 (qo (Int32.toNatClampNeg 0))) qm ql qs qk qd qn qe qf qo qt qi qy)) 6 0 7 rfl gin_6 tyX8_ok nmX8 rfl (by decide) rfl gm_430 rfl rfl rfl (Nat.le_of_ble_eq_true rfl) dX8_does_284 rfl (fun H locs V => ?_)
              refine lv_iconst (v := 0) hx hb dX8_does_287 (by decide) ?_
              have e9 : pX8_does v qm qs qo qt qi qy = (0, (upd (upd v 3 1) 15 (qo (Int32.toNatClampNeg 0))), qm, qs, qt, qi, qy) := by rw [pX8_does, if_pos c_27, if_pos c_52, if_neg c_99, if_pos c_108, if_pos c_125, if_pos w_148_49]
              exact m_iret X hr hk V (by rw [e9]) (by rw [e9]) dX8_does_288
            by_cases w_148_64 : (v 7) = 64
            · refine lv_lookup (off := 141) (tgt := 289) hx hb dX8_does_148 (by decide +kernel) (by rw [w_148_64]; rfl) (by decide) ?_
              refine lv_aload_n hx hb dX8_does_289 rfl (lv_at hl 3 rfl) ?_
              refine lv_iload_n hx hb dX8_does_290 rfl (lv_at hl 2 rfl) ?_
              obtain ⟨u291, hu291⟩ : ∃ u, pX8_gives v (qo (Int32.toNatClampNeg 0)) = u := ⟨_, rfl⟩
              have hM := kX8_gives l D cB cI bd v qm ql qs qk qd qn qe qf qo qt qi qy (qo (Int32.toNatClampNeg 0))
              rw [hu291] at hM
              refine m_VA X V (w1 := (wR cB cI bd u291.2 qm ql qs qk qd qn qe qf qo qt qi qy)) (rest := []) (st1 := [.int u291.1]) hM okX8_gives gm_553 gm_704 gm_552 ⟨⟨rfl, rfl⟩, ⟨by decide, by decide⟩, Nat.zero_le _, Nat.zero_le _⟩ rfl rfl (wR_fst _ _ _ _ _ _ _ _ _ _ _ _ _ _ _ _) (wR_fst _ _ _ _ _ _ _ _ _ _ _ _ _ _ _ _) rfl hl.1 (Nat.le_of_ble_eq_true rfl) dX8_does_291 rfl rfl (fun H locs V => ?_)
              have e9 : pX8_does v qm qs qo qt qi qy = (u291.1, u291.2, qm, qs, qt, qi, qy) := by rw [pX8_does, if_pos c_27, if_pos c_52, if_neg c_99, if_pos c_108, if_pos c_125, if_neg w_148_49, if_pos w_148_64, hu291, mLet_eq]
              exact m_iret X hr hk V (by rw [e9]) (by rw [e9]) dX8_does_294
            by_cases w_148_65 : (v 7) = 65
            · refine lv_lookup (off := 141) (tgt := 289) hx hb dX8_does_148 (by decide +kernel) (by rw [w_148_65]; rfl) (by decide) ?_
              refine lv_aload_n hx hb dX8_does_289 rfl (lv_at hl 3 rfl) ?_
              refine lv_iload_n hx hb dX8_does_290 rfl (lv_at hl 2 rfl) ?_
              obtain ⟨u291, hu291⟩ : ∃ u, pX8_gives v (qo (Int32.toNatClampNeg 0)) = u := ⟨_, rfl⟩
              have hM := kX8_gives l D cB cI bd v qm ql qs qk qd qn qe qf qo qt qi qy (qo (Int32.toNatClampNeg 0))
              rw [hu291] at hM
              refine m_VA X V (w1 := (wR cB cI bd u291.2 qm ql qs qk qd qn qe qf qo qt qi qy)) (rest := []) (st1 := [.int u291.1]) hM okX8_gives gm_553 gm_704 gm_552 ⟨⟨rfl, rfl⟩, ⟨by decide, by decide⟩, Nat.zero_le _, Nat.zero_le _⟩ rfl rfl (wR_fst _ _ _ _ _ _ _ _ _ _ _ _ _ _ _ _) (wR_fst _ _ _ _ _ _ _ _ _ _ _ _ _ _ _ _) rfl hl.1 (Nat.le_of_ble_eq_true rfl) dX8_does_291 rfl rfl (fun H locs V => ?_)
              have e9 : pX8_does v qm qs qo qt qi qy = (u291.1, u291.2, qm, qs, qt, qi, qy) := by rw [pX8_does, if_pos c_27, if_pos c_52, if_neg c_99, if_pos c_108, if_pos c_125, if_neg w_148_49, if_neg w_148_64, if_pos w_148_65, hu291, mLet_eq]
              exact m_iret X hr hk V (by rw [e9]) (by rw [e9]) dX8_does_294
            by_cases w_148_66 : (v 7) = 66
            · refine lv_lookup (off := 141) (tgt := 289) hx hb dX8_does_148 (by decide +kernel) (by rw [w_148_66]; rfl) (by decide) ?_
              refine lv_aload_n hx hb dX8_does_289 rfl (lv_at hl 3 rfl) ?_
              refine lv_iload_n hx hb dX8_does_290 rfl (lv_at hl 2 rfl) ?_
              obtain ⟨u291, hu291⟩ : ∃ u, pX8_gives v (qo (Int32.toNatClampNeg 0)) = u := ⟨_, rfl⟩
              have hM := kX8_gives l D cB cI bd v qm ql qs qk qd qn qe qf qo qt qi qy (qo (Int32.toNatClampNeg 0))
              rw [hu291] at hM
              refine m_VA X V (w1 := (wR cB cI bd u291.2 qm ql qs qk qd qn qe qf qo qt qi qy)) (rest := []) (st1 := [.int u291.1]) hM okX8_gives gm_553 gm_704 gm_552 ⟨⟨rfl, rfl⟩, ⟨by decide, by decide⟩, Nat.zero_le _, Nat.zero_le _⟩ rfl rfl (wR_fst _ _ _ _ _ _ _ _ _ _ _ _ _ _ _ _) (wR_fst _ _ _ _ _ _ _ _ _ _ _ _ _ _ _ _) rfl hl.1 (Nat.le_of_ble_eq_true rfl) dX8_does_291 rfl rfl (fun H locs V => ?_)
              have e9 : pX8_does v qm qs qo qt qi qy = (u291.1, u291.2, qm, qs, qt, qi, qy) := by rw [pX8_does, if_pos c_27, if_pos c_52, if_neg c_99, if_pos c_108, if_pos c_125, if_neg w_148_49, if_neg w_148_64, if_neg w_148_65, if_pos w_148_66, hu291, mLet_eq]
              exact m_iret X hr hk V (by rw [e9]) (by rw [e9]) dX8_does_294
            by_cases w_148_68 : (v 7) = 68
            · refine lv_lookup (off := 147) (tgt := 295) hx hb dX8_does_148 (by decide +kernel) (by rw [w_148_68]; rfl) (by decide) ?_
              refine lv_aload_n hx hb dX8_does_295 rfl (lv_at hl 3 rfl) ?_
              refine lv_iload_n hx hb dX8_does_296 rfl (lv_at hl 2 rfl) ?_
              refine lv_i2s hx hb dX8_does_297 rfl ?_
              obtain ⟨u298, hu298⟩ : ∃ u, pX8_gives v ((Int32.toInt16 (qo (Int32.toNatClampNeg 0))).toInt32) = u := ⟨_, rfl⟩
              have hM := kX8_gives l D cB cI bd v qm ql qs qk qd qn qe qf qo qt qi qy ((Int32.toInt16 (qo (Int32.toNatClampNeg 0))).toInt32)
              rw [hu298] at hM
              refine m_VA X V (w1 := (wR cB cI bd u298.2 qm ql qs qk qd qn qe qf qo qt qi qy)) (rest := []) (st1 := [.int u298.1]) hM okX8_gives gm_553 gm_704 gm_552 ⟨⟨rfl, rfl⟩, ⟨by decide, by decide⟩, Nat.zero_le _, Nat.zero_le _⟩ rfl rfl (wR_fst _ _ _ _ _ _ _ _ _ _ _ _ _ _ _ _) (wR_fst _ _ _ _ _ _ _ _ _ _ _ _ _ _ _ _) rfl hl.1 (Nat.le_of_ble_eq_true rfl) dX8_does_298 rfl rfl (fun H locs V => ?_)
              have e9 : pX8_does v qm qs qo qt qi qy = (u298.1, u298.2, qm, qs, qt, qi, qy) := by rw [pX8_does, if_pos c_27, if_pos c_52, if_neg c_99, if_pos c_108, if_pos c_125, if_neg w_148_49, if_neg w_148_64, if_neg w_148_65, if_neg w_148_66, if_pos w_148_68, hu298, mLet_eq]
              exact m_iret X hr hk V (by rw [e9]) (by rw [e9]) dX8_does_301
            by_cases w_148_69 : (v 7) = 69
            · refine lv_lookup (off := 154) (tgt := 302) hx hb dX8_does_148 (by decide +kernel) (by rw [w_148_69]; rfl) (by decide) ?_
              refine lv_aload_n hx hb dX8_does_302 rfl (lv_at hl 3 rfl) ?_
              refine lv_iload_n hx hb dX8_does_303 rfl (lv_at hl 2 rfl) ?_
              refine lv_i2b hx hb dX8_does_304 rfl ?_
              obtain ⟨u305, hu305⟩ : ∃ u, pX8_gives v ((Int32.toInt8 (qo (Int32.toNatClampNeg 0))).toInt32) = u := ⟨_, rfl⟩
              have hM := kX8_gives l D cB cI bd v qm ql qs qk qd qn qe qf qo qt qi qy ((Int32.toInt8 (qo (Int32.toNatClampNeg 0))).toInt32)
              rw [hu305] at hM
              refine m_VA X V (w1 := (wR cB cI bd u305.2 qm ql qs qk qd qn qe qf qo qt qi qy)) (rest := []) (st1 := [.int u305.1]) hM okX8_gives gm_553 gm_704 gm_552 ⟨⟨rfl, rfl⟩, ⟨by decide, by decide⟩, Nat.zero_le _, Nat.zero_le _⟩ rfl rfl (wR_fst _ _ _ _ _ _ _ _ _ _ _ _ _ _ _ _) (wR_fst _ _ _ _ _ _ _ _ _ _ _ _ _ _ _ _) rfl hl.1 (Nat.le_of_ble_eq_true rfl) dX8_does_305 rfl rfl (fun H locs V => ?_)
              have e9 : pX8_does v qm qs qo qt qi qy = (u305.1, u305.2, qm, qs, qt, qi, qy) := by rw [pX8_does, if_pos c_27, if_pos c_52, if_neg c_99, if_pos c_108, if_pos c_125, if_neg w_148_49, if_neg w_148_64, if_neg w_148_65, if_neg w_148_66, if_neg w_148_68, if_pos w_148_69, hu305, mLet_eq]
              exact m_iret X hr hk V (by rw [e9]) (by rw [e9]) dX8_does_308
            by_cases w_148_256 : (v 7) = 256
            · refine lv_lookup (off := 161) (tgt := 309) hx hb dX8_does_148 (by decide +kernel) (by rw [w_148_256]; rfl) (by decide) ?_
              refine lv_aload_n hx hb dX8_does_309 rfl (lv_at hl 3 rfl) ?_
              refine lv_iload_n hx hb dX8_does_310 rfl (lv_at hl 2 rfl) ?_
              obtain ⟨u311, hu311⟩ : ∃ u, pX8_gestalt (qo (Int32.toNatClampNeg 0)) = u := ⟨_, rfl⟩
              have hM := kX8_gestalt l D cB cI (qo (Int32.toNatClampNeg 0))
              rw [hu311] at hM
              refine m_S X V (rest := [.ref (bd 0)]) (st1 := [.int u311, .ref (bd 0)]) hM okX8_gestalt gm_578 gm_577 ⟨⟨rfl, rfl⟩, ⟨by decide, by decide⟩, Nat.zero_le _, Nat.zero_le _⟩ rfl hl.1 (Nat.le_of_ble_eq_true rfl) dX8_does_311 rfl rfl (fun H locs V => ?_)
              obtain ⟨u314, hu314⟩ : ∃ u, pX8_gives v u311 = u := ⟨_, rfl⟩
              have hM := kX8_gives l D cB cI bd v qm ql qs qk qd qn qe qf qo qt qi qy u311
              rw [hu314] at hM
              refine m_VA X V (w1 := (wR cB cI bd u314.2 qm ql qs qk qd qn qe qf qo qt qi qy)) (rest := []) (st1 := [.int u314.1]) hM okX8_gives gm_553 gm_704 gm_552 ⟨⟨rfl, rfl⟩, ⟨by decide, by decide⟩, Nat.zero_le _, Nat.zero_le _⟩ rfl rfl (wR_fst _ _ _ _ _ _ _ _ _ _ _ _ _ _ _ _) (wR_fst _ _ _ _ _ _ _ _ _ _ _ _ _ _ _ _) rfl hl.1 (Nat.le_of_ble_eq_true rfl) dX8_does_314 rfl rfl (fun H locs V => ?_)
              have e9 : pX8_does v qm qs qo qt qi qy = (u314.1, u314.2, qm, qs, qt, qi, qy) := by rw [pX8_does, if_pos c_27, if_pos c_52, if_neg c_99, if_pos c_108, if_pos c_125, if_neg w_148_49, if_neg w_148_64, if_neg w_148_65, if_neg w_148_66, if_neg w_148_68, if_neg w_148_69, if_pos w_148_256, hu311, mLet_eq, hu314, mLet_eq]
              exact m_iret X hr hk V (by rw [e9]) (by rw [e9]) dX8_does_317
            by_cases w_148_260 : (v 7) = 260
            · refine lv_lookup (off := 170) (tgt := 318) hx hb dX8_does_148 (by decide +kernel) (by rw [w_148_260]; rfl) (by decide) ?_
              refine lv_aload_n hx hb dX8_does_318 rfl (lv_at hl 3 rfl) ?_
              refine lv_iload_n hx hb dX8_does_319 rfl (lv_at hl 2 rfl) ?_
              refine m_put X V (ws' := (wR cB cI bd (upd v 14 (qo (Int32.toNatClampNeg 0))) qm ql qs qk qd qn qe qf qo qt qi qy)) 6 0 23 rfl gin_6 tyX8_ok nmX8 rfl (by decide) rfl gm_446 rfl rfl rfl (Nat.le_of_ble_eq_true rfl) dX8_does_320 rfl (fun H locs V => ?_)
              refine lv_iconst (v := 0) hx hb dX8_does_323 (by decide) ?_
              have e9 : pX8_does v qm qs qo qt qi qy = (0, (upd v 14 (qo (Int32.toNatClampNeg 0))), qm, qs, qt, qi, qy) := by rw [pX8_does, if_pos c_27, if_pos c_52, if_neg c_99, if_pos c_108, if_pos c_125, if_neg w_148_49, if_neg w_148_64, if_neg w_148_65, if_neg w_148_66, if_neg w_148_68, if_neg w_148_69, if_neg w_148_256, if_pos w_148_260]
              exact m_iret X hr hk V (by rw [e9]) (by rw [e9]) dX8_does_324
            by_cases w_148_288 : (v 7) = 288
            · refine lv_lookup (off := 116) (tgt := 264) hx hb dX8_does_148 (by decide +kernel) (by rw [w_148_288]; rfl) (by decide) ?_
              refine lv_aload_n hx hb dX8_does_264 rfl (lv_at hl 3 rfl) ?_
              refine lv_aload_n hx hb dX8_does_265 rfl (lv_at hl 3 rfl) ?_
              refine m_get X V 6 0 11 rfl gin_6 rfl (by decide) rfl gm_434 (v := .int (v 7)) rfl dX8_does_266 ?_
              refine lv_bipush (v := 49) hx hb dX8_does_269 (by decide) ?_
              refine lv_icmp_ne (tgt := 278) hx hb dX8_does_271 (by decide) (fun _ => ?_) (fun h => absurd h w_148_49)
              refine lv_iconst (v := 0) hx hb dX8_does_278 (by decide) ?_
              refine m_put X V (ws' := (wR cB cI bd (upd v 15 0) qm ql qs qk qd qn qe qf qo qt qi qy)) 6 0 24 rfl gin_6 tyX8_ok nmX8 rfl (by decide) rfl gm_447 rfl rfl rfl (Nat.le_of_ble_eq_true rfl) dX8_does_279 rfl (fun H locs V => ?_)
              refine lv_aload_n hx hb dX8_does_282 rfl (lv_at hl 3 rfl) ?_
              refine lv_iconst (v := 1) hx hb dX8_does_283 (by decide) ?_
              refine m_put X V (ws' := (wR cB cI bd (upd (upd v 3 1) 15 0) qm ql qs qk qd qn qe qf qo qt qi qy)) 6 0 7 rfl gin_6 tyX8_ok nmX8 rfl (by decide) rfl gm_430 rfl rfl rfl (Nat.le_of_ble_eq_true rfl) dX8_does_284 rfl (fun H locs V => ?_)
              refine lv_iconst (v := 0) hx hb dX8_does_287 (by decide) ?_
              have e9 : pX8_does v qm qs qo qt qi qy = (0, (upd (upd v 3 1) 15 0), qm, qs, qt, qi, qy) := by rw [pX8_does, if_pos c_27, if_pos c_52, if_neg c_99, if_pos c_108, if_pos c_125, if_neg w_148_49, if_neg w_148_64, if_neg w_148_65, if_neg w_148_66, if_neg w_148_68, if_neg w_148_69, if_neg w_148_256, if_neg w_148_260, if_pos w_148_288]
              exact m_iret X hr hk V (by rw [e9]) (by rw [e9]) dX8_does_288
            by_cases w_148_336 : (v 7) = 336
            · refine lv_lookup (off := 177) (tgt := 325) hx hb dX8_does_148 (by decide +kernel) (by rw [w_148_336]; rfl) (by decide) ?_
              refine lv_aload_n hx hb dX8_does_325 rfl (lv_at hl 3 rfl) ?_
              obtain ⟨u326, hu326⟩ : ∃ u, pX8_searches v qm qo qy = u := ⟨_, rfl⟩
              have hM := kX8_searches l D cB cI bd v qm ql qs qk qd qn qe qf qo qt qi qy
              rw [hu326] at hM
              refine m_VA X V (w1 := (wR cB cI bd u326.2.1 qm ql qs qk qd qn qe qf qo qt qi u326.2.2)) (rest := []) (st1 := [.int u326.1]) hM okX8_searches gm_583 gm_710 gm_582 ⟨⟨rfl, rfl⟩, ⟨by decide, by decide⟩, Nat.zero_le _, Nat.zero_le _⟩ rfl rfl (wR_fst _ _ _ _ _ _ _ _ _ _ _ _ _ _ _ _) (wR_fst _ _ _ _ _ _ _ _ _ _ _ _ _ _ _ _) rfl hl.1 (Nat.le_of_ble_eq_true rfl) dX8_does_326 rfl rfl (fun H locs V => ?_)
              have e9 : pX8_does v qm qs qo qt qi qy = (u326.1, u326.2.1, qm, qs, qt, qi, u326.2.2) := by rw [pX8_does, if_pos c_27, if_pos c_52, if_neg c_99, if_pos c_108, if_pos c_125, if_neg w_148_49, if_neg w_148_64, if_neg w_148_65, if_neg w_148_66, if_neg w_148_68, if_neg w_148_69, if_neg w_148_256, if_neg w_148_260, if_neg w_148_288, if_pos w_148_336, hu326, mLet_eq]
              exact m_iret X hr hk V (by rw [e9]) (by rw [e9]) dX8_does_329
            by_cases w_148_337 : (v 7) = 337
            · refine lv_lookup (off := 177) (tgt := 325) hx hb dX8_does_148 (by decide +kernel) (by rw [w_148_337]; rfl) (by decide) ?_
              refine lv_aload_n hx hb dX8_does_325 rfl (lv_at hl 3 rfl) ?_
              obtain ⟨u326, hu326⟩ : ∃ u, pX8_searches v qm qo qy = u := ⟨_, rfl⟩
              have hM := kX8_searches l D cB cI bd v qm ql qs qk qd qn qe qf qo qt qi qy
              rw [hu326] at hM
              refine m_VA X V (w1 := (wR cB cI bd u326.2.1 qm ql qs qk qd qn qe qf qo qt qi u326.2.2)) (rest := []) (st1 := [.int u326.1]) hM okX8_searches gm_583 gm_710 gm_582 ⟨⟨rfl, rfl⟩, ⟨by decide, by decide⟩, Nat.zero_le _, Nat.zero_le _⟩ rfl rfl (wR_fst _ _ _ _ _ _ _ _ _ _ _ _ _ _ _ _) (wR_fst _ _ _ _ _ _ _ _ _ _ _ _ _ _ _ _) rfl hl.1 (Nat.le_of_ble_eq_true rfl) dX8_does_326 rfl rfl (fun H locs V => ?_)
              have e9 : pX8_does v qm qs qo qt qi qy = (u326.1, u326.2.1, qm, qs, qt, qi, u326.2.2) := by rw [pX8_does, if_pos c_27, if_pos c_52, if_neg c_99, if_pos c_108, if_pos c_125, if_neg w_148_49, if_neg w_148_64, if_neg w_148_65, if_neg w_148_66, if_neg w_148_68, if_neg w_148_69, if_neg w_148_256, if_neg w_148_260, if_neg w_148_288, if_neg w_148_336, if_pos w_148_337, hu326, mLet_eq]
              exact m_iret X hr hk V (by rw [e9]) (by rw [e9]) dX8_does_329
            by_cases w_148_368 : (v 7) = 368
            · refine lv_lookup (off := 182) (tgt := 330) hx hb dX8_does_148 (by decide +kernel) (by rw [w_148_368]; rfl) (by decide) ?_
              refine lv_aload_n hx hb dX8_does_330 rfl (lv_at hl 3 rfl) ?_
              refine lv_iload_n hx hb dX8_does_331 rfl (lv_at hl 2 rfl) ?_
              refine lv_iload_n hx hb dX8_does_332 rfl (lv_at hl 1 rfl) ?_
              obtain ⟨u333, hu333⟩ : ∃ u, pX8_clears v qm (qo (Int32.toNatClampNeg 0)) (qo (Int32.toNatClampNeg 1)) = u := ⟨_, rfl⟩
              have hM := kX8_clears l D cB cI bd v qm ql qs qk qd qn qe qf qo qt qi qy (qo (Int32.toNatClampNeg 0)) (qo (Int32.toNatClampNeg 1))
              rw [hu333] at hM
              refine m_VA X V (w1 := (wR cB cI bd v u333.2 ql qs qk qd qn qe qf qo qt qi qy)) (rest := []) (st1 := [.int u333.1]) hM okX8_clears gm_601 gm_716 gm_600 ⟨⟨rfl, rfl⟩, ⟨by decide, by decide⟩, Nat.zero_le _, Nat.zero_le _⟩ rfl rfl (wR_fst _ _ _ _ _ _ _ _ _ _ _ _ _ _ _ _) (wR_fst _ _ _ _ _ _ _ _ _ _ _ _ _ _ _ _) rfl hl.1 (Nat.le_of_ble_eq_true rfl) dX8_does_333 rfl rfl (fun H locs V => ?_)
              have e9 : pX8_does v qm qs qo qt qi qy = (u333.1, v, u333.2, qs, qt, qi, qy) := by rw [pX8_does, if_pos c_27, if_pos c_52, if_neg c_99, if_pos c_108, if_pos c_125, if_neg w_148_49, if_neg w_148_64, if_neg w_148_65, if_neg w_148_66, if_neg w_148_68, if_neg w_148_69, if_neg w_148_256, if_neg w_148_260, if_neg w_148_288, if_neg w_148_336, if_neg w_148_337, if_pos w_148_368, hu333, mLet_eq]
              exact m_iret X hr hk V (by rw [e9]) (by rw [e9]) dX8_does_336
            by_cases w_148_369 : (v 7) = 369
            · refine lv_lookup (off := 189) (tgt := 337) hx hb dX8_does_148 (by decide +kernel) (by rw [w_148_369]; rfl) (by decide) ?_
              refine lv_aload_n hx hb dX8_does_337 rfl (lv_at hl 3 rfl) ?_
              refine lv_iload_n hx hb dX8_does_338 rfl (lv_at hl 2 rfl) ?_
              refine lv_iload_n hx hb dX8_does_339 rfl (lv_at hl 1 rfl) ?_
              refine lv_iload_n hx hb dX8_does_340 rfl (lv_at hl 0 rfl) ?_
              obtain ⟨u341, hu341⟩ : ∃ u, pX8_copies v qm qi (qo (Int32.toNatClampNeg 0)) (qo (Int32.toNatClampNeg 1)) (qo (Int32.toNatClampNeg 2)) = u := ⟨_, rfl⟩
              have hM := kX8_copies l D cB cI bd v qm ql qs qk qd qn qe qf qo qt qi qy (qo (Int32.toNatClampNeg 0)) (qo (Int32.toNatClampNeg 1)) (qo (Int32.toNatClampNeg 2))
              rw [hu341] at hM
              refine m_VA X V (w1 := (wR cB cI bd v u341.2.1 ql qs qk qd qn qe qf qo qt u341.2.2 qy)) (rest := []) (st1 := [.int u341.1]) hM okX8_copies gm_604 gm_717 gm_603 ⟨⟨rfl, rfl⟩, ⟨by decide, by decide⟩, Nat.zero_le _, Nat.zero_le _⟩ rfl rfl (wR_fst _ _ _ _ _ _ _ _ _ _ _ _ _ _ _ _) (wR_fst _ _ _ _ _ _ _ _ _ _ _ _ _ _ _ _) rfl hl.1 (Nat.le_of_ble_eq_true rfl) dX8_does_341 rfl rfl (fun H locs V => ?_)
              have e9 : pX8_does v qm qs qo qt qi qy = (u341.1, v, u341.2.1, qs, qt, u341.2.2, qy) := by rw [pX8_does, if_pos c_27, if_pos c_52, if_neg c_99, if_pos c_108, if_pos c_125, if_neg w_148_49, if_neg w_148_64, if_neg w_148_65, if_neg w_148_66, if_neg w_148_68, if_neg w_148_69, if_neg w_148_256, if_neg w_148_260, if_neg w_148_288, if_neg w_148_336, if_neg w_148_337, if_neg w_148_368, if_pos w_148_369, hu341, mLet_eq]
              exact m_iret X hr hk V (by rw [e9]) (by rw [e9]) dX8_does_344
            refine lv_lookup (off := 197) (tgt := 345) hx hb dX8_does_148 (by decide +kernel) ((lv_osw w_148_49 rfl).trans ((lv_osw w_148_64 rfl).trans ((lv_osw w_148_65 rfl).trans ((lv_osw w_148_66 rfl).trans ((lv_osw w_148_68 rfl).trans ((lv_osw w_148_69 rfl).trans ((lv_osw w_148_256 rfl).trans ((lv_osw w_148_260 rfl).trans ((lv_osw w_148_288 rfl).trans ((lv_osw w_148_336 rfl).trans ((lv_osw w_148_337 rfl).trans ((lv_osw w_148_368 rfl).trans ((lv_osw w_148_369 rfl).trans (rfl)))))))))))))) (by decide) ?_
            refine lv_iconst (v := 0) hx hb dX8_does_345 (by decide) ?_
            have e9 : pX8_does v qm qs qo qt qi qy = (0, v, qm, qs, qt, qi, qy) := by rw [pX8_does, if_pos c_27, if_pos c_52, if_neg c_99, if_pos c_108, if_pos c_125, if_neg w_148_49, if_neg w_148_64, if_neg w_148_65, if_neg w_148_66, if_neg w_148_68, if_neg w_148_69, if_neg w_148_256, if_neg w_148_260, if_neg w_148_288, if_neg w_148_336, if_neg w_148_337, if_neg w_148_368, if_neg w_148_369]
            exact m_iret X hr hk V (by rw [e9]) (by rw [e9]) dX8_does_346
          · refine lv_aload_n hx hb dX8_does_128 rfl (lv_at hl 3 rfl) ?_
            refine m_get X V 6 0 11 rfl gin_6 rfl (by decide) rfl gm_434 (v := .int (v 7)) rfl dX8_does_129 ?_
            refine lv_bipush (v := 84) hx hb dX8_does_132 (by decide) ?_
            refine lv_icmp_gt (tgt := 144) hx hb dX8_does_134 (by decide) (fun c_134 => ?_) (fun c_134 => ?_)
            · refine lv_aload_n hx hb dX8_does_144 rfl (lv_at hl 3 rfl) ?_
              refine m_get X V 6 0 11 rfl gin_6 rfl (by decide) rfl gm_434 (v := .int (v 7)) rfl dX8_does_145 ?_
              by_cases w_148_49 : (v 7) = 49
              · refine lv_lookup (off := 116) (tgt := 264) hx hb dX8_does_148 (by decide +kernel) (by rw [w_148_49]; rfl) (by decide) ?_
                refine lv_aload_n hx hb dX8_does_264 rfl (lv_at hl 3 rfl) ?_
                refine lv_aload_n hx hb dX8_does_265 rfl (lv_at hl 3 rfl) ?_
                refine m_get X V 6 0 11 rfl gin_6 rfl (by decide) rfl gm_434 (v := .int (v 7)) rfl dX8_does_266 ?_
                refine lv_bipush (v := 49) hx hb dX8_does_269 (by decide) ?_
                refine lv_icmp_ne (tgt := 278) hx hb dX8_does_271 (by decide) (fun h => absurd w_148_49 h) (fun _ => ?_)
                refine lv_iload_n hx hb dX8_does_274 rfl (lv_at hl 2 rfl) ?_
                refine lv_goto (tgt := 279) hx hb dX8_does_275 (by decide) ?_
                refine m_put X V (ws' := (wR cB cI bd (upd v 15 (qo (Int32.toNatClampNeg 0))) qm ql qs qk qd qn qe qf qo qt qi qy)) 6 0 24 rfl gin_6 tyX8_ok nmX8 rfl (by decide) rfl gm_447 rfl rfl rfl (Nat.le_of_ble_eq_true rfl) dX8_does_279 rfl (fun H locs V => ?_)
                refine lv_aload_n hx hb dX8_does_282 rfl (lv_at hl 3 rfl) ?_
                refine lv_iconst (v := 1) hx hb dX8_does_283 (by decide) ?_
                refine m_put X V (ws' := (wR cB cI bd (upd (upd v 3 1) 15 (qo (Int32.toNatClampNeg 0))) qm ql qs qk qd qn qe qf qo qt qi qy)) 6 0 7 rfl gin_6 tyX8_ok nmX8 rfl (by decide) rfl gm_430 rfl rfl rfl (Nat.le_of_ble_eq_true rfl) dX8_does_284 rfl (fun H locs V => ?_)
                refine lv_iconst (v := 0) hx hb dX8_does_287 (by decide) ?_
                have e9 : pX8_does v qm qs qo qt qi qy = (0, (upd (upd v 3 1) 15 (qo (Int32.toNatClampNeg 0))), qm, qs, qt, qi, qy) := by rw [pX8_does, if_pos c_27, if_pos c_52, if_neg c_99, if_pos c_108, if_neg c_125, if_pos c_134, if_pos w_148_49]
                exact m_iret X hr hk V (by rw [e9]) (by rw [e9]) dX8_does_288
              by_cases w_148_64 : (v 7) = 64
              · refine lv_lookup (off := 141) (tgt := 289) hx hb dX8_does_148 (by decide +kernel) (by rw [w_148_64]; rfl) (by decide) ?_
                refine lv_aload_n hx hb dX8_does_289 rfl (lv_at hl 3 rfl) ?_
                refine lv_iload_n hx hb dX8_does_290 rfl (lv_at hl 2 rfl) ?_
                obtain ⟨u291, hu291⟩ : ∃ u, pX8_gives v (qo (Int32.toNatClampNeg 0)) = u := ⟨_, rfl⟩
                have hM := kX8_gives l D cB cI bd v qm ql qs qk qd qn qe qf qo qt qi qy (qo (Int32.toNatClampNeg 0))
                rw [hu291] at hM
                refine m_VA X V (w1 := (wR cB cI bd u291.2 qm ql qs qk qd qn qe qf qo qt qi qy)) (rest := []) (st1 := [.int u291.1]) hM okX8_gives gm_553 gm_704 gm_552 ⟨⟨rfl, rfl⟩, ⟨by decide, by decide⟩, Nat.zero_le _, Nat.zero_le _⟩ rfl rfl (wR_fst _ _ _ _ _ _ _ _ _ _ _ _ _ _ _ _) (wR_fst _ _ _ _ _ _ _ _ _ _ _ _ _ _ _ _) rfl hl.1 (Nat.le_of_ble_eq_true rfl) dX8_does_291 rfl rfl (fun H locs V => ?_)
                have e9 : pX8_does v qm qs qo qt qi qy = (u291.1, u291.2, qm, qs, qt, qi, qy) := by rw [pX8_does, if_pos c_27, if_pos c_52, if_neg c_99, if_pos c_108, if_neg c_125, if_pos c_134, if_neg w_148_49, if_pos w_148_64, hu291, mLet_eq]
                exact m_iret X hr hk V (by rw [e9]) (by rw [e9]) dX8_does_294
              by_cases w_148_65 : (v 7) = 65
              · refine lv_lookup (off := 141) (tgt := 289) hx hb dX8_does_148 (by decide +kernel) (by rw [w_148_65]; rfl) (by decide) ?_
                refine lv_aload_n hx hb dX8_does_289 rfl (lv_at hl 3 rfl) ?_
                refine lv_iload_n hx hb dX8_does_290 rfl (lv_at hl 2 rfl) ?_
                obtain ⟨u291, hu291⟩ : ∃ u, pX8_gives v (qo (Int32.toNatClampNeg 0)) = u := ⟨_, rfl⟩
                have hM := kX8_gives l D cB cI bd v qm ql qs qk qd qn qe qf qo qt qi qy (qo (Int32.toNatClampNeg 0))
                rw [hu291] at hM
                refine m_VA X V (w1 := (wR cB cI bd u291.2 qm ql qs qk qd qn qe qf qo qt qi qy)) (rest := []) (st1 := [.int u291.1]) hM okX8_gives gm_553 gm_704 gm_552 ⟨⟨rfl, rfl⟩, ⟨by decide, by decide⟩, Nat.zero_le _, Nat.zero_le _⟩ rfl rfl (wR_fst _ _ _ _ _ _ _ _ _ _ _ _ _ _ _ _) (wR_fst _ _ _ _ _ _ _ _ _ _ _ _ _ _ _ _) rfl hl.1 (Nat.le_of_ble_eq_true rfl) dX8_does_291 rfl rfl (fun H locs V => ?_)
                have e9 : pX8_does v qm qs qo qt qi qy = (u291.1, u291.2, qm, qs, qt, qi, qy) := by rw [pX8_does, if_pos c_27, if_pos c_52, if_neg c_99, if_pos c_108, if_neg c_125, if_pos c_134, if_neg w_148_49, if_neg w_148_64, if_pos w_148_65, hu291, mLet_eq]
                exact m_iret X hr hk V (by rw [e9]) (by rw [e9]) dX8_does_294
              by_cases w_148_66 : (v 7) = 66
              · refine lv_lookup (off := 141) (tgt := 289) hx hb dX8_does_148 (by decide +kernel) (by rw [w_148_66]; rfl) (by decide) ?_
                refine lv_aload_n hx hb dX8_does_289 rfl (lv_at hl 3 rfl) ?_
                refine lv_iload_n hx hb dX8_does_290 rfl (lv_at hl 2 rfl) ?_
                obtain ⟨u291, hu291⟩ : ∃ u, pX8_gives v (qo (Int32.toNatClampNeg 0)) = u := ⟨_, rfl⟩
                have hM := kX8_gives l D cB cI bd v qm ql qs qk qd qn qe qf qo qt qi qy (qo (Int32.toNatClampNeg 0))
                rw [hu291] at hM
                refine m_VA X V (w1 := (wR cB cI bd u291.2 qm ql qs qk qd qn qe qf qo qt qi qy)) (rest := []) (st1 := [.int u291.1]) hM okX8_gives gm_553 gm_704 gm_552 ⟨⟨rfl, rfl⟩, ⟨by decide, by decide⟩, Nat.zero_le _, Nat.zero_le _⟩ rfl rfl (wR_fst _ _ _ _ _ _ _ _ _ _ _ _ _ _ _ _) (wR_fst _ _ _ _ _ _ _ _ _ _ _ _ _ _ _ _) rfl hl.1 (Nat.le_of_ble_eq_true rfl) dX8_does_291 rfl rfl (fun H locs V => ?_)
                have e9 : pX8_does v qm qs qo qt qi qy = (u291.1, u291.2, qm, qs, qt, qi, qy) := by rw [pX8_does, if_pos c_27, if_pos c_52, if_neg c_99, if_pos c_108, if_neg c_125, if_pos c_134, if_neg w_148_49, if_neg w_148_64, if_neg w_148_65, if_pos w_148_66, hu291, mLet_eq]
                exact m_iret X hr hk V (by rw [e9]) (by rw [e9]) dX8_does_294
              by_cases w_148_68 : (v 7) = 68
              · refine lv_lookup (off := 147) (tgt := 295) hx hb dX8_does_148 (by decide +kernel) (by rw [w_148_68]; rfl) (by decide) ?_
                refine lv_aload_n hx hb dX8_does_295 rfl (lv_at hl 3 rfl) ?_
                refine lv_iload_n hx hb dX8_does_296 rfl (lv_at hl 2 rfl) ?_
                refine lv_i2s hx hb dX8_does_297 rfl ?_
                obtain ⟨u298, hu298⟩ : ∃ u, pX8_gives v ((Int32.toInt16 (qo (Int32.toNatClampNeg 0))).toInt32) = u := ⟨_, rfl⟩
                have hM := kX8_gives l D cB cI bd v qm ql qs qk qd qn qe qf qo qt qi qy ((Int32.toInt16 (qo (Int32.toNatClampNeg 0))).toInt32)
                rw [hu298] at hM
                refine m_VA X V (w1 := (wR cB cI bd u298.2 qm ql qs qk qd qn qe qf qo qt qi qy)) (rest := []) (st1 := [.int u298.1]) hM okX8_gives gm_553 gm_704 gm_552 ⟨⟨rfl, rfl⟩, ⟨by decide, by decide⟩, Nat.zero_le _, Nat.zero_le _⟩ rfl rfl (wR_fst _ _ _ _ _ _ _ _ _ _ _ _ _ _ _ _) (wR_fst _ _ _ _ _ _ _ _ _ _ _ _ _ _ _ _) rfl hl.1 (Nat.le_of_ble_eq_true rfl) dX8_does_298 rfl rfl (fun H locs V => ?_)
                have e9 : pX8_does v qm qs qo qt qi qy = (u298.1, u298.2, qm, qs, qt, qi, qy) := by rw [pX8_does, if_pos c_27, if_pos c_52, if_neg c_99, if_pos c_108, if_neg c_125, if_pos c_134, if_neg w_148_49, if_neg w_148_64, if_neg w_148_65, if_neg w_148_66, if_pos w_148_68, hu298, mLet_eq]
                exact m_iret X hr hk V (by rw [e9]) (by rw [e9]) dX8_does_301
              by_cases w_148_69 : (v 7) = 69
              · refine lv_lookup (off := 154) (tgt := 302) hx hb dX8_does_148 (by decide +kernel) (by rw [w_148_69]; rfl) (by decide) ?_
                refine lv_aload_n hx hb dX8_does_302 rfl (lv_at hl 3 rfl) ?_
                refine lv_iload_n hx hb dX8_does_303 rfl (lv_at hl 2 rfl) ?_
                refine lv_i2b hx hb dX8_does_304 rfl ?_
                obtain ⟨u305, hu305⟩ : ∃ u, pX8_gives v ((Int32.toInt8 (qo (Int32.toNatClampNeg 0))).toInt32) = u := ⟨_, rfl⟩
                have hM := kX8_gives l D cB cI bd v qm ql qs qk qd qn qe qf qo qt qi qy ((Int32.toInt8 (qo (Int32.toNatClampNeg 0))).toInt32)
                rw [hu305] at hM
                refine m_VA X V (w1 := (wR cB cI bd u305.2 qm ql qs qk qd qn qe qf qo qt qi qy)) (rest := []) (st1 := [.int u305.1]) hM okX8_gives gm_553 gm_704 gm_552 ⟨⟨rfl, rfl⟩, ⟨by decide, by decide⟩, Nat.zero_le _, Nat.zero_le _⟩ rfl rfl (wR_fst _ _ _ _ _ _ _ _ _ _ _ _ _ _ _ _) (wR_fst _ _ _ _ _ _ _ _ _ _ _ _ _ _ _ _) rfl hl.1 (Nat.le_of_ble_eq_true rfl) dX8_does_305 rfl rfl (fun H locs V => ?_)
                have e9 : pX8_does v qm qs qo qt qi qy = (u305.1, u305.2, qm, qs, qt, qi, qy) := by rw [pX8_does, if_pos c_27, if_pos c_52, if_neg c_99, if_pos c_108, if_neg c_125, if_pos c_134, if_neg w_148_49, if_neg w_148_64, if_neg w_148_65, if_neg w_148_66, if_neg w_148_68, if_pos w_148_69, hu305, mLet_eq]
                exact m_iret X hr hk V (by rw [e9]) (by rw [e9]) dX8_does_308
              by_cases w_148_256 : (v 7) = 256
              · refine lv_lookup (off := 161) (tgt := 309) hx hb dX8_does_148 (by decide +kernel) (by rw [w_148_256]; rfl) (by decide) ?_
                refine lv_aload_n hx hb dX8_does_309 rfl (lv_at hl 3 rfl) ?_
                refine lv_iload_n hx hb dX8_does_310 rfl (lv_at hl 2 rfl) ?_
                obtain ⟨u311, hu311⟩ : ∃ u, pX8_gestalt (qo (Int32.toNatClampNeg 0)) = u := ⟨_, rfl⟩
                have hM := kX8_gestalt l D cB cI (qo (Int32.toNatClampNeg 0))
                rw [hu311] at hM
                refine m_S X V (rest := [.ref (bd 0)]) (st1 := [.int u311, .ref (bd 0)]) hM okX8_gestalt gm_578 gm_577 ⟨⟨rfl, rfl⟩, ⟨by decide, by decide⟩, Nat.zero_le _, Nat.zero_le _⟩ rfl hl.1 (Nat.le_of_ble_eq_true rfl) dX8_does_311 rfl rfl (fun H locs V => ?_)
                obtain ⟨u314, hu314⟩ : ∃ u, pX8_gives v u311 = u := ⟨_, rfl⟩
                have hM := kX8_gives l D cB cI bd v qm ql qs qk qd qn qe qf qo qt qi qy u311
                rw [hu314] at hM
                refine m_VA X V (w1 := (wR cB cI bd u314.2 qm ql qs qk qd qn qe qf qo qt qi qy)) (rest := []) (st1 := [.int u314.1]) hM okX8_gives gm_553 gm_704 gm_552 ⟨⟨rfl, rfl⟩, ⟨by decide, by decide⟩, Nat.zero_le _, Nat.zero_le _⟩ rfl rfl (wR_fst _ _ _ _ _ _ _ _ _ _ _ _ _ _ _ _) (wR_fst _ _ _ _ _ _ _ _ _ _ _ _ _ _ _ _) rfl hl.1 (Nat.le_of_ble_eq_true rfl) dX8_does_314 rfl rfl (fun H locs V => ?_)
                have e9 : pX8_does v qm qs qo qt qi qy = (u314.1, u314.2, qm, qs, qt, qi, qy) := by rw [pX8_does, if_pos c_27, if_pos c_52, if_neg c_99, if_pos c_108, if_neg c_125, if_pos c_134, if_neg w_148_49, if_neg w_148_64, if_neg w_148_65, if_neg w_148_66, if_neg w_148_68, if_neg w_148_69, if_pos w_148_256, hu311, mLet_eq, hu314, mLet_eq]
                exact m_iret X hr hk V (by rw [e9]) (by rw [e9]) dX8_does_317
              by_cases w_148_260 : (v 7) = 260
              · refine lv_lookup (off := 170) (tgt := 318) hx hb dX8_does_148 (by decide +kernel) (by rw [w_148_260]; rfl) (by decide) ?_
                refine lv_aload_n hx hb dX8_does_318 rfl (lv_at hl 3 rfl) ?_
                refine lv_iload_n hx hb dX8_does_319 rfl (lv_at hl 2 rfl) ?_
                refine m_put X V (ws' := (wR cB cI bd (upd v 14 (qo (Int32.toNatClampNeg 0))) qm ql qs qk qd qn qe qf qo qt qi qy)) 6 0 23 rfl gin_6 tyX8_ok nmX8 rfl (by decide) rfl gm_446 rfl rfl rfl (Nat.le_of_ble_eq_true rfl) dX8_does_320 rfl (fun H locs V => ?_)
                refine lv_iconst (v := 0) hx hb dX8_does_323 (by decide) ?_
                have e9 : pX8_does v qm qs qo qt qi qy = (0, (upd v 14 (qo (Int32.toNatClampNeg 0))), qm, qs, qt, qi, qy) := by rw [pX8_does, if_pos c_27, if_pos c_52, if_neg c_99, if_pos c_108, if_neg c_125, if_pos c_134, if_neg w_148_49, if_neg w_148_64, if_neg w_148_65, if_neg w_148_66, if_neg w_148_68, if_neg w_148_69, if_neg w_148_256, if_pos w_148_260]
                exact m_iret X hr hk V (by rw [e9]) (by rw [e9]) dX8_does_324
              by_cases w_148_288 : (v 7) = 288
              · refine lv_lookup (off := 116) (tgt := 264) hx hb dX8_does_148 (by decide +kernel) (by rw [w_148_288]; rfl) (by decide) ?_
                refine lv_aload_n hx hb dX8_does_264 rfl (lv_at hl 3 rfl) ?_
                refine lv_aload_n hx hb dX8_does_265 rfl (lv_at hl 3 rfl) ?_
                refine m_get X V 6 0 11 rfl gin_6 rfl (by decide) rfl gm_434 (v := .int (v 7)) rfl dX8_does_266 ?_
                refine lv_bipush (v := 49) hx hb dX8_does_269 (by decide) ?_
                refine lv_icmp_ne (tgt := 278) hx hb dX8_does_271 (by decide) (fun _ => ?_) (fun h => absurd h w_148_49)
                refine lv_iconst (v := 0) hx hb dX8_does_278 (by decide) ?_
                refine m_put X V (ws' := (wR cB cI bd (upd v 15 0) qm ql qs qk qd qn qe qf qo qt qi qy)) 6 0 24 rfl gin_6 tyX8_ok nmX8 rfl (by decide) rfl gm_447 rfl rfl rfl (Nat.le_of_ble_eq_true rfl) dX8_does_279 rfl (fun H locs V => ?_)
                refine lv_aload_n hx hb dX8_does_282 rfl (lv_at hl 3 rfl) ?_
                refine lv_iconst (v := 1) hx hb dX8_does_283 (by decide) ?_
                refine m_put X V (ws' := (wR cB cI bd (upd (upd v 3 1) 15 0) qm ql qs qk qd qn qe qf qo qt qi qy)) 6 0 7 rfl gin_6 tyX8_ok nmX8 rfl (by decide) rfl gm_430 rfl rfl rfl (Nat.le_of_ble_eq_true rfl) dX8_does_284 rfl (fun H locs V => ?_)
                refine lv_iconst (v := 0) hx hb dX8_does_287 (by decide) ?_
                have e9 : pX8_does v qm qs qo qt qi qy = (0, (upd (upd v 3 1) 15 0), qm, qs, qt, qi, qy) := by rw [pX8_does, if_pos c_27, if_pos c_52, if_neg c_99, if_pos c_108, if_neg c_125, if_pos c_134, if_neg w_148_49, if_neg w_148_64, if_neg w_148_65, if_neg w_148_66, if_neg w_148_68, if_neg w_148_69, if_neg w_148_256, if_neg w_148_260, if_pos w_148_288]
                exact m_iret X hr hk V (by rw [e9]) (by rw [e9]) dX8_does_288
              by_cases w_148_336 : (v 7) = 336
              · refine lv_lookup (off := 177) (tgt := 325) hx hb dX8_does_148 (by decide +kernel) (by rw [w_148_336]; rfl) (by decide) ?_
                refine lv_aload_n hx hb dX8_does_325 rfl (lv_at hl 3 rfl) ?_
                obtain ⟨u326, hu326⟩ : ∃ u, pX8_searches v qm qo qy = u := ⟨_, rfl⟩
                have hM := kX8_searches l D cB cI bd v qm ql qs qk qd qn qe qf qo qt qi qy
                rw [hu326] at hM
                refine m_VA X V (w1 := (wR cB cI bd u326.2.1 qm ql qs qk qd qn qe qf qo qt qi u326.2.2)) (rest := []) (st1 := [.int u326.1]) hM okX8_searches gm_583 gm_710 gm_582 ⟨⟨rfl, rfl⟩, ⟨by decide, by decide⟩, Nat.zero_le _, Nat.zero_le _⟩ rfl rfl (wR_fst _ _ _ _ _ _ _ _ _ _ _ _ _ _ _ _) (wR_fst _ _ _ _ _ _ _ _ _ _ _ _ _ _ _ _) rfl hl.1 (Nat.le_of_ble_eq_true rfl) dX8_does_326 rfl rfl (fun H locs V => ?_)
                have e9 : pX8_does v qm qs qo qt qi qy = (u326.1, u326.2.1, qm, qs, qt, qi, u326.2.2) := by rw [pX8_does, if_pos c_27, if_pos c_52, if_neg c_99, if_pos c_108, if_neg c_125, if_pos c_134, if_neg w_148_49, if_neg w_148_64, if_neg w_148_65, if_neg w_148_66, if_neg w_148_68, if_neg w_148_69, if_neg w_148_256, if_neg w_148_260, if_neg w_148_288, if_pos w_148_336, hu326, mLet_eq]
                exact m_iret X hr hk V (by rw [e9]) (by rw [e9]) dX8_does_329
              by_cases w_148_337 : (v 7) = 337
              · refine lv_lookup (off := 177) (tgt := 325) hx hb dX8_does_148 (by decide +kernel) (by rw [w_148_337]; rfl) (by decide) ?_
                refine lv_aload_n hx hb dX8_does_325 rfl (lv_at hl 3 rfl) ?_
                obtain ⟨u326, hu326⟩ : ∃ u, pX8_searches v qm qo qy = u := ⟨_, rfl⟩
                have hM := kX8_searches l D cB cI bd v qm ql qs qk qd qn qe qf qo qt qi qy
                rw [hu326] at hM
                refine m_VA X V (w1 := (wR cB cI bd u326.2.1 qm ql qs qk qd qn qe qf qo qt qi u326.2.2)) (rest := []) (st1 := [.int u326.1]) hM okX8_searches gm_583 gm_710 gm_582 ⟨⟨rfl, rfl⟩, ⟨by decide, by decide⟩, Nat.zero_le _, Nat.zero_le _⟩ rfl rfl (wR_fst _ _ _ _ _ _ _ _ _ _ _ _ _ _ _ _) (wR_fst _ _ _ _ _ _ _ _ _ _ _ _ _ _ _ _) rfl hl.1 (Nat.le_of_ble_eq_true rfl) dX8_does_326 rfl rfl (fun H locs V => ?_)
                have e9 : pX8_does v qm qs qo qt qi qy = (u326.1, u326.2.1, qm, qs, qt, qi, u326.2.2) := by rw [pX8_does, if_pos c_27, if_pos c_52, if_neg c_99, if_pos c_108, if_neg c_125, if_pos c_134, if_neg w_148_49, if_neg w_148_64, if_neg w_148_65, if_neg w_148_66, if_neg w_148_68, if_neg w_148_69, if_neg w_148_256, if_neg w_148_260, if_neg w_148_288, if_neg w_148_336, if_pos w_148_337, hu326, mLet_eq]
                exact m_iret X hr hk V (by rw [e9]) (by rw [e9]) dX8_does_329
              by_cases w_148_368 : (v 7) = 368
              · refine lv_lookup (off := 182) (tgt := 330) hx hb dX8_does_148 (by decide +kernel) (by rw [w_148_368]; rfl) (by decide) ?_
                refine lv_aload_n hx hb dX8_does_330 rfl (lv_at hl 3 rfl) ?_
                refine lv_iload_n hx hb dX8_does_331 rfl (lv_at hl 2 rfl) ?_
                refine lv_iload_n hx hb dX8_does_332 rfl (lv_at hl 1 rfl) ?_
                obtain ⟨u333, hu333⟩ : ∃ u, pX8_clears v qm (qo (Int32.toNatClampNeg 0)) (qo (Int32.toNatClampNeg 1)) = u := ⟨_, rfl⟩
                have hM := kX8_clears l D cB cI bd v qm ql qs qk qd qn qe qf qo qt qi qy (qo (Int32.toNatClampNeg 0)) (qo (Int32.toNatClampNeg 1))
                rw [hu333] at hM
                refine m_VA X V (w1 := (wR cB cI bd v u333.2 ql qs qk qd qn qe qf qo qt qi qy)) (rest := []) (st1 := [.int u333.1]) hM okX8_clears gm_601 gm_716 gm_600 ⟨⟨rfl, rfl⟩, ⟨by decide, by decide⟩, Nat.zero_le _, Nat.zero_le _⟩ rfl rfl (wR_fst _ _ _ _ _ _ _ _ _ _ _ _ _ _ _ _) (wR_fst _ _ _ _ _ _ _ _ _ _ _ _ _ _ _ _) rfl hl.1 (Nat.le_of_ble_eq_true rfl) dX8_does_333 rfl rfl (fun H locs V => ?_)
                have e9 : pX8_does v qm qs qo qt qi qy = (u333.1, v, u333.2, qs, qt, qi, qy) := by rw [pX8_does, if_pos c_27, if_pos c_52, if_neg c_99, if_pos c_108, if_neg c_125, if_pos c_134, if_neg w_148_49, if_neg w_148_64, if_neg w_148_65, if_neg w_148_66, if_neg w_148_68, if_neg w_148_69, if_neg w_148_256, if_neg w_148_260, if_neg w_148_288, if_neg w_148_336, if_neg w_148_337, if_pos w_148_368, hu333, mLet_eq]
                exact m_iret X hr hk V (by rw [e9]) (by rw [e9]) dX8_does_336
              by_cases w_148_369 : (v 7) = 369
              · refine lv_lookup (off := 189) (tgt := 337) hx hb dX8_does_148 (by decide +kernel) (by rw [w_148_369]; rfl) (by decide) ?_
                refine lv_aload_n hx hb dX8_does_337 rfl (lv_at hl 3 rfl) ?_
                refine lv_iload_n hx hb dX8_does_338 rfl (lv_at hl 2 rfl) ?_
                refine lv_iload_n hx hb dX8_does_339 rfl (lv_at hl 1 rfl) ?_
                refine lv_iload_n hx hb dX8_does_340 rfl (lv_at hl 0 rfl) ?_
                obtain ⟨u341, hu341⟩ : ∃ u, pX8_copies v qm qi (qo (Int32.toNatClampNeg 0)) (qo (Int32.toNatClampNeg 1)) (qo (Int32.toNatClampNeg 2)) = u := ⟨_, rfl⟩
                have hM := kX8_copies l D cB cI bd v qm ql qs qk qd qn qe qf qo qt qi qy (qo (Int32.toNatClampNeg 0)) (qo (Int32.toNatClampNeg 1)) (qo (Int32.toNatClampNeg 2))
                rw [hu341] at hM
                refine m_VA X V (w1 := (wR cB cI bd v u341.2.1 ql qs qk qd qn qe qf qo qt u341.2.2 qy)) (rest := []) (st1 := [.int u341.1]) hM okX8_copies gm_604 gm_717 gm_603 ⟨⟨rfl, rfl⟩, ⟨by decide, by decide⟩, Nat.zero_le _, Nat.zero_le _⟩ rfl rfl (wR_fst _ _ _ _ _ _ _ _ _ _ _ _ _ _ _ _) (wR_fst _ _ _ _ _ _ _ _ _ _ _ _ _ _ _ _) rfl hl.1 (Nat.le_of_ble_eq_true rfl) dX8_does_341 rfl rfl (fun H locs V => ?_)
                have e9 : pX8_does v qm qs qo qt qi qy = (u341.1, v, u341.2.1, qs, qt, u341.2.2, qy) := by rw [pX8_does, if_pos c_27, if_pos c_52, if_neg c_99, if_pos c_108, if_neg c_125, if_pos c_134, if_neg w_148_49, if_neg w_148_64, if_neg w_148_65, if_neg w_148_66, if_neg w_148_68, if_neg w_148_69, if_neg w_148_256, if_neg w_148_260, if_neg w_148_288, if_neg w_148_336, if_neg w_148_337, if_neg w_148_368, if_pos w_148_369, hu341, mLet_eq]
                exact m_iret X hr hk V (by rw [e9]) (by rw [e9]) dX8_does_344
              refine lv_lookup (off := 197) (tgt := 345) hx hb dX8_does_148 (by decide +kernel) ((lv_osw w_148_49 rfl).trans ((lv_osw w_148_64 rfl).trans ((lv_osw w_148_65 rfl).trans ((lv_osw w_148_66 rfl).trans ((lv_osw w_148_68 rfl).trans ((lv_osw w_148_69 rfl).trans ((lv_osw w_148_256 rfl).trans ((lv_osw w_148_260 rfl).trans ((lv_osw w_148_288 rfl).trans ((lv_osw w_148_336 rfl).trans ((lv_osw w_148_337 rfl).trans ((lv_osw w_148_368 rfl).trans ((lv_osw w_148_369 rfl).trans (rfl)))))))))))))) (by decide) ?_
              refine lv_iconst (v := 0) hx hb dX8_does_345 (by decide) ?_
              have e9 : pX8_does v qm qs qo qt qi qy = (0, v, qm, qs, qt, qi, qy) := by rw [pX8_does, if_pos c_27, if_pos c_52, if_neg c_99, if_pos c_108, if_neg c_125, if_pos c_134, if_neg w_148_49, if_neg w_148_64, if_neg w_148_65, if_neg w_148_66, if_neg w_148_68, if_neg w_148_69, if_neg w_148_256, if_neg w_148_260, if_neg w_148_288, if_neg w_148_336, if_neg w_148_337, if_neg w_148_368, if_neg w_148_369]
              exact m_iret X hr hk V (by rw [e9]) (by rw [e9]) dX8_does_346
            · refine lv_aload_n hx hb dX8_does_137 rfl (lv_at hl 3 rfl) ?_
              refine lv_iload_n hx hb dX8_does_138 rfl (lv_at hl 2 rfl) ?_
              refine lv_iload_n hx hb dX8_does_139 rfl (lv_at hl 1 rfl) ?_
              obtain ⟨u140, hu140⟩ : ∃ u, pX8_onStack v qs qt (qo (Int32.toNatClampNeg 0)) (qo (Int32.toNatClampNeg 1)) = u := ⟨_, rfl⟩
              have hM := kX8_onStack l D cB cI bd v qm ql qs qk qd qn qe qf qo qt qi qy (qo (Int32.toNatClampNeg 0)) (qo (Int32.toNatClampNeg 1)) (show 0 ≤ Int32.toInt (v 0) ∧ Int32.toInt (v 0) ≤ 40 by omega)
              rw [hu140] at hM
              refine m_VA X V (w1 := (wR cB cI bd u140.2.1 qm ql u140.2.2.1 qk qd qn qe qf qo u140.2.2.2 qi qy)) (rest := []) (st1 := [.int u140.1]) hM okX8_onStack gm_572 gm_708 gm_571 ⟨⟨rfl, rfl⟩, ⟨by decide, by decide⟩, Nat.zero_le _, Nat.zero_le _⟩ rfl rfl (wR_fst _ _ _ _ _ _ _ _ _ _ _ _ _ _ _ _) (wR_fst _ _ _ _ _ _ _ _ _ _ _ _ _ _ _ _) rfl hl.1 (Nat.le_of_ble_eq_true rfl) dX8_does_140 rfl rfl (fun H locs V => ?_)
              have e9 : pX8_does v qm qs qo qt qi qy = (u140.1, u140.2.1, qm, u140.2.2.1, u140.2.2.2, qi, qy) := by rw [pX8_does, if_pos c_27, if_pos c_52, if_neg c_99, if_pos c_108, if_neg c_125, if_neg c_134, hu140, mLet_eq]
              exact m_iret X hr hk V (by rw [e9]) (by rw [e9]) dX8_does_143
        · refine lv_aload_n hx hb dX8_does_111 rfl (lv_at hl 3 rfl) ?_
          refine lv_iload_n hx hb dX8_does_112 rfl (lv_at hl 2 rfl) ?_
          refine lv_iload_n hx hb dX8_does_113 rfl (lv_at hl 1 rfl) ?_
          refine lv_iload_n hx hb dX8_does_114 rfl (lv_at hl 0 rfl) ?_
          obtain ⟨u115, hu115⟩ : ∃ u, pX8_items v qm (qo (Int32.toNatClampNeg 0)) (qo (Int32.toNatClampNeg 1)) (qo (Int32.toNatClampNeg 2)) = u := ⟨_, rfl⟩
          have hM := kX8_items l D cB cI bd v qm ql qs qk qd qn qe qf qo qt qi qy (qo (Int32.toNatClampNeg 0)) (qo (Int32.toNatClampNeg 1)) (qo (Int32.toNatClampNeg 2))
          rw [hu115] at hM
          refine m_VA X V (w1 := (wR cB cI bd u115.2.1 u115.2.2 ql qs qk qd qn qe qf qo qt qi qy)) (rest := []) (st1 := [.int u115.1]) hM okX8_items gm_566 gm_706 gm_565 ⟨⟨rfl, rfl⟩, ⟨by decide, by decide⟩, Nat.zero_le _, Nat.zero_le _⟩ rfl rfl (wR_fst _ _ _ _ _ _ _ _ _ _ _ _ _ _ _ _) (wR_fst _ _ _ _ _ _ _ _ _ _ _ _ _ _ _ _) rfl hl.1 (Nat.le_of_ble_eq_true rfl) dX8_does_115 rfl rfl (fun H locs V => ?_)
          have e9 : pX8_does v qm qs qo qt qi qy = (u115.1, u115.2.1, u115.2.2, qs, qt, qi, qy) := by rw [pX8_does, if_pos c_27, if_pos c_52, if_neg c_99, if_neg c_108, hu115, mLet_eq]
          exact m_iret X hr hk V (by rw [e9]) (by rw [e9]) dX8_does_118
    · refine lv_aload_n hx hb dX8_does_55 rfl (lv_at hl 3 rfl) ?_
      refine m_get X V 6 0 11 rfl gin_6 rfl (by decide) rfl gm_434 (v := .int (v 7)) rfl dX8_does_56 ?_
      refine lv_bipush (v := 45) hx hb dX8_does_59 (by decide) ?_
      refine lv_icmp_gt (tgt := 93) hx hb dX8_does_61 (by decide) (fun c_61 => ?_) (fun c_61 => ?_)
      · refine lv_aload_n hx hb dX8_does_93 rfl (lv_at hl 3 rfl) ?_
        refine m_get X V 6 0 11 rfl gin_6 rfl (by decide) rfl gm_434 (v := .int (v 7)) rfl dX8_does_94 ?_
        refine lv_bipush (v := 72) hx hb dX8_does_97 (by decide) ?_
        refine lv_icmp_lt (tgt := 119) hx hb dX8_does_99 (by decide) (fun c_99 => ?_) (fun c_99 => ?_)
        · refine lv_aload_n hx hb dX8_does_119 rfl (lv_at hl 3 rfl) ?_
          refine m_get X V 6 0 11 rfl gin_6 rfl (by decide) rfl gm_434 (v := .int (v 7)) rfl dX8_does_120 ?_
          refine lv_bipush (v := 80) hx hb dX8_does_123 (by decide) ?_
          refine lv_icmp_lt (tgt := 144) hx hb dX8_does_125 (by decide) (fun c_125 => ?_) (fun c_125 => ?_)
          · refine lv_aload_n hx hb dX8_does_144 rfl (lv_at hl 3 rfl) ?_
            refine m_get X V 6 0 11 rfl gin_6 rfl (by decide) rfl gm_434 (v := .int (v 7)) rfl dX8_does_145 ?_
            by_cases w_148_49 : (v 7) = 49
            · refine lv_lookup (off := 116) (tgt := 264) hx hb dX8_does_148 (by decide +kernel) (by rw [w_148_49]; rfl) (by decide) ?_
              refine lv_aload_n hx hb dX8_does_264 rfl (lv_at hl 3 rfl) ?_
              refine lv_aload_n hx hb dX8_does_265 rfl (lv_at hl 3 rfl) ?_
              refine m_get X V 6 0 11 rfl gin_6 rfl (by decide) rfl gm_434 (v := .int (v 7)) rfl dX8_does_266 ?_
              refine lv_bipush (v := 49) hx hb dX8_does_269 (by decide) ?_
              refine lv_icmp_ne (tgt := 278) hx hb dX8_does_271 (by decide) (fun h => absurd w_148_49 h) (fun _ => ?_)
              refine lv_iload_n hx hb dX8_does_274 rfl (lv_at hl 2 rfl) ?_
              refine lv_goto (tgt := 279) hx hb dX8_does_275 (by decide) ?_
              refine m_put X V (ws' := (wR cB cI bd (upd v 15 (qo (Int32.toNatClampNeg 0))) qm ql qs qk qd qn qe qf qo qt qi qy)) 6 0 24 rfl gin_6 tyX8_ok nmX8 rfl (by decide) rfl gm_447 rfl rfl rfl (Nat.le_of_ble_eq_true rfl) dX8_does_279 rfl (fun H locs V => ?_)
              refine lv_aload_n hx hb dX8_does_282 rfl (lv_at hl 3 rfl) ?_
              refine lv_iconst (v := 1) hx hb dX8_does_283 (by decide) ?_
              refine m_put X V (ws' := (wR cB cI bd (upd (upd v 3 1) 15 (qo (Int32.toNatClampNeg 0))) qm ql qs qk qd qn qe qf qo qt qi qy)) 6 0 7 rfl gin_6 tyX8_ok nmX8 rfl (by decide) rfl gm_430 rfl rfl rfl (Nat.le_of_ble_eq_true rfl) dX8_does_284 rfl (fun H locs V => ?_)
              refine lv_iconst (v := 0) hx hb dX8_does_287 (by decide) ?_
              have e9 : pX8_does v qm qs qo qt qi qy = (0, (upd (upd v 3 1) 15 (qo (Int32.toNatClampNeg 0))), qm, qs, qt, qi, qy) := by rw [pX8_does, if_pos c_27, if_neg c_52, if_pos c_61, if_pos c_99, if_pos c_125, if_pos w_148_49]
              exact m_iret X hr hk V (by rw [e9]) (by rw [e9]) dX8_does_288
            by_cases w_148_64 : (v 7) = 64
            · refine lv_lookup (off := 141) (tgt := 289) hx hb dX8_does_148 (by decide +kernel) (by rw [w_148_64]; rfl) (by decide) ?_
              refine lv_aload_n hx hb dX8_does_289 rfl (lv_at hl 3 rfl) ?_
              refine lv_iload_n hx hb dX8_does_290 rfl (lv_at hl 2 rfl) ?_
              obtain ⟨u291, hu291⟩ : ∃ u, pX8_gives v (qo (Int32.toNatClampNeg 0)) = u := ⟨_, rfl⟩
              have hM := kX8_gives l D cB cI bd v qm ql qs qk qd qn qe qf qo qt qi qy (qo (Int32.toNatClampNeg 0))
              rw [hu291] at hM
              refine m_VA X V (w1 := (wR cB cI bd u291.2 qm ql qs qk qd qn qe qf qo qt qi qy)) (rest := []) (st1 := [.int u291.1]) hM okX8_gives gm_553 gm_704 gm_552 ⟨⟨rfl, rfl⟩, ⟨by decide, by decide⟩, Nat.zero_le _, Nat.zero_le _⟩ rfl rfl (wR_fst _ _ _ _ _ _ _ _ _ _ _ _ _ _ _ _) (wR_fst _ _ _ _ _ _ _ _ _ _ _ _ _ _ _ _) rfl hl.1 (Nat.le_of_ble_eq_true rfl) dX8_does_291 rfl rfl (fun H locs V => ?_)
              have e9 : pX8_does v qm qs qo qt qi qy = (u291.1, u291.2, qm, qs, qt, qi, qy) := by rw [pX8_does, if_pos c_27, if_neg c_52, if_pos c_61, if_pos c_99, if_pos c_125, if_neg w_148_49, if_pos w_148_64, hu291, mLet_eq]
              exact m_iret X hr hk V (by rw [e9]) (by rw [e9]) dX8_does_294
            by_cases w_148_65 : (v 7) = 65
            · refine lv_lookup (off := 141) (tgt := 289) hx hb dX8_does_148 (by decide +kernel) (by rw [w_148_65]; rfl) (by decide) ?_
              refine lv_aload_n hx hb dX8_does_289 rfl (lv_at hl 3 rfl) ?_
              refine lv_iload_n hx hb dX8_does_290 rfl (lv_at hl 2 rfl) ?_
              obtain ⟨u291, hu291⟩ : ∃ u, pX8_gives v (qo (Int32.toNatClampNeg 0)) = u := ⟨_, rfl⟩
              have hM := kX8_gives l D cB cI bd v qm ql qs qk qd qn qe qf qo qt qi qy (qo (Int32.toNatClampNeg 0))
              rw [hu291] at hM
              refine m_VA X V (w1 := (wR cB cI bd u291.2 qm ql qs qk qd qn qe qf qo qt qi qy)) (rest := []) (st1 := [.int u291.1]) hM okX8_gives gm_553 gm_704 gm_552 ⟨⟨rfl, rfl⟩, ⟨by decide, by decide⟩, Nat.zero_le _, Nat.zero_le _⟩ rfl rfl (wR_fst _ _ _ _ _ _ _ _ _ _ _ _ _ _ _ _) (wR_fst _ _ _ _ _ _ _ _ _ _ _ _ _ _ _ _) rfl hl.1 (Nat.le_of_ble_eq_true rfl) dX8_does_291 rfl rfl (fun H locs V => ?_)
              have e9 : pX8_does v qm qs qo qt qi qy = (u291.1, u291.2, qm, qs, qt, qi, qy) := by rw [pX8_does, if_pos c_27, if_neg c_52, if_pos c_61, if_pos c_99, if_pos c_125, if_neg w_148_49, if_neg w_148_64, if_pos w_148_65, hu291, mLet_eq]
              exact m_iret X hr hk V (by rw [e9]) (by rw [e9]) dX8_does_294
            by_cases w_148_66 : (v 7) = 66
            · refine lv_lookup (off := 141) (tgt := 289) hx hb dX8_does_148 (by decide +kernel) (by rw [w_148_66]; rfl) (by decide) ?_
              refine lv_aload_n hx hb dX8_does_289 rfl (lv_at hl 3 rfl) ?_
              refine lv_iload_n hx hb dX8_does_290 rfl (lv_at hl 2 rfl) ?_
              obtain ⟨u291, hu291⟩ : ∃ u, pX8_gives v (qo (Int32.toNatClampNeg 0)) = u := ⟨_, rfl⟩
              have hM := kX8_gives l D cB cI bd v qm ql qs qk qd qn qe qf qo qt qi qy (qo (Int32.toNatClampNeg 0))
              rw [hu291] at hM
              refine m_VA X V (w1 := (wR cB cI bd u291.2 qm ql qs qk qd qn qe qf qo qt qi qy)) (rest := []) (st1 := [.int u291.1]) hM okX8_gives gm_553 gm_704 gm_552 ⟨⟨rfl, rfl⟩, ⟨by decide, by decide⟩, Nat.zero_le _, Nat.zero_le _⟩ rfl rfl (wR_fst _ _ _ _ _ _ _ _ _ _ _ _ _ _ _ _) (wR_fst _ _ _ _ _ _ _ _ _ _ _ _ _ _ _ _) rfl hl.1 (Nat.le_of_ble_eq_true rfl) dX8_does_291 rfl rfl (fun H locs V => ?_)
              have e9 : pX8_does v qm qs qo qt qi qy = (u291.1, u291.2, qm, qs, qt, qi, qy) := by rw [pX8_does, if_pos c_27, if_neg c_52, if_pos c_61, if_pos c_99, if_pos c_125, if_neg w_148_49, if_neg w_148_64, if_neg w_148_65, if_pos w_148_66, hu291, mLet_eq]
              exact m_iret X hr hk V (by rw [e9]) (by rw [e9]) dX8_does_294
            by_cases w_148_68 : (v 7) = 68
            · refine lv_lookup (off := 147) (tgt := 295) hx hb dX8_does_148 (by decide +kernel) (by rw [w_148_68]; rfl) (by decide) ?_
              refine lv_aload_n hx hb dX8_does_295 rfl (lv_at hl 3 rfl) ?_
              refine lv_iload_n hx hb dX8_does_296 rfl (lv_at hl 2 rfl) ?_
              refine lv_i2s hx hb dX8_does_297 rfl ?_
              obtain ⟨u298, hu298⟩ : ∃ u, pX8_gives v ((Int32.toInt16 (qo (Int32.toNatClampNeg 0))).toInt32) = u := ⟨_, rfl⟩
              have hM := kX8_gives l D cB cI bd v qm ql qs qk qd qn qe qf qo qt qi qy ((Int32.toInt16 (qo (Int32.toNatClampNeg 0))).toInt32)
              rw [hu298] at hM
              refine m_VA X V (w1 := (wR cB cI bd u298.2 qm ql qs qk qd qn qe qf qo qt qi qy)) (rest := []) (st1 := [.int u298.1]) hM okX8_gives gm_553 gm_704 gm_552 ⟨⟨rfl, rfl⟩, ⟨by decide, by decide⟩, Nat.zero_le _, Nat.zero_le _⟩ rfl rfl (wR_fst _ _ _ _ _ _ _ _ _ _ _ _ _ _ _ _) (wR_fst _ _ _ _ _ _ _ _ _ _ _ _ _ _ _ _) rfl hl.1 (Nat.le_of_ble_eq_true rfl) dX8_does_298 rfl rfl (fun H locs V => ?_)
              have e9 : pX8_does v qm qs qo qt qi qy = (u298.1, u298.2, qm, qs, qt, qi, qy) := by rw [pX8_does, if_pos c_27, if_neg c_52, if_pos c_61, if_pos c_99, if_pos c_125, if_neg w_148_49, if_neg w_148_64, if_neg w_148_65, if_neg w_148_66, if_pos w_148_68, hu298, mLet_eq]
              exact m_iret X hr hk V (by rw [e9]) (by rw [e9]) dX8_does_301
            by_cases w_148_69 : (v 7) = 69
            · refine lv_lookup (off := 154) (tgt := 302) hx hb dX8_does_148 (by decide +kernel) (by rw [w_148_69]; rfl) (by decide) ?_
              refine lv_aload_n hx hb dX8_does_302 rfl (lv_at hl 3 rfl) ?_
              refine lv_iload_n hx hb dX8_does_303 rfl (lv_at hl 2 rfl) ?_
              refine lv_i2b hx hb dX8_does_304 rfl ?_
              obtain ⟨u305, hu305⟩ : ∃ u, pX8_gives v ((Int32.toInt8 (qo (Int32.toNatClampNeg 0))).toInt32) = u := ⟨_, rfl⟩
              have hM := kX8_gives l D cB cI bd v qm ql qs qk qd qn qe qf qo qt qi qy ((Int32.toInt8 (qo (Int32.toNatClampNeg 0))).toInt32)
              rw [hu305] at hM
              refine m_VA X V (w1 := (wR cB cI bd u305.2 qm ql qs qk qd qn qe qf qo qt qi qy)) (rest := []) (st1 := [.int u305.1]) hM okX8_gives gm_553 gm_704 gm_552 ⟨⟨rfl, rfl⟩, ⟨by decide, by decide⟩, Nat.zero_le _, Nat.zero_le _⟩ rfl rfl (wR_fst _ _ _ _ _ _ _ _ _ _ _ _ _ _ _ _) (wR_fst _ _ _ _ _ _ _ _ _ _ _ _ _ _ _ _) rfl hl.1 (Nat.le_of_ble_eq_true rfl) dX8_does_305 rfl rfl (fun H locs V => ?_)
              have e9 : pX8_does v qm qs qo qt qi qy = (u305.1, u305.2, qm, qs, qt, qi, qy) := by rw [pX8_does, if_pos c_27, if_neg c_52, if_pos c_61, if_pos c_99, if_pos c_125, if_neg w_148_49, if_neg w_148_64, if_neg w_148_65, if_neg w_148_66, if_neg w_148_68, if_pos w_148_69, hu305, mLet_eq]
              exact m_iret X hr hk V (by rw [e9]) (by rw [e9]) dX8_does_308
            by_cases w_148_256 : (v 7) = 256
            · refine lv_lookup (off := 161) (tgt := 309) hx hb dX8_does_148 (by decide +kernel) (by rw [w_148_256]; rfl) (by decide) ?_
              refine lv_aload_n hx hb dX8_does_309 rfl (lv_at hl 3 rfl) ?_
              refine lv_iload_n hx hb dX8_does_310 rfl (lv_at hl 2 rfl) ?_
              obtain ⟨u311, hu311⟩ : ∃ u, pX8_gestalt (qo (Int32.toNatClampNeg 0)) = u := ⟨_, rfl⟩
              have hM := kX8_gestalt l D cB cI (qo (Int32.toNatClampNeg 0))
              rw [hu311] at hM
              refine m_S X V (rest := [.ref (bd 0)]) (st1 := [.int u311, .ref (bd 0)]) hM okX8_gestalt gm_578 gm_577 ⟨⟨rfl, rfl⟩, ⟨by decide, by decide⟩, Nat.zero_le _, Nat.zero_le _⟩ rfl hl.1 (Nat.le_of_ble_eq_true rfl) dX8_does_311 rfl rfl (fun H locs V => ?_)
              obtain ⟨u314, hu314⟩ : ∃ u, pX8_gives v u311 = u := ⟨_, rfl⟩
              have hM := kX8_gives l D cB cI bd v qm ql qs qk qd qn qe qf qo qt qi qy u311
              rw [hu314] at hM
              refine m_VA X V (w1 := (wR cB cI bd u314.2 qm ql qs qk qd qn qe qf qo qt qi qy)) (rest := []) (st1 := [.int u314.1]) hM okX8_gives gm_553 gm_704 gm_552 ⟨⟨rfl, rfl⟩, ⟨by decide, by decide⟩, Nat.zero_le _, Nat.zero_le _⟩ rfl rfl (wR_fst _ _ _ _ _ _ _ _ _ _ _ _ _ _ _ _) (wR_fst _ _ _ _ _ _ _ _ _ _ _ _ _ _ _ _) rfl hl.1 (Nat.le_of_ble_eq_true rfl) dX8_does_314 rfl rfl (fun H locs V => ?_)
              have e9 : pX8_does v qm qs qo qt qi qy = (u314.1, u314.2, qm, qs, qt, qi, qy) := by rw [pX8_does, if_pos c_27, if_neg c_52, if_pos c_61, if_pos c_99, if_pos c_125, if_neg w_148_49, if_neg w_148_64, if_neg w_148_65, if_neg w_148_66, if_neg w_148_68, if_neg w_148_69, if_pos w_148_256, hu311, mLet_eq, hu314, mLet_eq]
              exact m_iret X hr hk V (by rw [e9]) (by rw [e9]) dX8_does_317
            by_cases w_148_260 : (v 7) = 260
            · refine lv_lookup (off := 170) (tgt := 318) hx hb dX8_does_148 (by decide +kernel) (by rw [w_148_260]; rfl) (by decide) ?_
              refine lv_aload_n hx hb dX8_does_318 rfl (lv_at hl 3 rfl) ?_
              refine lv_iload_n hx hb dX8_does_319 rfl (lv_at hl 2 rfl) ?_
              refine m_put X V (ws' := (wR cB cI bd (upd v 14 (qo (Int32.toNatClampNeg 0))) qm ql qs qk qd qn qe qf qo qt qi qy)) 6 0 23 rfl gin_6 tyX8_ok nmX8 rfl (by decide) rfl gm_446 rfl rfl rfl (Nat.le_of_ble_eq_true rfl) dX8_does_320 rfl (fun H locs V => ?_)
              refine lv_iconst (v := 0) hx hb dX8_does_323 (by decide) ?_
              have e9 : pX8_does v qm qs qo qt qi qy = (0, (upd v 14 (qo (Int32.toNatClampNeg 0))), qm, qs, qt, qi, qy) := by rw [pX8_does, if_pos c_27, if_neg c_52, if_pos c_61, if_pos c_99, if_pos c_125, if_neg w_148_49, if_neg w_148_64, if_neg w_148_65, if_neg w_148_66, if_neg w_148_68, if_neg w_148_69, if_neg w_148_256, if_pos w_148_260]
              exact m_iret X hr hk V (by rw [e9]) (by rw [e9]) dX8_does_324
            by_cases w_148_288 : (v 7) = 288
            · refine lv_lookup (off := 116) (tgt := 264) hx hb dX8_does_148 (by decide +kernel) (by rw [w_148_288]; rfl) (by decide) ?_
              refine lv_aload_n hx hb dX8_does_264 rfl (lv_at hl 3 rfl) ?_
              refine lv_aload_n hx hb dX8_does_265 rfl (lv_at hl 3 rfl) ?_
              refine m_get X V 6 0 11 rfl gin_6 rfl (by decide) rfl gm_434 (v := .int (v 7)) rfl dX8_does_266 ?_
              refine lv_bipush (v := 49) hx hb dX8_does_269 (by decide) ?_
              refine lv_icmp_ne (tgt := 278) hx hb dX8_does_271 (by decide) (fun _ => ?_) (fun h => absurd h w_148_49)
              refine lv_iconst (v := 0) hx hb dX8_does_278 (by decide) ?_
              refine m_put X V (ws' := (wR cB cI bd (upd v 15 0) qm ql qs qk qd qn qe qf qo qt qi qy)) 6 0 24 rfl gin_6 tyX8_ok nmX8 rfl (by decide) rfl gm_447 rfl rfl rfl (Nat.le_of_ble_eq_true rfl) dX8_does_279 rfl (fun H locs V => ?_)
              refine lv_aload_n hx hb dX8_does_282 rfl (lv_at hl 3 rfl) ?_
              refine lv_iconst (v := 1) hx hb dX8_does_283 (by decide) ?_
              refine m_put X V (ws' := (wR cB cI bd (upd (upd v 3 1) 15 0) qm ql qs qk qd qn qe qf qo qt qi qy)) 6 0 7 rfl gin_6 tyX8_ok nmX8 rfl (by decide) rfl gm_430 rfl rfl rfl (Nat.le_of_ble_eq_true rfl) dX8_does_284 rfl (fun H locs V => ?_)
              refine lv_iconst (v := 0) hx hb dX8_does_287 (by decide) ?_
              have e9 : pX8_does v qm qs qo qt qi qy = (0, (upd (upd v 3 1) 15 0), qm, qs, qt, qi, qy) := by rw [pX8_does, if_pos c_27, if_neg c_52, if_pos c_61, if_pos c_99, if_pos c_125, if_neg w_148_49, if_neg w_148_64, if_neg w_148_65, if_neg w_148_66, if_neg w_148_68, if_neg w_148_69, if_neg w_148_256, if_neg w_148_260, if_pos w_148_288]
              exact m_iret X hr hk V (by rw [e9]) (by rw [e9]) dX8_does_288
            by_cases w_148_336 : (v 7) = 336
            · refine lv_lookup (off := 177) (tgt := 325) hx hb dX8_does_148 (by decide +kernel) (by rw [w_148_336]; rfl) (by decide) ?_
              refine lv_aload_n hx hb dX8_does_325 rfl (lv_at hl 3 rfl) ?_
              obtain ⟨u326, hu326⟩ : ∃ u, pX8_searches v qm qo qy = u := ⟨_, rfl⟩
              have hM := kX8_searches l D cB cI bd v qm ql qs qk qd qn qe qf qo qt qi qy
              rw [hu326] at hM
              refine m_VA X V (w1 := (wR cB cI bd u326.2.1 qm ql qs qk qd qn qe qf qo qt qi u326.2.2)) (rest := []) (st1 := [.int u326.1]) hM okX8_searches gm_583 gm_710 gm_582 ⟨⟨rfl, rfl⟩, ⟨by decide, by decide⟩, Nat.zero_le _, Nat.zero_le _⟩ rfl rfl (wR_fst _ _ _ _ _ _ _ _ _ _ _ _ _ _ _ _) (wR_fst _ _ _ _ _ _ _ _ _ _ _ _ _ _ _ _) rfl hl.1 (Nat.le_of_ble_eq_true rfl) dX8_does_326 rfl rfl (fun H locs V => ?_)
              have e9 : pX8_does v qm qs qo qt qi qy = (u326.1, u326.2.1, qm, qs, qt, qi, u326.2.2) := by rw [pX8_does, if_pos c_27, if_neg c_52, if_pos c_61, if_pos c_99, if_pos c_125, if_neg w_148_49, if_neg w_148_64, if_neg w_148_65, if_neg w_148_66, if_neg w_148_68, if_neg w_148_69, if_neg w_148_256, if_neg w_148_260, if_neg w_148_288, if_pos w_148_336, hu326, mLet_eq]
              exact m_iret X hr hk V (by rw [e9]) (by rw [e9]) dX8_does_329
            by_cases w_148_337 : (v 7) = 337
            · refine lv_lookup (off := 177) (tgt := 325) hx hb dX8_does_148 (by decide +kernel) (by rw [w_148_337]; rfl) (by decide) ?_
              refine lv_aload_n hx hb dX8_does_325 rfl (lv_at hl 3 rfl) ?_
              obtain ⟨u326, hu326⟩ : ∃ u, pX8_searches v qm qo qy = u := ⟨_, rfl⟩
              have hM := kX8_searches l D cB cI bd v qm ql qs qk qd qn qe qf qo qt qi qy
              rw [hu326] at hM
              refine m_VA X V (w1 := (wR cB cI bd u326.2.1 qm ql qs qk qd qn qe qf qo qt qi u326.2.2)) (rest := []) (st1 := [.int u326.1]) hM okX8_searches gm_583 gm_710 gm_582 ⟨⟨rfl, rfl⟩, ⟨by decide, by decide⟩, Nat.zero_le _, Nat.zero_le _⟩ rfl rfl (wR_fst _ _ _ _ _ _ _ _ _ _ _ _ _ _ _ _) (wR_fst _ _ _ _ _ _ _ _ _ _ _ _ _ _ _ _) rfl hl.1 (Nat.le_of_ble_eq_true rfl) dX8_does_326 rfl rfl (fun H locs V => ?_)
              have e9 : pX8_does v qm qs qo qt qi qy = (u326.1, u326.2.1, qm, qs, qt, qi, u326.2.2) := by rw [pX8_does, if_pos c_27, if_neg c_52, if_pos c_61, if_pos c_99, if_pos c_125, if_neg w_148_49, if_neg w_148_64, if_neg w_148_65, if_neg w_148_66, if_neg w_148_68, if_neg w_148_69, if_neg w_148_256, if_neg w_148_260, if_neg w_148_288, if_neg w_148_336, if_pos w_148_337, hu326, mLet_eq]
              exact m_iret X hr hk V (by rw [e9]) (by rw [e9]) dX8_does_329
            by_cases w_148_368 : (v 7) = 368
            · refine lv_lookup (off := 182) (tgt := 330) hx hb dX8_does_148 (by decide +kernel) (by rw [w_148_368]; rfl) (by decide) ?_
              refine lv_aload_n hx hb dX8_does_330 rfl (lv_at hl 3 rfl) ?_
              refine lv_iload_n hx hb dX8_does_331 rfl (lv_at hl 2 rfl) ?_
              refine lv_iload_n hx hb dX8_does_332 rfl (lv_at hl 1 rfl) ?_
              obtain ⟨u333, hu333⟩ : ∃ u, pX8_clears v qm (qo (Int32.toNatClampNeg 0)) (qo (Int32.toNatClampNeg 1)) = u := ⟨_, rfl⟩
              have hM := kX8_clears l D cB cI bd v qm ql qs qk qd qn qe qf qo qt qi qy (qo (Int32.toNatClampNeg 0)) (qo (Int32.toNatClampNeg 1))
              rw [hu333] at hM
              refine m_VA X V (w1 := (wR cB cI bd v u333.2 ql qs qk qd qn qe qf qo qt qi qy)) (rest := []) (st1 := [.int u333.1]) hM okX8_clears gm_601 gm_716 gm_600 ⟨⟨rfl, rfl⟩, ⟨by decide, by decide⟩, Nat.zero_le _, Nat.zero_le _⟩ rfl rfl (wR_fst _ _ _ _ _ _ _ _ _ _ _ _ _ _ _ _) (wR_fst _ _ _ _ _ _ _ _ _ _ _ _ _ _ _ _) rfl hl.1 (Nat.le_of_ble_eq_true rfl) dX8_does_333 rfl rfl (fun H locs V => ?_)
              have e9 : pX8_does v qm qs qo qt qi qy = (u333.1, v, u333.2, qs, qt, qi, qy) := by rw [pX8_does, if_pos c_27, if_neg c_52, if_pos c_61, if_pos c_99, if_pos c_125, if_neg w_148_49, if_neg w_148_64, if_neg w_148_65, if_neg w_148_66, if_neg w_148_68, if_neg w_148_69, if_neg w_148_256, if_neg w_148_260, if_neg w_148_288, if_neg w_148_336, if_neg w_148_337, if_pos w_148_368, hu333, mLet_eq]
              exact m_iret X hr hk V (by rw [e9]) (by rw [e9]) dX8_does_336
            by_cases w_148_369 : (v 7) = 369
            · refine lv_lookup (off := 189) (tgt := 337) hx hb dX8_does_148 (by decide +kernel) (by rw [w_148_369]; rfl) (by decide) ?_
              refine lv_aload_n hx hb dX8_does_337 rfl (lv_at hl 3 rfl) ?_
              refine lv_iload_n hx hb dX8_does_338 rfl (lv_at hl 2 rfl) ?_
              refine lv_iload_n hx hb dX8_does_339 rfl (lv_at hl 1 rfl) ?_
              refine lv_iload_n hx hb dX8_does_340 rfl (lv_at hl 0 rfl) ?_
              obtain ⟨u341, hu341⟩ : ∃ u, pX8_copies v qm qi (qo (Int32.toNatClampNeg 0)) (qo (Int32.toNatClampNeg 1)) (qo (Int32.toNatClampNeg 2)) = u := ⟨_, rfl⟩
              have hM := kX8_copies l D cB cI bd v qm ql qs qk qd qn qe qf qo qt qi qy (qo (Int32.toNatClampNeg 0)) (qo (Int32.toNatClampNeg 1)) (qo (Int32.toNatClampNeg 2))
              rw [hu341] at hM
              refine m_VA X V (w1 := (wR cB cI bd v u341.2.1 ql qs qk qd qn qe qf qo qt u341.2.2 qy)) (rest := []) (st1 := [.int u341.1]) hM okX8_copies gm_604 gm_717 gm_603 ⟨⟨rfl, rfl⟩, ⟨by decide, by decide⟩, Nat.zero_le _, Nat.zero_le _⟩ rfl rfl (wR_fst _ _ _ _ _ _ _ _ _ _ _ _ _ _ _ _) (wR_fst _ _ _ _ _ _ _ _ _ _ _ _ _ _ _ _) rfl hl.1 (Nat.le_of_ble_eq_true rfl) dX8_does_341 rfl rfl (fun H locs V => ?_)
              have e9 : pX8_does v qm qs qo qt qi qy = (u341.1, v, u341.2.1, qs, qt, u341.2.2, qy) := by rw [pX8_does, if_pos c_27, if_neg c_52, if_pos c_61, if_pos c_99, if_pos c_125, if_neg w_148_49, if_neg w_148_64, if_neg w_148_65, if_neg w_148_66, if_neg w_148_68, if_neg w_148_69, if_neg w_148_256, if_neg w_148_260, if_neg w_148_288, if_neg w_148_336, if_neg w_148_337, if_neg w_148_368, if_pos w_148_369, hu341, mLet_eq]
              exact m_iret X hr hk V (by rw [e9]) (by rw [e9]) dX8_does_344
            refine lv_lookup (off := 197) (tgt := 345) hx hb dX8_does_148 (by decide +kernel) ((lv_osw w_148_49 rfl).trans ((lv_osw w_148_64 rfl).trans ((lv_osw w_148_65 rfl).trans ((lv_osw w_148_66 rfl).trans ((lv_osw w_148_68 rfl).trans ((lv_osw w_148_69 rfl).trans ((lv_osw w_148_256 rfl).trans ((lv_osw w_148_260 rfl).trans ((lv_osw w_148_288 rfl).trans ((lv_osw w_148_336 rfl).trans ((lv_osw w_148_337 rfl).trans ((lv_osw w_148_368 rfl).trans ((lv_osw w_148_369 rfl).trans (rfl)))))))))))))) (by decide) ?_
            refine lv_iconst (v := 0) hx hb dX8_does_345 (by decide) ?_
            have e9 : pX8_does v qm qs qo qt qi qy = (0, v, qm, qs, qt, qi, qy) := by rw [pX8_does, if_pos c_27, if_neg c_52, if_pos c_61, if_pos c_99, if_pos c_125, if_neg w_148_49, if_neg w_148_64, if_neg w_148_65, if_neg w_148_66, if_neg w_148_68, if_neg w_148_69, if_neg w_148_256, if_neg w_148_260, if_neg w_148_288, if_neg w_148_336, if_neg w_148_337, if_neg w_148_368, if_neg w_148_369]
            exact m_iret X hr hk V (by rw [e9]) (by rw [e9]) dX8_does_346
          · refine lv_aload_n hx hb dX8_does_128 rfl (lv_at hl 3 rfl) ?_
            refine m_get X V 6 0 11 rfl gin_6 rfl (by decide) rfl gm_434 (v := .int (v 7)) rfl dX8_does_129 ?_
            refine lv_bipush (v := 84) hx hb dX8_does_132 (by decide) ?_
            refine lv_icmp_gt (tgt := 144) hx hb dX8_does_134 (by decide) (fun c_134 => ?_) (fun c_134 => ?_)
            · refine lv_aload_n hx hb dX8_does_144 rfl (lv_at hl 3 rfl) ?_
              refine m_get X V 6 0 11 rfl gin_6 rfl (by decide) rfl gm_434 (v := .int (v 7)) rfl dX8_does_145 ?_
              by_cases w_148_49 : (v 7) = 49
              · refine lv_lookup (off := 116) (tgt := 264) hx hb dX8_does_148 (by decide +kernel) (by rw [w_148_49]; rfl) (by decide) ?_
                refine lv_aload_n hx hb dX8_does_264 rfl (lv_at hl 3 rfl) ?_
                refine lv_aload_n hx hb dX8_does_265 rfl (lv_at hl 3 rfl) ?_
                refine m_get X V 6 0 11 rfl gin_6 rfl (by decide) rfl gm_434 (v := .int (v 7)) rfl dX8_does_266 ?_
                refine lv_bipush (v := 49) hx hb dX8_does_269 (by decide) ?_
                refine lv_icmp_ne (tgt := 278) hx hb dX8_does_271 (by decide) (fun h => absurd w_148_49 h) (fun _ => ?_)
                refine lv_iload_n hx hb dX8_does_274 rfl (lv_at hl 2 rfl) ?_
                refine lv_goto (tgt := 279) hx hb dX8_does_275 (by decide) ?_
                refine m_put X V (ws' := (wR cB cI bd (upd v 15 (qo (Int32.toNatClampNeg 0))) qm ql qs qk qd qn qe qf qo qt qi qy)) 6 0 24 rfl gin_6 tyX8_ok nmX8 rfl (by decide) rfl gm_447 rfl rfl rfl (Nat.le_of_ble_eq_true rfl) dX8_does_279 rfl (fun H locs V => ?_)
                refine lv_aload_n hx hb dX8_does_282 rfl (lv_at hl 3 rfl) ?_
                refine lv_iconst (v := 1) hx hb dX8_does_283 (by decide) ?_
                refine m_put X V (ws' := (wR cB cI bd (upd (upd v 3 1) 15 (qo (Int32.toNatClampNeg 0))) qm ql qs qk qd qn qe qf qo qt qi qy)) 6 0 7 rfl gin_6 tyX8_ok nmX8 rfl (by decide) rfl gm_430 rfl rfl rfl (Nat.le_of_ble_eq_true rfl) dX8_does_284 rfl (fun H locs V => ?_)
                refine lv_iconst (v := 0) hx hb dX8_does_287 (by decide) ?_
                have e9 : pX8_does v qm qs qo qt qi qy = (0, (upd (upd v 3 1) 15 (qo (Int32.toNatClampNeg 0))), qm, qs, qt, qi, qy) := by rw [pX8_does, if_pos c_27, if_neg c_52, if_pos c_61, if_pos c_99, if_neg c_125, if_pos c_134, if_pos w_148_49]
                exact m_iret X hr hk V (by rw [e9]) (by rw [e9]) dX8_does_288
              by_cases w_148_64 : (v 7) = 64
              · refine lv_lookup (off := 141) (tgt := 289) hx hb dX8_does_148 (by decide +kernel) (by rw [w_148_64]; rfl) (by decide) ?_
                refine lv_aload_n hx hb dX8_does_289 rfl (lv_at hl 3 rfl) ?_
                refine lv_iload_n hx hb dX8_does_290 rfl (lv_at hl 2 rfl) ?_
                obtain ⟨u291, hu291⟩ : ∃ u, pX8_gives v (qo (Int32.toNatClampNeg 0)) = u := ⟨_, rfl⟩
                have hM := kX8_gives l D cB cI bd v qm ql qs qk qd qn qe qf qo qt qi qy (qo (Int32.toNatClampNeg 0))
                rw [hu291] at hM
                refine m_VA X V (w1 := (wR cB cI bd u291.2 qm ql qs qk qd qn qe qf qo qt qi qy)) (rest := []) (st1 := [.int u291.1]) hM okX8_gives gm_553 gm_704 gm_552 ⟨⟨rfl, rfl⟩, ⟨by decide, by decide⟩, Nat.zero_le _, Nat.zero_le _⟩ rfl rfl (wR_fst _ _ _ _ _ _ _ _ _ _ _ _ _ _ _ _) (wR_fst _ _ _ _ _ _ _ _ _ _ _ _ _ _ _ _) rfl hl.1 (Nat.le_of_ble_eq_true rfl) dX8_does_291 rfl rfl (fun H locs V => ?_)
                have e9 : pX8_does v qm qs qo qt qi qy = (u291.1, u291.2, qm, qs, qt, qi, qy) := by rw [pX8_does, if_pos c_27, if_neg c_52, if_pos c_61, if_pos c_99, if_neg c_125, if_pos c_134, if_neg w_148_49, if_pos w_148_64, hu291, mLet_eq]
                exact m_iret X hr hk V (by rw [e9]) (by rw [e9]) dX8_does_294
              by_cases w_148_65 : (v 7) = 65
              · refine lv_lookup (off := 141) (tgt := 289) hx hb dX8_does_148 (by decide +kernel) (by rw [w_148_65]; rfl) (by decide) ?_
                refine lv_aload_n hx hb dX8_does_289 rfl (lv_at hl 3 rfl) ?_
                refine lv_iload_n hx hb dX8_does_290 rfl (lv_at hl 2 rfl) ?_
                obtain ⟨u291, hu291⟩ : ∃ u, pX8_gives v (qo (Int32.toNatClampNeg 0)) = u := ⟨_, rfl⟩
                have hM := kX8_gives l D cB cI bd v qm ql qs qk qd qn qe qf qo qt qi qy (qo (Int32.toNatClampNeg 0))
                rw [hu291] at hM
                refine m_VA X V (w1 := (wR cB cI bd u291.2 qm ql qs qk qd qn qe qf qo qt qi qy)) (rest := []) (st1 := [.int u291.1]) hM okX8_gives gm_553 gm_704 gm_552 ⟨⟨rfl, rfl⟩, ⟨by decide, by decide⟩, Nat.zero_le _, Nat.zero_le _⟩ rfl rfl (wR_fst _ _ _ _ _ _ _ _ _ _ _ _ _ _ _ _) (wR_fst _ _ _ _ _ _ _ _ _ _ _ _ _ _ _ _) rfl hl.1 (Nat.le_of_ble_eq_true rfl) dX8_does_291 rfl rfl (fun H locs V => ?_)
                have e9 : pX8_does v qm qs qo qt qi qy = (u291.1, u291.2, qm, qs, qt, qi, qy) := by rw [pX8_does, if_pos c_27, if_neg c_52, if_pos c_61, if_pos c_99, if_neg c_125, if_pos c_134, if_neg w_148_49, if_neg w_148_64, if_pos w_148_65, hu291, mLet_eq]
                exact m_iret X hr hk V (by rw [e9]) (by rw [e9]) dX8_does_294
              by_cases w_148_66 : (v 7) = 66
              · refine lv_lookup (off := 141) (tgt := 289) hx hb dX8_does_148 (by decide +kernel) (by rw [w_148_66]; rfl) (by decide) ?_
                refine lv_aload_n hx hb dX8_does_289 rfl (lv_at hl 3 rfl) ?_
                refine lv_iload_n hx hb dX8_does_290 rfl (lv_at hl 2 rfl) ?_
                obtain ⟨u291, hu291⟩ : ∃ u, pX8_gives v (qo (Int32.toNatClampNeg 0)) = u := ⟨_, rfl⟩
                have hM := kX8_gives l D cB cI bd v qm ql qs qk qd qn qe qf qo qt qi qy (qo (Int32.toNatClampNeg 0))
                rw [hu291] at hM
                refine m_VA X V (w1 := (wR cB cI bd u291.2 qm ql qs qk qd qn qe qf qo qt qi qy)) (rest := []) (st1 := [.int u291.1]) hM okX8_gives gm_553 gm_704 gm_552 ⟨⟨rfl, rfl⟩, ⟨by decide, by decide⟩, Nat.zero_le _, Nat.zero_le _⟩ rfl rfl (wR_fst _ _ _ _ _ _ _ _ _ _ _ _ _ _ _ _) (wR_fst _ _ _ _ _ _ _ _ _ _ _ _ _ _ _ _) rfl hl.1 (Nat.le_of_ble_eq_true rfl) dX8_does_291 rfl rfl (fun H locs V => ?_)
                have e9 : pX8_does v qm qs qo qt qi qy = (u291.1, u291.2, qm, qs, qt, qi, qy) := by rw [pX8_does, if_pos c_27, if_neg c_52, if_pos c_61, if_pos c_99, if_neg c_125, if_pos c_134, if_neg w_148_49, if_neg w_148_64, if_neg w_148_65, if_pos w_148_66, hu291, mLet_eq]
                exact m_iret X hr hk V (by rw [e9]) (by rw [e9]) dX8_does_294
              by_cases w_148_68 : (v 7) = 68
              · refine lv_lookup (off := 147) (tgt := 295) hx hb dX8_does_148 (by decide +kernel) (by rw [w_148_68]; rfl) (by decide) ?_
                refine lv_aload_n hx hb dX8_does_295 rfl (lv_at hl 3 rfl) ?_
                refine lv_iload_n hx hb dX8_does_296 rfl (lv_at hl 2 rfl) ?_
                refine lv_i2s hx hb dX8_does_297 rfl ?_
                obtain ⟨u298, hu298⟩ : ∃ u, pX8_gives v ((Int32.toInt16 (qo (Int32.toNatClampNeg 0))).toInt32) = u := ⟨_, rfl⟩
                have hM := kX8_gives l D cB cI bd v qm ql qs qk qd qn qe qf qo qt qi qy ((Int32.toInt16 (qo (Int32.toNatClampNeg 0))).toInt32)
                rw [hu298] at hM
                refine m_VA X V (w1 := (wR cB cI bd u298.2 qm ql qs qk qd qn qe qf qo qt qi qy)) (rest := []) (st1 := [.int u298.1]) hM okX8_gives gm_553 gm_704 gm_552 ⟨⟨rfl, rfl⟩, ⟨by decide, by decide⟩, Nat.zero_le _, Nat.zero_le _⟩ rfl rfl (wR_fst _ _ _ _ _ _ _ _ _ _ _ _ _ _ _ _) (wR_fst _ _ _ _ _ _ _ _ _ _ _ _ _ _ _ _) rfl hl.1 (Nat.le_of_ble_eq_true rfl) dX8_does_298 rfl rfl (fun H locs V => ?_)
                have e9 : pX8_does v qm qs qo qt qi qy = (u298.1, u298.2, qm, qs, qt, qi, qy) := by rw [pX8_does, if_pos c_27, if_neg c_52, if_pos c_61, if_pos c_99, if_neg c_125, if_pos c_134, if_neg w_148_49, if_neg w_148_64, if_neg w_148_65, if_neg w_148_66, if_pos w_148_68, hu298, mLet_eq]
                exact m_iret X hr hk V (by rw [e9]) (by rw [e9]) dX8_does_301
              by_cases w_148_69 : (v 7) = 69
              · refine lv_lookup (off := 154) (tgt := 302) hx hb dX8_does_148 (by decide +kernel) (by rw [w_148_69]; rfl) (by decide) ?_
                refine lv_aload_n hx hb dX8_does_302 rfl (lv_at hl 3 rfl) ?_
                refine lv_iload_n hx hb dX8_does_303 rfl (lv_at hl 2 rfl) ?_
                refine lv_i2b hx hb dX8_does_304 rfl ?_
                obtain ⟨u305, hu305⟩ : ∃ u, pX8_gives v ((Int32.toInt8 (qo (Int32.toNatClampNeg 0))).toInt32) = u := ⟨_, rfl⟩
                have hM := kX8_gives l D cB cI bd v qm ql qs qk qd qn qe qf qo qt qi qy ((Int32.toInt8 (qo (Int32.toNatClampNeg 0))).toInt32)
                rw [hu305] at hM
                refine m_VA X V (w1 := (wR cB cI bd u305.2 qm ql qs qk qd qn qe qf qo qt qi qy)) (rest := []) (st1 := [.int u305.1]) hM okX8_gives gm_553 gm_704 gm_552 ⟨⟨rfl, rfl⟩, ⟨by decide, by decide⟩, Nat.zero_le _, Nat.zero_le _⟩ rfl rfl (wR_fst _ _ _ _ _ _ _ _ _ _ _ _ _ _ _ _) (wR_fst _ _ _ _ _ _ _ _ _ _ _ _ _ _ _ _) rfl hl.1 (Nat.le_of_ble_eq_true rfl) dX8_does_305 rfl rfl (fun H locs V => ?_)
                have e9 : pX8_does v qm qs qo qt qi qy = (u305.1, u305.2, qm, qs, qt, qi, qy) := by rw [pX8_does, if_pos c_27, if_neg c_52, if_pos c_61, if_pos c_99, if_neg c_125, if_pos c_134, if_neg w_148_49, if_neg w_148_64, if_neg w_148_65, if_neg w_148_66, if_neg w_148_68, if_pos w_148_69, hu305, mLet_eq]
                exact m_iret X hr hk V (by rw [e9]) (by rw [e9]) dX8_does_308
              by_cases w_148_256 : (v 7) = 256
              · refine lv_lookup (off := 161) (tgt := 309) hx hb dX8_does_148 (by decide +kernel) (by rw [w_148_256]; rfl) (by decide) ?_
                refine lv_aload_n hx hb dX8_does_309 rfl (lv_at hl 3 rfl) ?_
                refine lv_iload_n hx hb dX8_does_310 rfl (lv_at hl 2 rfl) ?_
                obtain ⟨u311, hu311⟩ : ∃ u, pX8_gestalt (qo (Int32.toNatClampNeg 0)) = u := ⟨_, rfl⟩
                have hM := kX8_gestalt l D cB cI (qo (Int32.toNatClampNeg 0))
                rw [hu311] at hM
                refine m_S X V (rest := [.ref (bd 0)]) (st1 := [.int u311, .ref (bd 0)]) hM okX8_gestalt gm_578 gm_577 ⟨⟨rfl, rfl⟩, ⟨by decide, by decide⟩, Nat.zero_le _, Nat.zero_le _⟩ rfl hl.1 (Nat.le_of_ble_eq_true rfl) dX8_does_311 rfl rfl (fun H locs V => ?_)
                obtain ⟨u314, hu314⟩ : ∃ u, pX8_gives v u311 = u := ⟨_, rfl⟩
                have hM := kX8_gives l D cB cI bd v qm ql qs qk qd qn qe qf qo qt qi qy u311
                rw [hu314] at hM
                refine m_VA X V (w1 := (wR cB cI bd u314.2 qm ql qs qk qd qn qe qf qo qt qi qy)) (rest := []) (st1 := [.int u314.1]) hM okX8_gives gm_553 gm_704 gm_552 ⟨⟨rfl, rfl⟩, ⟨by decide, by decide⟩, Nat.zero_le _, Nat.zero_le _⟩ rfl rfl (wR_fst _ _ _ _ _ _ _ _ _ _ _ _ _ _ _ _) (wR_fst _ _ _ _ _ _ _ _ _ _ _ _ _ _ _ _) rfl hl.1 (Nat.le_of_ble_eq_true rfl) dX8_does_314 rfl rfl (fun H locs V => ?_)
                have e9 : pX8_does v qm qs qo qt qi qy = (u314.1, u314.2, qm, qs, qt, qi, qy) := by rw [pX8_does, if_pos c_27, if_neg c_52, if_pos c_61, if_pos c_99, if_neg c_125, if_pos c_134, if_neg w_148_49, if_neg w_148_64, if_neg w_148_65, if_neg w_148_66, if_neg w_148_68, if_neg w_148_69, if_pos w_148_256, hu311, mLet_eq, hu314, mLet_eq]
                exact m_iret X hr hk V (by rw [e9]) (by rw [e9]) dX8_does_317
              by_cases w_148_260 : (v 7) = 260
              · refine lv_lookup (off := 170) (tgt := 318) hx hb dX8_does_148 (by decide +kernel) (by rw [w_148_260]; rfl) (by decide) ?_
                refine lv_aload_n hx hb dX8_does_318 rfl (lv_at hl 3 rfl) ?_
                refine lv_iload_n hx hb dX8_does_319 rfl (lv_at hl 2 rfl) ?_
                refine m_put X V (ws' := (wR cB cI bd (upd v 14 (qo (Int32.toNatClampNeg 0))) qm ql qs qk qd qn qe qf qo qt qi qy)) 6 0 23 rfl gin_6 tyX8_ok nmX8 rfl (by decide) rfl gm_446 rfl rfl rfl (Nat.le_of_ble_eq_true rfl) dX8_does_320 rfl (fun H locs V => ?_)
                refine lv_iconst (v := 0) hx hb dX8_does_323 (by decide) ?_
                have e9 : pX8_does v qm qs qo qt qi qy = (0, (upd v 14 (qo (Int32.toNatClampNeg 0))), qm, qs, qt, qi, qy) := by rw [pX8_does, if_pos c_27, if_neg c_52, if_pos c_61, if_pos c_99, if_neg c_125, if_pos c_134, if_neg w_148_49, if_neg w_148_64, if_neg w_148_65, if_neg w_148_66, if_neg w_148_68, if_neg w_148_69, if_neg w_148_256, if_pos w_148_260]
                exact m_iret X hr hk V (by rw [e9]) (by rw [e9]) dX8_does_324
              by_cases w_148_288 : (v 7) = 288
              · refine lv_lookup (off := 116) (tgt := 264) hx hb dX8_does_148 (by decide +kernel) (by rw [w_148_288]; rfl) (by decide) ?_
                refine lv_aload_n hx hb dX8_does_264 rfl (lv_at hl 3 rfl) ?_
                refine lv_aload_n hx hb dX8_does_265 rfl (lv_at hl 3 rfl) ?_
                refine m_get X V 6 0 11 rfl gin_6 rfl (by decide) rfl gm_434 (v := .int (v 7)) rfl dX8_does_266 ?_
                refine lv_bipush (v := 49) hx hb dX8_does_269 (by decide) ?_
                refine lv_icmp_ne (tgt := 278) hx hb dX8_does_271 (by decide) (fun _ => ?_) (fun h => absurd h w_148_49)
                refine lv_iconst (v := 0) hx hb dX8_does_278 (by decide) ?_
                refine m_put X V (ws' := (wR cB cI bd (upd v 15 0) qm ql qs qk qd qn qe qf qo qt qi qy)) 6 0 24 rfl gin_6 tyX8_ok nmX8 rfl (by decide) rfl gm_447 rfl rfl rfl (Nat.le_of_ble_eq_true rfl) dX8_does_279 rfl (fun H locs V => ?_)
                refine lv_aload_n hx hb dX8_does_282 rfl (lv_at hl 3 rfl) ?_
                refine lv_iconst (v := 1) hx hb dX8_does_283 (by decide) ?_
                refine m_put X V (ws' := (wR cB cI bd (upd (upd v 3 1) 15 0) qm ql qs qk qd qn qe qf qo qt qi qy)) 6 0 7 rfl gin_6 tyX8_ok nmX8 rfl (by decide) rfl gm_430 rfl rfl rfl (Nat.le_of_ble_eq_true rfl) dX8_does_284 rfl (fun H locs V => ?_)
                refine lv_iconst (v := 0) hx hb dX8_does_287 (by decide) ?_
                have e9 : pX8_does v qm qs qo qt qi qy = (0, (upd (upd v 3 1) 15 0), qm, qs, qt, qi, qy) := by rw [pX8_does, if_pos c_27, if_neg c_52, if_pos c_61, if_pos c_99, if_neg c_125, if_pos c_134, if_neg w_148_49, if_neg w_148_64, if_neg w_148_65, if_neg w_148_66, if_neg w_148_68, if_neg w_148_69, if_neg w_148_256, if_neg w_148_260, if_pos w_148_288]
                exact m_iret X hr hk V (by rw [e9]) (by rw [e9]) dX8_does_288
              by_cases w_148_336 : (v 7) = 336
              · refine lv_lookup (off := 177) (tgt := 325) hx hb dX8_does_148 (by decide +kernel) (by rw [w_148_336]; rfl) (by decide) ?_
                refine lv_aload_n hx hb dX8_does_325 rfl (lv_at hl 3 rfl) ?_
                obtain ⟨u326, hu326⟩ : ∃ u, pX8_searches v qm qo qy = u := ⟨_, rfl⟩
                have hM := kX8_searches l D cB cI bd v qm ql qs qk qd qn qe qf qo qt qi qy
                rw [hu326] at hM
                refine m_VA X V (w1 := (wR cB cI bd u326.2.1 qm ql qs qk qd qn qe qf qo qt qi u326.2.2)) (rest := []) (st1 := [.int u326.1]) hM okX8_searches gm_583 gm_710 gm_582 ⟨⟨rfl, rfl⟩, ⟨by decide, by decide⟩, Nat.zero_le _, Nat.zero_le _⟩ rfl rfl (wR_fst _ _ _ _ _ _ _ _ _ _ _ _ _ _ _ _) (wR_fst _ _ _ _ _ _ _ _ _ _ _ _ _ _ _ _) rfl hl.1 (Nat.le_of_ble_eq_true rfl) dX8_does_326 rfl rfl (fun H locs V => ?_)
                have e9 : pX8_does v qm qs qo qt qi qy = (u326.1, u326.2.1, qm, qs, qt, qi, u326.2.2) := by rw [pX8_does, if_pos c_27, if_neg c_52, if_pos c_61, if_pos c_99, if_neg c_125, if_pos c_134, if_neg w_148_49, if_neg w_148_64, if_neg w_148_65, if_neg w_148_66, if_neg w_148_68, if_neg w_148_69, if_neg w_148_256, if_neg w_148_260, if_neg w_148_288, if_pos w_148_336, hu326, mLet_eq]
                exact m_iret X hr hk V (by rw [e9]) (by rw [e9]) dX8_does_329
              by_cases w_148_337 : (v 7) = 337
              · refine lv_lookup (off := 177) (tgt := 325) hx hb dX8_does_148 (by decide +kernel) (by rw [w_148_337]; rfl) (by decide) ?_
                refine lv_aload_n hx hb dX8_does_325 rfl (lv_at hl 3 rfl) ?_
                obtain ⟨u326, hu326⟩ : ∃ u, pX8_searches v qm qo qy = u := ⟨_, rfl⟩
                have hM := kX8_searches l D cB cI bd v qm ql qs qk qd qn qe qf qo qt qi qy
                rw [hu326] at hM
                refine m_VA X V (w1 := (wR cB cI bd u326.2.1 qm ql qs qk qd qn qe qf qo qt qi u326.2.2)) (rest := []) (st1 := [.int u326.1]) hM okX8_searches gm_583 gm_710 gm_582 ⟨⟨rfl, rfl⟩, ⟨by decide, by decide⟩, Nat.zero_le _, Nat.zero_le _⟩ rfl rfl (wR_fst _ _ _ _ _ _ _ _ _ _ _ _ _ _ _ _) (wR_fst _ _ _ _ _ _ _ _ _ _ _ _ _ _ _ _) rfl hl.1 (Nat.le_of_ble_eq_true rfl) dX8_does_326 rfl rfl (fun H locs V => ?_)
                have e9 : pX8_does v qm qs qo qt qi qy = (u326.1, u326.2.1, qm, qs, qt, qi, u326.2.2) := by rw [pX8_does, if_pos c_27, if_neg c_52, if_pos c_61, if_pos c_99, if_neg c_125, if_pos c_134, if_neg w_148_49, if_neg w_148_64, if_neg w_148_65, if_neg w_148_66, if_neg w_148_68, if_neg w_148_69, if_neg w_148_256, if_neg w_148_260, if_neg w_148_288, if_neg w_148_336, if_pos w_148_337, hu326, mLet_eq]
                exact m_iret X hr hk V (by rw [e9]) (by rw [e9]) dX8_does_329
              by_cases w_148_368 : (v 7) = 368
              · refine lv_lookup (off := 182) (tgt := 330) hx hb dX8_does_148 (by decide +kernel) (by rw [w_148_368]; rfl) (by decide) ?_
                refine lv_aload_n hx hb dX8_does_330 rfl (lv_at hl 3 rfl) ?_
                refine lv_iload_n hx hb dX8_does_331 rfl (lv_at hl 2 rfl) ?_
                refine lv_iload_n hx hb dX8_does_332 rfl (lv_at hl 1 rfl) ?_
                obtain ⟨u333, hu333⟩ : ∃ u, pX8_clears v qm (qo (Int32.toNatClampNeg 0)) (qo (Int32.toNatClampNeg 1)) = u := ⟨_, rfl⟩
                have hM := kX8_clears l D cB cI bd v qm ql qs qk qd qn qe qf qo qt qi qy (qo (Int32.toNatClampNeg 0)) (qo (Int32.toNatClampNeg 1))
                rw [hu333] at hM
                refine m_VA X V (w1 := (wR cB cI bd v u333.2 ql qs qk qd qn qe qf qo qt qi qy)) (rest := []) (st1 := [.int u333.1]) hM okX8_clears gm_601 gm_716 gm_600 ⟨⟨rfl, rfl⟩, ⟨by decide, by decide⟩, Nat.zero_le _, Nat.zero_le _⟩ rfl rfl (wR_fst _ _ _ _ _ _ _ _ _ _ _ _ _ _ _ _) (wR_fst _ _ _ _ _ _ _ _ _ _ _ _ _ _ _ _) rfl hl.1 (Nat.le_of_ble_eq_true rfl) dX8_does_333 rfl rfl (fun H locs V => ?_)
                have e9 : pX8_does v qm qs qo qt qi qy = (u333.1, v, u333.2, qs, qt, qi, qy) := by rw [pX8_does, if_pos c_27, if_neg c_52, if_pos c_61, if_pos c_99, if_neg c_125, if_pos c_134, if_neg w_148_49, if_neg w_148_64, if_neg w_148_65, if_neg w_148_66, if_neg w_148_68, if_neg w_148_69, if_neg w_148_256, if_neg w_148_260, if_neg w_148_288, if_neg w_148_336, if_neg w_148_337, if_pos w_148_368, hu333, mLet_eq]
                exact m_iret X hr hk V (by rw [e9]) (by rw [e9]) dX8_does_336
              by_cases w_148_369 : (v 7) = 369
              · refine lv_lookup (off := 189) (tgt := 337) hx hb dX8_does_148 (by decide +kernel) (by rw [w_148_369]; rfl) (by decide) ?_
                refine lv_aload_n hx hb dX8_does_337 rfl (lv_at hl 3 rfl) ?_
                refine lv_iload_n hx hb dX8_does_338 rfl (lv_at hl 2 rfl) ?_
                refine lv_iload_n hx hb dX8_does_339 rfl (lv_at hl 1 rfl) ?_
                refine lv_iload_n hx hb dX8_does_340 rfl (lv_at hl 0 rfl) ?_
                obtain ⟨u341, hu341⟩ : ∃ u, pX8_copies v qm qi (qo (Int32.toNatClampNeg 0)) (qo (Int32.toNatClampNeg 1)) (qo (Int32.toNatClampNeg 2)) = u := ⟨_, rfl⟩
                have hM := kX8_copies l D cB cI bd v qm ql qs qk qd qn qe qf qo qt qi qy (qo (Int32.toNatClampNeg 0)) (qo (Int32.toNatClampNeg 1)) (qo (Int32.toNatClampNeg 2))
                rw [hu341] at hM
                refine m_VA X V (w1 := (wR cB cI bd v u341.2.1 ql qs qk qd qn qe qf qo qt u341.2.2 qy)) (rest := []) (st1 := [.int u341.1]) hM okX8_copies gm_604 gm_717 gm_603 ⟨⟨rfl, rfl⟩, ⟨by decide, by decide⟩, Nat.zero_le _, Nat.zero_le _⟩ rfl rfl (wR_fst _ _ _ _ _ _ _ _ _ _ _ _ _ _ _ _) (wR_fst _ _ _ _ _ _ _ _ _ _ _ _ _ _ _ _) rfl hl.1 (Nat.le_of_ble_eq_true rfl) dX8_does_341 rfl rfl (fun H locs V => ?_)
                have e9 : pX8_does v qm qs qo qt qi qy = (u341.1, v, u341.2.1, qs, qt, u341.2.2, qy) := by rw [pX8_does, if_pos c_27, if_neg c_52, if_pos c_61, if_pos c_99, if_neg c_125, if_pos c_134, if_neg w_148_49, if_neg w_148_64, if_neg w_148_65, if_neg w_148_66, if_neg w_148_68, if_neg w_148_69, if_neg w_148_256, if_neg w_148_260, if_neg w_148_288, if_neg w_148_336, if_neg w_148_337, if_neg w_148_368, if_pos w_148_369, hu341, mLet_eq]
                exact m_iret X hr hk V (by rw [e9]) (by rw [e9]) dX8_does_344
              refine lv_lookup (off := 197) (tgt := 345) hx hb dX8_does_148 (by decide +kernel) ((lv_osw w_148_49 rfl).trans ((lv_osw w_148_64 rfl).trans ((lv_osw w_148_65 rfl).trans ((lv_osw w_148_66 rfl).trans ((lv_osw w_148_68 rfl).trans ((lv_osw w_148_69 rfl).trans ((lv_osw w_148_256 rfl).trans ((lv_osw w_148_260 rfl).trans ((lv_osw w_148_288 rfl).trans ((lv_osw w_148_336 rfl).trans ((lv_osw w_148_337 rfl).trans ((lv_osw w_148_368 rfl).trans ((lv_osw w_148_369 rfl).trans (rfl)))))))))))))) (by decide) ?_
              refine lv_iconst (v := 0) hx hb dX8_does_345 (by decide) ?_
              have e9 : pX8_does v qm qs qo qt qi qy = (0, v, qm, qs, qt, qi, qy) := by rw [pX8_does, if_pos c_27, if_neg c_52, if_pos c_61, if_pos c_99, if_neg c_125, if_pos c_134, if_neg w_148_49, if_neg w_148_64, if_neg w_148_65, if_neg w_148_66, if_neg w_148_68, if_neg w_148_69, if_neg w_148_256, if_neg w_148_260, if_neg w_148_288, if_neg w_148_336, if_neg w_148_337, if_neg w_148_368, if_neg w_148_369]
              exact m_iret X hr hk V (by rw [e9]) (by rw [e9]) dX8_does_346
            · refine lv_aload_n hx hb dX8_does_137 rfl (lv_at hl 3 rfl) ?_
              refine lv_iload_n hx hb dX8_does_138 rfl (lv_at hl 2 rfl) ?_
              refine lv_iload_n hx hb dX8_does_139 rfl (lv_at hl 1 rfl) ?_
              obtain ⟨u140, hu140⟩ : ∃ u, pX8_onStack v qs qt (qo (Int32.toNatClampNeg 0)) (qo (Int32.toNatClampNeg 1)) = u := ⟨_, rfl⟩
              have hM := kX8_onStack l D cB cI bd v qm ql qs qk qd qn qe qf qo qt qi qy (qo (Int32.toNatClampNeg 0)) (qo (Int32.toNatClampNeg 1)) (show 0 ≤ Int32.toInt (v 0) ∧ Int32.toInt (v 0) ≤ 40 by omega)
              rw [hu140] at hM
              refine m_VA X V (w1 := (wR cB cI bd u140.2.1 qm ql u140.2.2.1 qk qd qn qe qf qo u140.2.2.2 qi qy)) (rest := []) (st1 := [.int u140.1]) hM okX8_onStack gm_572 gm_708 gm_571 ⟨⟨rfl, rfl⟩, ⟨by decide, by decide⟩, Nat.zero_le _, Nat.zero_le _⟩ rfl rfl (wR_fst _ _ _ _ _ _ _ _ _ _ _ _ _ _ _ _) (wR_fst _ _ _ _ _ _ _ _ _ _ _ _ _ _ _ _) rfl hl.1 (Nat.le_of_ble_eq_true rfl) dX8_does_140 rfl rfl (fun H locs V => ?_)
              have e9 : pX8_does v qm qs qo qt qi qy = (u140.1, u140.2.1, qm, u140.2.2.1, u140.2.2.2, qi, qy) := by rw [pX8_does, if_pos c_27, if_neg c_52, if_pos c_61, if_pos c_99, if_neg c_125, if_neg c_134, hu140, mLet_eq]
              exact m_iret X hr hk V (by rw [e9]) (by rw [e9]) dX8_does_143
        · refine lv_aload_n hx hb dX8_does_102 rfl (lv_at hl 3 rfl) ?_
          refine m_get X V 6 0 11 rfl gin_6 rfl (by decide) rfl gm_434 (v := .int (v 7)) rfl dX8_does_103 ?_
          refine lv_bipush (v := 79) hx hb dX8_does_106 (by decide) ?_
          refine lv_icmp_gt (tgt := 119) hx hb dX8_does_108 (by decide) (fun c_108 => ?_) (fun c_108 => ?_)
          · refine lv_aload_n hx hb dX8_does_119 rfl (lv_at hl 3 rfl) ?_
            refine m_get X V 6 0 11 rfl gin_6 rfl (by decide) rfl gm_434 (v := .int (v 7)) rfl dX8_does_120 ?_
            refine lv_bipush (v := 80) hx hb dX8_does_123 (by decide) ?_
            refine lv_icmp_lt (tgt := 144) hx hb dX8_does_125 (by decide) (fun c_125 => ?_) (fun c_125 => ?_)
            · refine lv_aload_n hx hb dX8_does_144 rfl (lv_at hl 3 rfl) ?_
              refine m_get X V 6 0 11 rfl gin_6 rfl (by decide) rfl gm_434 (v := .int (v 7)) rfl dX8_does_145 ?_
              by_cases w_148_49 : (v 7) = 49
              · refine lv_lookup (off := 116) (tgt := 264) hx hb dX8_does_148 (by decide +kernel) (by rw [w_148_49]; rfl) (by decide) ?_
                refine lv_aload_n hx hb dX8_does_264 rfl (lv_at hl 3 rfl) ?_
                refine lv_aload_n hx hb dX8_does_265 rfl (lv_at hl 3 rfl) ?_
                refine m_get X V 6 0 11 rfl gin_6 rfl (by decide) rfl gm_434 (v := .int (v 7)) rfl dX8_does_266 ?_
                refine lv_bipush (v := 49) hx hb dX8_does_269 (by decide) ?_
                refine lv_icmp_ne (tgt := 278) hx hb dX8_does_271 (by decide) (fun h => absurd w_148_49 h) (fun _ => ?_)
                refine lv_iload_n hx hb dX8_does_274 rfl (lv_at hl 2 rfl) ?_
                refine lv_goto (tgt := 279) hx hb dX8_does_275 (by decide) ?_
                refine m_put X V (ws' := (wR cB cI bd (upd v 15 (qo (Int32.toNatClampNeg 0))) qm ql qs qk qd qn qe qf qo qt qi qy)) 6 0 24 rfl gin_6 tyX8_ok nmX8 rfl (by decide) rfl gm_447 rfl rfl rfl (Nat.le_of_ble_eq_true rfl) dX8_does_279 rfl (fun H locs V => ?_)
                refine lv_aload_n hx hb dX8_does_282 rfl (lv_at hl 3 rfl) ?_
                refine lv_iconst (v := 1) hx hb dX8_does_283 (by decide) ?_
                refine m_put X V (ws' := (wR cB cI bd (upd (upd v 3 1) 15 (qo (Int32.toNatClampNeg 0))) qm ql qs qk qd qn qe qf qo qt qi qy)) 6 0 7 rfl gin_6 tyX8_ok nmX8 rfl (by decide) rfl gm_430 rfl rfl rfl (Nat.le_of_ble_eq_true rfl) dX8_does_284 rfl (fun H locs V => ?_)
                refine lv_iconst (v := 0) hx hb dX8_does_287 (by decide) ?_
                have e9 : pX8_does v qm qs qo qt qi qy = (0, (upd (upd v 3 1) 15 (qo (Int32.toNatClampNeg 0))), qm, qs, qt, qi, qy) := by rw [pX8_does, if_pos c_27, if_neg c_52, if_pos c_61, if_neg c_99, if_pos c_108, if_pos c_125, if_pos w_148_49]
                exact m_iret X hr hk V (by rw [e9]) (by rw [e9]) dX8_does_288
              by_cases w_148_64 : (v 7) = 64
              · refine lv_lookup (off := 141) (tgt := 289) hx hb dX8_does_148 (by decide +kernel) (by rw [w_148_64]; rfl) (by decide) ?_
                refine lv_aload_n hx hb dX8_does_289 rfl (lv_at hl 3 rfl) ?_
                refine lv_iload_n hx hb dX8_does_290 rfl (lv_at hl 2 rfl) ?_
                obtain ⟨u291, hu291⟩ : ∃ u, pX8_gives v (qo (Int32.toNatClampNeg 0)) = u := ⟨_, rfl⟩
                have hM := kX8_gives l D cB cI bd v qm ql qs qk qd qn qe qf qo qt qi qy (qo (Int32.toNatClampNeg 0))
                rw [hu291] at hM
                refine m_VA X V (w1 := (wR cB cI bd u291.2 qm ql qs qk qd qn qe qf qo qt qi qy)) (rest := []) (st1 := [.int u291.1]) hM okX8_gives gm_553 gm_704 gm_552 ⟨⟨rfl, rfl⟩, ⟨by decide, by decide⟩, Nat.zero_le _, Nat.zero_le _⟩ rfl rfl (wR_fst _ _ _ _ _ _ _ _ _ _ _ _ _ _ _ _) (wR_fst _ _ _ _ _ _ _ _ _ _ _ _ _ _ _ _) rfl hl.1 (Nat.le_of_ble_eq_true rfl) dX8_does_291 rfl rfl (fun H locs V => ?_)
                have e9 : pX8_does v qm qs qo qt qi qy = (u291.1, u291.2, qm, qs, qt, qi, qy) := by rw [pX8_does, if_pos c_27, if_neg c_52, if_pos c_61, if_neg c_99, if_pos c_108, if_pos c_125, if_neg w_148_49, if_pos w_148_64, hu291, mLet_eq]
                exact m_iret X hr hk V (by rw [e9]) (by rw [e9]) dX8_does_294
              by_cases w_148_65 : (v 7) = 65
              · refine lv_lookup (off := 141) (tgt := 289) hx hb dX8_does_148 (by decide +kernel) (by rw [w_148_65]; rfl) (by decide) ?_
                refine lv_aload_n hx hb dX8_does_289 rfl (lv_at hl 3 rfl) ?_
                refine lv_iload_n hx hb dX8_does_290 rfl (lv_at hl 2 rfl) ?_
                obtain ⟨u291, hu291⟩ : ∃ u, pX8_gives v (qo (Int32.toNatClampNeg 0)) = u := ⟨_, rfl⟩
                have hM := kX8_gives l D cB cI bd v qm ql qs qk qd qn qe qf qo qt qi qy (qo (Int32.toNatClampNeg 0))
                rw [hu291] at hM
                refine m_VA X V (w1 := (wR cB cI bd u291.2 qm ql qs qk qd qn qe qf qo qt qi qy)) (rest := []) (st1 := [.int u291.1]) hM okX8_gives gm_553 gm_704 gm_552 ⟨⟨rfl, rfl⟩, ⟨by decide, by decide⟩, Nat.zero_le _, Nat.zero_le _⟩ rfl rfl (wR_fst _ _ _ _ _ _ _ _ _ _ _ _ _ _ _ _) (wR_fst _ _ _ _ _ _ _ _ _ _ _ _ _ _ _ _) rfl hl.1 (Nat.le_of_ble_eq_true rfl) dX8_does_291 rfl rfl (fun H locs V => ?_)
                have e9 : pX8_does v qm qs qo qt qi qy = (u291.1, u291.2, qm, qs, qt, qi, qy) := by rw [pX8_does, if_pos c_27, if_neg c_52, if_pos c_61, if_neg c_99, if_pos c_108, if_pos c_125, if_neg w_148_49, if_neg w_148_64, if_pos w_148_65, hu291, mLet_eq]
                exact m_iret X hr hk V (by rw [e9]) (by rw [e9]) dX8_does_294
              by_cases w_148_66 : (v 7) = 66
              · refine lv_lookup (off := 141) (tgt := 289) hx hb dX8_does_148 (by decide +kernel) (by rw [w_148_66]; rfl) (by decide) ?_
                refine lv_aload_n hx hb dX8_does_289 rfl (lv_at hl 3 rfl) ?_
                refine lv_iload_n hx hb dX8_does_290 rfl (lv_at hl 2 rfl) ?_
                obtain ⟨u291, hu291⟩ : ∃ u, pX8_gives v (qo (Int32.toNatClampNeg 0)) = u := ⟨_, rfl⟩
                have hM := kX8_gives l D cB cI bd v qm ql qs qk qd qn qe qf qo qt qi qy (qo (Int32.toNatClampNeg 0))
                rw [hu291] at hM
                refine m_VA X V (w1 := (wR cB cI bd u291.2 qm ql qs qk qd qn qe qf qo qt qi qy)) (rest := []) (st1 := [.int u291.1]) hM okX8_gives gm_553 gm_704 gm_552 ⟨⟨rfl, rfl⟩, ⟨by decide, by decide⟩, Nat.zero_le _, Nat.zero_le _⟩ rfl rfl (wR_fst _ _ _ _ _ _ _ _ _ _ _ _ _ _ _ _) (wR_fst _ _ _ _ _ _ _ _ _ _ _ _ _ _ _ _) rfl hl.1 (Nat.le_of_ble_eq_true rfl) dX8_does_291 rfl rfl (fun H locs V => ?_)
                have e9 : pX8_does v qm qs qo qt qi qy = (u291.1, u291.2, qm, qs, qt, qi, qy) := by rw [pX8_does, if_pos c_27, if_neg c_52, if_pos c_61, if_neg c_99, if_pos c_108, if_pos c_125, if_neg w_148_49, if_neg w_148_64, if_neg w_148_65, if_pos w_148_66, hu291, mLet_eq]
                exact m_iret X hr hk V (by rw [e9]) (by rw [e9]) dX8_does_294
              by_cases w_148_68 : (v 7) = 68
              · refine lv_lookup (off := 147) (tgt := 295) hx hb dX8_does_148 (by decide +kernel) (by rw [w_148_68]; rfl) (by decide) ?_
                refine lv_aload_n hx hb dX8_does_295 rfl (lv_at hl 3 rfl) ?_
                refine lv_iload_n hx hb dX8_does_296 rfl (lv_at hl 2 rfl) ?_
                refine lv_i2s hx hb dX8_does_297 rfl ?_
                obtain ⟨u298, hu298⟩ : ∃ u, pX8_gives v ((Int32.toInt16 (qo (Int32.toNatClampNeg 0))).toInt32) = u := ⟨_, rfl⟩
                have hM := kX8_gives l D cB cI bd v qm ql qs qk qd qn qe qf qo qt qi qy ((Int32.toInt16 (qo (Int32.toNatClampNeg 0))).toInt32)
                rw [hu298] at hM
                refine m_VA X V (w1 := (wR cB cI bd u298.2 qm ql qs qk qd qn qe qf qo qt qi qy)) (rest := []) (st1 := [.int u298.1]) hM okX8_gives gm_553 gm_704 gm_552 ⟨⟨rfl, rfl⟩, ⟨by decide, by decide⟩, Nat.zero_le _, Nat.zero_le _⟩ rfl rfl (wR_fst _ _ _ _ _ _ _ _ _ _ _ _ _ _ _ _) (wR_fst _ _ _ _ _ _ _ _ _ _ _ _ _ _ _ _) rfl hl.1 (Nat.le_of_ble_eq_true rfl) dX8_does_298 rfl rfl (fun H locs V => ?_)
                have e9 : pX8_does v qm qs qo qt qi qy = (u298.1, u298.2, qm, qs, qt, qi, qy) := by rw [pX8_does, if_pos c_27, if_neg c_52, if_pos c_61, if_neg c_99, if_pos c_108, if_pos c_125, if_neg w_148_49, if_neg w_148_64, if_neg w_148_65, if_neg w_148_66, if_pos w_148_68, hu298, mLet_eq]
                exact m_iret X hr hk V (by rw [e9]) (by rw [e9]) dX8_does_301
              by_cases w_148_69 : (v 7) = 69
              · refine lv_lookup (off := 154) (tgt := 302) hx hb dX8_does_148 (by decide +kernel) (by rw [w_148_69]; rfl) (by decide) ?_
                refine lv_aload_n hx hb dX8_does_302 rfl (lv_at hl 3 rfl) ?_
                refine lv_iload_n hx hb dX8_does_303 rfl (lv_at hl 2 rfl) ?_
                refine lv_i2b hx hb dX8_does_304 rfl ?_
                obtain ⟨u305, hu305⟩ : ∃ u, pX8_gives v ((Int32.toInt8 (qo (Int32.toNatClampNeg 0))).toInt32) = u := ⟨_, rfl⟩
                have hM := kX8_gives l D cB cI bd v qm ql qs qk qd qn qe qf qo qt qi qy ((Int32.toInt8 (qo (Int32.toNatClampNeg 0))).toInt32)
                rw [hu305] at hM
                refine m_VA X V (w1 := (wR cB cI bd u305.2 qm ql qs qk qd qn qe qf qo qt qi qy)) (rest := []) (st1 := [.int u305.1]) hM okX8_gives gm_553 gm_704 gm_552 ⟨⟨rfl, rfl⟩, ⟨by decide, by decide⟩, Nat.zero_le _, Nat.zero_le _⟩ rfl rfl (wR_fst _ _ _ _ _ _ _ _ _ _ _ _ _ _ _ _) (wR_fst _ _ _ _ _ _ _ _ _ _ _ _ _ _ _ _) rfl hl.1 (Nat.le_of_ble_eq_true rfl) dX8_does_305 rfl rfl (fun H locs V => ?_)
                have e9 : pX8_does v qm qs qo qt qi qy = (u305.1, u305.2, qm, qs, qt, qi, qy) := by rw [pX8_does, if_pos c_27, if_neg c_52, if_pos c_61, if_neg c_99, if_pos c_108, if_pos c_125, if_neg w_148_49, if_neg w_148_64, if_neg w_148_65, if_neg w_148_66, if_neg w_148_68, if_pos w_148_69, hu305, mLet_eq]
                exact m_iret X hr hk V (by rw [e9]) (by rw [e9]) dX8_does_308
              by_cases w_148_256 : (v 7) = 256
              · refine lv_lookup (off := 161) (tgt := 309) hx hb dX8_does_148 (by decide +kernel) (by rw [w_148_256]; rfl) (by decide) ?_
                refine lv_aload_n hx hb dX8_does_309 rfl (lv_at hl 3 rfl) ?_
                refine lv_iload_n hx hb dX8_does_310 rfl (lv_at hl 2 rfl) ?_
                obtain ⟨u311, hu311⟩ : ∃ u, pX8_gestalt (qo (Int32.toNatClampNeg 0)) = u := ⟨_, rfl⟩
                have hM := kX8_gestalt l D cB cI (qo (Int32.toNatClampNeg 0))
                rw [hu311] at hM
                refine m_S X V (rest := [.ref (bd 0)]) (st1 := [.int u311, .ref (bd 0)]) hM okX8_gestalt gm_578 gm_577 ⟨⟨rfl, rfl⟩, ⟨by decide, by decide⟩, Nat.zero_le _, Nat.zero_le _⟩ rfl hl.1 (Nat.le_of_ble_eq_true rfl) dX8_does_311 rfl rfl (fun H locs V => ?_)
                obtain ⟨u314, hu314⟩ : ∃ u, pX8_gives v u311 = u := ⟨_, rfl⟩
                have hM := kX8_gives l D cB cI bd v qm ql qs qk qd qn qe qf qo qt qi qy u311
                rw [hu314] at hM
                refine m_VA X V (w1 := (wR cB cI bd u314.2 qm ql qs qk qd qn qe qf qo qt qi qy)) (rest := []) (st1 := [.int u314.1]) hM okX8_gives gm_553 gm_704 gm_552 ⟨⟨rfl, rfl⟩, ⟨by decide, by decide⟩, Nat.zero_le _, Nat.zero_le _⟩ rfl rfl (wR_fst _ _ _ _ _ _ _ _ _ _ _ _ _ _ _ _) (wR_fst _ _ _ _ _ _ _ _ _ _ _ _ _ _ _ _) rfl hl.1 (Nat.le_of_ble_eq_true rfl) dX8_does_314 rfl rfl (fun H locs V => ?_)
                have e9 : pX8_does v qm qs qo qt qi qy = (u314.1, u314.2, qm, qs, qt, qi, qy) := by rw [pX8_does, if_pos c_27, if_neg c_52, if_pos c_61, if_neg c_99, if_pos c_108, if_pos c_125, if_neg w_148_49, if_neg w_148_64, if_neg w_148_65, if_neg w_148_66, if_neg w_148_68, if_neg w_148_69, if_pos w_148_256, hu311, mLet_eq, hu314, mLet_eq]
                exact m_iret X hr hk V (by rw [e9]) (by rw [e9]) dX8_does_317
              by_cases w_148_260 : (v 7) = 260
              · refine lv_lookup (off := 170) (tgt := 318) hx hb dX8_does_148 (by decide +kernel) (by rw [w_148_260]; rfl) (by decide) ?_
                refine lv_aload_n hx hb dX8_does_318 rfl (lv_at hl 3 rfl) ?_
                refine lv_iload_n hx hb dX8_does_319 rfl (lv_at hl 2 rfl) ?_
                refine m_put X V (ws' := (wR cB cI bd (upd v 14 (qo (Int32.toNatClampNeg 0))) qm ql qs qk qd qn qe qf qo qt qi qy)) 6 0 23 rfl gin_6 tyX8_ok nmX8 rfl (by decide) rfl gm_446 rfl rfl rfl (Nat.le_of_ble_eq_true rfl) dX8_does_320 rfl (fun H locs V => ?_)
                refine lv_iconst (v := 0) hx hb dX8_does_323 (by decide) ?_
                have e9 : pX8_does v qm qs qo qt qi qy = (0, (upd v 14 (qo (Int32.toNatClampNeg 0))), qm, qs, qt, qi, qy) := by rw [pX8_does, if_pos c_27, if_neg c_52, if_pos c_61, if_neg c_99, if_pos c_108, if_pos c_125, if_neg w_148_49, if_neg w_148_64, if_neg w_148_65, if_neg w_148_66, if_neg w_148_68, if_neg w_148_69, if_neg w_148_256, if_pos w_148_260]
                exact m_iret X hr hk V (by rw [e9]) (by rw [e9]) dX8_does_324
              by_cases w_148_288 : (v 7) = 288
              · refine lv_lookup (off := 116) (tgt := 264) hx hb dX8_does_148 (by decide +kernel) (by rw [w_148_288]; rfl) (by decide) ?_
                refine lv_aload_n hx hb dX8_does_264 rfl (lv_at hl 3 rfl) ?_
                refine lv_aload_n hx hb dX8_does_265 rfl (lv_at hl 3 rfl) ?_
                refine m_get X V 6 0 11 rfl gin_6 rfl (by decide) rfl gm_434 (v := .int (v 7)) rfl dX8_does_266 ?_
                refine lv_bipush (v := 49) hx hb dX8_does_269 (by decide) ?_
                refine lv_icmp_ne (tgt := 278) hx hb dX8_does_271 (by decide) (fun _ => ?_) (fun h => absurd h w_148_49)
                refine lv_iconst (v := 0) hx hb dX8_does_278 (by decide) ?_
                refine m_put X V (ws' := (wR cB cI bd (upd v 15 0) qm ql qs qk qd qn qe qf qo qt qi qy)) 6 0 24 rfl gin_6 tyX8_ok nmX8 rfl (by decide) rfl gm_447 rfl rfl rfl (Nat.le_of_ble_eq_true rfl) dX8_does_279 rfl (fun H locs V => ?_)
                refine lv_aload_n hx hb dX8_does_282 rfl (lv_at hl 3 rfl) ?_
                refine lv_iconst (v := 1) hx hb dX8_does_283 (by decide) ?_
                refine m_put X V (ws' := (wR cB cI bd (upd (upd v 3 1) 15 0) qm ql qs qk qd qn qe qf qo qt qi qy)) 6 0 7 rfl gin_6 tyX8_ok nmX8 rfl (by decide) rfl gm_430 rfl rfl rfl (Nat.le_of_ble_eq_true rfl) dX8_does_284 rfl (fun H locs V => ?_)
                refine lv_iconst (v := 0) hx hb dX8_does_287 (by decide) ?_
                have e9 : pX8_does v qm qs qo qt qi qy = (0, (upd (upd v 3 1) 15 0), qm, qs, qt, qi, qy) := by rw [pX8_does, if_pos c_27, if_neg c_52, if_pos c_61, if_neg c_99, if_pos c_108, if_pos c_125, if_neg w_148_49, if_neg w_148_64, if_neg w_148_65, if_neg w_148_66, if_neg w_148_68, if_neg w_148_69, if_neg w_148_256, if_neg w_148_260, if_pos w_148_288]
                exact m_iret X hr hk V (by rw [e9]) (by rw [e9]) dX8_does_288
              by_cases w_148_336 : (v 7) = 336
              · refine lv_lookup (off := 177) (tgt := 325) hx hb dX8_does_148 (by decide +kernel) (by rw [w_148_336]; rfl) (by decide) ?_
                refine lv_aload_n hx hb dX8_does_325 rfl (lv_at hl 3 rfl) ?_
                obtain ⟨u326, hu326⟩ : ∃ u, pX8_searches v qm qo qy = u := ⟨_, rfl⟩
                have hM := kX8_searches l D cB cI bd v qm ql qs qk qd qn qe qf qo qt qi qy
                rw [hu326] at hM
                refine m_VA X V (w1 := (wR cB cI bd u326.2.1 qm ql qs qk qd qn qe qf qo qt qi u326.2.2)) (rest := []) (st1 := [.int u326.1]) hM okX8_searches gm_583 gm_710 gm_582 ⟨⟨rfl, rfl⟩, ⟨by decide, by decide⟩, Nat.zero_le _, Nat.zero_le _⟩ rfl rfl (wR_fst _ _ _ _ _ _ _ _ _ _ _ _ _ _ _ _) (wR_fst _ _ _ _ _ _ _ _ _ _ _ _ _ _ _ _) rfl hl.1 (Nat.le_of_ble_eq_true rfl) dX8_does_326 rfl rfl (fun H locs V => ?_)
                have e9 : pX8_does v qm qs qo qt qi qy = (u326.1, u326.2.1, qm, qs, qt, qi, u326.2.2) := by rw [pX8_does, if_pos c_27, if_neg c_52, if_pos c_61, if_neg c_99, if_pos c_108, if_pos c_125, if_neg w_148_49, if_neg w_148_64, if_neg w_148_65, if_neg w_148_66, if_neg w_148_68, if_neg w_148_69, if_neg w_148_256, if_neg w_148_260, if_neg w_148_288, if_pos w_148_336, hu326, mLet_eq]
                exact m_iret X hr hk V (by rw [e9]) (by rw [e9]) dX8_does_329
              by_cases w_148_337 : (v 7) = 337
              · refine lv_lookup (off := 177) (tgt := 325) hx hb dX8_does_148 (by decide +kernel) (by rw [w_148_337]; rfl) (by decide) ?_
                refine lv_aload_n hx hb dX8_does_325 rfl (lv_at hl 3 rfl) ?_
                obtain ⟨u326, hu326⟩ : ∃ u, pX8_searches v qm qo qy = u := ⟨_, rfl⟩
                have hM := kX8_searches l D cB cI bd v qm ql qs qk qd qn qe qf qo qt qi qy
                rw [hu326] at hM
                refine m_VA X V (w1 := (wR cB cI bd u326.2.1 qm ql qs qk qd qn qe qf qo qt qi u326.2.2)) (rest := []) (st1 := [.int u326.1]) hM okX8_searches gm_583 gm_710 gm_582 ⟨⟨rfl, rfl⟩, ⟨by decide, by decide⟩, Nat.zero_le _, Nat.zero_le _⟩ rfl rfl (wR_fst _ _ _ _ _ _ _ _ _ _ _ _ _ _ _ _) (wR_fst _ _ _ _ _ _ _ _ _ _ _ _ _ _ _ _) rfl hl.1 (Nat.le_of_ble_eq_true rfl) dX8_does_326 rfl rfl (fun H locs V => ?_)
                have e9 : pX8_does v qm qs qo qt qi qy = (u326.1, u326.2.1, qm, qs, qt, qi, u326.2.2) := by rw [pX8_does, if_pos c_27, if_neg c_52, if_pos c_61, if_neg c_99, if_pos c_108, if_pos c_125, if_neg w_148_49, if_neg w_148_64, if_neg w_148_65, if_neg w_148_66, if_neg w_148_68, if_neg w_148_69, if_neg w_148_256, if_neg w_148_260, if_neg w_148_288, if_neg w_148_336, if_pos w_148_337, hu326, mLet_eq]
                exact m_iret X hr hk V (by rw [e9]) (by rw [e9]) dX8_does_329
              by_cases w_148_368 : (v 7) = 368
              · refine lv_lookup (off := 182) (tgt := 330) hx hb dX8_does_148 (by decide +kernel) (by rw [w_148_368]; rfl) (by decide) ?_
                refine lv_aload_n hx hb dX8_does_330 rfl (lv_at hl 3 rfl) ?_
                refine lv_iload_n hx hb dX8_does_331 rfl (lv_at hl 2 rfl) ?_
                refine lv_iload_n hx hb dX8_does_332 rfl (lv_at hl 1 rfl) ?_
                obtain ⟨u333, hu333⟩ : ∃ u, pX8_clears v qm (qo (Int32.toNatClampNeg 0)) (qo (Int32.toNatClampNeg 1)) = u := ⟨_, rfl⟩
                have hM := kX8_clears l D cB cI bd v qm ql qs qk qd qn qe qf qo qt qi qy (qo (Int32.toNatClampNeg 0)) (qo (Int32.toNatClampNeg 1))
                rw [hu333] at hM
                refine m_VA X V (w1 := (wR cB cI bd v u333.2 ql qs qk qd qn qe qf qo qt qi qy)) (rest := []) (st1 := [.int u333.1]) hM okX8_clears gm_601 gm_716 gm_600 ⟨⟨rfl, rfl⟩, ⟨by decide, by decide⟩, Nat.zero_le _, Nat.zero_le _⟩ rfl rfl (wR_fst _ _ _ _ _ _ _ _ _ _ _ _ _ _ _ _) (wR_fst _ _ _ _ _ _ _ _ _ _ _ _ _ _ _ _) rfl hl.1 (Nat.le_of_ble_eq_true rfl) dX8_does_333 rfl rfl (fun H locs V => ?_)
                have e9 : pX8_does v qm qs qo qt qi qy = (u333.1, v, u333.2, qs, qt, qi, qy) := by rw [pX8_does, if_pos c_27, if_neg c_52, if_pos c_61, if_neg c_99, if_pos c_108, if_pos c_125, if_neg w_148_49, if_neg w_148_64, if_neg w_148_65, if_neg w_148_66, if_neg w_148_68, if_neg w_148_69, if_neg w_148_256, if_neg w_148_260, if_neg w_148_288, if_neg w_148_336, if_neg w_148_337, if_pos w_148_368, hu333, mLet_eq]
                exact m_iret X hr hk V (by rw [e9]) (by rw [e9]) dX8_does_336
              by_cases w_148_369 : (v 7) = 369
              · refine lv_lookup (off := 189) (tgt := 337) hx hb dX8_does_148 (by decide +kernel) (by rw [w_148_369]; rfl) (by decide) ?_
                refine lv_aload_n hx hb dX8_does_337 rfl (lv_at hl 3 rfl) ?_
                refine lv_iload_n hx hb dX8_does_338 rfl (lv_at hl 2 rfl) ?_
                refine lv_iload_n hx hb dX8_does_339 rfl (lv_at hl 1 rfl) ?_
                refine lv_iload_n hx hb dX8_does_340 rfl (lv_at hl 0 rfl) ?_
                obtain ⟨u341, hu341⟩ : ∃ u, pX8_copies v qm qi (qo (Int32.toNatClampNeg 0)) (qo (Int32.toNatClampNeg 1)) (qo (Int32.toNatClampNeg 2)) = u := ⟨_, rfl⟩
                have hM := kX8_copies l D cB cI bd v qm ql qs qk qd qn qe qf qo qt qi qy (qo (Int32.toNatClampNeg 0)) (qo (Int32.toNatClampNeg 1)) (qo (Int32.toNatClampNeg 2))
                rw [hu341] at hM
                refine m_VA X V (w1 := (wR cB cI bd v u341.2.1 ql qs qk qd qn qe qf qo qt u341.2.2 qy)) (rest := []) (st1 := [.int u341.1]) hM okX8_copies gm_604 gm_717 gm_603 ⟨⟨rfl, rfl⟩, ⟨by decide, by decide⟩, Nat.zero_le _, Nat.zero_le _⟩ rfl rfl (wR_fst _ _ _ _ _ _ _ _ _ _ _ _ _ _ _ _) (wR_fst _ _ _ _ _ _ _ _ _ _ _ _ _ _ _ _) rfl hl.1 (Nat.le_of_ble_eq_true rfl) dX8_does_341 rfl rfl (fun H locs V => ?_)
                have e9 : pX8_does v qm qs qo qt qi qy = (u341.1, v, u341.2.1, qs, qt, u341.2.2, qy) := by rw [pX8_does, if_pos c_27, if_neg c_52, if_pos c_61, if_neg c_99, if_pos c_108, if_pos c_125, if_neg w_148_49, if_neg w_148_64, if_neg w_148_65, if_neg w_148_66, if_neg w_148_68, if_neg w_148_69, if_neg w_148_256, if_neg w_148_260, if_neg w_148_288, if_neg w_148_336, if_neg w_148_337, if_neg w_148_368, if_pos w_148_369, hu341, mLet_eq]
                exact m_iret X hr hk V (by rw [e9]) (by rw [e9]) dX8_does_344
              refine lv_lookup (off := 197) (tgt := 345) hx hb dX8_does_148 (by decide +kernel) ((lv_osw w_148_49 rfl).trans ((lv_osw w_148_64 rfl).trans ((lv_osw w_148_65 rfl).trans ((lv_osw w_148_66 rfl).trans ((lv_osw w_148_68 rfl).trans ((lv_osw w_148_69 rfl).trans ((lv_osw w_148_256 rfl).trans ((lv_osw w_148_260 rfl).trans ((lv_osw w_148_288 rfl).trans ((lv_osw w_148_336 rfl).trans ((lv_osw w_148_337 rfl).trans ((lv_osw w_148_368 rfl).trans ((lv_osw w_148_369 rfl).trans (rfl)))))))))))))) (by decide) ?_
              refine lv_iconst (v := 0) hx hb dX8_does_345 (by decide) ?_
              have e9 : pX8_does v qm qs qo qt qi qy = (0, v, qm, qs, qt, qi, qy) := by rw [pX8_does, if_pos c_27, if_neg c_52, if_pos c_61, if_neg c_99, if_pos c_108, if_pos c_125, if_neg w_148_49, if_neg w_148_64, if_neg w_148_65, if_neg w_148_66, if_neg w_148_68, if_neg w_148_69, if_neg w_148_256, if_neg w_148_260, if_neg w_148_288, if_neg w_148_336, if_neg w_148_337, if_neg w_148_368, if_neg w_148_369]
              exact m_iret X hr hk V (by rw [e9]) (by rw [e9]) dX8_does_346
            · refine lv_aload_n hx hb dX8_does_128 rfl (lv_at hl 3 rfl) ?_
              refine m_get X V 6 0 11 rfl gin_6 rfl (by decide) rfl gm_434 (v := .int (v 7)) rfl dX8_does_129 ?_
              refine lv_bipush (v := 84) hx hb dX8_does_132 (by decide) ?_
              refine lv_icmp_gt (tgt := 144) hx hb dX8_does_134 (by decide) (fun c_134 => ?_) (fun c_134 => ?_)
              · refine lv_aload_n hx hb dX8_does_144 rfl (lv_at hl 3 rfl) ?_
                refine m_get X V 6 0 11 rfl gin_6 rfl (by decide) rfl gm_434 (v := .int (v 7)) rfl dX8_does_145 ?_
                by_cases w_148_49 : (v 7) = 49
                · refine lv_lookup (off := 116) (tgt := 264) hx hb dX8_does_148 (by decide +kernel) (by rw [w_148_49]; rfl) (by decide) ?_
                  refine lv_aload_n hx hb dX8_does_264 rfl (lv_at hl 3 rfl) ?_
                  refine lv_aload_n hx hb dX8_does_265 rfl (lv_at hl 3 rfl) ?_
                  refine m_get X V 6 0 11 rfl gin_6 rfl (by decide) rfl gm_434 (v := .int (v 7)) rfl dX8_does_266 ?_
                  refine lv_bipush (v := 49) hx hb dX8_does_269 (by decide) ?_
                  refine lv_icmp_ne (tgt := 278) hx hb dX8_does_271 (by decide) (fun h => absurd w_148_49 h) (fun _ => ?_)
                  refine lv_iload_n hx hb dX8_does_274 rfl (lv_at hl 2 rfl) ?_
                  refine lv_goto (tgt := 279) hx hb dX8_does_275 (by decide) ?_
                  refine m_put X V (ws' := (wR cB cI bd (upd v 15 (qo (Int32.toNatClampNeg 0))) qm ql qs qk qd qn qe qf qo qt qi qy)) 6 0 24 rfl gin_6 tyX8_ok nmX8 rfl (by decide) rfl gm_447 rfl rfl rfl (Nat.le_of_ble_eq_true rfl) dX8_does_279 rfl (fun H locs V => ?_)
                  refine lv_aload_n hx hb dX8_does_282 rfl (lv_at hl 3 rfl) ?_
                  refine lv_iconst (v := 1) hx hb dX8_does_283 (by decide) ?_
                  refine m_put X V (ws' := (wR cB cI bd (upd (upd v 3 1) 15 (qo (Int32.toNatClampNeg 0))) qm ql qs qk qd qn qe qf qo qt qi qy)) 6 0 7 rfl gin_6 tyX8_ok nmX8 rfl (by decide) rfl gm_430 rfl rfl rfl (Nat.le_of_ble_eq_true rfl) dX8_does_284 rfl (fun H locs V => ?_)
                  refine lv_iconst (v := 0) hx hb dX8_does_287 (by decide) ?_
                  have e9 : pX8_does v qm qs qo qt qi qy = (0, (upd (upd v 3 1) 15 (qo (Int32.toNatClampNeg 0))), qm, qs, qt, qi, qy) := by rw [pX8_does, if_pos c_27, if_neg c_52, if_pos c_61, if_neg c_99, if_pos c_108, if_neg c_125, if_pos c_134, if_pos w_148_49]
                  exact m_iret X hr hk V (by rw [e9]) (by rw [e9]) dX8_does_288
                by_cases w_148_64 : (v 7) = 64
                · refine lv_lookup (off := 141) (tgt := 289) hx hb dX8_does_148 (by decide +kernel) (by rw [w_148_64]; rfl) (by decide) ?_
                  refine lv_aload_n hx hb dX8_does_289 rfl (lv_at hl 3 rfl) ?_
                  refine lv_iload_n hx hb dX8_does_290 rfl (lv_at hl 2 rfl) ?_
                  obtain ⟨u291, hu291⟩ : ∃ u, pX8_gives v (qo (Int32.toNatClampNeg 0)) = u := ⟨_, rfl⟩
                  have hM := kX8_gives l D cB cI bd v qm ql qs qk qd qn qe qf qo qt qi qy (qo (Int32.toNatClampNeg 0))
                  rw [hu291] at hM
                  refine m_VA X V (w1 := (wR cB cI bd u291.2 qm ql qs qk qd qn qe qf qo qt qi qy)) (rest := []) (st1 := [.int u291.1]) hM okX8_gives gm_553 gm_704 gm_552 ⟨⟨rfl, rfl⟩, ⟨by decide, by decide⟩, Nat.zero_le _, Nat.zero_le _⟩ rfl rfl (wR_fst _ _ _ _ _ _ _ _ _ _ _ _ _ _ _ _) (wR_fst _ _ _ _ _ _ _ _ _ _ _ _ _ _ _ _) rfl hl.1 (Nat.le_of_ble_eq_true rfl) dX8_does_291 rfl rfl (fun H locs V => ?_)
                  have e9 : pX8_does v qm qs qo qt qi qy = (u291.1, u291.2, qm, qs, qt, qi, qy) := by rw [pX8_does, if_pos c_27, if_neg c_52, if_pos c_61, if_neg c_99, if_pos c_108, if_neg c_125, if_pos c_134, if_neg w_148_49, if_pos w_148_64, hu291, mLet_eq]
                  exact m_iret X hr hk V (by rw [e9]) (by rw [e9]) dX8_does_294
                by_cases w_148_65 : (v 7) = 65
                · refine lv_lookup (off := 141) (tgt := 289) hx hb dX8_does_148 (by decide +kernel) (by rw [w_148_65]; rfl) (by decide) ?_
                  refine lv_aload_n hx hb dX8_does_289 rfl (lv_at hl 3 rfl) ?_
                  refine lv_iload_n hx hb dX8_does_290 rfl (lv_at hl 2 rfl) ?_
                  obtain ⟨u291, hu291⟩ : ∃ u, pX8_gives v (qo (Int32.toNatClampNeg 0)) = u := ⟨_, rfl⟩
                  have hM := kX8_gives l D cB cI bd v qm ql qs qk qd qn qe qf qo qt qi qy (qo (Int32.toNatClampNeg 0))
                  rw [hu291] at hM
                  refine m_VA X V (w1 := (wR cB cI bd u291.2 qm ql qs qk qd qn qe qf qo qt qi qy)) (rest := []) (st1 := [.int u291.1]) hM okX8_gives gm_553 gm_704 gm_552 ⟨⟨rfl, rfl⟩, ⟨by decide, by decide⟩, Nat.zero_le _, Nat.zero_le _⟩ rfl rfl (wR_fst _ _ _ _ _ _ _ _ _ _ _ _ _ _ _ _) (wR_fst _ _ _ _ _ _ _ _ _ _ _ _ _ _ _ _) rfl hl.1 (Nat.le_of_ble_eq_true rfl) dX8_does_291 rfl rfl (fun H locs V => ?_)
                  have e9 : pX8_does v qm qs qo qt qi qy = (u291.1, u291.2, qm, qs, qt, qi, qy) := by rw [pX8_does, if_pos c_27, if_neg c_52, if_pos c_61, if_neg c_99, if_pos c_108, if_neg c_125, if_pos c_134, if_neg w_148_49, if_neg w_148_64, if_pos w_148_65, hu291, mLet_eq]
                  exact m_iret X hr hk V (by rw [e9]) (by rw [e9]) dX8_does_294
                by_cases w_148_66 : (v 7) = 66
                · refine lv_lookup (off := 141) (tgt := 289) hx hb dX8_does_148 (by decide +kernel) (by rw [w_148_66]; rfl) (by decide) ?_
                  refine lv_aload_n hx hb dX8_does_289 rfl (lv_at hl 3 rfl) ?_
                  refine lv_iload_n hx hb dX8_does_290 rfl (lv_at hl 2 rfl) ?_
                  obtain ⟨u291, hu291⟩ : ∃ u, pX8_gives v (qo (Int32.toNatClampNeg 0)) = u := ⟨_, rfl⟩
                  have hM := kX8_gives l D cB cI bd v qm ql qs qk qd qn qe qf qo qt qi qy (qo (Int32.toNatClampNeg 0))
                  rw [hu291] at hM
                  refine m_VA X V (w1 := (wR cB cI bd u291.2 qm ql qs qk qd qn qe qf qo qt qi qy)) (rest := []) (st1 := [.int u291.1]) hM okX8_gives gm_553 gm_704 gm_552 ⟨⟨rfl, rfl⟩, ⟨by decide, by decide⟩, Nat.zero_le _, Nat.zero_le _⟩ rfl rfl (wR_fst _ _ _ _ _ _ _ _ _ _ _ _ _ _ _ _) (wR_fst _ _ _ _ _ _ _ _ _ _ _ _ _ _ _ _) rfl hl.1 (Nat.le_of_ble_eq_true rfl) dX8_does_291 rfl rfl (fun H locs V => ?_)
                  have e9 : pX8_does v qm qs qo qt qi qy = (u291.1, u291.2, qm, qs, qt, qi, qy) := by rw [pX8_does, if_pos c_27, if_neg c_52, if_pos c_61, if_neg c_99, if_pos c_108, if_neg c_125, if_pos c_134, if_neg w_148_49, if_neg w_148_64, if_neg w_148_65, if_pos w_148_66, hu291, mLet_eq]
                  exact m_iret X hr hk V (by rw [e9]) (by rw [e9]) dX8_does_294
                by_cases w_148_68 : (v 7) = 68
                · refine lv_lookup (off := 147) (tgt := 295) hx hb dX8_does_148 (by decide +kernel) (by rw [w_148_68]; rfl) (by decide) ?_
                  refine lv_aload_n hx hb dX8_does_295 rfl (lv_at hl 3 rfl) ?_
                  refine lv_iload_n hx hb dX8_does_296 rfl (lv_at hl 2 rfl) ?_
                  refine lv_i2s hx hb dX8_does_297 rfl ?_
                  obtain ⟨u298, hu298⟩ : ∃ u, pX8_gives v ((Int32.toInt16 (qo (Int32.toNatClampNeg 0))).toInt32) = u := ⟨_, rfl⟩
                  have hM := kX8_gives l D cB cI bd v qm ql qs qk qd qn qe qf qo qt qi qy ((Int32.toInt16 (qo (Int32.toNatClampNeg 0))).toInt32)
                  rw [hu298] at hM
                  refine m_VA X V (w1 := (wR cB cI bd u298.2 qm ql qs qk qd qn qe qf qo qt qi qy)) (rest := []) (st1 := [.int u298.1]) hM okX8_gives gm_553 gm_704 gm_552 ⟨⟨rfl, rfl⟩, ⟨by decide, by decide⟩, Nat.zero_le _, Nat.zero_le _⟩ rfl rfl (wR_fst _ _ _ _ _ _ _ _ _ _ _ _ _ _ _ _) (wR_fst _ _ _ _ _ _ _ _ _ _ _ _ _ _ _ _) rfl hl.1 (Nat.le_of_ble_eq_true rfl) dX8_does_298 rfl rfl (fun H locs V => ?_)
                  have e9 : pX8_does v qm qs qo qt qi qy = (u298.1, u298.2, qm, qs, qt, qi, qy) := by rw [pX8_does, if_pos c_27, if_neg c_52, if_pos c_61, if_neg c_99, if_pos c_108, if_neg c_125, if_pos c_134, if_neg w_148_49, if_neg w_148_64, if_neg w_148_65, if_neg w_148_66, if_pos w_148_68, hu298, mLet_eq]
                  exact m_iret X hr hk V (by rw [e9]) (by rw [e9]) dX8_does_301
                by_cases w_148_69 : (v 7) = 69
                · refine lv_lookup (off := 154) (tgt := 302) hx hb dX8_does_148 (by decide +kernel) (by rw [w_148_69]; rfl) (by decide) ?_
                  refine lv_aload_n hx hb dX8_does_302 rfl (lv_at hl 3 rfl) ?_
                  refine lv_iload_n hx hb dX8_does_303 rfl (lv_at hl 2 rfl) ?_
                  refine lv_i2b hx hb dX8_does_304 rfl ?_
                  obtain ⟨u305, hu305⟩ : ∃ u, pX8_gives v ((Int32.toInt8 (qo (Int32.toNatClampNeg 0))).toInt32) = u := ⟨_, rfl⟩
                  have hM := kX8_gives l D cB cI bd v qm ql qs qk qd qn qe qf qo qt qi qy ((Int32.toInt8 (qo (Int32.toNatClampNeg 0))).toInt32)
                  rw [hu305] at hM
                  refine m_VA X V (w1 := (wR cB cI bd u305.2 qm ql qs qk qd qn qe qf qo qt qi qy)) (rest := []) (st1 := [.int u305.1]) hM okX8_gives gm_553 gm_704 gm_552 ⟨⟨rfl, rfl⟩, ⟨by decide, by decide⟩, Nat.zero_le _, Nat.zero_le _⟩ rfl rfl (wR_fst _ _ _ _ _ _ _ _ _ _ _ _ _ _ _ _) (wR_fst _ _ _ _ _ _ _ _ _ _ _ _ _ _ _ _) rfl hl.1 (Nat.le_of_ble_eq_true rfl) dX8_does_305 rfl rfl (fun H locs V => ?_)
                  have e9 : pX8_does v qm qs qo qt qi qy = (u305.1, u305.2, qm, qs, qt, qi, qy) := by rw [pX8_does, if_pos c_27, if_neg c_52, if_pos c_61, if_neg c_99, if_pos c_108, if_neg c_125, if_pos c_134, if_neg w_148_49, if_neg w_148_64, if_neg w_148_65, if_neg w_148_66, if_neg w_148_68, if_pos w_148_69, hu305, mLet_eq]
                  exact m_iret X hr hk V (by rw [e9]) (by rw [e9]) dX8_does_308
                by_cases w_148_256 : (v 7) = 256
                · refine lv_lookup (off := 161) (tgt := 309) hx hb dX8_does_148 (by decide +kernel) (by rw [w_148_256]; rfl) (by decide) ?_
                  refine lv_aload_n hx hb dX8_does_309 rfl (lv_at hl 3 rfl) ?_
                  refine lv_iload_n hx hb dX8_does_310 rfl (lv_at hl 2 rfl) ?_
                  obtain ⟨u311, hu311⟩ : ∃ u, pX8_gestalt (qo (Int32.toNatClampNeg 0)) = u := ⟨_, rfl⟩
                  have hM := kX8_gestalt l D cB cI (qo (Int32.toNatClampNeg 0))
                  rw [hu311] at hM
                  refine m_S X V (rest := [.ref (bd 0)]) (st1 := [.int u311, .ref (bd 0)]) hM okX8_gestalt gm_578 gm_577 ⟨⟨rfl, rfl⟩, ⟨by decide, by decide⟩, Nat.zero_le _, Nat.zero_le _⟩ rfl hl.1 (Nat.le_of_ble_eq_true rfl) dX8_does_311 rfl rfl (fun H locs V => ?_)
                  obtain ⟨u314, hu314⟩ : ∃ u, pX8_gives v u311 = u := ⟨_, rfl⟩
                  have hM := kX8_gives l D cB cI bd v qm ql qs qk qd qn qe qf qo qt qi qy u311
                  rw [hu314] at hM
                  refine m_VA X V (w1 := (wR cB cI bd u314.2 qm ql qs qk qd qn qe qf qo qt qi qy)) (rest := []) (st1 := [.int u314.1]) hM okX8_gives gm_553 gm_704 gm_552 ⟨⟨rfl, rfl⟩, ⟨by decide, by decide⟩, Nat.zero_le _, Nat.zero_le _⟩ rfl rfl (wR_fst _ _ _ _ _ _ _ _ _ _ _ _ _ _ _ _) (wR_fst _ _ _ _ _ _ _ _ _ _ _ _ _ _ _ _) rfl hl.1 (Nat.le_of_ble_eq_true rfl) dX8_does_314 rfl rfl (fun H locs V => ?_)
                  have e9 : pX8_does v qm qs qo qt qi qy = (u314.1, u314.2, qm, qs, qt, qi, qy) := by rw [pX8_does, if_pos c_27, if_neg c_52, if_pos c_61, if_neg c_99, if_pos c_108, if_neg c_125, if_pos c_134, if_neg w_148_49, if_neg w_148_64, if_neg w_148_65, if_neg w_148_66, if_neg w_148_68, if_neg w_148_69, if_pos w_148_256, hu311, mLet_eq, hu314, mLet_eq]
                  exact m_iret X hr hk V (by rw [e9]) (by rw [e9]) dX8_does_317
                by_cases w_148_260 : (v 7) = 260
                · refine lv_lookup (off := 170) (tgt := 318) hx hb dX8_does_148 (by decide +kernel) (by rw [w_148_260]; rfl) (by decide) ?_
                  refine lv_aload_n hx hb dX8_does_318 rfl (lv_at hl 3 rfl) ?_
                  refine lv_iload_n hx hb dX8_does_319 rfl (lv_at hl 2 rfl) ?_
                  refine m_put X V (ws' := (wR cB cI bd (upd v 14 (qo (Int32.toNatClampNeg 0))) qm ql qs qk qd qn qe qf qo qt qi qy)) 6 0 23 rfl gin_6 tyX8_ok nmX8 rfl (by decide) rfl gm_446 rfl rfl rfl (Nat.le_of_ble_eq_true rfl) dX8_does_320 rfl (fun H locs V => ?_)
                  refine lv_iconst (v := 0) hx hb dX8_does_323 (by decide) ?_
                  have e9 : pX8_does v qm qs qo qt qi qy = (0, (upd v 14 (qo (Int32.toNatClampNeg 0))), qm, qs, qt, qi, qy) := by rw [pX8_does, if_pos c_27, if_neg c_52, if_pos c_61, if_neg c_99, if_pos c_108, if_neg c_125, if_pos c_134, if_neg w_148_49, if_neg w_148_64, if_neg w_148_65, if_neg w_148_66, if_neg w_148_68, if_neg w_148_69, if_neg w_148_256, if_pos w_148_260]
                  exact m_iret X hr hk V (by rw [e9]) (by rw [e9]) dX8_does_324
                by_cases w_148_288 : (v 7) = 288
                · refine lv_lookup (off := 116) (tgt := 264) hx hb dX8_does_148 (by decide +kernel) (by rw [w_148_288]; rfl) (by decide) ?_
                  refine lv_aload_n hx hb dX8_does_264 rfl (lv_at hl 3 rfl) ?_
                  refine lv_aload_n hx hb dX8_does_265 rfl (lv_at hl 3 rfl) ?_
                  refine m_get X V 6 0 11 rfl gin_6 rfl (by decide) rfl gm_434 (v := .int (v 7)) rfl dX8_does_266 ?_
                  refine lv_bipush (v := 49) hx hb dX8_does_269 (by decide) ?_
                  refine lv_icmp_ne (tgt := 278) hx hb dX8_does_271 (by decide) (fun _ => ?_) (fun h => absurd h w_148_49)
                  refine lv_iconst (v := 0) hx hb dX8_does_278 (by decide) ?_
                  refine m_put X V (ws' := (wR cB cI bd (upd v 15 0) qm ql qs qk qd qn qe qf qo qt qi qy)) 6 0 24 rfl gin_6 tyX8_ok nmX8 rfl (by decide) rfl gm_447 rfl rfl rfl (Nat.le_of_ble_eq_true rfl) dX8_does_279 rfl (fun H locs V => ?_)
                  refine lv_aload_n hx hb dX8_does_282 rfl (lv_at hl 3 rfl) ?_
                  refine lv_iconst (v := 1) hx hb dX8_does_283 (by decide) ?_
                  refine m_put X V (ws' := (wR cB cI bd (upd (upd v 3 1) 15 0) qm ql qs qk qd qn qe qf qo qt qi qy)) 6 0 7 rfl gin_6 tyX8_ok nmX8 rfl (by decide) rfl gm_430 rfl rfl rfl (Nat.le_of_ble_eq_true rfl) dX8_does_284 rfl (fun H locs V => ?_)
                  refine lv_iconst (v := 0) hx hb dX8_does_287 (by decide) ?_
                  have e9 : pX8_does v qm qs qo qt qi qy = (0, (upd (upd v 3 1) 15 0), qm, qs, qt, qi, qy) := by rw [pX8_does, if_pos c_27, if_neg c_52, if_pos c_61, if_neg c_99, if_pos c_108, if_neg c_125, if_pos c_134, if_neg w_148_49, if_neg w_148_64, if_neg w_148_65, if_neg w_148_66, if_neg w_148_68, if_neg w_148_69, if_neg w_148_256, if_neg w_148_260, if_pos w_148_288]
                  exact m_iret X hr hk V (by rw [e9]) (by rw [e9]) dX8_does_288
                by_cases w_148_336 : (v 7) = 336
                · refine lv_lookup (off := 177) (tgt := 325) hx hb dX8_does_148 (by decide +kernel) (by rw [w_148_336]; rfl) (by decide) ?_
                  refine lv_aload_n hx hb dX8_does_325 rfl (lv_at hl 3 rfl) ?_
                  obtain ⟨u326, hu326⟩ : ∃ u, pX8_searches v qm qo qy = u := ⟨_, rfl⟩
                  have hM := kX8_searches l D cB cI bd v qm ql qs qk qd qn qe qf qo qt qi qy
                  rw [hu326] at hM
                  refine m_VA X V (w1 := (wR cB cI bd u326.2.1 qm ql qs qk qd qn qe qf qo qt qi u326.2.2)) (rest := []) (st1 := [.int u326.1]) hM okX8_searches gm_583 gm_710 gm_582 ⟨⟨rfl, rfl⟩, ⟨by decide, by decide⟩, Nat.zero_le _, Nat.zero_le _⟩ rfl rfl (wR_fst _ _ _ _ _ _ _ _ _ _ _ _ _ _ _ _) (wR_fst _ _ _ _ _ _ _ _ _ _ _ _ _ _ _ _) rfl hl.1 (Nat.le_of_ble_eq_true rfl) dX8_does_326 rfl rfl (fun H locs V => ?_)
                  have e9 : pX8_does v qm qs qo qt qi qy = (u326.1, u326.2.1, qm, qs, qt, qi, u326.2.2) := by rw [pX8_does, if_pos c_27, if_neg c_52, if_pos c_61, if_neg c_99, if_pos c_108, if_neg c_125, if_pos c_134, if_neg w_148_49, if_neg w_148_64, if_neg w_148_65, if_neg w_148_66, if_neg w_148_68, if_neg w_148_69, if_neg w_148_256, if_neg w_148_260, if_neg w_148_288, if_pos w_148_336, hu326, mLet_eq]
                  exact m_iret X hr hk V (by rw [e9]) (by rw [e9]) dX8_does_329
                by_cases w_148_337 : (v 7) = 337
                · refine lv_lookup (off := 177) (tgt := 325) hx hb dX8_does_148 (by decide +kernel) (by rw [w_148_337]; rfl) (by decide) ?_
                  refine lv_aload_n hx hb dX8_does_325 rfl (lv_at hl 3 rfl) ?_
                  obtain ⟨u326, hu326⟩ : ∃ u, pX8_searches v qm qo qy = u := ⟨_, rfl⟩
                  have hM := kX8_searches l D cB cI bd v qm ql qs qk qd qn qe qf qo qt qi qy
                  rw [hu326] at hM
                  refine m_VA X V (w1 := (wR cB cI bd u326.2.1 qm ql qs qk qd qn qe qf qo qt qi u326.2.2)) (rest := []) (st1 := [.int u326.1]) hM okX8_searches gm_583 gm_710 gm_582 ⟨⟨rfl, rfl⟩, ⟨by decide, by decide⟩, Nat.zero_le _, Nat.zero_le _⟩ rfl rfl (wR_fst _ _ _ _ _ _ _ _ _ _ _ _ _ _ _ _) (wR_fst _ _ _ _ _ _ _ _ _ _ _ _ _ _ _ _) rfl hl.1 (Nat.le_of_ble_eq_true rfl) dX8_does_326 rfl rfl (fun H locs V => ?_)
                  have e9 : pX8_does v qm qs qo qt qi qy = (u326.1, u326.2.1, qm, qs, qt, qi, u326.2.2) := by rw [pX8_does, if_pos c_27, if_neg c_52, if_pos c_61, if_neg c_99, if_pos c_108, if_neg c_125, if_pos c_134, if_neg w_148_49, if_neg w_148_64, if_neg w_148_65, if_neg w_148_66, if_neg w_148_68, if_neg w_148_69, if_neg w_148_256, if_neg w_148_260, if_neg w_148_288, if_neg w_148_336, if_pos w_148_337, hu326, mLet_eq]
                  exact m_iret X hr hk V (by rw [e9]) (by rw [e9]) dX8_does_329
                by_cases w_148_368 : (v 7) = 368
                · refine lv_lookup (off := 182) (tgt := 330) hx hb dX8_does_148 (by decide +kernel) (by rw [w_148_368]; rfl) (by decide) ?_
                  refine lv_aload_n hx hb dX8_does_330 rfl (lv_at hl 3 rfl) ?_
                  refine lv_iload_n hx hb dX8_does_331 rfl (lv_at hl 2 rfl) ?_
                  refine lv_iload_n hx hb dX8_does_332 rfl (lv_at hl 1 rfl) ?_
                  obtain ⟨u333, hu333⟩ : ∃ u, pX8_clears v qm (qo (Int32.toNatClampNeg 0)) (qo (Int32.toNatClampNeg 1)) = u := ⟨_, rfl⟩
                  have hM := kX8_clears l D cB cI bd v qm ql qs qk qd qn qe qf qo qt qi qy (qo (Int32.toNatClampNeg 0)) (qo (Int32.toNatClampNeg 1))
                  rw [hu333] at hM
                  refine m_VA X V (w1 := (wR cB cI bd v u333.2 ql qs qk qd qn qe qf qo qt qi qy)) (rest := []) (st1 := [.int u333.1]) hM okX8_clears gm_601 gm_716 gm_600 ⟨⟨rfl, rfl⟩, ⟨by decide, by decide⟩, Nat.zero_le _, Nat.zero_le _⟩ rfl rfl (wR_fst _ _ _ _ _ _ _ _ _ _ _ _ _ _ _ _) (wR_fst _ _ _ _ _ _ _ _ _ _ _ _ _ _ _ _) rfl hl.1 (Nat.le_of_ble_eq_true rfl) dX8_does_333 rfl rfl (fun H locs V => ?_)
                  have e9 : pX8_does v qm qs qo qt qi qy = (u333.1, v, u333.2, qs, qt, qi, qy) := by rw [pX8_does, if_pos c_27, if_neg c_52, if_pos c_61, if_neg c_99, if_pos c_108, if_neg c_125, if_pos c_134, if_neg w_148_49, if_neg w_148_64, if_neg w_148_65, if_neg w_148_66, if_neg w_148_68, if_neg w_148_69, if_neg w_148_256, if_neg w_148_260, if_neg w_148_288, if_neg w_148_336, if_neg w_148_337, if_pos w_148_368, hu333, mLet_eq]
                  exact m_iret X hr hk V (by rw [e9]) (by rw [e9]) dX8_does_336
                by_cases w_148_369 : (v 7) = 369
                · refine lv_lookup (off := 189) (tgt := 337) hx hb dX8_does_148 (by decide +kernel) (by rw [w_148_369]; rfl) (by decide) ?_
                  refine lv_aload_n hx hb dX8_does_337 rfl (lv_at hl 3 rfl) ?_
                  refine lv_iload_n hx hb dX8_does_338 rfl (lv_at hl 2 rfl) ?_
                  refine lv_iload_n hx hb dX8_does_339 rfl (lv_at hl 1 rfl) ?_
                  refine lv_iload_n hx hb dX8_does_340 rfl (lv_at hl 0 rfl) ?_
                  obtain ⟨u341, hu341⟩ : ∃ u, pX8_copies v qm qi (qo (Int32.toNatClampNeg 0)) (qo (Int32.toNatClampNeg 1)) (qo (Int32.toNatClampNeg 2)) = u := ⟨_, rfl⟩
                  have hM := kX8_copies l D cB cI bd v qm ql qs qk qd qn qe qf qo qt qi qy (qo (Int32.toNatClampNeg 0)) (qo (Int32.toNatClampNeg 1)) (qo (Int32.toNatClampNeg 2))
                  rw [hu341] at hM
                  refine m_VA X V (w1 := (wR cB cI bd v u341.2.1 ql qs qk qd qn qe qf qo qt u341.2.2 qy)) (rest := []) (st1 := [.int u341.1]) hM okX8_copies gm_604 gm_717 gm_603 ⟨⟨rfl, rfl⟩, ⟨by decide, by decide⟩, Nat.zero_le _, Nat.zero_le _⟩ rfl rfl (wR_fst _ _ _ _ _ _ _ _ _ _ _ _ _ _ _ _) (wR_fst _ _ _ _ _ _ _ _ _ _ _ _ _ _ _ _) rfl hl.1 (Nat.le_of_ble_eq_true rfl) dX8_does_341 rfl rfl (fun H locs V => ?_)
                  have e9 : pX8_does v qm qs qo qt qi qy = (u341.1, v, u341.2.1, qs, qt, u341.2.2, qy) := by rw [pX8_does, if_pos c_27, if_neg c_52, if_pos c_61, if_neg c_99, if_pos c_108, if_neg c_125, if_pos c_134, if_neg w_148_49, if_neg w_148_64, if_neg w_148_65, if_neg w_148_66, if_neg w_148_68, if_neg w_148_69, if_neg w_148_256, if_neg w_148_260, if_neg w_148_288, if_neg w_148_336, if_neg w_148_337, if_neg w_148_368, if_pos w_148_369, hu341, mLet_eq]
                  exact m_iret X hr hk V (by rw [e9]) (by rw [e9]) dX8_does_344
                refine lv_lookup (off := 197) (tgt := 345) hx hb dX8_does_148 (by decide +kernel) ((lv_osw w_148_49 rfl).trans ((lv_osw w_148_64 rfl).trans ((lv_osw w_148_65 rfl).trans ((lv_osw w_148_66 rfl).trans ((lv_osw w_148_68 rfl).trans ((lv_osw w_148_69 rfl).trans ((lv_osw w_148_256 rfl).trans ((lv_osw w_148_260 rfl).trans ((lv_osw w_148_288 rfl).trans ((lv_osw w_148_336 rfl).trans ((lv_osw w_148_337 rfl).trans ((lv_osw w_148_368 rfl).trans ((lv_osw w_148_369 rfl).trans (rfl)))))))))))))) (by decide) ?_
                refine lv_iconst (v := 0) hx hb dX8_does_345 (by decide) ?_
                have e9 : pX8_does v qm qs qo qt qi qy = (0, v, qm, qs, qt, qi, qy) := by rw [pX8_does, if_pos c_27, if_neg c_52, if_pos c_61, if_neg c_99, if_pos c_108, if_neg c_125, if_pos c_134, if_neg w_148_49, if_neg w_148_64, if_neg w_148_65, if_neg w_148_66, if_neg w_148_68, if_neg w_148_69, if_neg w_148_256, if_neg w_148_260, if_neg w_148_288, if_neg w_148_336, if_neg w_148_337, if_neg w_148_368, if_neg w_148_369]
                exact m_iret X hr hk V (by rw [e9]) (by rw [e9]) dX8_does_346
              · refine lv_aload_n hx hb dX8_does_137 rfl (lv_at hl 3 rfl) ?_
                refine lv_iload_n hx hb dX8_does_138 rfl (lv_at hl 2 rfl) ?_
                refine lv_iload_n hx hb dX8_does_139 rfl (lv_at hl 1 rfl) ?_
                obtain ⟨u140, hu140⟩ : ∃ u, pX8_onStack v qs qt (qo (Int32.toNatClampNeg 0)) (qo (Int32.toNatClampNeg 1)) = u := ⟨_, rfl⟩
                have hM := kX8_onStack l D cB cI bd v qm ql qs qk qd qn qe qf qo qt qi qy (qo (Int32.toNatClampNeg 0)) (qo (Int32.toNatClampNeg 1)) (show 0 ≤ Int32.toInt (v 0) ∧ Int32.toInt (v 0) ≤ 40 by omega)
                rw [hu140] at hM
                refine m_VA X V (w1 := (wR cB cI bd u140.2.1 qm ql u140.2.2.1 qk qd qn qe qf qo u140.2.2.2 qi qy)) (rest := []) (st1 := [.int u140.1]) hM okX8_onStack gm_572 gm_708 gm_571 ⟨⟨rfl, rfl⟩, ⟨by decide, by decide⟩, Nat.zero_le _, Nat.zero_le _⟩ rfl rfl (wR_fst _ _ _ _ _ _ _ _ _ _ _ _ _ _ _ _) (wR_fst _ _ _ _ _ _ _ _ _ _ _ _ _ _ _ _) rfl hl.1 (Nat.le_of_ble_eq_true rfl) dX8_does_140 rfl rfl (fun H locs V => ?_)
                have e9 : pX8_does v qm qs qo qt qi qy = (u140.1, u140.2.1, qm, u140.2.2.1, u140.2.2.2, qi, qy) := by rw [pX8_does, if_pos c_27, if_neg c_52, if_pos c_61, if_neg c_99, if_pos c_108, if_neg c_125, if_neg c_134, hu140, mLet_eq]
                exact m_iret X hr hk V (by rw [e9]) (by rw [e9]) dX8_does_143
          · refine lv_aload_n hx hb dX8_does_111 rfl (lv_at hl 3 rfl) ?_
            refine lv_iload_n hx hb dX8_does_112 rfl (lv_at hl 2 rfl) ?_
            refine lv_iload_n hx hb dX8_does_113 rfl (lv_at hl 1 rfl) ?_
            refine lv_iload_n hx hb dX8_does_114 rfl (lv_at hl 0 rfl) ?_
            obtain ⟨u115, hu115⟩ : ∃ u, pX8_items v qm (qo (Int32.toNatClampNeg 0)) (qo (Int32.toNatClampNeg 1)) (qo (Int32.toNatClampNeg 2)) = u := ⟨_, rfl⟩
            have hM := kX8_items l D cB cI bd v qm ql qs qk qd qn qe qf qo qt qi qy (qo (Int32.toNatClampNeg 0)) (qo (Int32.toNatClampNeg 1)) (qo (Int32.toNatClampNeg 2))
            rw [hu115] at hM
            refine m_VA X V (w1 := (wR cB cI bd u115.2.1 u115.2.2 ql qs qk qd qn qe qf qo qt qi qy)) (rest := []) (st1 := [.int u115.1]) hM okX8_items gm_566 gm_706 gm_565 ⟨⟨rfl, rfl⟩, ⟨by decide, by decide⟩, Nat.zero_le _, Nat.zero_le _⟩ rfl rfl (wR_fst _ _ _ _ _ _ _ _ _ _ _ _ _ _ _ _) (wR_fst _ _ _ _ _ _ _ _ _ _ _ _ _ _ _ _) rfl hl.1 (Nat.le_of_ble_eq_true rfl) dX8_does_115 rfl rfl (fun H locs V => ?_)
            have e9 : pX8_does v qm qs qo qt qi qy = (u115.1, u115.2.1, u115.2.2, qs, qt, qi, qy) := by rw [pX8_does, if_pos c_27, if_neg c_52, if_pos c_61, if_neg c_99, if_neg c_108, hu115, mLet_eq]
            exact m_iret X hr hk V (by rw [e9]) (by rw [e9]) dX8_does_118
      · refine lv_aload_n hx hb dX8_does_64 rfl (lv_at hl 3 rfl) ?_
        refine m_get X V 6 0 11 rfl gin_6 rfl (by decide) rfl gm_434 (v := .int (v 7)) rfl dX8_does_65 ?_
        refine lv_iload_n hx hb dX8_does_68 rfl (lv_at hl 2 rfl) ?_
        refine lv_iload_n hx hb dX8_does_69 rfl (lv_at hl 1 rfl) ?_
        obtain ⟨u70, hu70⟩ : ∃ u, pX8_isSo (v 7) (qo (Int32.toNatClampNeg 0)) (qo (Int32.toNatClampNeg 1)) = u := ⟨_, rfl⟩
        have hM := kX8_isSo l D cB cI (v 7) (qo (Int32.toNatClampNeg 0)) (qo (Int32.toNatClampNeg 1))
        rw [hu70] at hM
        refine m_S X V (rest := []) (st1 := [.int u70]) hM okX8_isSo gm_559 gm_558 ⟨⟨rfl, rfl⟩, ⟨by decide, by decide⟩, Nat.zero_le _, Nat.zero_le _⟩ rfl hl.1 (Nat.le_of_ble_eq_true rfl) dX8_does_70 rfl rfl (fun H locs V => ?_)
        refine lv_if_eq (tgt := 91) hx hb dX8_does_73 (by decide) (fun c_73 => ?_) (fun c_73 => ?_)
        · refine lv_iconst (v := 0) hx hb dX8_does_91 (by decide) ?_
          have e9 : pX8_does v qm qs qo qt qi qy = (0, v, qm, qs, qt, qi, qy) := by rw [pX8_does, if_pos c_27, if_neg c_52, if_neg c_61, hu70, mLet_eq, if_pos c_73]
          exact m_iret X hr hk V (by rw [e9]) (by rw [e9]) dX8_does_92
        · refine lv_aload_n hx hb dX8_does_76 rfl (lv_at hl 3 rfl) ?_
          refine lv_aload_n hx hb dX8_does_77 rfl (lv_at hl 3 rfl) ?_
          refine m_get X V 6 0 21 rfl gin_6 rfl (by decide) rfl gm_444 (v := .ref (bd 9)) rfl dX8_does_78 ?_
          refine lv_aload_n hx hb dX8_does_81 rfl (lv_at hl 3 rfl) ?_
          refine m_get X V 6 0 12 rfl gin_6 rfl (by decide) rfl gm_435 (v := .int (v 8)) rfl dX8_does_82 ?_
          refine lv_iconst (v := 1) hx hb dX8_does_85 (by decide) ?_
          refine lv_isub hx hb dX8_does_86 ?_
          refine m_iald X V 9 rfl (by have z_a : Int32.toInt 32 = 32 := rfl; have z_b : Int32.toInt 45 = 45 := rfl; have q_1 := hbr (by have q := c_52; rw [Int32.lt_iff_toInt_lt] at q; omega) (by have q := c_61; rw [Int32.lt_iff_toInt_lt] at q; omega); have e_2 : Int32.toInt 1 = 1 := rfl; have e_3 : Int32.toInt ((v 8) - 1) = Int32.toInt (v 8) - Int32.toInt 1 := ti_sub (by omega) (by omega); rw [vp_in_iff]; omega) dX8_does_87 ?_
          obtain ⟨u88, hu88⟩ : ∃ u, pX8_branches v (qo (Int32.toNatClampNeg ((v 8) - 1))) = u := ⟨_, rfl⟩
          have hM := kX8_branches l D cB cI bd v qm ql qs qk qd qn qe qf qo qt qi qy (qo (Int32.toNatClampNeg ((v 8) - 1)))
          rw [hu88] at hM
          refine m_VA X V (w1 := (wR cB cI bd u88 qm ql qs qk qd qn qe qf qo qt qi qy)) (rest := []) (st1 := []) hM okX8_branches gm_563 gm_705 gm_562 ⟨⟨rfl, rfl⟩, ⟨by decide, by decide⟩, Nat.zero_le _, Nat.zero_le _⟩ rfl rfl (wR_fst _ _ _ _ _ _ _ _ _ _ _ _ _ _ _ _) (wR_fst _ _ _ _ _ _ _ _ _ _ _ _ _ _ _ _) rfl hl.1 (Nat.le_of_ble_eq_true rfl) dX8_does_88 rfl rfl (fun H locs V => ?_)
          refine lv_iconst (v := 0) hx hb dX8_does_91 (by decide) ?_
          have e9 : pX8_does v qm qs qo qt qi qy = (0, u88, qm, qs, qt, qi, qy) := by rw [pX8_does, if_pos c_27, if_neg c_52, if_neg c_61, hu70, mLet_eq, if_neg c_73, hu88, mLet_eq]
          exact m_iret X hr hk V (by rw [e9]) (by rw [e9]) dX8_does_92
  · refine lv_aload_n hx hb dX8_does_30 rfl (lv_at hl 3 rfl) ?_
    refine m_get X V 6 0 11 rfl gin_6 rfl (by decide) rfl gm_434 (v := .int (v 7)) rfl dX8_does_31 ?_
    refine lv_bipush (v := 30) hx hb dX8_does_34 (by decide) ?_
    refine lv_icmp_gt (tgt := 46) hx hb dX8_does_36 (by decide) (fun c_36 => ?_) (fun c_36 => ?_)
    · refine lv_aload_n hx hb dX8_does_46 rfl (lv_at hl 3 rfl) ?_
      refine m_get X V 6 0 11 rfl gin_6 rfl (by decide) rfl gm_434 (v := .int (v 7)) rfl dX8_does_47 ?_
      refine lv_bipush (v := 32) hx hb dX8_does_50 (by decide) ?_
      refine lv_icmp_lt (tgt := 93) hx hb dX8_does_52 (by decide) (fun c_52 => ?_) (fun c_52 => ?_)
      · refine lv_aload_n hx hb dX8_does_93 rfl (lv_at hl 3 rfl) ?_
        refine m_get X V 6 0 11 rfl gin_6 rfl (by decide) rfl gm_434 (v := .int (v 7)) rfl dX8_does_94 ?_
        refine lv_bipush (v := 72) hx hb dX8_does_97 (by decide) ?_
        refine lv_icmp_lt (tgt := 119) hx hb dX8_does_99 (by decide) (fun c_99 => ?_) (fun c_99 => ?_)
        · refine lv_aload_n hx hb dX8_does_119 rfl (lv_at hl 3 rfl) ?_
          refine m_get X V 6 0 11 rfl gin_6 rfl (by decide) rfl gm_434 (v := .int (v 7)) rfl dX8_does_120 ?_
          refine lv_bipush (v := 80) hx hb dX8_does_123 (by decide) ?_
          refine lv_icmp_lt (tgt := 144) hx hb dX8_does_125 (by decide) (fun c_125 => ?_) (fun c_125 => ?_)
          · refine lv_aload_n hx hb dX8_does_144 rfl (lv_at hl 3 rfl) ?_
            refine m_get X V 6 0 11 rfl gin_6 rfl (by decide) rfl gm_434 (v := .int (v 7)) rfl dX8_does_145 ?_
            by_cases w_148_49 : (v 7) = 49
            · refine lv_lookup (off := 116) (tgt := 264) hx hb dX8_does_148 (by decide +kernel) (by rw [w_148_49]; rfl) (by decide) ?_
              refine lv_aload_n hx hb dX8_does_264 rfl (lv_at hl 3 rfl) ?_
              refine lv_aload_n hx hb dX8_does_265 rfl (lv_at hl 3 rfl) ?_
              refine m_get X V 6 0 11 rfl gin_6 rfl (by decide) rfl gm_434 (v := .int (v 7)) rfl dX8_does_266 ?_
              refine lv_bipush (v := 49) hx hb dX8_does_269 (by decide) ?_
              refine lv_icmp_ne (tgt := 278) hx hb dX8_does_271 (by decide) (fun h => absurd w_148_49 h) (fun _ => ?_)
              refine lv_iload_n hx hb dX8_does_274 rfl (lv_at hl 2 rfl) ?_
              refine lv_goto (tgt := 279) hx hb dX8_does_275 (by decide) ?_
              refine m_put X V (ws' := (wR cB cI bd (upd v 15 (qo (Int32.toNatClampNeg 0))) qm ql qs qk qd qn qe qf qo qt qi qy)) 6 0 24 rfl gin_6 tyX8_ok nmX8 rfl (by decide) rfl gm_447 rfl rfl rfl (Nat.le_of_ble_eq_true rfl) dX8_does_279 rfl (fun H locs V => ?_)
              refine lv_aload_n hx hb dX8_does_282 rfl (lv_at hl 3 rfl) ?_
              refine lv_iconst (v := 1) hx hb dX8_does_283 (by decide) ?_
              refine m_put X V (ws' := (wR cB cI bd (upd (upd v 3 1) 15 (qo (Int32.toNatClampNeg 0))) qm ql qs qk qd qn qe qf qo qt qi qy)) 6 0 7 rfl gin_6 tyX8_ok nmX8 rfl (by decide) rfl gm_430 rfl rfl rfl (Nat.le_of_ble_eq_true rfl) dX8_does_284 rfl (fun H locs V => ?_)
              refine lv_iconst (v := 0) hx hb dX8_does_287 (by decide) ?_
              have e9 : pX8_does v qm qs qo qt qi qy = (0, (upd (upd v 3 1) 15 (qo (Int32.toNatClampNeg 0))), qm, qs, qt, qi, qy) := by rw [pX8_does, if_neg c_27, if_pos c_36, if_pos c_52, if_pos c_99, if_pos c_125, if_pos w_148_49]
              exact m_iret X hr hk V (by rw [e9]) (by rw [e9]) dX8_does_288
            by_cases w_148_64 : (v 7) = 64
            · refine lv_lookup (off := 141) (tgt := 289) hx hb dX8_does_148 (by decide +kernel) (by rw [w_148_64]; rfl) (by decide) ?_
              refine lv_aload_n hx hb dX8_does_289 rfl (lv_at hl 3 rfl) ?_
              refine lv_iload_n hx hb dX8_does_290 rfl (lv_at hl 2 rfl) ?_
              obtain ⟨u291, hu291⟩ : ∃ u, pX8_gives v (qo (Int32.toNatClampNeg 0)) = u := ⟨_, rfl⟩
              have hM := kX8_gives l D cB cI bd v qm ql qs qk qd qn qe qf qo qt qi qy (qo (Int32.toNatClampNeg 0))
              rw [hu291] at hM
              refine m_VA X V (w1 := (wR cB cI bd u291.2 qm ql qs qk qd qn qe qf qo qt qi qy)) (rest := []) (st1 := [.int u291.1]) hM okX8_gives gm_553 gm_704 gm_552 ⟨⟨rfl, rfl⟩, ⟨by decide, by decide⟩, Nat.zero_le _, Nat.zero_le _⟩ rfl rfl (wR_fst _ _ _ _ _ _ _ _ _ _ _ _ _ _ _ _) (wR_fst _ _ _ _ _ _ _ _ _ _ _ _ _ _ _ _) rfl hl.1 (Nat.le_of_ble_eq_true rfl) dX8_does_291 rfl rfl (fun H locs V => ?_)
              have e9 : pX8_does v qm qs qo qt qi qy = (u291.1, u291.2, qm, qs, qt, qi, qy) := by rw [pX8_does, if_neg c_27, if_pos c_36, if_pos c_52, if_pos c_99, if_pos c_125, if_neg w_148_49, if_pos w_148_64, hu291, mLet_eq]
              exact m_iret X hr hk V (by rw [e9]) (by rw [e9]) dX8_does_294
            by_cases w_148_65 : (v 7) = 65
            · refine lv_lookup (off := 141) (tgt := 289) hx hb dX8_does_148 (by decide +kernel) (by rw [w_148_65]; rfl) (by decide) ?_
              refine lv_aload_n hx hb dX8_does_289 rfl (lv_at hl 3 rfl) ?_
              refine lv_iload_n hx hb dX8_does_290 rfl (lv_at hl 2 rfl) ?_
              obtain ⟨u291, hu291⟩ : ∃ u, pX8_gives v (qo (Int32.toNatClampNeg 0)) = u := ⟨_, rfl⟩
              have hM := kX8_gives l D cB cI bd v qm ql qs qk qd qn qe qf qo qt qi qy (qo (Int32.toNatClampNeg 0))
              rw [hu291] at hM
              refine m_VA X V (w1 := (wR cB cI bd u291.2 qm ql qs qk qd qn qe qf qo qt qi qy)) (rest := []) (st1 := [.int u291.1]) hM okX8_gives gm_553 gm_704 gm_552 ⟨⟨rfl, rfl⟩, ⟨by decide, by decide⟩, Nat.zero_le _, Nat.zero_le _⟩ rfl rfl (wR_fst _ _ _ _ _ _ _ _ _ _ _ _ _ _ _ _) (wR_fst _ _ _ _ _ _ _ _ _ _ _ _ _ _ _ _) rfl hl.1 (Nat.le_of_ble_eq_true rfl) dX8_does_291 rfl rfl (fun H locs V => ?_)
              have e9 : pX8_does v qm qs qo qt qi qy = (u291.1, u291.2, qm, qs, qt, qi, qy) := by rw [pX8_does, if_neg c_27, if_pos c_36, if_pos c_52, if_pos c_99, if_pos c_125, if_neg w_148_49, if_neg w_148_64, if_pos w_148_65, hu291, mLet_eq]
              exact m_iret X hr hk V (by rw [e9]) (by rw [e9]) dX8_does_294
            by_cases w_148_66 : (v 7) = 66
            · refine lv_lookup (off := 141) (tgt := 289) hx hb dX8_does_148 (by decide +kernel) (by rw [w_148_66]; rfl) (by decide) ?_
              refine lv_aload_n hx hb dX8_does_289 rfl (lv_at hl 3 rfl) ?_
              refine lv_iload_n hx hb dX8_does_290 rfl (lv_at hl 2 rfl) ?_
              obtain ⟨u291, hu291⟩ : ∃ u, pX8_gives v (qo (Int32.toNatClampNeg 0)) = u := ⟨_, rfl⟩
              have hM := kX8_gives l D cB cI bd v qm ql qs qk qd qn qe qf qo qt qi qy (qo (Int32.toNatClampNeg 0))
              rw [hu291] at hM
              refine m_VA X V (w1 := (wR cB cI bd u291.2 qm ql qs qk qd qn qe qf qo qt qi qy)) (rest := []) (st1 := [.int u291.1]) hM okX8_gives gm_553 gm_704 gm_552 ⟨⟨rfl, rfl⟩, ⟨by decide, by decide⟩, Nat.zero_le _, Nat.zero_le _⟩ rfl rfl (wR_fst _ _ _ _ _ _ _ _ _ _ _ _ _ _ _ _) (wR_fst _ _ _ _ _ _ _ _ _ _ _ _ _ _ _ _) rfl hl.1 (Nat.le_of_ble_eq_true rfl) dX8_does_291 rfl rfl (fun H locs V => ?_)
              have e9 : pX8_does v qm qs qo qt qi qy = (u291.1, u291.2, qm, qs, qt, qi, qy) := by rw [pX8_does, if_neg c_27, if_pos c_36, if_pos c_52, if_pos c_99, if_pos c_125, if_neg w_148_49, if_neg w_148_64, if_neg w_148_65, if_pos w_148_66, hu291, mLet_eq]
              exact m_iret X hr hk V (by rw [e9]) (by rw [e9]) dX8_does_294
            by_cases w_148_68 : (v 7) = 68
            · refine lv_lookup (off := 147) (tgt := 295) hx hb dX8_does_148 (by decide +kernel) (by rw [w_148_68]; rfl) (by decide) ?_
              refine lv_aload_n hx hb dX8_does_295 rfl (lv_at hl 3 rfl) ?_
              refine lv_iload_n hx hb dX8_does_296 rfl (lv_at hl 2 rfl) ?_
              refine lv_i2s hx hb dX8_does_297 rfl ?_
              obtain ⟨u298, hu298⟩ : ∃ u, pX8_gives v ((Int32.toInt16 (qo (Int32.toNatClampNeg 0))).toInt32) = u := ⟨_, rfl⟩
              have hM := kX8_gives l D cB cI bd v qm ql qs qk qd qn qe qf qo qt qi qy ((Int32.toInt16 (qo (Int32.toNatClampNeg 0))).toInt32)
              rw [hu298] at hM
              refine m_VA X V (w1 := (wR cB cI bd u298.2 qm ql qs qk qd qn qe qf qo qt qi qy)) (rest := []) (st1 := [.int u298.1]) hM okX8_gives gm_553 gm_704 gm_552 ⟨⟨rfl, rfl⟩, ⟨by decide, by decide⟩, Nat.zero_le _, Nat.zero_le _⟩ rfl rfl (wR_fst _ _ _ _ _ _ _ _ _ _ _ _ _ _ _ _) (wR_fst _ _ _ _ _ _ _ _ _ _ _ _ _ _ _ _) rfl hl.1 (Nat.le_of_ble_eq_true rfl) dX8_does_298 rfl rfl (fun H locs V => ?_)
              have e9 : pX8_does v qm qs qo qt qi qy = (u298.1, u298.2, qm, qs, qt, qi, qy) := by rw [pX8_does, if_neg c_27, if_pos c_36, if_pos c_52, if_pos c_99, if_pos c_125, if_neg w_148_49, if_neg w_148_64, if_neg w_148_65, if_neg w_148_66, if_pos w_148_68, hu298, mLet_eq]
              exact m_iret X hr hk V (by rw [e9]) (by rw [e9]) dX8_does_301
            by_cases w_148_69 : (v 7) = 69
            · refine lv_lookup (off := 154) (tgt := 302) hx hb dX8_does_148 (by decide +kernel) (by rw [w_148_69]; rfl) (by decide) ?_
              refine lv_aload_n hx hb dX8_does_302 rfl (lv_at hl 3 rfl) ?_
              refine lv_iload_n hx hb dX8_does_303 rfl (lv_at hl 2 rfl) ?_
              refine lv_i2b hx hb dX8_does_304 rfl ?_
              obtain ⟨u305, hu305⟩ : ∃ u, pX8_gives v ((Int32.toInt8 (qo (Int32.toNatClampNeg 0))).toInt32) = u := ⟨_, rfl⟩
              have hM := kX8_gives l D cB cI bd v qm ql qs qk qd qn qe qf qo qt qi qy ((Int32.toInt8 (qo (Int32.toNatClampNeg 0))).toInt32)
              rw [hu305] at hM
              refine m_VA X V (w1 := (wR cB cI bd u305.2 qm ql qs qk qd qn qe qf qo qt qi qy)) (rest := []) (st1 := [.int u305.1]) hM okX8_gives gm_553 gm_704 gm_552 ⟨⟨rfl, rfl⟩, ⟨by decide, by decide⟩, Nat.zero_le _, Nat.zero_le _⟩ rfl rfl (wR_fst _ _ _ _ _ _ _ _ _ _ _ _ _ _ _ _) (wR_fst _ _ _ _ _ _ _ _ _ _ _ _ _ _ _ _) rfl hl.1 (Nat.le_of_ble_eq_true rfl) dX8_does_305 rfl rfl (fun H locs V => ?_)
              have e9 : pX8_does v qm qs qo qt qi qy = (u305.1, u305.2, qm, qs, qt, qi, qy) := by rw [pX8_does, if_neg c_27, if_pos c_36, if_pos c_52, if_pos c_99, if_pos c_125, if_neg w_148_49, if_neg w_148_64, if_neg w_148_65, if_neg w_148_66, if_neg w_148_68, if_pos w_148_69, hu305, mLet_eq]
              exact m_iret X hr hk V (by rw [e9]) (by rw [e9]) dX8_does_308
            by_cases w_148_256 : (v 7) = 256
            · refine lv_lookup (off := 161) (tgt := 309) hx hb dX8_does_148 (by decide +kernel) (by rw [w_148_256]; rfl) (by decide) ?_
              refine lv_aload_n hx hb dX8_does_309 rfl (lv_at hl 3 rfl) ?_
              refine lv_iload_n hx hb dX8_does_310 rfl (lv_at hl 2 rfl) ?_
              obtain ⟨u311, hu311⟩ : ∃ u, pX8_gestalt (qo (Int32.toNatClampNeg 0)) = u := ⟨_, rfl⟩
              have hM := kX8_gestalt l D cB cI (qo (Int32.toNatClampNeg 0))
              rw [hu311] at hM
              refine m_S X V (rest := [.ref (bd 0)]) (st1 := [.int u311, .ref (bd 0)]) hM okX8_gestalt gm_578 gm_577 ⟨⟨rfl, rfl⟩, ⟨by decide, by decide⟩, Nat.zero_le _, Nat.zero_le _⟩ rfl hl.1 (Nat.le_of_ble_eq_true rfl) dX8_does_311 rfl rfl (fun H locs V => ?_)
              obtain ⟨u314, hu314⟩ : ∃ u, pX8_gives v u311 = u := ⟨_, rfl⟩
              have hM := kX8_gives l D cB cI bd v qm ql qs qk qd qn qe qf qo qt qi qy u311
              rw [hu314] at hM
              refine m_VA X V (w1 := (wR cB cI bd u314.2 qm ql qs qk qd qn qe qf qo qt qi qy)) (rest := []) (st1 := [.int u314.1]) hM okX8_gives gm_553 gm_704 gm_552 ⟨⟨rfl, rfl⟩, ⟨by decide, by decide⟩, Nat.zero_le _, Nat.zero_le _⟩ rfl rfl (wR_fst _ _ _ _ _ _ _ _ _ _ _ _ _ _ _ _) (wR_fst _ _ _ _ _ _ _ _ _ _ _ _ _ _ _ _) rfl hl.1 (Nat.le_of_ble_eq_true rfl) dX8_does_314 rfl rfl (fun H locs V => ?_)
              have e9 : pX8_does v qm qs qo qt qi qy = (u314.1, u314.2, qm, qs, qt, qi, qy) := by rw [pX8_does, if_neg c_27, if_pos c_36, if_pos c_52, if_pos c_99, if_pos c_125, if_neg w_148_49, if_neg w_148_64, if_neg w_148_65, if_neg w_148_66, if_neg w_148_68, if_neg w_148_69, if_pos w_148_256, hu311, mLet_eq, hu314, mLet_eq]
              exact m_iret X hr hk V (by rw [e9]) (by rw [e9]) dX8_does_317
            by_cases w_148_260 : (v 7) = 260
            · refine lv_lookup (off := 170) (tgt := 318) hx hb dX8_does_148 (by decide +kernel) (by rw [w_148_260]; rfl) (by decide) ?_
              refine lv_aload_n hx hb dX8_does_318 rfl (lv_at hl 3 rfl) ?_
              refine lv_iload_n hx hb dX8_does_319 rfl (lv_at hl 2 rfl) ?_
              refine m_put X V (ws' := (wR cB cI bd (upd v 14 (qo (Int32.toNatClampNeg 0))) qm ql qs qk qd qn qe qf qo qt qi qy)) 6 0 23 rfl gin_6 tyX8_ok nmX8 rfl (by decide) rfl gm_446 rfl rfl rfl (Nat.le_of_ble_eq_true rfl) dX8_does_320 rfl (fun H locs V => ?_)
              refine lv_iconst (v := 0) hx hb dX8_does_323 (by decide) ?_
              have e9 : pX8_does v qm qs qo qt qi qy = (0, (upd v 14 (qo (Int32.toNatClampNeg 0))), qm, qs, qt, qi, qy) := by rw [pX8_does, if_neg c_27, if_pos c_36, if_pos c_52, if_pos c_99, if_pos c_125, if_neg w_148_49, if_neg w_148_64, if_neg w_148_65, if_neg w_148_66, if_neg w_148_68, if_neg w_148_69, if_neg w_148_256, if_pos w_148_260]
              exact m_iret X hr hk V (by rw [e9]) (by rw [e9]) dX8_does_324
            by_cases w_148_288 : (v 7) = 288
            · refine lv_lookup (off := 116) (tgt := 264) hx hb dX8_does_148 (by decide +kernel) (by rw [w_148_288]; rfl) (by decide) ?_
              refine lv_aload_n hx hb dX8_does_264 rfl (lv_at hl 3 rfl) ?_
              refine lv_aload_n hx hb dX8_does_265 rfl (lv_at hl 3 rfl) ?_
              refine m_get X V 6 0 11 rfl gin_6 rfl (by decide) rfl gm_434 (v := .int (v 7)) rfl dX8_does_266 ?_
              refine lv_bipush (v := 49) hx hb dX8_does_269 (by decide) ?_
              refine lv_icmp_ne (tgt := 278) hx hb dX8_does_271 (by decide) (fun _ => ?_) (fun h => absurd h w_148_49)
              refine lv_iconst (v := 0) hx hb dX8_does_278 (by decide) ?_
              refine m_put X V (ws' := (wR cB cI bd (upd v 15 0) qm ql qs qk qd qn qe qf qo qt qi qy)) 6 0 24 rfl gin_6 tyX8_ok nmX8 rfl (by decide) rfl gm_447 rfl rfl rfl (Nat.le_of_ble_eq_true rfl) dX8_does_279 rfl (fun H locs V => ?_)
              refine lv_aload_n hx hb dX8_does_282 rfl (lv_at hl 3 rfl) ?_
              refine lv_iconst (v := 1) hx hb dX8_does_283 (by decide) ?_
              refine m_put X V (ws' := (wR cB cI bd (upd (upd v 3 1) 15 0) qm ql qs qk qd qn qe qf qo qt qi qy)) 6 0 7 rfl gin_6 tyX8_ok nmX8 rfl (by decide) rfl gm_430 rfl rfl rfl (Nat.le_of_ble_eq_true rfl) dX8_does_284 rfl (fun H locs V => ?_)
              refine lv_iconst (v := 0) hx hb dX8_does_287 (by decide) ?_
              have e9 : pX8_does v qm qs qo qt qi qy = (0, (upd (upd v 3 1) 15 0), qm, qs, qt, qi, qy) := by rw [pX8_does, if_neg c_27, if_pos c_36, if_pos c_52, if_pos c_99, if_pos c_125, if_neg w_148_49, if_neg w_148_64, if_neg w_148_65, if_neg w_148_66, if_neg w_148_68, if_neg w_148_69, if_neg w_148_256, if_neg w_148_260, if_pos w_148_288]
              exact m_iret X hr hk V (by rw [e9]) (by rw [e9]) dX8_does_288
            by_cases w_148_336 : (v 7) = 336
            · refine lv_lookup (off := 177) (tgt := 325) hx hb dX8_does_148 (by decide +kernel) (by rw [w_148_336]; rfl) (by decide) ?_
              refine lv_aload_n hx hb dX8_does_325 rfl (lv_at hl 3 rfl) ?_
              obtain ⟨u326, hu326⟩ : ∃ u, pX8_searches v qm qo qy = u := ⟨_, rfl⟩
              have hM := kX8_searches l D cB cI bd v qm ql qs qk qd qn qe qf qo qt qi qy
              rw [hu326] at hM
              refine m_VA X V (w1 := (wR cB cI bd u326.2.1 qm ql qs qk qd qn qe qf qo qt qi u326.2.2)) (rest := []) (st1 := [.int u326.1]) hM okX8_searches gm_583 gm_710 gm_582 ⟨⟨rfl, rfl⟩, ⟨by decide, by decide⟩, Nat.zero_le _, Nat.zero_le _⟩ rfl rfl (wR_fst _ _ _ _ _ _ _ _ _ _ _ _ _ _ _ _) (wR_fst _ _ _ _ _ _ _ _ _ _ _ _ _ _ _ _) rfl hl.1 (Nat.le_of_ble_eq_true rfl) dX8_does_326 rfl rfl (fun H locs V => ?_)
              have e9 : pX8_does v qm qs qo qt qi qy = (u326.1, u326.2.1, qm, qs, qt, qi, u326.2.2) := by rw [pX8_does, if_neg c_27, if_pos c_36, if_pos c_52, if_pos c_99, if_pos c_125, if_neg w_148_49, if_neg w_148_64, if_neg w_148_65, if_neg w_148_66, if_neg w_148_68, if_neg w_148_69, if_neg w_148_256, if_neg w_148_260, if_neg w_148_288, if_pos w_148_336, hu326, mLet_eq]
              exact m_iret X hr hk V (by rw [e9]) (by rw [e9]) dX8_does_329
            by_cases w_148_337 : (v 7) = 337
            · refine lv_lookup (off := 177) (tgt := 325) hx hb dX8_does_148 (by decide +kernel) (by rw [w_148_337]; rfl) (by decide) ?_
              refine lv_aload_n hx hb dX8_does_325 rfl (lv_at hl 3 rfl) ?_
              obtain ⟨u326, hu326⟩ : ∃ u, pX8_searches v qm qo qy = u := ⟨_, rfl⟩
              have hM := kX8_searches l D cB cI bd v qm ql qs qk qd qn qe qf qo qt qi qy
              rw [hu326] at hM
              refine m_VA X V (w1 := (wR cB cI bd u326.2.1 qm ql qs qk qd qn qe qf qo qt qi u326.2.2)) (rest := []) (st1 := [.int u326.1]) hM okX8_searches gm_583 gm_710 gm_582 ⟨⟨rfl, rfl⟩, ⟨by decide, by decide⟩, Nat.zero_le _, Nat.zero_le _⟩ rfl rfl (wR_fst _ _ _ _ _ _ _ _ _ _ _ _ _ _ _ _) (wR_fst _ _ _ _ _ _ _ _ _ _ _ _ _ _ _ _) rfl hl.1 (Nat.le_of_ble_eq_true rfl) dX8_does_326 rfl rfl (fun H locs V => ?_)
              have e9 : pX8_does v qm qs qo qt qi qy = (u326.1, u326.2.1, qm, qs, qt, qi, u326.2.2) := by rw [pX8_does, if_neg c_27, if_pos c_36, if_pos c_52, if_pos c_99, if_pos c_125, if_neg w_148_49, if_neg w_148_64, if_neg w_148_65, if_neg w_148_66, if_neg w_148_68, if_neg w_148_69, if_neg w_148_256, if_neg w_148_260, if_neg w_148_288, if_neg w_148_336, if_pos w_148_337, hu326, mLet_eq]
              exact m_iret X hr hk V (by rw [e9]) (by rw [e9]) dX8_does_329
            by_cases w_148_368 : (v 7) = 368
            · refine lv_lookup (off := 182) (tgt := 330) hx hb dX8_does_148 (by decide +kernel) (by rw [w_148_368]; rfl) (by decide) ?_
              refine lv_aload_n hx hb dX8_does_330 rfl (lv_at hl 3 rfl) ?_
              refine lv_iload_n hx hb dX8_does_331 rfl (lv_at hl 2 rfl) ?_
              refine lv_iload_n hx hb dX8_does_332 rfl (lv_at hl 1 rfl) ?_
              obtain ⟨u333, hu333⟩ : ∃ u, pX8_clears v qm (qo (Int32.toNatClampNeg 0)) (qo (Int32.toNatClampNeg 1)) = u := ⟨_, rfl⟩
              have hM := kX8_clears l D cB cI bd v qm ql qs qk qd qn qe qf qo qt qi qy (qo (Int32.toNatClampNeg 0)) (qo (Int32.toNatClampNeg 1))
              rw [hu333] at hM
              refine m_VA X V (w1 := (wR cB cI bd v u333.2 ql qs qk qd qn qe qf qo qt qi qy)) (rest := []) (st1 := [.int u333.1]) hM okX8_clears gm_601 gm_716 gm_600 ⟨⟨rfl, rfl⟩, ⟨by decide, by decide⟩, Nat.zero_le _, Nat.zero_le _⟩ rfl rfl (wR_fst _ _ _ _ _ _ _ _ _ _ _ _ _ _ _ _) (wR_fst _ _ _ _ _ _ _ _ _ _ _ _ _ _ _ _) rfl hl.1 (Nat.le_of_ble_eq_true rfl) dX8_does_333 rfl rfl (fun H locs V => ?_)
              have e9 : pX8_does v qm qs qo qt qi qy = (u333.1, v, u333.2, qs, qt, qi, qy) := by rw [pX8_does, if_neg c_27, if_pos c_36, if_pos c_52, if_pos c_99, if_pos c_125, if_neg w_148_49, if_neg w_148_64, if_neg w_148_65, if_neg w_148_66, if_neg w_148_68, if_neg w_148_69, if_neg w_148_256, if_neg w_148_260, if_neg w_148_288, if_neg w_148_336, if_neg w_148_337, if_pos w_148_368, hu333, mLet_eq]
              exact m_iret X hr hk V (by rw [e9]) (by rw [e9]) dX8_does_336
            by_cases w_148_369 : (v 7) = 369
            · refine lv_lookup (off := 189) (tgt := 337) hx hb dX8_does_148 (by decide +kernel) (by rw [w_148_369]; rfl) (by decide) ?_
              refine lv_aload_n hx hb dX8_does_337 rfl (lv_at hl 3 rfl) ?_
              refine lv_iload_n hx hb dX8_does_338 rfl (lv_at hl 2 rfl) ?_
              refine lv_iload_n hx hb dX8_does_339 rfl (lv_at hl 1 rfl) ?_
              refine lv_iload_n hx hb dX8_does_340 rfl (lv_at hl 0 rfl) ?_
              obtain ⟨u341, hu341⟩ : ∃ u, pX8_copies v qm qi (qo (Int32.toNatClampNeg 0)) (qo (Int32.toNatClampNeg 1)) (qo (Int32.toNatClampNeg 2)) = u := ⟨_, rfl⟩
              have hM := kX8_copies l D cB cI bd v qm ql qs qk qd qn qe qf qo qt qi qy (qo (Int32.toNatClampNeg 0)) (qo (Int32.toNatClampNeg 1)) (qo (Int32.toNatClampNeg 2))
              rw [hu341] at hM
              refine m_VA X V (w1 := (wR cB cI bd v u341.2.1 ql qs qk qd qn qe qf qo qt u341.2.2 qy)) (rest := []) (st1 := [.int u341.1]) hM okX8_copies gm_604 gm_717 gm_603 ⟨⟨rfl, rfl⟩, ⟨by decide, by decide⟩, Nat.zero_le _, Nat.zero_le _⟩ rfl rfl (wR_fst _ _ _ _ _ _ _ _ _ _ _ _ _ _ _ _) (wR_fst _ _ _ _ _ _ _ _ _ _ _ _ _ _ _ _) rfl hl.1 (Nat.le_of_ble_eq_true rfl) dX8_does_341 rfl rfl (fun H locs V => ?_)
              have e9 : pX8_does v qm qs qo qt qi qy = (u341.1, v, u341.2.1, qs, qt, u341.2.2, qy) := by rw [pX8_does, if_neg c_27, if_pos c_36, if_pos c_52, if_pos c_99, if_pos c_125, if_neg w_148_49, if_neg w_148_64, if_neg w_148_65, if_neg w_148_66, if_neg w_148_68, if_neg w_148_69, if_neg w_148_256, if_neg w_148_260, if_neg w_148_288, if_neg w_148_336, if_neg w_148_337, if_neg w_148_368, if_pos w_148_369, hu341, mLet_eq]
              exact m_iret X hr hk V (by rw [e9]) (by rw [e9]) dX8_does_344
            refine lv_lookup (off := 197) (tgt := 345) hx hb dX8_does_148 (by decide +kernel) ((lv_osw w_148_49 rfl).trans ((lv_osw w_148_64 rfl).trans ((lv_osw w_148_65 rfl).trans ((lv_osw w_148_66 rfl).trans ((lv_osw w_148_68 rfl).trans ((lv_osw w_148_69 rfl).trans ((lv_osw w_148_256 rfl).trans ((lv_osw w_148_260 rfl).trans ((lv_osw w_148_288 rfl).trans ((lv_osw w_148_336 rfl).trans ((lv_osw w_148_337 rfl).trans ((lv_osw w_148_368 rfl).trans ((lv_osw w_148_369 rfl).trans (rfl)))))))))))))) (by decide) ?_
            refine lv_iconst (v := 0) hx hb dX8_does_345 (by decide) ?_
            have e9 : pX8_does v qm qs qo qt qi qy = (0, v, qm, qs, qt, qi, qy) := by rw [pX8_does, if_neg c_27, if_pos c_36, if_pos c_52, if_pos c_99, if_pos c_125, if_neg w_148_49, if_neg w_148_64, if_neg w_148_65, if_neg w_148_66, if_neg w_148_68, if_neg w_148_69, if_neg w_148_256, if_neg w_148_260, if_neg w_148_288, if_neg w_148_336, if_neg w_148_337, if_neg w_148_368, if_neg w_148_369]
            exact m_iret X hr hk V (by rw [e9]) (by rw [e9]) dX8_does_346
          · refine lv_aload_n hx hb dX8_does_128 rfl (lv_at hl 3 rfl) ?_
            refine m_get X V 6 0 11 rfl gin_6 rfl (by decide) rfl gm_434 (v := .int (v 7)) rfl dX8_does_129 ?_
            refine lv_bipush (v := 84) hx hb dX8_does_132 (by decide) ?_
            refine lv_icmp_gt (tgt := 144) hx hb dX8_does_134 (by decide) (fun c_134 => ?_) (fun c_134 => ?_)
            · refine lv_aload_n hx hb dX8_does_144 rfl (lv_at hl 3 rfl) ?_
              refine m_get X V 6 0 11 rfl gin_6 rfl (by decide) rfl gm_434 (v := .int (v 7)) rfl dX8_does_145 ?_
              by_cases w_148_49 : (v 7) = 49
              · refine lv_lookup (off := 116) (tgt := 264) hx hb dX8_does_148 (by decide +kernel) (by rw [w_148_49]; rfl) (by decide) ?_
                refine lv_aload_n hx hb dX8_does_264 rfl (lv_at hl 3 rfl) ?_
                refine lv_aload_n hx hb dX8_does_265 rfl (lv_at hl 3 rfl) ?_
                refine m_get X V 6 0 11 rfl gin_6 rfl (by decide) rfl gm_434 (v := .int (v 7)) rfl dX8_does_266 ?_
                refine lv_bipush (v := 49) hx hb dX8_does_269 (by decide) ?_
                refine lv_icmp_ne (tgt := 278) hx hb dX8_does_271 (by decide) (fun h => absurd w_148_49 h) (fun _ => ?_)
                refine lv_iload_n hx hb dX8_does_274 rfl (lv_at hl 2 rfl) ?_
                refine lv_goto (tgt := 279) hx hb dX8_does_275 (by decide) ?_
                refine m_put X V (ws' := (wR cB cI bd (upd v 15 (qo (Int32.toNatClampNeg 0))) qm ql qs qk qd qn qe qf qo qt qi qy)) 6 0 24 rfl gin_6 tyX8_ok nmX8 rfl (by decide) rfl gm_447 rfl rfl rfl (Nat.le_of_ble_eq_true rfl) dX8_does_279 rfl (fun H locs V => ?_)
                refine lv_aload_n hx hb dX8_does_282 rfl (lv_at hl 3 rfl) ?_
                refine lv_iconst (v := 1) hx hb dX8_does_283 (by decide) ?_
                refine m_put X V (ws' := (wR cB cI bd (upd (upd v 3 1) 15 (qo (Int32.toNatClampNeg 0))) qm ql qs qk qd qn qe qf qo qt qi qy)) 6 0 7 rfl gin_6 tyX8_ok nmX8 rfl (by decide) rfl gm_430 rfl rfl rfl (Nat.le_of_ble_eq_true rfl) dX8_does_284 rfl (fun H locs V => ?_)
                refine lv_iconst (v := 0) hx hb dX8_does_287 (by decide) ?_
                have e9 : pX8_does v qm qs qo qt qi qy = (0, (upd (upd v 3 1) 15 (qo (Int32.toNatClampNeg 0))), qm, qs, qt, qi, qy) := by rw [pX8_does, if_neg c_27, if_pos c_36, if_pos c_52, if_pos c_99, if_neg c_125, if_pos c_134, if_pos w_148_49]
                exact m_iret X hr hk V (by rw [e9]) (by rw [e9]) dX8_does_288
              by_cases w_148_64 : (v 7) = 64
              · refine lv_lookup (off := 141) (tgt := 289) hx hb dX8_does_148 (by decide +kernel) (by rw [w_148_64]; rfl) (by decide) ?_
                refine lv_aload_n hx hb dX8_does_289 rfl (lv_at hl 3 rfl) ?_
                refine lv_iload_n hx hb dX8_does_290 rfl (lv_at hl 2 rfl) ?_
                obtain ⟨u291, hu291⟩ : ∃ u, pX8_gives v (qo (Int32.toNatClampNeg 0)) = u := ⟨_, rfl⟩
                have hM := kX8_gives l D cB cI bd v qm ql qs qk qd qn qe qf qo qt qi qy (qo (Int32.toNatClampNeg 0))
                rw [hu291] at hM
                refine m_VA X V (w1 := (wR cB cI bd u291.2 qm ql qs qk qd qn qe qf qo qt qi qy)) (rest := []) (st1 := [.int u291.1]) hM okX8_gives gm_553 gm_704 gm_552 ⟨⟨rfl, rfl⟩, ⟨by decide, by decide⟩, Nat.zero_le _, Nat.zero_le _⟩ rfl rfl (wR_fst _ _ _ _ _ _ _ _ _ _ _ _ _ _ _ _) (wR_fst _ _ _ _ _ _ _ _ _ _ _ _ _ _ _ _) rfl hl.1 (Nat.le_of_ble_eq_true rfl) dX8_does_291 rfl rfl (fun H locs V => ?_)
                have e9 : pX8_does v qm qs qo qt qi qy = (u291.1, u291.2, qm, qs, qt, qi, qy) := by rw [pX8_does, if_neg c_27, if_pos c_36, if_pos c_52, if_pos c_99, if_neg c_125, if_pos c_134, if_neg w_148_49, if_pos w_148_64, hu291, mLet_eq]
                exact m_iret X hr hk V (by rw [e9]) (by rw [e9]) dX8_does_294
              by_cases w_148_65 : (v 7) = 65
              · refine lv_lookup (off := 141) (tgt := 289) hx hb dX8_does_148 (by decide +kernel) (by rw [w_148_65]; rfl) (by decide) ?_
                refine lv_aload_n hx hb dX8_does_289 rfl (lv_at hl 3 rfl) ?_
                refine lv_iload_n hx hb dX8_does_290 rfl (lv_at hl 2 rfl) ?_
                obtain ⟨u291, hu291⟩ : ∃ u, pX8_gives v (qo (Int32.toNatClampNeg 0)) = u := ⟨_, rfl⟩
                have hM := kX8_gives l D cB cI bd v qm ql qs qk qd qn qe qf qo qt qi qy (qo (Int32.toNatClampNeg 0))
                rw [hu291] at hM
                refine m_VA X V (w1 := (wR cB cI bd u291.2 qm ql qs qk qd qn qe qf qo qt qi qy)) (rest := []) (st1 := [.int u291.1]) hM okX8_gives gm_553 gm_704 gm_552 ⟨⟨rfl, rfl⟩, ⟨by decide, by decide⟩, Nat.zero_le _, Nat.zero_le _⟩ rfl rfl (wR_fst _ _ _ _ _ _ _ _ _ _ _ _ _ _ _ _) (wR_fst _ _ _ _ _ _ _ _ _ _ _ _ _ _ _ _) rfl hl.1 (Nat.le_of_ble_eq_true rfl) dX8_does_291 rfl rfl (fun H locs V => ?_)
                have e9 : pX8_does v qm qs qo qt qi qy = (u291.1, u291.2, qm, qs, qt, qi, qy) := by rw [pX8_does, if_neg c_27, if_pos c_36, if_pos c_52, if_pos c_99, if_neg c_125, if_pos c_134, if_neg w_148_49, if_neg w_148_64, if_pos w_148_65, hu291, mLet_eq]
                exact m_iret X hr hk V (by rw [e9]) (by rw [e9]) dX8_does_294
              by_cases w_148_66 : (v 7) = 66
              · refine lv_lookup (off := 141) (tgt := 289) hx hb dX8_does_148 (by decide +kernel) (by rw [w_148_66]; rfl) (by decide) ?_
                refine lv_aload_n hx hb dX8_does_289 rfl (lv_at hl 3 rfl) ?_
                refine lv_iload_n hx hb dX8_does_290 rfl (lv_at hl 2 rfl) ?_
                obtain ⟨u291, hu291⟩ : ∃ u, pX8_gives v (qo (Int32.toNatClampNeg 0)) = u := ⟨_, rfl⟩
                have hM := kX8_gives l D cB cI bd v qm ql qs qk qd qn qe qf qo qt qi qy (qo (Int32.toNatClampNeg 0))
                rw [hu291] at hM
                refine m_VA X V (w1 := (wR cB cI bd u291.2 qm ql qs qk qd qn qe qf qo qt qi qy)) (rest := []) (st1 := [.int u291.1]) hM okX8_gives gm_553 gm_704 gm_552 ⟨⟨rfl, rfl⟩, ⟨by decide, by decide⟩, Nat.zero_le _, Nat.zero_le _⟩ rfl rfl (wR_fst _ _ _ _ _ _ _ _ _ _ _ _ _ _ _ _) (wR_fst _ _ _ _ _ _ _ _ _ _ _ _ _ _ _ _) rfl hl.1 (Nat.le_of_ble_eq_true rfl) dX8_does_291 rfl rfl (fun H locs V => ?_)
                have e9 : pX8_does v qm qs qo qt qi qy = (u291.1, u291.2, qm, qs, qt, qi, qy) := by rw [pX8_does, if_neg c_27, if_pos c_36, if_pos c_52, if_pos c_99, if_neg c_125, if_pos c_134, if_neg w_148_49, if_neg w_148_64, if_neg w_148_65, if_pos w_148_66, hu291, mLet_eq]
                exact m_iret X hr hk V (by rw [e9]) (by rw [e9]) dX8_does_294
              by_cases w_148_68 : (v 7) = 68
              · refine lv_lookup (off := 147) (tgt := 295) hx hb dX8_does_148 (by decide +kernel) (by rw [w_148_68]; rfl) (by decide) ?_
                refine lv_aload_n hx hb dX8_does_295 rfl (lv_at hl 3 rfl) ?_
                refine lv_iload_n hx hb dX8_does_296 rfl (lv_at hl 2 rfl) ?_
                refine lv_i2s hx hb dX8_does_297 rfl ?_
                obtain ⟨u298, hu298⟩ : ∃ u, pX8_gives v ((Int32.toInt16 (qo (Int32.toNatClampNeg 0))).toInt32) = u := ⟨_, rfl⟩
                have hM := kX8_gives l D cB cI bd v qm ql qs qk qd qn qe qf qo qt qi qy ((Int32.toInt16 (qo (Int32.toNatClampNeg 0))).toInt32)
                rw [hu298] at hM
                refine m_VA X V (w1 := (wR cB cI bd u298.2 qm ql qs qk qd qn qe qf qo qt qi qy)) (rest := []) (st1 := [.int u298.1]) hM okX8_gives gm_553 gm_704 gm_552 ⟨⟨rfl, rfl⟩, ⟨by decide, by decide⟩, Nat.zero_le _, Nat.zero_le _⟩ rfl rfl (wR_fst _ _ _ _ _ _ _ _ _ _ _ _ _ _ _ _) (wR_fst _ _ _ _ _ _ _ _ _ _ _ _ _ _ _ _) rfl hl.1 (Nat.le_of_ble_eq_true rfl) dX8_does_298 rfl rfl (fun H locs V => ?_)
                have e9 : pX8_does v qm qs qo qt qi qy = (u298.1, u298.2, qm, qs, qt, qi, qy) := by rw [pX8_does, if_neg c_27, if_pos c_36, if_pos c_52, if_pos c_99, if_neg c_125, if_pos c_134, if_neg w_148_49, if_neg w_148_64, if_neg w_148_65, if_neg w_148_66, if_pos w_148_68, hu298, mLet_eq]
                exact m_iret X hr hk V (by rw [e9]) (by rw [e9]) dX8_does_301
              by_cases w_148_69 : (v 7) = 69
              · refine lv_lookup (off := 154) (tgt := 302) hx hb dX8_does_148 (by decide +kernel) (by rw [w_148_69]; rfl) (by decide) ?_
                refine lv_aload_n hx hb dX8_does_302 rfl (lv_at hl 3 rfl) ?_
                refine lv_iload_n hx hb dX8_does_303 rfl (lv_at hl 2 rfl) ?_
                refine lv_i2b hx hb dX8_does_304 rfl ?_
                obtain ⟨u305, hu305⟩ : ∃ u, pX8_gives v ((Int32.toInt8 (qo (Int32.toNatClampNeg 0))).toInt32) = u := ⟨_, rfl⟩
                have hM := kX8_gives l D cB cI bd v qm ql qs qk qd qn qe qf qo qt qi qy ((Int32.toInt8 (qo (Int32.toNatClampNeg 0))).toInt32)
                rw [hu305] at hM
                refine m_VA X V (w1 := (wR cB cI bd u305.2 qm ql qs qk qd qn qe qf qo qt qi qy)) (rest := []) (st1 := [.int u305.1]) hM okX8_gives gm_553 gm_704 gm_552 ⟨⟨rfl, rfl⟩, ⟨by decide, by decide⟩, Nat.zero_le _, Nat.zero_le _⟩ rfl rfl (wR_fst _ _ _ _ _ _ _ _ _ _ _ _ _ _ _ _) (wR_fst _ _ _ _ _ _ _ _ _ _ _ _ _ _ _ _) rfl hl.1 (Nat.le_of_ble_eq_true rfl) dX8_does_305 rfl rfl (fun H locs V => ?_)
                have e9 : pX8_does v qm qs qo qt qi qy = (u305.1, u305.2, qm, qs, qt, qi, qy) := by rw [pX8_does, if_neg c_27, if_pos c_36, if_pos c_52, if_pos c_99, if_neg c_125, if_pos c_134, if_neg w_148_49, if_neg w_148_64, if_neg w_148_65, if_neg w_148_66, if_neg w_148_68, if_pos w_148_69, hu305, mLet_eq]
                exact m_iret X hr hk V (by rw [e9]) (by rw [e9]) dX8_does_308
              by_cases w_148_256 : (v 7) = 256
              · refine lv_lookup (off := 161) (tgt := 309) hx hb dX8_does_148 (by decide +kernel) (by rw [w_148_256]; rfl) (by decide) ?_
                refine lv_aload_n hx hb dX8_does_309 rfl (lv_at hl 3 rfl) ?_
                refine lv_iload_n hx hb dX8_does_310 rfl (lv_at hl 2 rfl) ?_
                obtain ⟨u311, hu311⟩ : ∃ u, pX8_gestalt (qo (Int32.toNatClampNeg 0)) = u := ⟨_, rfl⟩
                have hM := kX8_gestalt l D cB cI (qo (Int32.toNatClampNeg 0))
                rw [hu311] at hM
                refine m_S X V (rest := [.ref (bd 0)]) (st1 := [.int u311, .ref (bd 0)]) hM okX8_gestalt gm_578 gm_577 ⟨⟨rfl, rfl⟩, ⟨by decide, by decide⟩, Nat.zero_le _, Nat.zero_le _⟩ rfl hl.1 (Nat.le_of_ble_eq_true rfl) dX8_does_311 rfl rfl (fun H locs V => ?_)
                obtain ⟨u314, hu314⟩ : ∃ u, pX8_gives v u311 = u := ⟨_, rfl⟩
                have hM := kX8_gives l D cB cI bd v qm ql qs qk qd qn qe qf qo qt qi qy u311
                rw [hu314] at hM
                refine m_VA X V (w1 := (wR cB cI bd u314.2 qm ql qs qk qd qn qe qf qo qt qi qy)) (rest := []) (st1 := [.int u314.1]) hM okX8_gives gm_553 gm_704 gm_552 ⟨⟨rfl, rfl⟩, ⟨by decide, by decide⟩, Nat.zero_le _, Nat.zero_le _⟩ rfl rfl (wR_fst _ _ _ _ _ _ _ _ _ _ _ _ _ _ _ _) (wR_fst _ _ _ _ _ _ _ _ _ _ _ _ _ _ _ _) rfl hl.1 (Nat.le_of_ble_eq_true rfl) dX8_does_314 rfl rfl (fun H locs V => ?_)
                have e9 : pX8_does v qm qs qo qt qi qy = (u314.1, u314.2, qm, qs, qt, qi, qy) := by rw [pX8_does, if_neg c_27, if_pos c_36, if_pos c_52, if_pos c_99, if_neg c_125, if_pos c_134, if_neg w_148_49, if_neg w_148_64, if_neg w_148_65, if_neg w_148_66, if_neg w_148_68, if_neg w_148_69, if_pos w_148_256, hu311, mLet_eq, hu314, mLet_eq]
                exact m_iret X hr hk V (by rw [e9]) (by rw [e9]) dX8_does_317
              by_cases w_148_260 : (v 7) = 260
              · refine lv_lookup (off := 170) (tgt := 318) hx hb dX8_does_148 (by decide +kernel) (by rw [w_148_260]; rfl) (by decide) ?_
                refine lv_aload_n hx hb dX8_does_318 rfl (lv_at hl 3 rfl) ?_
                refine lv_iload_n hx hb dX8_does_319 rfl (lv_at hl 2 rfl) ?_
                refine m_put X V (ws' := (wR cB cI bd (upd v 14 (qo (Int32.toNatClampNeg 0))) qm ql qs qk qd qn qe qf qo qt qi qy)) 6 0 23 rfl gin_6 tyX8_ok nmX8 rfl (by decide) rfl gm_446 rfl rfl rfl (Nat.le_of_ble_eq_true rfl) dX8_does_320 rfl (fun H locs V => ?_)
                refine lv_iconst (v := 0) hx hb dX8_does_323 (by decide) ?_
                have e9 : pX8_does v qm qs qo qt qi qy = (0, (upd v 14 (qo (Int32.toNatClampNeg 0))), qm, qs, qt, qi, qy) := by rw [pX8_does, if_neg c_27, if_pos c_36, if_pos c_52, if_pos c_99, if_neg c_125, if_pos c_134, if_neg w_148_49, if_neg w_148_64, if_neg w_148_65, if_neg w_148_66, if_neg w_148_68, if_neg w_148_69, if_neg w_148_256, if_pos w_148_260]
                exact m_iret X hr hk V (by rw [e9]) (by rw [e9]) dX8_does_324
              by_cases w_148_288 : (v 7) = 288
              · refine lv_lookup (off := 116) (tgt := 264) hx hb dX8_does_148 (by decide +kernel) (by rw [w_148_288]; rfl) (by decide) ?_
                refine lv_aload_n hx hb dX8_does_264 rfl (lv_at hl 3 rfl) ?_
                refine lv_aload_n hx hb dX8_does_265 rfl (lv_at hl 3 rfl) ?_
                refine m_get X V 6 0 11 rfl gin_6 rfl (by decide) rfl gm_434 (v := .int (v 7)) rfl dX8_does_266 ?_
                refine lv_bipush (v := 49) hx hb dX8_does_269 (by decide) ?_
                refine lv_icmp_ne (tgt := 278) hx hb dX8_does_271 (by decide) (fun _ => ?_) (fun h => absurd h w_148_49)
                refine lv_iconst (v := 0) hx hb dX8_does_278 (by decide) ?_
                refine m_put X V (ws' := (wR cB cI bd (upd v 15 0) qm ql qs qk qd qn qe qf qo qt qi qy)) 6 0 24 rfl gin_6 tyX8_ok nmX8 rfl (by decide) rfl gm_447 rfl rfl rfl (Nat.le_of_ble_eq_true rfl) dX8_does_279 rfl (fun H locs V => ?_)
                refine lv_aload_n hx hb dX8_does_282 rfl (lv_at hl 3 rfl) ?_
                refine lv_iconst (v := 1) hx hb dX8_does_283 (by decide) ?_
                refine m_put X V (ws' := (wR cB cI bd (upd (upd v 3 1) 15 0) qm ql qs qk qd qn qe qf qo qt qi qy)) 6 0 7 rfl gin_6 tyX8_ok nmX8 rfl (by decide) rfl gm_430 rfl rfl rfl (Nat.le_of_ble_eq_true rfl) dX8_does_284 rfl (fun H locs V => ?_)
                refine lv_iconst (v := 0) hx hb dX8_does_287 (by decide) ?_
                have e9 : pX8_does v qm qs qo qt qi qy = (0, (upd (upd v 3 1) 15 0), qm, qs, qt, qi, qy) := by rw [pX8_does, if_neg c_27, if_pos c_36, if_pos c_52, if_pos c_99, if_neg c_125, if_pos c_134, if_neg w_148_49, if_neg w_148_64, if_neg w_148_65, if_neg w_148_66, if_neg w_148_68, if_neg w_148_69, if_neg w_148_256, if_neg w_148_260, if_pos w_148_288]
                exact m_iret X hr hk V (by rw [e9]) (by rw [e9]) dX8_does_288
              by_cases w_148_336 : (v 7) = 336
              · refine lv_lookup (off := 177) (tgt := 325) hx hb dX8_does_148 (by decide +kernel) (by rw [w_148_336]; rfl) (by decide) ?_
                refine lv_aload_n hx hb dX8_does_325 rfl (lv_at hl 3 rfl) ?_
                obtain ⟨u326, hu326⟩ : ∃ u, pX8_searches v qm qo qy = u := ⟨_, rfl⟩
                have hM := kX8_searches l D cB cI bd v qm ql qs qk qd qn qe qf qo qt qi qy
                rw [hu326] at hM
                refine m_VA X V (w1 := (wR cB cI bd u326.2.1 qm ql qs qk qd qn qe qf qo qt qi u326.2.2)) (rest := []) (st1 := [.int u326.1]) hM okX8_searches gm_583 gm_710 gm_582 ⟨⟨rfl, rfl⟩, ⟨by decide, by decide⟩, Nat.zero_le _, Nat.zero_le _⟩ rfl rfl (wR_fst _ _ _ _ _ _ _ _ _ _ _ _ _ _ _ _) (wR_fst _ _ _ _ _ _ _ _ _ _ _ _ _ _ _ _) rfl hl.1 (Nat.le_of_ble_eq_true rfl) dX8_does_326 rfl rfl (fun H locs V => ?_)
                have e9 : pX8_does v qm qs qo qt qi qy = (u326.1, u326.2.1, qm, qs, qt, qi, u326.2.2) := by rw [pX8_does, if_neg c_27, if_pos c_36, if_pos c_52, if_pos c_99, if_neg c_125, if_pos c_134, if_neg w_148_49, if_neg w_148_64, if_neg w_148_65, if_neg w_148_66, if_neg w_148_68, if_neg w_148_69, if_neg w_148_256, if_neg w_148_260, if_neg w_148_288, if_pos w_148_336, hu326, mLet_eq]
                exact m_iret X hr hk V (by rw [e9]) (by rw [e9]) dX8_does_329
              by_cases w_148_337 : (v 7) = 337
              · refine lv_lookup (off := 177) (tgt := 325) hx hb dX8_does_148 (by decide +kernel) (by rw [w_148_337]; rfl) (by decide) ?_
                refine lv_aload_n hx hb dX8_does_325 rfl (lv_at hl 3 rfl) ?_
                obtain ⟨u326, hu326⟩ : ∃ u, pX8_searches v qm qo qy = u := ⟨_, rfl⟩
                have hM := kX8_searches l D cB cI bd v qm ql qs qk qd qn qe qf qo qt qi qy
                rw [hu326] at hM
                refine m_VA X V (w1 := (wR cB cI bd u326.2.1 qm ql qs qk qd qn qe qf qo qt qi u326.2.2)) (rest := []) (st1 := [.int u326.1]) hM okX8_searches gm_583 gm_710 gm_582 ⟨⟨rfl, rfl⟩, ⟨by decide, by decide⟩, Nat.zero_le _, Nat.zero_le _⟩ rfl rfl (wR_fst _ _ _ _ _ _ _ _ _ _ _ _ _ _ _ _) (wR_fst _ _ _ _ _ _ _ _ _ _ _ _ _ _ _ _) rfl hl.1 (Nat.le_of_ble_eq_true rfl) dX8_does_326 rfl rfl (fun H locs V => ?_)
                have e9 : pX8_does v qm qs qo qt qi qy = (u326.1, u326.2.1, qm, qs, qt, qi, u326.2.2) := by rw [pX8_does, if_neg c_27, if_pos c_36, if_pos c_52, if_pos c_99, if_neg c_125, if_pos c_134, if_neg w_148_49, if_neg w_148_64, if_neg w_148_65, if_neg w_148_66, if_neg w_148_68, if_neg w_148_69, if_neg w_148_256, if_neg w_148_260, if_neg w_148_288, if_neg w_148_336, if_pos w_148_337, hu326, mLet_eq]
                exact m_iret X hr hk V (by rw [e9]) (by rw [e9]) dX8_does_329
              by_cases w_148_368 : (v 7) = 368
              · refine lv_lookup (off := 182) (tgt := 330) hx hb dX8_does_148 (by decide +kernel) (by rw [w_148_368]; rfl) (by decide) ?_
                refine lv_aload_n hx hb dX8_does_330 rfl (lv_at hl 3 rfl) ?_
                refine lv_iload_n hx hb dX8_does_331 rfl (lv_at hl 2 rfl) ?_
                refine lv_iload_n hx hb dX8_does_332 rfl (lv_at hl 1 rfl) ?_
                obtain ⟨u333, hu333⟩ : ∃ u, pX8_clears v qm (qo (Int32.toNatClampNeg 0)) (qo (Int32.toNatClampNeg 1)) = u := ⟨_, rfl⟩
                have hM := kX8_clears l D cB cI bd v qm ql qs qk qd qn qe qf qo qt qi qy (qo (Int32.toNatClampNeg 0)) (qo (Int32.toNatClampNeg 1))
                rw [hu333] at hM
                refine m_VA X V (w1 := (wR cB cI bd v u333.2 ql qs qk qd qn qe qf qo qt qi qy)) (rest := []) (st1 := [.int u333.1]) hM okX8_clears gm_601 gm_716 gm_600 ⟨⟨rfl, rfl⟩, ⟨by decide, by decide⟩, Nat.zero_le _, Nat.zero_le _⟩ rfl rfl (wR_fst _ _ _ _ _ _ _ _ _ _ _ _ _ _ _ _) (wR_fst _ _ _ _ _ _ _ _ _ _ _ _ _ _ _ _) rfl hl.1 (Nat.le_of_ble_eq_true rfl) dX8_does_333 rfl rfl (fun H locs V => ?_)
                have e9 : pX8_does v qm qs qo qt qi qy = (u333.1, v, u333.2, qs, qt, qi, qy) := by rw [pX8_does, if_neg c_27, if_pos c_36, if_pos c_52, if_pos c_99, if_neg c_125, if_pos c_134, if_neg w_148_49, if_neg w_148_64, if_neg w_148_65, if_neg w_148_66, if_neg w_148_68, if_neg w_148_69, if_neg w_148_256, if_neg w_148_260, if_neg w_148_288, if_neg w_148_336, if_neg w_148_337, if_pos w_148_368, hu333, mLet_eq]
                exact m_iret X hr hk V (by rw [e9]) (by rw [e9]) dX8_does_336
              by_cases w_148_369 : (v 7) = 369
              · refine lv_lookup (off := 189) (tgt := 337) hx hb dX8_does_148 (by decide +kernel) (by rw [w_148_369]; rfl) (by decide) ?_
                refine lv_aload_n hx hb dX8_does_337 rfl (lv_at hl 3 rfl) ?_
                refine lv_iload_n hx hb dX8_does_338 rfl (lv_at hl 2 rfl) ?_
                refine lv_iload_n hx hb dX8_does_339 rfl (lv_at hl 1 rfl) ?_
                refine lv_iload_n hx hb dX8_does_340 rfl (lv_at hl 0 rfl) ?_
                obtain ⟨u341, hu341⟩ : ∃ u, pX8_copies v qm qi (qo (Int32.toNatClampNeg 0)) (qo (Int32.toNatClampNeg 1)) (qo (Int32.toNatClampNeg 2)) = u := ⟨_, rfl⟩
                have hM := kX8_copies l D cB cI bd v qm ql qs qk qd qn qe qf qo qt qi qy (qo (Int32.toNatClampNeg 0)) (qo (Int32.toNatClampNeg 1)) (qo (Int32.toNatClampNeg 2))
                rw [hu341] at hM
                refine m_VA X V (w1 := (wR cB cI bd v u341.2.1 ql qs qk qd qn qe qf qo qt u341.2.2 qy)) (rest := []) (st1 := [.int u341.1]) hM okX8_copies gm_604 gm_717 gm_603 ⟨⟨rfl, rfl⟩, ⟨by decide, by decide⟩, Nat.zero_le _, Nat.zero_le _⟩ rfl rfl (wR_fst _ _ _ _ _ _ _ _ _ _ _ _ _ _ _ _) (wR_fst _ _ _ _ _ _ _ _ _ _ _ _ _ _ _ _) rfl hl.1 (Nat.le_of_ble_eq_true rfl) dX8_does_341 rfl rfl (fun H locs V => ?_)
                have e9 : pX8_does v qm qs qo qt qi qy = (u341.1, v, u341.2.1, qs, qt, u341.2.2, qy) := by rw [pX8_does, if_neg c_27, if_pos c_36, if_pos c_52, if_pos c_99, if_neg c_125, if_pos c_134, if_neg w_148_49, if_neg w_148_64, if_neg w_148_65, if_neg w_148_66, if_neg w_148_68, if_neg w_148_69, if_neg w_148_256, if_neg w_148_260, if_neg w_148_288, if_neg w_148_336, if_neg w_148_337, if_neg w_148_368, if_pos w_148_369, hu341, mLet_eq]
                exact m_iret X hr hk V (by rw [e9]) (by rw [e9]) dX8_does_344
              refine lv_lookup (off := 197) (tgt := 345) hx hb dX8_does_148 (by decide +kernel) ((lv_osw w_148_49 rfl).trans ((lv_osw w_148_64 rfl).trans ((lv_osw w_148_65 rfl).trans ((lv_osw w_148_66 rfl).trans ((lv_osw w_148_68 rfl).trans ((lv_osw w_148_69 rfl).trans ((lv_osw w_148_256 rfl).trans ((lv_osw w_148_260 rfl).trans ((lv_osw w_148_288 rfl).trans ((lv_osw w_148_336 rfl).trans ((lv_osw w_148_337 rfl).trans ((lv_osw w_148_368 rfl).trans ((lv_osw w_148_369 rfl).trans (rfl)))))))))))))) (by decide) ?_
              refine lv_iconst (v := 0) hx hb dX8_does_345 (by decide) ?_
              have e9 : pX8_does v qm qs qo qt qi qy = (0, v, qm, qs, qt, qi, qy) := by rw [pX8_does, if_neg c_27, if_pos c_36, if_pos c_52, if_pos c_99, if_neg c_125, if_pos c_134, if_neg w_148_49, if_neg w_148_64, if_neg w_148_65, if_neg w_148_66, if_neg w_148_68, if_neg w_148_69, if_neg w_148_256, if_neg w_148_260, if_neg w_148_288, if_neg w_148_336, if_neg w_148_337, if_neg w_148_368, if_neg w_148_369]
              exact m_iret X hr hk V (by rw [e9]) (by rw [e9]) dX8_does_346
            · refine lv_aload_n hx hb dX8_does_137 rfl (lv_at hl 3 rfl) ?_
              refine lv_iload_n hx hb dX8_does_138 rfl (lv_at hl 2 rfl) ?_
              refine lv_iload_n hx hb dX8_does_139 rfl (lv_at hl 1 rfl) ?_
              obtain ⟨u140, hu140⟩ : ∃ u, pX8_onStack v qs qt (qo (Int32.toNatClampNeg 0)) (qo (Int32.toNatClampNeg 1)) = u := ⟨_, rfl⟩
              have hM := kX8_onStack l D cB cI bd v qm ql qs qk qd qn qe qf qo qt qi qy (qo (Int32.toNatClampNeg 0)) (qo (Int32.toNatClampNeg 1)) (show 0 ≤ Int32.toInt (v 0) ∧ Int32.toInt (v 0) ≤ 40 by omega)
              rw [hu140] at hM
              refine m_VA X V (w1 := (wR cB cI bd u140.2.1 qm ql u140.2.2.1 qk qd qn qe qf qo u140.2.2.2 qi qy)) (rest := []) (st1 := [.int u140.1]) hM okX8_onStack gm_572 gm_708 gm_571 ⟨⟨rfl, rfl⟩, ⟨by decide, by decide⟩, Nat.zero_le _, Nat.zero_le _⟩ rfl rfl (wR_fst _ _ _ _ _ _ _ _ _ _ _ _ _ _ _ _) (wR_fst _ _ _ _ _ _ _ _ _ _ _ _ _ _ _ _) rfl hl.1 (Nat.le_of_ble_eq_true rfl) dX8_does_140 rfl rfl (fun H locs V => ?_)
              have e9 : pX8_does v qm qs qo qt qi qy = (u140.1, u140.2.1, qm, u140.2.2.1, u140.2.2.2, qi, qy) := by rw [pX8_does, if_neg c_27, if_pos c_36, if_pos c_52, if_pos c_99, if_neg c_125, if_neg c_134, hu140, mLet_eq]
              exact m_iret X hr hk V (by rw [e9]) (by rw [e9]) dX8_does_143
        · refine lv_aload_n hx hb dX8_does_102 rfl (lv_at hl 3 rfl) ?_
          refine m_get X V 6 0 11 rfl gin_6 rfl (by decide) rfl gm_434 (v := .int (v 7)) rfl dX8_does_103 ?_
          refine lv_bipush (v := 79) hx hb dX8_does_106 (by decide) ?_
          refine lv_icmp_gt (tgt := 119) hx hb dX8_does_108 (by decide) (fun c_108 => ?_) (fun c_108 => ?_)
          · refine lv_aload_n hx hb dX8_does_119 rfl (lv_at hl 3 rfl) ?_
            refine m_get X V 6 0 11 rfl gin_6 rfl (by decide) rfl gm_434 (v := .int (v 7)) rfl dX8_does_120 ?_
            refine lv_bipush (v := 80) hx hb dX8_does_123 (by decide) ?_
            refine lv_icmp_lt (tgt := 144) hx hb dX8_does_125 (by decide) (fun c_125 => ?_) (fun c_125 => ?_)
            · refine lv_aload_n hx hb dX8_does_144 rfl (lv_at hl 3 rfl) ?_
              refine m_get X V 6 0 11 rfl gin_6 rfl (by decide) rfl gm_434 (v := .int (v 7)) rfl dX8_does_145 ?_
              by_cases w_148_49 : (v 7) = 49
              · refine lv_lookup (off := 116) (tgt := 264) hx hb dX8_does_148 (by decide +kernel) (by rw [w_148_49]; rfl) (by decide) ?_
                refine lv_aload_n hx hb dX8_does_264 rfl (lv_at hl 3 rfl) ?_
                refine lv_aload_n hx hb dX8_does_265 rfl (lv_at hl 3 rfl) ?_
                refine m_get X V 6 0 11 rfl gin_6 rfl (by decide) rfl gm_434 (v := .int (v 7)) rfl dX8_does_266 ?_
                refine lv_bipush (v := 49) hx hb dX8_does_269 (by decide) ?_
                refine lv_icmp_ne (tgt := 278) hx hb dX8_does_271 (by decide) (fun h => absurd w_148_49 h) (fun _ => ?_)
                refine lv_iload_n hx hb dX8_does_274 rfl (lv_at hl 2 rfl) ?_
                refine lv_goto (tgt := 279) hx hb dX8_does_275 (by decide) ?_
                refine m_put X V (ws' := (wR cB cI bd (upd v 15 (qo (Int32.toNatClampNeg 0))) qm ql qs qk qd qn qe qf qo qt qi qy)) 6 0 24 rfl gin_6 tyX8_ok nmX8 rfl (by decide) rfl gm_447 rfl rfl rfl (Nat.le_of_ble_eq_true rfl) dX8_does_279 rfl (fun H locs V => ?_)
                refine lv_aload_n hx hb dX8_does_282 rfl (lv_at hl 3 rfl) ?_
                refine lv_iconst (v := 1) hx hb dX8_does_283 (by decide) ?_
                refine m_put X V (ws' := (wR cB cI bd (upd (upd v 3 1) 15 (qo (Int32.toNatClampNeg 0))) qm ql qs qk qd qn qe qf qo qt qi qy)) 6 0 7 rfl gin_6 tyX8_ok nmX8 rfl (by decide) rfl gm_430 rfl rfl rfl (Nat.le_of_ble_eq_true rfl) dX8_does_284 rfl (fun H locs V => ?_)
                refine lv_iconst (v := 0) hx hb dX8_does_287 (by decide) ?_
                have e9 : pX8_does v qm qs qo qt qi qy = (0, (upd (upd v 3 1) 15 (qo (Int32.toNatClampNeg 0))), qm, qs, qt, qi, qy) := by rw [pX8_does, if_neg c_27, if_pos c_36, if_pos c_52, if_neg c_99, if_pos c_108, if_pos c_125, if_pos w_148_49]
                exact m_iret X hr hk V (by rw [e9]) (by rw [e9]) dX8_does_288
              by_cases w_148_64 : (v 7) = 64
              · refine lv_lookup (off := 141) (tgt := 289) hx hb dX8_does_148 (by decide +kernel) (by rw [w_148_64]; rfl) (by decide) ?_
                refine lv_aload_n hx hb dX8_does_289 rfl (lv_at hl 3 rfl) ?_
                refine lv_iload_n hx hb dX8_does_290 rfl (lv_at hl 2 rfl) ?_
                obtain ⟨u291, hu291⟩ : ∃ u, pX8_gives v (qo (Int32.toNatClampNeg 0)) = u := ⟨_, rfl⟩
                have hM := kX8_gives l D cB cI bd v qm ql qs qk qd qn qe qf qo qt qi qy (qo (Int32.toNatClampNeg 0))
                rw [hu291] at hM
                refine m_VA X V (w1 := (wR cB cI bd u291.2 qm ql qs qk qd qn qe qf qo qt qi qy)) (rest := []) (st1 := [.int u291.1]) hM okX8_gives gm_553 gm_704 gm_552 ⟨⟨rfl, rfl⟩, ⟨by decide, by decide⟩, Nat.zero_le _, Nat.zero_le _⟩ rfl rfl (wR_fst _ _ _ _ _ _ _ _ _ _ _ _ _ _ _ _) (wR_fst _ _ _ _ _ _ _ _ _ _ _ _ _ _ _ _) rfl hl.1 (Nat.le_of_ble_eq_true rfl) dX8_does_291 rfl rfl (fun H locs V => ?_)
                have e9 : pX8_does v qm qs qo qt qi qy = (u291.1, u291.2, qm, qs, qt, qi, qy) := by rw [pX8_does, if_neg c_27, if_pos c_36, if_pos c_52, if_neg c_99, if_pos c_108, if_pos c_125, if_neg w_148_49, if_pos w_148_64, hu291, mLet_eq]
                exact m_iret X hr hk V (by rw [e9]) (by rw [e9]) dX8_does_294
              by_cases w_148_65 : (v 7) = 65
              · refine lv_lookup (off := 141) (tgt := 289) hx hb dX8_does_148 (by decide +kernel) (by rw [w_148_65]; rfl) (by decide) ?_
                refine lv_aload_n hx hb dX8_does_289 rfl (lv_at hl 3 rfl) ?_
                refine lv_iload_n hx hb dX8_does_290 rfl (lv_at hl 2 rfl) ?_
                obtain ⟨u291, hu291⟩ : ∃ u, pX8_gives v (qo (Int32.toNatClampNeg 0)) = u := ⟨_, rfl⟩
                have hM := kX8_gives l D cB cI bd v qm ql qs qk qd qn qe qf qo qt qi qy (qo (Int32.toNatClampNeg 0))
                rw [hu291] at hM
                refine m_VA X V (w1 := (wR cB cI bd u291.2 qm ql qs qk qd qn qe qf qo qt qi qy)) (rest := []) (st1 := [.int u291.1]) hM okX8_gives gm_553 gm_704 gm_552 ⟨⟨rfl, rfl⟩, ⟨by decide, by decide⟩, Nat.zero_le _, Nat.zero_le _⟩ rfl rfl (wR_fst _ _ _ _ _ _ _ _ _ _ _ _ _ _ _ _) (wR_fst _ _ _ _ _ _ _ _ _ _ _ _ _ _ _ _) rfl hl.1 (Nat.le_of_ble_eq_true rfl) dX8_does_291 rfl rfl (fun H locs V => ?_)
                have e9 : pX8_does v qm qs qo qt qi qy = (u291.1, u291.2, qm, qs, qt, qi, qy) := by rw [pX8_does, if_neg c_27, if_pos c_36, if_pos c_52, if_neg c_99, if_pos c_108, if_pos c_125, if_neg w_148_49, if_neg w_148_64, if_pos w_148_65, hu291, mLet_eq]
                exact m_iret X hr hk V (by rw [e9]) (by rw [e9]) dX8_does_294
              by_cases w_148_66 : (v 7) = 66
              · refine lv_lookup (off := 141) (tgt := 289) hx hb dX8_does_148 (by decide +kernel) (by rw [w_148_66]; rfl) (by decide) ?_
                refine lv_aload_n hx hb dX8_does_289 rfl (lv_at hl 3 rfl) ?_
                refine lv_iload_n hx hb dX8_does_290 rfl (lv_at hl 2 rfl) ?_
                obtain ⟨u291, hu291⟩ : ∃ u, pX8_gives v (qo (Int32.toNatClampNeg 0)) = u := ⟨_, rfl⟩
                have hM := kX8_gives l D cB cI bd v qm ql qs qk qd qn qe qf qo qt qi qy (qo (Int32.toNatClampNeg 0))
                rw [hu291] at hM
                refine m_VA X V (w1 := (wR cB cI bd u291.2 qm ql qs qk qd qn qe qf qo qt qi qy)) (rest := []) (st1 := [.int u291.1]) hM okX8_gives gm_553 gm_704 gm_552 ⟨⟨rfl, rfl⟩, ⟨by decide, by decide⟩, Nat.zero_le _, Nat.zero_le _⟩ rfl rfl (wR_fst _ _ _ _ _ _ _ _ _ _ _ _ _ _ _ _) (wR_fst _ _ _ _ _ _ _ _ _ _ _ _ _ _ _ _) rfl hl.1 (Nat.le_of_ble_eq_true rfl) dX8_does_291 rfl rfl (fun H locs V => ?_)
                have e9 : pX8_does v qm qs qo qt qi qy = (u291.1, u291.2, qm, qs, qt, qi, qy) := by rw [pX8_does, if_neg c_27, if_pos c_36, if_pos c_52, if_neg c_99, if_pos c_108, if_pos c_125, if_neg w_148_49, if_neg w_148_64, if_neg w_148_65, if_pos w_148_66, hu291, mLet_eq]
                exact m_iret X hr hk V (by rw [e9]) (by rw [e9]) dX8_does_294
              by_cases w_148_68 : (v 7) = 68
              · refine lv_lookup (off := 147) (tgt := 295) hx hb dX8_does_148 (by decide +kernel) (by rw [w_148_68]; rfl) (by decide) ?_
                refine lv_aload_n hx hb dX8_does_295 rfl (lv_at hl 3 rfl) ?_
                refine lv_iload_n hx hb dX8_does_296 rfl (lv_at hl 2 rfl) ?_
                refine lv_i2s hx hb dX8_does_297 rfl ?_
                obtain ⟨u298, hu298⟩ : ∃ u, pX8_gives v ((Int32.toInt16 (qo (Int32.toNatClampNeg 0))).toInt32) = u := ⟨_, rfl⟩
                have hM := kX8_gives l D cB cI bd v qm ql qs qk qd qn qe qf qo qt qi qy ((Int32.toInt16 (qo (Int32.toNatClampNeg 0))).toInt32)
                rw [hu298] at hM
                refine m_VA X V (w1 := (wR cB cI bd u298.2 qm ql qs qk qd qn qe qf qo qt qi qy)) (rest := []) (st1 := [.int u298.1]) hM okX8_gives gm_553 gm_704 gm_552 ⟨⟨rfl, rfl⟩, ⟨by decide, by decide⟩, Nat.zero_le _, Nat.zero_le _⟩ rfl rfl (wR_fst _ _ _ _ _ _ _ _ _ _ _ _ _ _ _ _) (wR_fst _ _ _ _ _ _ _ _ _ _ _ _ _ _ _ _) rfl hl.1 (Nat.le_of_ble_eq_true rfl) dX8_does_298 rfl rfl (fun H locs V => ?_)
                have e9 : pX8_does v qm qs qo qt qi qy = (u298.1, u298.2, qm, qs, qt, qi, qy) := by rw [pX8_does, if_neg c_27, if_pos c_36, if_pos c_52, if_neg c_99, if_pos c_108, if_pos c_125, if_neg w_148_49, if_neg w_148_64, if_neg w_148_65, if_neg w_148_66, if_pos w_148_68, hu298, mLet_eq]
                exact m_iret X hr hk V (by rw [e9]) (by rw [e9]) dX8_does_301
              by_cases w_148_69 : (v 7) = 69
              · refine lv_lookup (off := 154) (tgt := 302) hx hb dX8_does_148 (by decide +kernel) (by rw [w_148_69]; rfl) (by decide) ?_
                refine lv_aload_n hx hb dX8_does_302 rfl (lv_at hl 3 rfl) ?_
                refine lv_iload_n hx hb dX8_does_303 rfl (lv_at hl 2 rfl) ?_
                refine lv_i2b hx hb dX8_does_304 rfl ?_
                obtain ⟨u305, hu305⟩ : ∃ u, pX8_gives v ((Int32.toInt8 (qo (Int32.toNatClampNeg 0))).toInt32) = u := ⟨_, rfl⟩
                have hM := kX8_gives l D cB cI bd v qm ql qs qk qd qn qe qf qo qt qi qy ((Int32.toInt8 (qo (Int32.toNatClampNeg 0))).toInt32)
                rw [hu305] at hM
                refine m_VA X V (w1 := (wR cB cI bd u305.2 qm ql qs qk qd qn qe qf qo qt qi qy)) (rest := []) (st1 := [.int u305.1]) hM okX8_gives gm_553 gm_704 gm_552 ⟨⟨rfl, rfl⟩, ⟨by decide, by decide⟩, Nat.zero_le _, Nat.zero_le _⟩ rfl rfl (wR_fst _ _ _ _ _ _ _ _ _ _ _ _ _ _ _ _) (wR_fst _ _ _ _ _ _ _ _ _ _ _ _ _ _ _ _) rfl hl.1 (Nat.le_of_ble_eq_true rfl) dX8_does_305 rfl rfl (fun H locs V => ?_)
                have e9 : pX8_does v qm qs qo qt qi qy = (u305.1, u305.2, qm, qs, qt, qi, qy) := by rw [pX8_does, if_neg c_27, if_pos c_36, if_pos c_52, if_neg c_99, if_pos c_108, if_pos c_125, if_neg w_148_49, if_neg w_148_64, if_neg w_148_65, if_neg w_148_66, if_neg w_148_68, if_pos w_148_69, hu305, mLet_eq]
                exact m_iret X hr hk V (by rw [e9]) (by rw [e9]) dX8_does_308
              by_cases w_148_256 : (v 7) = 256
              · refine lv_lookup (off := 161) (tgt := 309) hx hb dX8_does_148 (by decide +kernel) (by rw [w_148_256]; rfl) (by decide) ?_
                refine lv_aload_n hx hb dX8_does_309 rfl (lv_at hl 3 rfl) ?_
                refine lv_iload_n hx hb dX8_does_310 rfl (lv_at hl 2 rfl) ?_
                obtain ⟨u311, hu311⟩ : ∃ u, pX8_gestalt (qo (Int32.toNatClampNeg 0)) = u := ⟨_, rfl⟩
                have hM := kX8_gestalt l D cB cI (qo (Int32.toNatClampNeg 0))
                rw [hu311] at hM
                refine m_S X V (rest := [.ref (bd 0)]) (st1 := [.int u311, .ref (bd 0)]) hM okX8_gestalt gm_578 gm_577 ⟨⟨rfl, rfl⟩, ⟨by decide, by decide⟩, Nat.zero_le _, Nat.zero_le _⟩ rfl hl.1 (Nat.le_of_ble_eq_true rfl) dX8_does_311 rfl rfl (fun H locs V => ?_)
                obtain ⟨u314, hu314⟩ : ∃ u, pX8_gives v u311 = u := ⟨_, rfl⟩
                have hM := kX8_gives l D cB cI bd v qm ql qs qk qd qn qe qf qo qt qi qy u311
                rw [hu314] at hM
                refine m_VA X V (w1 := (wR cB cI bd u314.2 qm ql qs qk qd qn qe qf qo qt qi qy)) (rest := []) (st1 := [.int u314.1]) hM okX8_gives gm_553 gm_704 gm_552 ⟨⟨rfl, rfl⟩, ⟨by decide, by decide⟩, Nat.zero_le _, Nat.zero_le _⟩ rfl rfl (wR_fst _ _ _ _ _ _ _ _ _ _ _ _ _ _ _ _) (wR_fst _ _ _ _ _ _ _ _ _ _ _ _ _ _ _ _) rfl hl.1 (Nat.le_of_ble_eq_true rfl) dX8_does_314 rfl rfl (fun H locs V => ?_)
                have e9 : pX8_does v qm qs qo qt qi qy = (u314.1, u314.2, qm, qs, qt, qi, qy) := by rw [pX8_does, if_neg c_27, if_pos c_36, if_pos c_52, if_neg c_99, if_pos c_108, if_pos c_125, if_neg w_148_49, if_neg w_148_64, if_neg w_148_65, if_neg w_148_66, if_neg w_148_68, if_neg w_148_69, if_pos w_148_256, hu311, mLet_eq, hu314, mLet_eq]
                exact m_iret X hr hk V (by rw [e9]) (by rw [e9]) dX8_does_317
              by_cases w_148_260 : (v 7) = 260
              · refine lv_lookup (off := 170) (tgt := 318) hx hb dX8_does_148 (by decide +kernel) (by rw [w_148_260]; rfl) (by decide) ?_
                refine lv_aload_n hx hb dX8_does_318 rfl (lv_at hl 3 rfl) ?_
                refine lv_iload_n hx hb dX8_does_319 rfl (lv_at hl 2 rfl) ?_
                refine m_put X V (ws' := (wR cB cI bd (upd v 14 (qo (Int32.toNatClampNeg 0))) qm ql qs qk qd qn qe qf qo qt qi qy)) 6 0 23 rfl gin_6 tyX8_ok nmX8 rfl (by decide) rfl gm_446 rfl rfl rfl (Nat.le_of_ble_eq_true rfl) dX8_does_320 rfl (fun H locs V => ?_)
                refine lv_iconst (v := 0) hx hb dX8_does_323 (by decide) ?_
                have e9 : pX8_does v qm qs qo qt qi qy = (0, (upd v 14 (qo (Int32.toNatClampNeg 0))), qm, qs, qt, qi, qy) := by rw [pX8_does, if_neg c_27, if_pos c_36, if_pos c_52, if_neg c_99, if_pos c_108, if_pos c_125, if_neg w_148_49, if_neg w_148_64, if_neg w_148_65, if_neg w_148_66, if_neg w_148_68, if_neg w_148_69, if_neg w_148_256, if_pos w_148_260]
                exact m_iret X hr hk V (by rw [e9]) (by rw [e9]) dX8_does_324
              by_cases w_148_288 : (v 7) = 288
              · refine lv_lookup (off := 116) (tgt := 264) hx hb dX8_does_148 (by decide +kernel) (by rw [w_148_288]; rfl) (by decide) ?_
                refine lv_aload_n hx hb dX8_does_264 rfl (lv_at hl 3 rfl) ?_
                refine lv_aload_n hx hb dX8_does_265 rfl (lv_at hl 3 rfl) ?_
                refine m_get X V 6 0 11 rfl gin_6 rfl (by decide) rfl gm_434 (v := .int (v 7)) rfl dX8_does_266 ?_
                refine lv_bipush (v := 49) hx hb dX8_does_269 (by decide) ?_
                refine lv_icmp_ne (tgt := 278) hx hb dX8_does_271 (by decide) (fun _ => ?_) (fun h => absurd h w_148_49)
                refine lv_iconst (v := 0) hx hb dX8_does_278 (by decide) ?_
                refine m_put X V (ws' := (wR cB cI bd (upd v 15 0) qm ql qs qk qd qn qe qf qo qt qi qy)) 6 0 24 rfl gin_6 tyX8_ok nmX8 rfl (by decide) rfl gm_447 rfl rfl rfl (Nat.le_of_ble_eq_true rfl) dX8_does_279 rfl (fun H locs V => ?_)
                refine lv_aload_n hx hb dX8_does_282 rfl (lv_at hl 3 rfl) ?_
                refine lv_iconst (v := 1) hx hb dX8_does_283 (by decide) ?_
                refine m_put X V (ws' := (wR cB cI bd (upd (upd v 3 1) 15 0) qm ql qs qk qd qn qe qf qo qt qi qy)) 6 0 7 rfl gin_6 tyX8_ok nmX8 rfl (by decide) rfl gm_430 rfl rfl rfl (Nat.le_of_ble_eq_true rfl) dX8_does_284 rfl (fun H locs V => ?_)
                refine lv_iconst (v := 0) hx hb dX8_does_287 (by decide) ?_
                have e9 : pX8_does v qm qs qo qt qi qy = (0, (upd (upd v 3 1) 15 0), qm, qs, qt, qi, qy) := by rw [pX8_does, if_neg c_27, if_pos c_36, if_pos c_52, if_neg c_99, if_pos c_108, if_pos c_125, if_neg w_148_49, if_neg w_148_64, if_neg w_148_65, if_neg w_148_66, if_neg w_148_68, if_neg w_148_69, if_neg w_148_256, if_neg w_148_260, if_pos w_148_288]
                exact m_iret X hr hk V (by rw [e9]) (by rw [e9]) dX8_does_288
              by_cases w_148_336 : (v 7) = 336
              · refine lv_lookup (off := 177) (tgt := 325) hx hb dX8_does_148 (by decide +kernel) (by rw [w_148_336]; rfl) (by decide) ?_
                refine lv_aload_n hx hb dX8_does_325 rfl (lv_at hl 3 rfl) ?_
                obtain ⟨u326, hu326⟩ : ∃ u, pX8_searches v qm qo qy = u := ⟨_, rfl⟩
                have hM := kX8_searches l D cB cI bd v qm ql qs qk qd qn qe qf qo qt qi qy
                rw [hu326] at hM
                refine m_VA X V (w1 := (wR cB cI bd u326.2.1 qm ql qs qk qd qn qe qf qo qt qi u326.2.2)) (rest := []) (st1 := [.int u326.1]) hM okX8_searches gm_583 gm_710 gm_582 ⟨⟨rfl, rfl⟩, ⟨by decide, by decide⟩, Nat.zero_le _, Nat.zero_le _⟩ rfl rfl (wR_fst _ _ _ _ _ _ _ _ _ _ _ _ _ _ _ _) (wR_fst _ _ _ _ _ _ _ _ _ _ _ _ _ _ _ _) rfl hl.1 (Nat.le_of_ble_eq_true rfl) dX8_does_326 rfl rfl (fun H locs V => ?_)
                have e9 : pX8_does v qm qs qo qt qi qy = (u326.1, u326.2.1, qm, qs, qt, qi, u326.2.2) := by rw [pX8_does, if_neg c_27, if_pos c_36, if_pos c_52, if_neg c_99, if_pos c_108, if_pos c_125, if_neg w_148_49, if_neg w_148_64, if_neg w_148_65, if_neg w_148_66, if_neg w_148_68, if_neg w_148_69, if_neg w_148_256, if_neg w_148_260, if_neg w_148_288, if_pos w_148_336, hu326, mLet_eq]
                exact m_iret X hr hk V (by rw [e9]) (by rw [e9]) dX8_does_329
              by_cases w_148_337 : (v 7) = 337
              · refine lv_lookup (off := 177) (tgt := 325) hx hb dX8_does_148 (by decide +kernel) (by rw [w_148_337]; rfl) (by decide) ?_
                refine lv_aload_n hx hb dX8_does_325 rfl (lv_at hl 3 rfl) ?_
                obtain ⟨u326, hu326⟩ : ∃ u, pX8_searches v qm qo qy = u := ⟨_, rfl⟩
                have hM := kX8_searches l D cB cI bd v qm ql qs qk qd qn qe qf qo qt qi qy
                rw [hu326] at hM
                refine m_VA X V (w1 := (wR cB cI bd u326.2.1 qm ql qs qk qd qn qe qf qo qt qi u326.2.2)) (rest := []) (st1 := [.int u326.1]) hM okX8_searches gm_583 gm_710 gm_582 ⟨⟨rfl, rfl⟩, ⟨by decide, by decide⟩, Nat.zero_le _, Nat.zero_le _⟩ rfl rfl (wR_fst _ _ _ _ _ _ _ _ _ _ _ _ _ _ _ _) (wR_fst _ _ _ _ _ _ _ _ _ _ _ _ _ _ _ _) rfl hl.1 (Nat.le_of_ble_eq_true rfl) dX8_does_326 rfl rfl (fun H locs V => ?_)
                have e9 : pX8_does v qm qs qo qt qi qy = (u326.1, u326.2.1, qm, qs, qt, qi, u326.2.2) := by rw [pX8_does, if_neg c_27, if_pos c_36, if_pos c_52, if_neg c_99, if_pos c_108, if_pos c_125, if_neg w_148_49, if_neg w_148_64, if_neg w_148_65, if_neg w_148_66, if_neg w_148_68, if_neg w_148_69, if_neg w_148_256, if_neg w_148_260, if_neg w_148_288, if_neg w_148_336, if_pos w_148_337, hu326, mLet_eq]
                exact m_iret X hr hk V (by rw [e9]) (by rw [e9]) dX8_does_329
              by_cases w_148_368 : (v 7) = 368
              · refine lv_lookup (off := 182) (tgt := 330) hx hb dX8_does_148 (by decide +kernel) (by rw [w_148_368]; rfl) (by decide) ?_
                refine lv_aload_n hx hb dX8_does_330 rfl (lv_at hl 3 rfl) ?_
                refine lv_iload_n hx hb dX8_does_331 rfl (lv_at hl 2 rfl) ?_
                refine lv_iload_n hx hb dX8_does_332 rfl (lv_at hl 1 rfl) ?_
                obtain ⟨u333, hu333⟩ : ∃ u, pX8_clears v qm (qo (Int32.toNatClampNeg 0)) (qo (Int32.toNatClampNeg 1)) = u := ⟨_, rfl⟩
                have hM := kX8_clears l D cB cI bd v qm ql qs qk qd qn qe qf qo qt qi qy (qo (Int32.toNatClampNeg 0)) (qo (Int32.toNatClampNeg 1))
                rw [hu333] at hM
                refine m_VA X V (w1 := (wR cB cI bd v u333.2 ql qs qk qd qn qe qf qo qt qi qy)) (rest := []) (st1 := [.int u333.1]) hM okX8_clears gm_601 gm_716 gm_600 ⟨⟨rfl, rfl⟩, ⟨by decide, by decide⟩, Nat.zero_le _, Nat.zero_le _⟩ rfl rfl (wR_fst _ _ _ _ _ _ _ _ _ _ _ _ _ _ _ _) (wR_fst _ _ _ _ _ _ _ _ _ _ _ _ _ _ _ _) rfl hl.1 (Nat.le_of_ble_eq_true rfl) dX8_does_333 rfl rfl (fun H locs V => ?_)
                have e9 : pX8_does v qm qs qo qt qi qy = (u333.1, v, u333.2, qs, qt, qi, qy) := by rw [pX8_does, if_neg c_27, if_pos c_36, if_pos c_52, if_neg c_99, if_pos c_108, if_pos c_125, if_neg w_148_49, if_neg w_148_64, if_neg w_148_65, if_neg w_148_66, if_neg w_148_68, if_neg w_148_69, if_neg w_148_256, if_neg w_148_260, if_neg w_148_288, if_neg w_148_336, if_neg w_148_337, if_pos w_148_368, hu333, mLet_eq]
                exact m_iret X hr hk V (by rw [e9]) (by rw [e9]) dX8_does_336
              by_cases w_148_369 : (v 7) = 369
              · refine lv_lookup (off := 189) (tgt := 337) hx hb dX8_does_148 (by decide +kernel) (by rw [w_148_369]; rfl) (by decide) ?_
                refine lv_aload_n hx hb dX8_does_337 rfl (lv_at hl 3 rfl) ?_
                refine lv_iload_n hx hb dX8_does_338 rfl (lv_at hl 2 rfl) ?_
                refine lv_iload_n hx hb dX8_does_339 rfl (lv_at hl 1 rfl) ?_
                refine lv_iload_n hx hb dX8_does_340 rfl (lv_at hl 0 rfl) ?_
                obtain ⟨u341, hu341⟩ : ∃ u, pX8_copies v qm qi (qo (Int32.toNatClampNeg 0)) (qo (Int32.toNatClampNeg 1)) (qo (Int32.toNatClampNeg 2)) = u := ⟨_, rfl⟩
                have hM := kX8_copies l D cB cI bd v qm ql qs qk qd qn qe qf qo qt qi qy (qo (Int32.toNatClampNeg 0)) (qo (Int32.toNatClampNeg 1)) (qo (Int32.toNatClampNeg 2))
                rw [hu341] at hM
                refine m_VA X V (w1 := (wR cB cI bd v u341.2.1 ql qs qk qd qn qe qf qo qt u341.2.2 qy)) (rest := []) (st1 := [.int u341.1]) hM okX8_copies gm_604 gm_717 gm_603 ⟨⟨rfl, rfl⟩, ⟨by decide, by decide⟩, Nat.zero_le _, Nat.zero_le _⟩ rfl rfl (wR_fst _ _ _ _ _ _ _ _ _ _ _ _ _ _ _ _) (wR_fst _ _ _ _ _ _ _ _ _ _ _ _ _ _ _ _) rfl hl.1 (Nat.le_of_ble_eq_true rfl) dX8_does_341 rfl rfl (fun H locs V => ?_)
                have e9 : pX8_does v qm qs qo qt qi qy = (u341.1, v, u341.2.1, qs, qt, u341.2.2, qy) := by rw [pX8_does, if_neg c_27, if_pos c_36, if_pos c_52, if_neg c_99, if_pos c_108, if_pos c_125, if_neg w_148_49, if_neg w_148_64, if_neg w_148_65, if_neg w_148_66, if_neg w_148_68, if_neg w_148_69, if_neg w_148_256, if_neg w_148_260, if_neg w_148_288, if_neg w_148_336, if_neg w_148_337, if_neg w_148_368, if_pos w_148_369, hu341, mLet_eq]
                exact m_iret X hr hk V (by rw [e9]) (by rw [e9]) dX8_does_344
              refine lv_lookup (off := 197) (tgt := 345) hx hb dX8_does_148 (by decide +kernel) ((lv_osw w_148_49 rfl).trans ((lv_osw w_148_64 rfl).trans ((lv_osw w_148_65 rfl).trans ((lv_osw w_148_66 rfl).trans ((lv_osw w_148_68 rfl).trans ((lv_osw w_148_69 rfl).trans ((lv_osw w_148_256 rfl).trans ((lv_osw w_148_260 rfl).trans ((lv_osw w_148_288 rfl).trans ((lv_osw w_148_336 rfl).trans ((lv_osw w_148_337 rfl).trans ((lv_osw w_148_368 rfl).trans ((lv_osw w_148_369 rfl).trans (rfl)))))))))))))) (by decide) ?_
              refine lv_iconst (v := 0) hx hb dX8_does_345 (by decide) ?_
              have e9 : pX8_does v qm qs qo qt qi qy = (0, v, qm, qs, qt, qi, qy) := by rw [pX8_does, if_neg c_27, if_pos c_36, if_pos c_52, if_neg c_99, if_pos c_108, if_pos c_125, if_neg w_148_49, if_neg w_148_64, if_neg w_148_65, if_neg w_148_66, if_neg w_148_68, if_neg w_148_69, if_neg w_148_256, if_neg w_148_260, if_neg w_148_288, if_neg w_148_336, if_neg w_148_337, if_neg w_148_368, if_neg w_148_369]
              exact m_iret X hr hk V (by rw [e9]) (by rw [e9]) dX8_does_346
            · refine lv_aload_n hx hb dX8_does_128 rfl (lv_at hl 3 rfl) ?_
              refine m_get X V 6 0 11 rfl gin_6 rfl (by decide) rfl gm_434 (v := .int (v 7)) rfl dX8_does_129 ?_
              refine lv_bipush (v := 84) hx hb dX8_does_132 (by decide) ?_
              refine lv_icmp_gt (tgt := 144) hx hb dX8_does_134 (by decide) (fun c_134 => ?_) (fun c_134 => ?_)
              · refine lv_aload_n hx hb dX8_does_144 rfl (lv_at hl 3 rfl) ?_
                refine m_get X V 6 0 11 rfl gin_6 rfl (by decide) rfl gm_434 (v := .int (v 7)) rfl dX8_does_145 ?_
                by_cases w_148_49 : (v 7) = 49
                · refine lv_lookup (off := 116) (tgt := 264) hx hb dX8_does_148 (by decide +kernel) (by rw [w_148_49]; rfl) (by decide) ?_
                  refine lv_aload_n hx hb dX8_does_264 rfl (lv_at hl 3 rfl) ?_
                  refine lv_aload_n hx hb dX8_does_265 rfl (lv_at hl 3 rfl) ?_
                  refine m_get X V 6 0 11 rfl gin_6 rfl (by decide) rfl gm_434 (v := .int (v 7)) rfl dX8_does_266 ?_
                  refine lv_bipush (v := 49) hx hb dX8_does_269 (by decide) ?_
                  refine lv_icmp_ne (tgt := 278) hx hb dX8_does_271 (by decide) (fun h => absurd w_148_49 h) (fun _ => ?_)
                  refine lv_iload_n hx hb dX8_does_274 rfl (lv_at hl 2 rfl) ?_
                  refine lv_goto (tgt := 279) hx hb dX8_does_275 (by decide) ?_
                  refine m_put X V (ws' := (wR cB cI bd (upd v 15 (qo (Int32.toNatClampNeg 0))) qm ql qs qk qd qn qe qf qo qt qi qy)) 6 0 24 rfl gin_6 tyX8_ok nmX8 rfl (by decide) rfl gm_447 rfl rfl rfl (Nat.le_of_ble_eq_true rfl) dX8_does_279 rfl (fun H locs V => ?_)
                  refine lv_aload_n hx hb dX8_does_282 rfl (lv_at hl 3 rfl) ?_
                  refine lv_iconst (v := 1) hx hb dX8_does_283 (by decide) ?_
                  refine m_put X V (ws' := (wR cB cI bd (upd (upd v 3 1) 15 (qo (Int32.toNatClampNeg 0))) qm ql qs qk qd qn qe qf qo qt qi qy)) 6 0 7 rfl gin_6 tyX8_ok nmX8 rfl (by decide) rfl gm_430 rfl rfl rfl (Nat.le_of_ble_eq_true rfl) dX8_does_284 rfl (fun H locs V => ?_)
                  refine lv_iconst (v := 0) hx hb dX8_does_287 (by decide) ?_
                  have e9 : pX8_does v qm qs qo qt qi qy = (0, (upd (upd v 3 1) 15 (qo (Int32.toNatClampNeg 0))), qm, qs, qt, qi, qy) := by rw [pX8_does, if_neg c_27, if_pos c_36, if_pos c_52, if_neg c_99, if_pos c_108, if_neg c_125, if_pos c_134, if_pos w_148_49]
                  exact m_iret X hr hk V (by rw [e9]) (by rw [e9]) dX8_does_288
                by_cases w_148_64 : (v 7) = 64
                · refine lv_lookup (off := 141) (tgt := 289) hx hb dX8_does_148 (by decide +kernel) (by rw [w_148_64]; rfl) (by decide) ?_
                  refine lv_aload_n hx hb dX8_does_289 rfl (lv_at hl 3 rfl) ?_
                  refine lv_iload_n hx hb dX8_does_290 rfl (lv_at hl 2 rfl) ?_
                  obtain ⟨u291, hu291⟩ : ∃ u, pX8_gives v (qo (Int32.toNatClampNeg 0)) = u := ⟨_, rfl⟩
                  have hM := kX8_gives l D cB cI bd v qm ql qs qk qd qn qe qf qo qt qi qy (qo (Int32.toNatClampNeg 0))
                  rw [hu291] at hM
                  refine m_VA X V (w1 := (wR cB cI bd u291.2 qm ql qs qk qd qn qe qf qo qt qi qy)) (rest := []) (st1 := [.int u291.1]) hM okX8_gives gm_553 gm_704 gm_552 ⟨⟨rfl, rfl⟩, ⟨by decide, by decide⟩, Nat.zero_le _, Nat.zero_le _⟩ rfl rfl (wR_fst _ _ _ _ _ _ _ _ _ _ _ _ _ _ _ _) (wR_fst _ _ _ _ _ _ _ _ _ _ _ _ _ _ _ _) rfl hl.1 (Nat.le_of_ble_eq_true rfl) dX8_does_291 rfl rfl (fun H locs V => ?_)
                  have e9 : pX8_does v qm qs qo qt qi qy = (u291.1, u291.2, qm, qs, qt, qi, qy) := by rw [pX8_does, if_neg c_27, if_pos c_36, if_pos c_52, if_neg c_99, if_pos c_108, if_neg c_125, if_pos c_134, if_neg w_148_49, if_pos w_148_64, hu291, mLet_eq]
                  exact m_iret X hr hk V (by rw [e9]) (by rw [e9]) dX8_does_294
                by_cases w_148_65 : (v 7) = 65
                · refine lv_lookup (off := 141) (tgt := 289) hx hb dX8_does_148 (by decide +kernel) (by rw [w_148_65]; rfl) (by decide) ?_
                  refine lv_aload_n hx hb dX8_does_289 rfl (lv_at hl 3 rfl) ?_
                  refine lv_iload_n hx hb dX8_does_290 rfl (lv_at hl 2 rfl) ?_
                  obtain ⟨u291, hu291⟩ : ∃ u, pX8_gives v (qo (Int32.toNatClampNeg 0)) = u := ⟨_, rfl⟩
                  have hM := kX8_gives l D cB cI bd v qm ql qs qk qd qn qe qf qo qt qi qy (qo (Int32.toNatClampNeg 0))
                  rw [hu291] at hM
                  refine m_VA X V (w1 := (wR cB cI bd u291.2 qm ql qs qk qd qn qe qf qo qt qi qy)) (rest := []) (st1 := [.int u291.1]) hM okX8_gives gm_553 gm_704 gm_552 ⟨⟨rfl, rfl⟩, ⟨by decide, by decide⟩, Nat.zero_le _, Nat.zero_le _⟩ rfl rfl (wR_fst _ _ _ _ _ _ _ _ _ _ _ _ _ _ _ _) (wR_fst _ _ _ _ _ _ _ _ _ _ _ _ _ _ _ _) rfl hl.1 (Nat.le_of_ble_eq_true rfl) dX8_does_291 rfl rfl (fun H locs V => ?_)
                  have e9 : pX8_does v qm qs qo qt qi qy = (u291.1, u291.2, qm, qs, qt, qi, qy) := by rw [pX8_does, if_neg c_27, if_pos c_36, if_pos c_52, if_neg c_99, if_pos c_108, if_neg c_125, if_pos c_134, if_neg w_148_49, if_neg w_148_64, if_pos w_148_65, hu291, mLet_eq]
                  exact m_iret X hr hk V (by rw [e9]) (by rw [e9]) dX8_does_294
                by_cases w_148_66 : (v 7) = 66
                · refine lv_lookup (off := 141) (tgt := 289) hx hb dX8_does_148 (by decide +kernel) (by rw [w_148_66]; rfl) (by decide) ?_
                  refine lv_aload_n hx hb dX8_does_289 rfl (lv_at hl 3 rfl) ?_
                  refine lv_iload_n hx hb dX8_does_290 rfl (lv_at hl 2 rfl) ?_
                  obtain ⟨u291, hu291⟩ : ∃ u, pX8_gives v (qo (Int32.toNatClampNeg 0)) = u := ⟨_, rfl⟩
                  have hM := kX8_gives l D cB cI bd v qm ql qs qk qd qn qe qf qo qt qi qy (qo (Int32.toNatClampNeg 0))
                  rw [hu291] at hM
                  refine m_VA X V (w1 := (wR cB cI bd u291.2 qm ql qs qk qd qn qe qf qo qt qi qy)) (rest := []) (st1 := [.int u291.1]) hM okX8_gives gm_553 gm_704 gm_552 ⟨⟨rfl, rfl⟩, ⟨by decide, by decide⟩, Nat.zero_le _, Nat.zero_le _⟩ rfl rfl (wR_fst _ _ _ _ _ _ _ _ _ _ _ _ _ _ _ _) (wR_fst _ _ _ _ _ _ _ _ _ _ _ _ _ _ _ _) rfl hl.1 (Nat.le_of_ble_eq_true rfl) dX8_does_291 rfl rfl (fun H locs V => ?_)
                  have e9 : pX8_does v qm qs qo qt qi qy = (u291.1, u291.2, qm, qs, qt, qi, qy) := by rw [pX8_does, if_neg c_27, if_pos c_36, if_pos c_52, if_neg c_99, if_pos c_108, if_neg c_125, if_pos c_134, if_neg w_148_49, if_neg w_148_64, if_neg w_148_65, if_pos w_148_66, hu291, mLet_eq]
                  exact m_iret X hr hk V (by rw [e9]) (by rw [e9]) dX8_does_294
                by_cases w_148_68 : (v 7) = 68
                · refine lv_lookup (off := 147) (tgt := 295) hx hb dX8_does_148 (by decide +kernel) (by rw [w_148_68]; rfl) (by decide) ?_
                  refine lv_aload_n hx hb dX8_does_295 rfl (lv_at hl 3 rfl) ?_
                  refine lv_iload_n hx hb dX8_does_296 rfl (lv_at hl 2 rfl) ?_
                  refine lv_i2s hx hb dX8_does_297 rfl ?_
                  obtain ⟨u298, hu298⟩ : ∃ u, pX8_gives v ((Int32.toInt16 (qo (Int32.toNatClampNeg 0))).toInt32) = u := ⟨_, rfl⟩
                  have hM := kX8_gives l D cB cI bd v qm ql qs qk qd qn qe qf qo qt qi qy ((Int32.toInt16 (qo (Int32.toNatClampNeg 0))).toInt32)
                  rw [hu298] at hM
                  refine m_VA X V (w1 := (wR cB cI bd u298.2 qm ql qs qk qd qn qe qf qo qt qi qy)) (rest := []) (st1 := [.int u298.1]) hM okX8_gives gm_553 gm_704 gm_552 ⟨⟨rfl, rfl⟩, ⟨by decide, by decide⟩, Nat.zero_le _, Nat.zero_le _⟩ rfl rfl (wR_fst _ _ _ _ _ _ _ _ _ _ _ _ _ _ _ _) (wR_fst _ _ _ _ _ _ _ _ _ _ _ _ _ _ _ _) rfl hl.1 (Nat.le_of_ble_eq_true rfl) dX8_does_298 rfl rfl (fun H locs V => ?_)
                  have e9 : pX8_does v qm qs qo qt qi qy = (u298.1, u298.2, qm, qs, qt, qi, qy) := by rw [pX8_does, if_neg c_27, if_pos c_36, if_pos c_52, if_neg c_99, if_pos c_108, if_neg c_125, if_pos c_134, if_neg w_148_49, if_neg w_148_64, if_neg w_148_65, if_neg w_148_66, if_pos w_148_68, hu298, mLet_eq]
                  exact m_iret X hr hk V (by rw [e9]) (by rw [e9]) dX8_does_301
                by_cases w_148_69 : (v 7) = 69
                · refine lv_lookup (off := 154) (tgt := 302) hx hb dX8_does_148 (by decide +kernel) (by rw [w_148_69]; rfl) (by decide) ?_
                  refine lv_aload_n hx hb dX8_does_302 rfl (lv_at hl 3 rfl) ?_
                  refine lv_iload_n hx hb dX8_does_303 rfl (lv_at hl 2 rfl) ?_
                  refine lv_i2b hx hb dX8_does_304 rfl ?_
                  obtain ⟨u305, hu305⟩ : ∃ u, pX8_gives v ((Int32.toInt8 (qo (Int32.toNatClampNeg 0))).toInt32) = u := ⟨_, rfl⟩
                  have hM := kX8_gives l D cB cI bd v qm ql qs qk qd qn qe qf qo qt qi qy ((Int32.toInt8 (qo (Int32.toNatClampNeg 0))).toInt32)
                  rw [hu305] at hM
                  refine m_VA X V (w1 := (wR cB cI bd u305.2 qm ql qs qk qd qn qe qf qo qt qi qy)) (rest := []) (st1 := [.int u305.1]) hM okX8_gives gm_553 gm_704 gm_552 ⟨⟨rfl, rfl⟩, ⟨by decide, by decide⟩, Nat.zero_le _, Nat.zero_le _⟩ rfl rfl (wR_fst _ _ _ _ _ _ _ _ _ _ _ _ _ _ _ _) (wR_fst _ _ _ _ _ _ _ _ _ _ _ _ _ _ _ _) rfl hl.1 (Nat.le_of_ble_eq_true rfl) dX8_does_305 rfl rfl (fun H locs V => ?_)
                  have e9 : pX8_does v qm qs qo qt qi qy = (u305.1, u305.2, qm, qs, qt, qi, qy) := by rw [pX8_does, if_neg c_27, if_pos c_36, if_pos c_52, if_neg c_99, if_pos c_108, if_neg c_125, if_pos c_134, if_neg w_148_49, if_neg w_148_64, if_neg w_148_65, if_neg w_148_66, if_neg w_148_68, if_pos w_148_69, hu305, mLet_eq]
                  exact m_iret X hr hk V (by rw [e9]) (by rw [e9]) dX8_does_308
                by_cases w_148_256 : (v 7) = 256
                · refine lv_lookup (off := 161) (tgt := 309) hx hb dX8_does_148 (by decide +kernel) (by rw [w_148_256]; rfl) (by decide) ?_
                  refine lv_aload_n hx hb dX8_does_309 rfl (lv_at hl 3 rfl) ?_
                  refine lv_iload_n hx hb dX8_does_310 rfl (lv_at hl 2 rfl) ?_
                  obtain ⟨u311, hu311⟩ : ∃ u, pX8_gestalt (qo (Int32.toNatClampNeg 0)) = u := ⟨_, rfl⟩
                  have hM := kX8_gestalt l D cB cI (qo (Int32.toNatClampNeg 0))
                  rw [hu311] at hM
                  refine m_S X V (rest := [.ref (bd 0)]) (st1 := [.int u311, .ref (bd 0)]) hM okX8_gestalt gm_578 gm_577 ⟨⟨rfl, rfl⟩, ⟨by decide, by decide⟩, Nat.zero_le _, Nat.zero_le _⟩ rfl hl.1 (Nat.le_of_ble_eq_true rfl) dX8_does_311 rfl rfl (fun H locs V => ?_)
                  obtain ⟨u314, hu314⟩ : ∃ u, pX8_gives v u311 = u := ⟨_, rfl⟩
                  have hM := kX8_gives l D cB cI bd v qm ql qs qk qd qn qe qf qo qt qi qy u311
                  rw [hu314] at hM
                  refine m_VA X V (w1 := (wR cB cI bd u314.2 qm ql qs qk qd qn qe qf qo qt qi qy)) (rest := []) (st1 := [.int u314.1]) hM okX8_gives gm_553 gm_704 gm_552 ⟨⟨rfl, rfl⟩, ⟨by decide, by decide⟩, Nat.zero_le _, Nat.zero_le _⟩ rfl rfl (wR_fst _ _ _ _ _ _ _ _ _ _ _ _ _ _ _ _) (wR_fst _ _ _ _ _ _ _ _ _ _ _ _ _ _ _ _) rfl hl.1 (Nat.le_of_ble_eq_true rfl) dX8_does_314 rfl rfl (fun H locs V => ?_)
                  have e9 : pX8_does v qm qs qo qt qi qy = (u314.1, u314.2, qm, qs, qt, qi, qy) := by rw [pX8_does, if_neg c_27, if_pos c_36, if_pos c_52, if_neg c_99, if_pos c_108, if_neg c_125, if_pos c_134, if_neg w_148_49, if_neg w_148_64, if_neg w_148_65, if_neg w_148_66, if_neg w_148_68, if_neg w_148_69, if_pos w_148_256, hu311, mLet_eq, hu314, mLet_eq]
                  exact m_iret X hr hk V (by rw [e9]) (by rw [e9]) dX8_does_317
                by_cases w_148_260 : (v 7) = 260
                · refine lv_lookup (off := 170) (tgt := 318) hx hb dX8_does_148 (by decide +kernel) (by rw [w_148_260]; rfl) (by decide) ?_
                  refine lv_aload_n hx hb dX8_does_318 rfl (lv_at hl 3 rfl) ?_
                  refine lv_iload_n hx hb dX8_does_319 rfl (lv_at hl 2 rfl) ?_
                  refine m_put X V (ws' := (wR cB cI bd (upd v 14 (qo (Int32.toNatClampNeg 0))) qm ql qs qk qd qn qe qf qo qt qi qy)) 6 0 23 rfl gin_6 tyX8_ok nmX8 rfl (by decide) rfl gm_446 rfl rfl rfl (Nat.le_of_ble_eq_true rfl) dX8_does_320 rfl (fun H locs V => ?_)
                  refine lv_iconst (v := 0) hx hb dX8_does_323 (by decide) ?_
                  have e9 : pX8_does v qm qs qo qt qi qy = (0, (upd v 14 (qo (Int32.toNatClampNeg 0))), qm, qs, qt, qi, qy) := by rw [pX8_does, if_neg c_27, if_pos c_36, if_pos c_52, if_neg c_99, if_pos c_108, if_neg c_125, if_pos c_134, if_neg w_148_49, if_neg w_148_64, if_neg w_148_65, if_neg w_148_66, if_neg w_148_68, if_neg w_148_69, if_neg w_148_256, if_pos w_148_260]
                  exact m_iret X hr hk V (by rw [e9]) (by rw [e9]) dX8_does_324
                by_cases w_148_288 : (v 7) = 288
                · refine lv_lookup (off := 116) (tgt := 264) hx hb dX8_does_148 (by decide +kernel) (by rw [w_148_288]; rfl) (by decide) ?_
                  refine lv_aload_n hx hb dX8_does_264 rfl (lv_at hl 3 rfl) ?_
                  refine lv_aload_n hx hb dX8_does_265 rfl (lv_at hl 3 rfl) ?_
                  refine m_get X V 6 0 11 rfl gin_6 rfl (by decide) rfl gm_434 (v := .int (v 7)) rfl dX8_does_266 ?_
                  refine lv_bipush (v := 49) hx hb dX8_does_269 (by decide) ?_
                  refine lv_icmp_ne (tgt := 278) hx hb dX8_does_271 (by decide) (fun _ => ?_) (fun h => absurd h w_148_49)
                  refine lv_iconst (v := 0) hx hb dX8_does_278 (by decide) ?_
                  refine m_put X V (ws' := (wR cB cI bd (upd v 15 0) qm ql qs qk qd qn qe qf qo qt qi qy)) 6 0 24 rfl gin_6 tyX8_ok nmX8 rfl (by decide) rfl gm_447 rfl rfl rfl (Nat.le_of_ble_eq_true rfl) dX8_does_279 rfl (fun H locs V => ?_)
                  refine lv_aload_n hx hb dX8_does_282 rfl (lv_at hl 3 rfl) ?_
                  refine lv_iconst (v := 1) hx hb dX8_does_283 (by decide) ?_
                  refine m_put X V (ws' := (wR cB cI bd (upd (upd v 3 1) 15 0) qm ql qs qk qd qn qe qf qo qt qi qy)) 6 0 7 rfl gin_6 tyX8_ok nmX8 rfl (by decide) rfl gm_430 rfl rfl rfl (Nat.le_of_ble_eq_true rfl) dX8_does_284 rfl (fun H locs V => ?_)
                  refine lv_iconst (v := 0) hx hb dX8_does_287 (by decide) ?_
                  have e9 : pX8_does v qm qs qo qt qi qy = (0, (upd (upd v 3 1) 15 0), qm, qs, qt, qi, qy) := by rw [pX8_does, if_neg c_27, if_pos c_36, if_pos c_52, if_neg c_99, if_pos c_108, if_neg c_125, if_pos c_134, if_neg w_148_49, if_neg w_148_64, if_neg w_148_65, if_neg w_148_66, if_neg w_148_68, if_neg w_148_69, if_neg w_148_256, if_neg w_148_260, if_pos w_148_288]
                  exact m_iret X hr hk V (by rw [e9]) (by rw [e9]) dX8_does_288
                by_cases w_148_336 : (v 7) = 336
                · refine lv_lookup (off := 177) (tgt := 325) hx hb dX8_does_148 (by decide +kernel) (by rw [w_148_336]; rfl) (by decide) ?_
                  refine lv_aload_n hx hb dX8_does_325 rfl (lv_at hl 3 rfl) ?_
                  obtain ⟨u326, hu326⟩ : ∃ u, pX8_searches v qm qo qy = u := ⟨_, rfl⟩
                  have hM := kX8_searches l D cB cI bd v qm ql qs qk qd qn qe qf qo qt qi qy
                  rw [hu326] at hM
                  refine m_VA X V (w1 := (wR cB cI bd u326.2.1 qm ql qs qk qd qn qe qf qo qt qi u326.2.2)) (rest := []) (st1 := [.int u326.1]) hM okX8_searches gm_583 gm_710 gm_582 ⟨⟨rfl, rfl⟩, ⟨by decide, by decide⟩, Nat.zero_le _, Nat.zero_le _⟩ rfl rfl (wR_fst _ _ _ _ _ _ _ _ _ _ _ _ _ _ _ _) (wR_fst _ _ _ _ _ _ _ _ _ _ _ _ _ _ _ _) rfl hl.1 (Nat.le_of_ble_eq_true rfl) dX8_does_326 rfl rfl (fun H locs V => ?_)
                  have e9 : pX8_does v qm qs qo qt qi qy = (u326.1, u326.2.1, qm, qs, qt, qi, u326.2.2) := by rw [pX8_does, if_neg c_27, if_pos c_36, if_pos c_52, if_neg c_99, if_pos c_108, if_neg c_125, if_pos c_134, if_neg w_148_49, if_neg w_148_64, if_neg w_148_65, if_neg w_148_66, if_neg w_148_68, if_neg w_148_69, if_neg w_148_256, if_neg w_148_260, if_neg w_148_288, if_pos w_148_336, hu326, mLet_eq]
                  exact m_iret X hr hk V (by rw [e9]) (by rw [e9]) dX8_does_329
                by_cases w_148_337 : (v 7) = 337
                · refine lv_lookup (off := 177) (tgt := 325) hx hb dX8_does_148 (by decide +kernel) (by rw [w_148_337]; rfl) (by decide) ?_
                  refine lv_aload_n hx hb dX8_does_325 rfl (lv_at hl 3 rfl) ?_
                  obtain ⟨u326, hu326⟩ : ∃ u, pX8_searches v qm qo qy = u := ⟨_, rfl⟩
                  have hM := kX8_searches l D cB cI bd v qm ql qs qk qd qn qe qf qo qt qi qy
                  rw [hu326] at hM
                  refine m_VA X V (w1 := (wR cB cI bd u326.2.1 qm ql qs qk qd qn qe qf qo qt qi u326.2.2)) (rest := []) (st1 := [.int u326.1]) hM okX8_searches gm_583 gm_710 gm_582 ⟨⟨rfl, rfl⟩, ⟨by decide, by decide⟩, Nat.zero_le _, Nat.zero_le _⟩ rfl rfl (wR_fst _ _ _ _ _ _ _ _ _ _ _ _ _ _ _ _) (wR_fst _ _ _ _ _ _ _ _ _ _ _ _ _ _ _ _) rfl hl.1 (Nat.le_of_ble_eq_true rfl) dX8_does_326 rfl rfl (fun H locs V => ?_)
                  have e9 : pX8_does v qm qs qo qt qi qy = (u326.1, u326.2.1, qm, qs, qt, qi, u326.2.2) := by rw [pX8_does, if_neg c_27, if_pos c_36, if_pos c_52, if_neg c_99, if_pos c_108, if_neg c_125, if_pos c_134, if_neg w_148_49, if_neg w_148_64, if_neg w_148_65, if_neg w_148_66, if_neg w_148_68, if_neg w_148_69, if_neg w_148_256, if_neg w_148_260, if_neg w_148_288, if_neg w_148_336, if_pos w_148_337, hu326, mLet_eq]
                  exact m_iret X hr hk V (by rw [e9]) (by rw [e9]) dX8_does_329
                by_cases w_148_368 : (v 7) = 368
                · refine lv_lookup (off := 182) (tgt := 330) hx hb dX8_does_148 (by decide +kernel) (by rw [w_148_368]; rfl) (by decide) ?_
                  refine lv_aload_n hx hb dX8_does_330 rfl (lv_at hl 3 rfl) ?_
                  refine lv_iload_n hx hb dX8_does_331 rfl (lv_at hl 2 rfl) ?_
                  refine lv_iload_n hx hb dX8_does_332 rfl (lv_at hl 1 rfl) ?_
                  obtain ⟨u333, hu333⟩ : ∃ u, pX8_clears v qm (qo (Int32.toNatClampNeg 0)) (qo (Int32.toNatClampNeg 1)) = u := ⟨_, rfl⟩
                  have hM := kX8_clears l D cB cI bd v qm ql qs qk qd qn qe qf qo qt qi qy (qo (Int32.toNatClampNeg 0)) (qo (Int32.toNatClampNeg 1))
                  rw [hu333] at hM
                  refine m_VA X V (w1 := (wR cB cI bd v u333.2 ql qs qk qd qn qe qf qo qt qi qy)) (rest := []) (st1 := [.int u333.1]) hM okX8_clears gm_601 gm_716 gm_600 ⟨⟨rfl, rfl⟩, ⟨by decide, by decide⟩, Nat.zero_le _, Nat.zero_le _⟩ rfl rfl (wR_fst _ _ _ _ _ _ _ _ _ _ _ _ _ _ _ _) (wR_fst _ _ _ _ _ _ _ _ _ _ _ _ _ _ _ _) rfl hl.1 (Nat.le_of_ble_eq_true rfl) dX8_does_333 rfl rfl (fun H locs V => ?_)
                  have e9 : pX8_does v qm qs qo qt qi qy = (u333.1, v, u333.2, qs, qt, qi, qy) := by rw [pX8_does, if_neg c_27, if_pos c_36, if_pos c_52, if_neg c_99, if_pos c_108, if_neg c_125, if_pos c_134, if_neg w_148_49, if_neg w_148_64, if_neg w_148_65, if_neg w_148_66, if_neg w_148_68, if_neg w_148_69, if_neg w_148_256, if_neg w_148_260, if_neg w_148_288, if_neg w_148_336, if_neg w_148_337, if_pos w_148_368, hu333, mLet_eq]
                  exact m_iret X hr hk V (by rw [e9]) (by rw [e9]) dX8_does_336
                by_cases w_148_369 : (v 7) = 369
                · refine lv_lookup (off := 189) (tgt := 337) hx hb dX8_does_148 (by decide +kernel) (by rw [w_148_369]; rfl) (by decide) ?_
                  refine lv_aload_n hx hb dX8_does_337 rfl (lv_at hl 3 rfl) ?_
                  refine lv_iload_n hx hb dX8_does_338 rfl (lv_at hl 2 rfl) ?_
                  refine lv_iload_n hx hb dX8_does_339 rfl (lv_at hl 1 rfl) ?_
                  refine lv_iload_n hx hb dX8_does_340 rfl (lv_at hl 0 rfl) ?_
                  obtain ⟨u341, hu341⟩ : ∃ u, pX8_copies v qm qi (qo (Int32.toNatClampNeg 0)) (qo (Int32.toNatClampNeg 1)) (qo (Int32.toNatClampNeg 2)) = u := ⟨_, rfl⟩
                  have hM := kX8_copies l D cB cI bd v qm ql qs qk qd qn qe qf qo qt qi qy (qo (Int32.toNatClampNeg 0)) (qo (Int32.toNatClampNeg 1)) (qo (Int32.toNatClampNeg 2))
                  rw [hu341] at hM
                  refine m_VA X V (w1 := (wR cB cI bd v u341.2.1 ql qs qk qd qn qe qf qo qt u341.2.2 qy)) (rest := []) (st1 := [.int u341.1]) hM okX8_copies gm_604 gm_717 gm_603 ⟨⟨rfl, rfl⟩, ⟨by decide, by decide⟩, Nat.zero_le _, Nat.zero_le _⟩ rfl rfl (wR_fst _ _ _ _ _ _ _ _ _ _ _ _ _ _ _ _) (wR_fst _ _ _ _ _ _ _ _ _ _ _ _ _ _ _ _) rfl hl.1 (Nat.le_of_ble_eq_true rfl) dX8_does_341 rfl rfl (fun H locs V => ?_)
                  have e9 : pX8_does v qm qs qo qt qi qy = (u341.1, v, u341.2.1, qs, qt, u341.2.2, qy) := by rw [pX8_does, if_neg c_27, if_pos c_36, if_pos c_52, if_neg c_99, if_pos c_108, if_neg c_125, if_pos c_134, if_neg w_148_49, if_neg w_148_64, if_neg w_148_65, if_neg w_148_66, if_neg w_148_68, if_neg w_148_69, if_neg w_148_256, if_neg w_148_260, if_neg w_148_288, if_neg w_148_336, if_neg w_148_337, if_neg w_148_368, if_pos w_148_369, hu341, mLet_eq]
                  exact m_iret X hr hk V (by rw [e9]) (by rw [e9]) dX8_does_344
                refine lv_lookup (off := 197) (tgt := 345) hx hb dX8_does_148 (by decide +kernel) ((lv_osw w_148_49 rfl).trans ((lv_osw w_148_64 rfl).trans ((lv_osw w_148_65 rfl).trans ((lv_osw w_148_66 rfl).trans ((lv_osw w_148_68 rfl).trans ((lv_osw w_148_69 rfl).trans ((lv_osw w_148_256 rfl).trans ((lv_osw w_148_260 rfl).trans ((lv_osw w_148_288 rfl).trans ((lv_osw w_148_336 rfl).trans ((lv_osw w_148_337 rfl).trans ((lv_osw w_148_368 rfl).trans ((lv_osw w_148_369 rfl).trans (rfl)))))))))))))) (by decide) ?_
                refine lv_iconst (v := 0) hx hb dX8_does_345 (by decide) ?_
                have e9 : pX8_does v qm qs qo qt qi qy = (0, v, qm, qs, qt, qi, qy) := by rw [pX8_does, if_neg c_27, if_pos c_36, if_pos c_52, if_neg c_99, if_pos c_108, if_neg c_125, if_pos c_134, if_neg w_148_49, if_neg w_148_64, if_neg w_148_65, if_neg w_148_66, if_neg w_148_68, if_neg w_148_69, if_neg w_148_256, if_neg w_148_260, if_neg w_148_288, if_neg w_148_336, if_neg w_148_337, if_neg w_148_368, if_neg w_148_369]
                exact m_iret X hr hk V (by rw [e9]) (by rw [e9]) dX8_does_346
              · refine lv_aload_n hx hb dX8_does_137 rfl (lv_at hl 3 rfl) ?_
                refine lv_iload_n hx hb dX8_does_138 rfl (lv_at hl 2 rfl) ?_
                refine lv_iload_n hx hb dX8_does_139 rfl (lv_at hl 1 rfl) ?_
                obtain ⟨u140, hu140⟩ : ∃ u, pX8_onStack v qs qt (qo (Int32.toNatClampNeg 0)) (qo (Int32.toNatClampNeg 1)) = u := ⟨_, rfl⟩
                have hM := kX8_onStack l D cB cI bd v qm ql qs qk qd qn qe qf qo qt qi qy (qo (Int32.toNatClampNeg 0)) (qo (Int32.toNatClampNeg 1)) (show 0 ≤ Int32.toInt (v 0) ∧ Int32.toInt (v 0) ≤ 40 by omega)
                rw [hu140] at hM
                refine m_VA X V (w1 := (wR cB cI bd u140.2.1 qm ql u140.2.2.1 qk qd qn qe qf qo u140.2.2.2 qi qy)) (rest := []) (st1 := [.int u140.1]) hM okX8_onStack gm_572 gm_708 gm_571 ⟨⟨rfl, rfl⟩, ⟨by decide, by decide⟩, Nat.zero_le _, Nat.zero_le _⟩ rfl rfl (wR_fst _ _ _ _ _ _ _ _ _ _ _ _ _ _ _ _) (wR_fst _ _ _ _ _ _ _ _ _ _ _ _ _ _ _ _) rfl hl.1 (Nat.le_of_ble_eq_true rfl) dX8_does_140 rfl rfl (fun H locs V => ?_)
                have e9 : pX8_does v qm qs qo qt qi qy = (u140.1, u140.2.1, qm, u140.2.2.1, u140.2.2.2, qi, qy) := by rw [pX8_does, if_neg c_27, if_pos c_36, if_pos c_52, if_neg c_99, if_pos c_108, if_neg c_125, if_neg c_134, hu140, mLet_eq]
                exact m_iret X hr hk V (by rw [e9]) (by rw [e9]) dX8_does_143
          · refine lv_aload_n hx hb dX8_does_111 rfl (lv_at hl 3 rfl) ?_
            refine lv_iload_n hx hb dX8_does_112 rfl (lv_at hl 2 rfl) ?_
            refine lv_iload_n hx hb dX8_does_113 rfl (lv_at hl 1 rfl) ?_
            refine lv_iload_n hx hb dX8_does_114 rfl (lv_at hl 0 rfl) ?_
            obtain ⟨u115, hu115⟩ : ∃ u, pX8_items v qm (qo (Int32.toNatClampNeg 0)) (qo (Int32.toNatClampNeg 1)) (qo (Int32.toNatClampNeg 2)) = u := ⟨_, rfl⟩
            have hM := kX8_items l D cB cI bd v qm ql qs qk qd qn qe qf qo qt qi qy (qo (Int32.toNatClampNeg 0)) (qo (Int32.toNatClampNeg 1)) (qo (Int32.toNatClampNeg 2))
            rw [hu115] at hM
            refine m_VA X V (w1 := (wR cB cI bd u115.2.1 u115.2.2 ql qs qk qd qn qe qf qo qt qi qy)) (rest := []) (st1 := [.int u115.1]) hM okX8_items gm_566 gm_706 gm_565 ⟨⟨rfl, rfl⟩, ⟨by decide, by decide⟩, Nat.zero_le _, Nat.zero_le _⟩ rfl rfl (wR_fst _ _ _ _ _ _ _ _ _ _ _ _ _ _ _ _) (wR_fst _ _ _ _ _ _ _ _ _ _ _ _ _ _ _ _) rfl hl.1 (Nat.le_of_ble_eq_true rfl) dX8_does_115 rfl rfl (fun H locs V => ?_)
            have e9 : pX8_does v qm qs qo qt qi qy = (u115.1, u115.2.1, u115.2.2, qs, qt, qi, qy) := by rw [pX8_does, if_neg c_27, if_pos c_36, if_pos c_52, if_neg c_99, if_neg c_108, hu115, mLet_eq]
            exact m_iret X hr hk V (by rw [e9]) (by rw [e9]) dX8_does_118
      · refine lv_aload_n hx hb dX8_does_55 rfl (lv_at hl 3 rfl) ?_
        refine m_get X V 6 0 11 rfl gin_6 rfl (by decide) rfl gm_434 (v := .int (v 7)) rfl dX8_does_56 ?_
        refine lv_bipush (v := 45) hx hb dX8_does_59 (by decide) ?_
        refine lv_icmp_gt (tgt := 93) hx hb dX8_does_61 (by decide) (fun c_61 => ?_) (fun c_61 => ?_)
        · refine lv_aload_n hx hb dX8_does_93 rfl (lv_at hl 3 rfl) ?_
          refine m_get X V 6 0 11 rfl gin_6 rfl (by decide) rfl gm_434 (v := .int (v 7)) rfl dX8_does_94 ?_
          refine lv_bipush (v := 72) hx hb dX8_does_97 (by decide) ?_
          refine lv_icmp_lt (tgt := 119) hx hb dX8_does_99 (by decide) (fun c_99 => ?_) (fun c_99 => ?_)
          · refine lv_aload_n hx hb dX8_does_119 rfl (lv_at hl 3 rfl) ?_
            refine m_get X V 6 0 11 rfl gin_6 rfl (by decide) rfl gm_434 (v := .int (v 7)) rfl dX8_does_120 ?_
            refine lv_bipush (v := 80) hx hb dX8_does_123 (by decide) ?_
            refine lv_icmp_lt (tgt := 144) hx hb dX8_does_125 (by decide) (fun c_125 => ?_) (fun c_125 => ?_)
            · refine lv_aload_n hx hb dX8_does_144 rfl (lv_at hl 3 rfl) ?_
              refine m_get X V 6 0 11 rfl gin_6 rfl (by decide) rfl gm_434 (v := .int (v 7)) rfl dX8_does_145 ?_
              by_cases w_148_49 : (v 7) = 49
              · refine lv_lookup (off := 116) (tgt := 264) hx hb dX8_does_148 (by decide +kernel) (by rw [w_148_49]; rfl) (by decide) ?_
                refine lv_aload_n hx hb dX8_does_264 rfl (lv_at hl 3 rfl) ?_
                refine lv_aload_n hx hb dX8_does_265 rfl (lv_at hl 3 rfl) ?_
                refine m_get X V 6 0 11 rfl gin_6 rfl (by decide) rfl gm_434 (v := .int (v 7)) rfl dX8_does_266 ?_
                refine lv_bipush (v := 49) hx hb dX8_does_269 (by decide) ?_
                refine lv_icmp_ne (tgt := 278) hx hb dX8_does_271 (by decide) (fun h => absurd w_148_49 h) (fun _ => ?_)
                refine lv_iload_n hx hb dX8_does_274 rfl (lv_at hl 2 rfl) ?_
                refine lv_goto (tgt := 279) hx hb dX8_does_275 (by decide) ?_
                refine m_put X V (ws' := (wR cB cI bd (upd v 15 (qo (Int32.toNatClampNeg 0))) qm ql qs qk qd qn qe qf qo qt qi qy)) 6 0 24 rfl gin_6 tyX8_ok nmX8 rfl (by decide) rfl gm_447 rfl rfl rfl (Nat.le_of_ble_eq_true rfl) dX8_does_279 rfl (fun H locs V => ?_)
                refine lv_aload_n hx hb dX8_does_282 rfl (lv_at hl 3 rfl) ?_
                refine lv_iconst (v := 1) hx hb dX8_does_283 (by decide) ?_
                refine m_put X V (ws' := (wR cB cI bd (upd (upd v 3 1) 15 (qo (Int32.toNatClampNeg 0))) qm ql qs qk qd qn qe qf qo qt qi qy)) 6 0 7 rfl gin_6 tyX8_ok nmX8 rfl (by decide) rfl gm_430 rfl rfl rfl (Nat.le_of_ble_eq_true rfl) dX8_does_284 rfl (fun H locs V => ?_)
                refine lv_iconst (v := 0) hx hb dX8_does_287 (by decide) ?_
                have e9 : pX8_does v qm qs qo qt qi qy = (0, (upd (upd v 3 1) 15 (qo (Int32.toNatClampNeg 0))), qm, qs, qt, qi, qy) := by rw [pX8_does, if_neg c_27, if_pos c_36, if_neg c_52, if_pos c_61, if_pos c_99, if_pos c_125, if_pos w_148_49]
                exact m_iret X hr hk V (by rw [e9]) (by rw [e9]) dX8_does_288
              by_cases w_148_64 : (v 7) = 64
              · refine lv_lookup (off := 141) (tgt := 289) hx hb dX8_does_148 (by decide +kernel) (by rw [w_148_64]; rfl) (by decide) ?_
                refine lv_aload_n hx hb dX8_does_289 rfl (lv_at hl 3 rfl) ?_
                refine lv_iload_n hx hb dX8_does_290 rfl (lv_at hl 2 rfl) ?_
                obtain ⟨u291, hu291⟩ : ∃ u, pX8_gives v (qo (Int32.toNatClampNeg 0)) = u := ⟨_, rfl⟩
                have hM := kX8_gives l D cB cI bd v qm ql qs qk qd qn qe qf qo qt qi qy (qo (Int32.toNatClampNeg 0))
                rw [hu291] at hM
                refine m_VA X V (w1 := (wR cB cI bd u291.2 qm ql qs qk qd qn qe qf qo qt qi qy)) (rest := []) (st1 := [.int u291.1]) hM okX8_gives gm_553 gm_704 gm_552 ⟨⟨rfl, rfl⟩, ⟨by decide, by decide⟩, Nat.zero_le _, Nat.zero_le _⟩ rfl rfl (wR_fst _ _ _ _ _ _ _ _ _ _ _ _ _ _ _ _) (wR_fst _ _ _ _ _ _ _ _ _ _ _ _ _ _ _ _) rfl hl.1 (Nat.le_of_ble_eq_true rfl) dX8_does_291 rfl rfl (fun H locs V => ?_)
                have e9 : pX8_does v qm qs qo qt qi qy = (u291.1, u291.2, qm, qs, qt, qi, qy) := by rw [pX8_does, if_neg c_27, if_pos c_36, if_neg c_52, if_pos c_61, if_pos c_99, if_pos c_125, if_neg w_148_49, if_pos w_148_64, hu291, mLet_eq]
                exact m_iret X hr hk V (by rw [e9]) (by rw [e9]) dX8_does_294
              by_cases w_148_65 : (v 7) = 65
              · refine lv_lookup (off := 141) (tgt := 289) hx hb dX8_does_148 (by decide +kernel) (by rw [w_148_65]; rfl) (by decide) ?_
                refine lv_aload_n hx hb dX8_does_289 rfl (lv_at hl 3 rfl) ?_
                refine lv_iload_n hx hb dX8_does_290 rfl (lv_at hl 2 rfl) ?_
                obtain ⟨u291, hu291⟩ : ∃ u, pX8_gives v (qo (Int32.toNatClampNeg 0)) = u := ⟨_, rfl⟩
                have hM := kX8_gives l D cB cI bd v qm ql qs qk qd qn qe qf qo qt qi qy (qo (Int32.toNatClampNeg 0))
                rw [hu291] at hM
                refine m_VA X V (w1 := (wR cB cI bd u291.2 qm ql qs qk qd qn qe qf qo qt qi qy)) (rest := []) (st1 := [.int u291.1]) hM okX8_gives gm_553 gm_704 gm_552 ⟨⟨rfl, rfl⟩, ⟨by decide, by decide⟩, Nat.zero_le _, Nat.zero_le _⟩ rfl rfl (wR_fst _ _ _ _ _ _ _ _ _ _ _ _ _ _ _ _) (wR_fst _ _ _ _ _ _ _ _ _ _ _ _ _ _ _ _) rfl hl.1 (Nat.le_of_ble_eq_true rfl) dX8_does_291 rfl rfl (fun H locs V => ?_)
                have e9 : pX8_does v qm qs qo qt qi qy = (u291.1, u291.2, qm, qs, qt, qi, qy) := by rw [pX8_does, if_neg c_27, if_pos c_36, if_neg c_52, if_pos c_61, if_pos c_99, if_pos c_125, if_neg w_148_49, if_neg w_148_64, if_pos w_148_65, hu291, mLet_eq]
                exact m_iret X hr hk V (by rw [e9]) (by rw [e9]) dX8_does_294
              by_cases w_148_66 : (v 7) = 66
              · refine lv_lookup (off := 141) (tgt := 289) hx hb dX8_does_148 (by decide +kernel) (by rw [w_148_66]; rfl) (by decide) ?_
                refine lv_aload_n hx hb dX8_does_289 rfl (lv_at hl 3 rfl) ?_
                refine lv_iload_n hx hb dX8_does_290 rfl (lv_at hl 2 rfl) ?_
                obtain ⟨u291, hu291⟩ : ∃ u, pX8_gives v (qo (Int32.toNatClampNeg 0)) = u := ⟨_, rfl⟩
                have hM := kX8_gives l D cB cI bd v qm ql qs qk qd qn qe qf qo qt qi qy (qo (Int32.toNatClampNeg 0))
                rw [hu291] at hM
                refine m_VA X V (w1 := (wR cB cI bd u291.2 qm ql qs qk qd qn qe qf qo qt qi qy)) (rest := []) (st1 := [.int u291.1]) hM okX8_gives gm_553 gm_704 gm_552 ⟨⟨rfl, rfl⟩, ⟨by decide, by decide⟩, Nat.zero_le _, Nat.zero_le _⟩ rfl rfl (wR_fst _ _ _ _ _ _ _ _ _ _ _ _ _ _ _ _) (wR_fst _ _ _ _ _ _ _ _ _ _ _ _ _ _ _ _) rfl hl.1 (Nat.le_of_ble_eq_true rfl) dX8_does_291 rfl rfl (fun H locs V => ?_)
                have e9 : pX8_does v qm qs qo qt qi qy = (u291.1, u291.2, qm, qs, qt, qi, qy) := by rw [pX8_does, if_neg c_27, if_pos c_36, if_neg c_52, if_pos c_61, if_pos c_99, if_pos c_125, if_neg w_148_49, if_neg w_148_64, if_neg w_148_65, if_pos w_148_66, hu291, mLet_eq]
                exact m_iret X hr hk V (by rw [e9]) (by rw [e9]) dX8_does_294
              by_cases w_148_68 : (v 7) = 68
              · refine lv_lookup (off := 147) (tgt := 295) hx hb dX8_does_148 (by decide +kernel) (by rw [w_148_68]; rfl) (by decide) ?_
                refine lv_aload_n hx hb dX8_does_295 rfl (lv_at hl 3 rfl) ?_
                refine lv_iload_n hx hb dX8_does_296 rfl (lv_at hl 2 rfl) ?_
                refine lv_i2s hx hb dX8_does_297 rfl ?_
                obtain ⟨u298, hu298⟩ : ∃ u, pX8_gives v ((Int32.toInt16 (qo (Int32.toNatClampNeg 0))).toInt32) = u := ⟨_, rfl⟩
                have hM := kX8_gives l D cB cI bd v qm ql qs qk qd qn qe qf qo qt qi qy ((Int32.toInt16 (qo (Int32.toNatClampNeg 0))).toInt32)
                rw [hu298] at hM
                refine m_VA X V (w1 := (wR cB cI bd u298.2 qm ql qs qk qd qn qe qf qo qt qi qy)) (rest := []) (st1 := [.int u298.1]) hM okX8_gives gm_553 gm_704 gm_552 ⟨⟨rfl, rfl⟩, ⟨by decide, by decide⟩, Nat.zero_le _, Nat.zero_le _⟩ rfl rfl (wR_fst _ _ _ _ _ _ _ _ _ _ _ _ _ _ _ _) (wR_fst _ _ _ _ _ _ _ _ _ _ _ _ _ _ _ _) rfl hl.1 (Nat.le_of_ble_eq_true rfl) dX8_does_298 rfl rfl (fun H locs V => ?_)
                have e9 : pX8_does v qm qs qo qt qi qy = (u298.1, u298.2, qm, qs, qt, qi, qy) := by rw [pX8_does, if_neg c_27, if_pos c_36, if_neg c_52, if_pos c_61, if_pos c_99, if_pos c_125, if_neg w_148_49, if_neg w_148_64, if_neg w_148_65, if_neg w_148_66, if_pos w_148_68, hu298, mLet_eq]
                exact m_iret X hr hk V (by rw [e9]) (by rw [e9]) dX8_does_301
              by_cases w_148_69 : (v 7) = 69
              · refine lv_lookup (off := 154) (tgt := 302) hx hb dX8_does_148 (by decide +kernel) (by rw [w_148_69]; rfl) (by decide) ?_
                refine lv_aload_n hx hb dX8_does_302 rfl (lv_at hl 3 rfl) ?_
                refine lv_iload_n hx hb dX8_does_303 rfl (lv_at hl 2 rfl) ?_
                refine lv_i2b hx hb dX8_does_304 rfl ?_
                obtain ⟨u305, hu305⟩ : ∃ u, pX8_gives v ((Int32.toInt8 (qo (Int32.toNatClampNeg 0))).toInt32) = u := ⟨_, rfl⟩
                have hM := kX8_gives l D cB cI bd v qm ql qs qk qd qn qe qf qo qt qi qy ((Int32.toInt8 (qo (Int32.toNatClampNeg 0))).toInt32)
                rw [hu305] at hM
                refine m_VA X V (w1 := (wR cB cI bd u305.2 qm ql qs qk qd qn qe qf qo qt qi qy)) (rest := []) (st1 := [.int u305.1]) hM okX8_gives gm_553 gm_704 gm_552 ⟨⟨rfl, rfl⟩, ⟨by decide, by decide⟩, Nat.zero_le _, Nat.zero_le _⟩ rfl rfl (wR_fst _ _ _ _ _ _ _ _ _ _ _ _ _ _ _ _) (wR_fst _ _ _ _ _ _ _ _ _ _ _ _ _ _ _ _) rfl hl.1 (Nat.le_of_ble_eq_true rfl) dX8_does_305 rfl rfl (fun H locs V => ?_)
                have e9 : pX8_does v qm qs qo qt qi qy = (u305.1, u305.2, qm, qs, qt, qi, qy) := by rw [pX8_does, if_neg c_27, if_pos c_36, if_neg c_52, if_pos c_61, if_pos c_99, if_pos c_125, if_neg w_148_49, if_neg w_148_64, if_neg w_148_65, if_neg w_148_66, if_neg w_148_68, if_pos w_148_69, hu305, mLet_eq]
                exact m_iret X hr hk V (by rw [e9]) (by rw [e9]) dX8_does_308
              by_cases w_148_256 : (v 7) = 256
              · refine lv_lookup (off := 161) (tgt := 309) hx hb dX8_does_148 (by decide +kernel) (by rw [w_148_256]; rfl) (by decide) ?_
                refine lv_aload_n hx hb dX8_does_309 rfl (lv_at hl 3 rfl) ?_
                refine lv_iload_n hx hb dX8_does_310 rfl (lv_at hl 2 rfl) ?_
                obtain ⟨u311, hu311⟩ : ∃ u, pX8_gestalt (qo (Int32.toNatClampNeg 0)) = u := ⟨_, rfl⟩
                have hM := kX8_gestalt l D cB cI (qo (Int32.toNatClampNeg 0))
                rw [hu311] at hM
                refine m_S X V (rest := [.ref (bd 0)]) (st1 := [.int u311, .ref (bd 0)]) hM okX8_gestalt gm_578 gm_577 ⟨⟨rfl, rfl⟩, ⟨by decide, by decide⟩, Nat.zero_le _, Nat.zero_le _⟩ rfl hl.1 (Nat.le_of_ble_eq_true rfl) dX8_does_311 rfl rfl (fun H locs V => ?_)
                obtain ⟨u314, hu314⟩ : ∃ u, pX8_gives v u311 = u := ⟨_, rfl⟩
                have hM := kX8_gives l D cB cI bd v qm ql qs qk qd qn qe qf qo qt qi qy u311
                rw [hu314] at hM
                refine m_VA X V (w1 := (wR cB cI bd u314.2 qm ql qs qk qd qn qe qf qo qt qi qy)) (rest := []) (st1 := [.int u314.1]) hM okX8_gives gm_553 gm_704 gm_552 ⟨⟨rfl, rfl⟩, ⟨by decide, by decide⟩, Nat.zero_le _, Nat.zero_le _⟩ rfl rfl (wR_fst _ _ _ _ _ _ _ _ _ _ _ _ _ _ _ _) (wR_fst _ _ _ _ _ _ _ _ _ _ _ _ _ _ _ _) rfl hl.1 (Nat.le_of_ble_eq_true rfl) dX8_does_314 rfl rfl (fun H locs V => ?_)
                have e9 : pX8_does v qm qs qo qt qi qy = (u314.1, u314.2, qm, qs, qt, qi, qy) := by rw [pX8_does, if_neg c_27, if_pos c_36, if_neg c_52, if_pos c_61, if_pos c_99, if_pos c_125, if_neg w_148_49, if_neg w_148_64, if_neg w_148_65, if_neg w_148_66, if_neg w_148_68, if_neg w_148_69, if_pos w_148_256, hu311, mLet_eq, hu314, mLet_eq]
                exact m_iret X hr hk V (by rw [e9]) (by rw [e9]) dX8_does_317
              by_cases w_148_260 : (v 7) = 260
              · refine lv_lookup (off := 170) (tgt := 318) hx hb dX8_does_148 (by decide +kernel) (by rw [w_148_260]; rfl) (by decide) ?_
                refine lv_aload_n hx hb dX8_does_318 rfl (lv_at hl 3 rfl) ?_
                refine lv_iload_n hx hb dX8_does_319 rfl (lv_at hl 2 rfl) ?_
                refine m_put X V (ws' := (wR cB cI bd (upd v 14 (qo (Int32.toNatClampNeg 0))) qm ql qs qk qd qn qe qf qo qt qi qy)) 6 0 23 rfl gin_6 tyX8_ok nmX8 rfl (by decide) rfl gm_446 rfl rfl rfl (Nat.le_of_ble_eq_true rfl) dX8_does_320 rfl (fun H locs V => ?_)
                refine lv_iconst (v := 0) hx hb dX8_does_323 (by decide) ?_
                have e9 : pX8_does v qm qs qo qt qi qy = (0, (upd v 14 (qo (Int32.toNatClampNeg 0))), qm, qs, qt, qi, qy) := by rw [pX8_does, if_neg c_27, if_pos c_36, if_neg c_52, if_pos c_61, if_pos c_99, if_pos c_125, if_neg w_148_49, if_neg w_148_64, if_neg w_148_65, if_neg w_148_66, if_neg w_148_68, if_neg w_148_69, if_neg w_148_256, if_pos w_148_260]
                exact m_iret X hr hk V (by rw [e9]) (by rw [e9]) dX8_does_324
              by_cases w_148_288 : (v 7) = 288
              · refine lv_lookup (off := 116) (tgt := 264) hx hb dX8_does_148 (by decide +kernel) (by rw [w_148_288]; rfl) (by decide) ?_
                refine lv_aload_n hx hb dX8_does_264 rfl (lv_at hl 3 rfl) ?_
                refine lv_aload_n hx hb dX8_does_265 rfl (lv_at hl 3 rfl) ?_
                refine m_get X V 6 0 11 rfl gin_6 rfl (by decide) rfl gm_434 (v := .int (v 7)) rfl dX8_does_266 ?_
                refine lv_bipush (v := 49) hx hb dX8_does_269 (by decide) ?_
                refine lv_icmp_ne (tgt := 278) hx hb dX8_does_271 (by decide) (fun _ => ?_) (fun h => absurd h w_148_49)
                refine lv_iconst (v := 0) hx hb dX8_does_278 (by decide) ?_
                refine m_put X V (ws' := (wR cB cI bd (upd v 15 0) qm ql qs qk qd qn qe qf qo qt qi qy)) 6 0 24 rfl gin_6 tyX8_ok nmX8 rfl (by decide) rfl gm_447 rfl rfl rfl (Nat.le_of_ble_eq_true rfl) dX8_does_279 rfl (fun H locs V => ?_)
                refine lv_aload_n hx hb dX8_does_282 rfl (lv_at hl 3 rfl) ?_
                refine lv_iconst (v := 1) hx hb dX8_does_283 (by decide) ?_
                refine m_put X V (ws' := (wR cB cI bd (upd (upd v 3 1) 15 0) qm ql qs qk qd qn qe qf qo qt qi qy)) 6 0 7 rfl gin_6 tyX8_ok nmX8 rfl (by decide) rfl gm_430 rfl rfl rfl (Nat.le_of_ble_eq_true rfl) dX8_does_284 rfl (fun H locs V => ?_)
                refine lv_iconst (v := 0) hx hb dX8_does_287 (by decide) ?_
                have e9 : pX8_does v qm qs qo qt qi qy = (0, (upd (upd v 3 1) 15 0), qm, qs, qt, qi, qy) := by rw [pX8_does, if_neg c_27, if_pos c_36, if_neg c_52, if_pos c_61, if_pos c_99, if_pos c_125, if_neg w_148_49, if_neg w_148_64, if_neg w_148_65, if_neg w_148_66, if_neg w_148_68, if_neg w_148_69, if_neg w_148_256, if_neg w_148_260, if_pos w_148_288]
                exact m_iret X hr hk V (by rw [e9]) (by rw [e9]) dX8_does_288
              by_cases w_148_336 : (v 7) = 336
              · refine lv_lookup (off := 177) (tgt := 325) hx hb dX8_does_148 (by decide +kernel) (by rw [w_148_336]; rfl) (by decide) ?_
                refine lv_aload_n hx hb dX8_does_325 rfl (lv_at hl 3 rfl) ?_
                obtain ⟨u326, hu326⟩ : ∃ u, pX8_searches v qm qo qy = u := ⟨_, rfl⟩
                have hM := kX8_searches l D cB cI bd v qm ql qs qk qd qn qe qf qo qt qi qy
                rw [hu326] at hM
                refine m_VA X V (w1 := (wR cB cI bd u326.2.1 qm ql qs qk qd qn qe qf qo qt qi u326.2.2)) (rest := []) (st1 := [.int u326.1]) hM okX8_searches gm_583 gm_710 gm_582 ⟨⟨rfl, rfl⟩, ⟨by decide, by decide⟩, Nat.zero_le _, Nat.zero_le _⟩ rfl rfl (wR_fst _ _ _ _ _ _ _ _ _ _ _ _ _ _ _ _) (wR_fst _ _ _ _ _ _ _ _ _ _ _ _ _ _ _ _) rfl hl.1 (Nat.le_of_ble_eq_true rfl) dX8_does_326 rfl rfl (fun H locs V => ?_)
                have e9 : pX8_does v qm qs qo qt qi qy = (u326.1, u326.2.1, qm, qs, qt, qi, u326.2.2) := by rw [pX8_does, if_neg c_27, if_pos c_36, if_neg c_52, if_pos c_61, if_pos c_99, if_pos c_125, if_neg w_148_49, if_neg w_148_64, if_neg w_148_65, if_neg w_148_66, if_neg w_148_68, if_neg w_148_69, if_neg w_148_256, if_neg w_148_260, if_neg w_148_288, if_pos w_148_336, hu326, mLet_eq]
                exact m_iret X hr hk V (by rw [e9]) (by rw [e9]) dX8_does_329
              by_cases w_148_337 : (v 7) = 337
              · refine lv_lookup (off := 177) (tgt := 325) hx hb dX8_does_148 (by decide +kernel) (by rw [w_148_337]; rfl) (by decide) ?_
                refine lv_aload_n hx hb dX8_does_325 rfl (lv_at hl 3 rfl) ?_
                obtain ⟨u326, hu326⟩ : ∃ u, pX8_searches v qm qo qy = u := ⟨_, rfl⟩
                have hM := kX8_searches l D cB cI bd v qm ql qs qk qd qn qe qf qo qt qi qy
                rw [hu326] at hM
                refine m_VA X V (w1 := (wR cB cI bd u326.2.1 qm ql qs qk qd qn qe qf qo qt qi u326.2.2)) (rest := []) (st1 := [.int u326.1]) hM okX8_searches gm_583 gm_710 gm_582 ⟨⟨rfl, rfl⟩, ⟨by decide, by decide⟩, Nat.zero_le _, Nat.zero_le _⟩ rfl rfl (wR_fst _ _ _ _ _ _ _ _ _ _ _ _ _ _ _ _) (wR_fst _ _ _ _ _ _ _ _ _ _ _ _ _ _ _ _) rfl hl.1 (Nat.le_of_ble_eq_true rfl) dX8_does_326 rfl rfl (fun H locs V => ?_)
                have e9 : pX8_does v qm qs qo qt qi qy = (u326.1, u326.2.1, qm, qs, qt, qi, u326.2.2) := by rw [pX8_does, if_neg c_27, if_pos c_36, if_neg c_52, if_pos c_61, if_pos c_99, if_pos c_125, if_neg w_148_49, if_neg w_148_64, if_neg w_148_65, if_neg w_148_66, if_neg w_148_68, if_neg w_148_69, if_neg w_148_256, if_neg w_148_260, if_neg w_148_288, if_neg w_148_336, if_pos w_148_337, hu326, mLet_eq]
                exact m_iret X hr hk V (by rw [e9]) (by rw [e9]) dX8_does_329
              by_cases w_148_368 : (v 7) = 368
              · refine lv_lookup (off := 182) (tgt := 330) hx hb dX8_does_148 (by decide +kernel) (by rw [w_148_368]; rfl) (by decide) ?_
                refine lv_aload_n hx hb dX8_does_330 rfl (lv_at hl 3 rfl) ?_
                refine lv_iload_n hx hb dX8_does_331 rfl (lv_at hl 2 rfl) ?_
                refine lv_iload_n hx hb dX8_does_332 rfl (lv_at hl 1 rfl) ?_
                obtain ⟨u333, hu333⟩ : ∃ u, pX8_clears v qm (qo (Int32.toNatClampNeg 0)) (qo (Int32.toNatClampNeg 1)) = u := ⟨_, rfl⟩
                have hM := kX8_clears l D cB cI bd v qm ql qs qk qd qn qe qf qo qt qi qy (qo (Int32.toNatClampNeg 0)) (qo (Int32.toNatClampNeg 1))
                rw [hu333] at hM
                refine m_VA X V (w1 := (wR cB cI bd v u333.2 ql qs qk qd qn qe qf qo qt qi qy)) (rest := []) (st1 := [.int u333.1]) hM okX8_clears gm_601 gm_716 gm_600 ⟨⟨rfl, rfl⟩, ⟨by decide, by decide⟩, Nat.zero_le _, Nat.zero_le _⟩ rfl rfl (wR_fst _ _ _ _ _ _ _ _ _ _ _ _ _ _ _ _) (wR_fst _ _ _ _ _ _ _ _ _ _ _ _ _ _ _ _) rfl hl.1 (Nat.le_of_ble_eq_true rfl) dX8_does_333 rfl rfl (fun H locs V => ?_)
                have e9 : pX8_does v qm qs qo qt qi qy = (u333.1, v, u333.2, qs, qt, qi, qy) := by rw [pX8_does, if_neg c_27, if_pos c_36, if_neg c_52, if_pos c_61, if_pos c_99, if_pos c_125, if_neg w_148_49, if_neg w_148_64, if_neg w_148_65, if_neg w_148_66, if_neg w_148_68, if_neg w_148_69, if_neg w_148_256, if_neg w_148_260, if_neg w_148_288, if_neg w_148_336, if_neg w_148_337, if_pos w_148_368, hu333, mLet_eq]
                exact m_iret X hr hk V (by rw [e9]) (by rw [e9]) dX8_does_336
              by_cases w_148_369 : (v 7) = 369
              · refine lv_lookup (off := 189) (tgt := 337) hx hb dX8_does_148 (by decide +kernel) (by rw [w_148_369]; rfl) (by decide) ?_
                refine lv_aload_n hx hb dX8_does_337 rfl (lv_at hl 3 rfl) ?_
                refine lv_iload_n hx hb dX8_does_338 rfl (lv_at hl 2 rfl) ?_
                refine lv_iload_n hx hb dX8_does_339 rfl (lv_at hl 1 rfl) ?_
                refine lv_iload_n hx hb dX8_does_340 rfl (lv_at hl 0 rfl) ?_
                obtain ⟨u341, hu341⟩ : ∃ u, pX8_copies v qm qi (qo (Int32.toNatClampNeg 0)) (qo (Int32.toNatClampNeg 1)) (qo (Int32.toNatClampNeg 2)) = u := ⟨_, rfl⟩
                have hM := kX8_copies l D cB cI bd v qm ql qs qk qd qn qe qf qo qt qi qy (qo (Int32.toNatClampNeg 0)) (qo (Int32.toNatClampNeg 1)) (qo (Int32.toNatClampNeg 2))
                rw [hu341] at hM
                refine m_VA X V (w1 := (wR cB cI bd v u341.2.1 ql qs qk qd qn qe qf qo qt u341.2.2 qy)) (rest := []) (st1 := [.int u341.1]) hM okX8_copies gm_604 gm_717 gm_603 ⟨⟨rfl, rfl⟩, ⟨by decide, by decide⟩, Nat.zero_le _, Nat.zero_le _⟩ rfl rfl (wR_fst _ _ _ _ _ _ _ _ _ _ _ _ _ _ _ _) (wR_fst _ _ _ _ _ _ _ _ _ _ _ _ _ _ _ _) rfl hl.1 (Nat.le_of_ble_eq_true rfl) dX8_does_341 rfl rfl (fun H locs V => ?_)
                have e9 : pX8_does v qm qs qo qt qi qy = (u341.1, v, u341.2.1, qs, qt, u341.2.2, qy) := by rw [pX8_does, if_neg c_27, if_pos c_36, if_neg c_52, if_pos c_61, if_pos c_99, if_pos c_125, if_neg w_148_49, if_neg w_148_64, if_neg w_148_65, if_neg w_148_66, if_neg w_148_68, if_neg w_148_69, if_neg w_148_256, if_neg w_148_260, if_neg w_148_288, if_neg w_148_336, if_neg w_148_337, if_neg w_148_368, if_pos w_148_369, hu341, mLet_eq]
                exact m_iret X hr hk V (by rw [e9]) (by rw [e9]) dX8_does_344
              refine lv_lookup (off := 197) (tgt := 345) hx hb dX8_does_148 (by decide +kernel) ((lv_osw w_148_49 rfl).trans ((lv_osw w_148_64 rfl).trans ((lv_osw w_148_65 rfl).trans ((lv_osw w_148_66 rfl).trans ((lv_osw w_148_68 rfl).trans ((lv_osw w_148_69 rfl).trans ((lv_osw w_148_256 rfl).trans ((lv_osw w_148_260 rfl).trans ((lv_osw w_148_288 rfl).trans ((lv_osw w_148_336 rfl).trans ((lv_osw w_148_337 rfl).trans ((lv_osw w_148_368 rfl).trans ((lv_osw w_148_369 rfl).trans (rfl)))))))))))))) (by decide) ?_
              refine lv_iconst (v := 0) hx hb dX8_does_345 (by decide) ?_
              have e9 : pX8_does v qm qs qo qt qi qy = (0, v, qm, qs, qt, qi, qy) := by rw [pX8_does, if_neg c_27, if_pos c_36, if_neg c_52, if_pos c_61, if_pos c_99, if_pos c_125, if_neg w_148_49, if_neg w_148_64, if_neg w_148_65, if_neg w_148_66, if_neg w_148_68, if_neg w_148_69, if_neg w_148_256, if_neg w_148_260, if_neg w_148_288, if_neg w_148_336, if_neg w_148_337, if_neg w_148_368, if_neg w_148_369]
              exact m_iret X hr hk V (by rw [e9]) (by rw [e9]) dX8_does_346
            · refine lv_aload_n hx hb dX8_does_128 rfl (lv_at hl 3 rfl) ?_
              refine m_get X V 6 0 11 rfl gin_6 rfl (by decide) rfl gm_434 (v := .int (v 7)) rfl dX8_does_129 ?_
              refine lv_bipush (v := 84) hx hb dX8_does_132 (by decide) ?_
              refine lv_icmp_gt (tgt := 144) hx hb dX8_does_134 (by decide) (fun c_134 => ?_) (fun c_134 => ?_)
              · refine lv_aload_n hx hb dX8_does_144 rfl (lv_at hl 3 rfl) ?_
                refine m_get X V 6 0 11 rfl gin_6 rfl (by decide) rfl gm_434 (v := .int (v 7)) rfl dX8_does_145 ?_
                by_cases w_148_49 : (v 7) = 49
                · refine lv_lookup (off := 116) (tgt := 264) hx hb dX8_does_148 (by decide +kernel) (by rw [w_148_49]; rfl) (by decide) ?_
                  refine lv_aload_n hx hb dX8_does_264 rfl (lv_at hl 3 rfl) ?_
                  refine lv_aload_n hx hb dX8_does_265 rfl (lv_at hl 3 rfl) ?_
                  refine m_get X V 6 0 11 rfl gin_6 rfl (by decide) rfl gm_434 (v := .int (v 7)) rfl dX8_does_266 ?_
                  refine lv_bipush (v := 49) hx hb dX8_does_269 (by decide) ?_
                  refine lv_icmp_ne (tgt := 278) hx hb dX8_does_271 (by decide) (fun h => absurd w_148_49 h) (fun _ => ?_)
                  refine lv_iload_n hx hb dX8_does_274 rfl (lv_at hl 2 rfl) ?_
                  refine lv_goto (tgt := 279) hx hb dX8_does_275 (by decide) ?_
                  refine m_put X V (ws' := (wR cB cI bd (upd v 15 (qo (Int32.toNatClampNeg 0))) qm ql qs qk qd qn qe qf qo qt qi qy)) 6 0 24 rfl gin_6 tyX8_ok nmX8 rfl (by decide) rfl gm_447 rfl rfl rfl (Nat.le_of_ble_eq_true rfl) dX8_does_279 rfl (fun H locs V => ?_)
                  refine lv_aload_n hx hb dX8_does_282 rfl (lv_at hl 3 rfl) ?_
                  refine lv_iconst (v := 1) hx hb dX8_does_283 (by decide) ?_
                  refine m_put X V (ws' := (wR cB cI bd (upd (upd v 3 1) 15 (qo (Int32.toNatClampNeg 0))) qm ql qs qk qd qn qe qf qo qt qi qy)) 6 0 7 rfl gin_6 tyX8_ok nmX8 rfl (by decide) rfl gm_430 rfl rfl rfl (Nat.le_of_ble_eq_true rfl) dX8_does_284 rfl (fun H locs V => ?_)
                  refine lv_iconst (v := 0) hx hb dX8_does_287 (by decide) ?_
                  have e9 : pX8_does v qm qs qo qt qi qy = (0, (upd (upd v 3 1) 15 (qo (Int32.toNatClampNeg 0))), qm, qs, qt, qi, qy) := by rw [pX8_does, if_neg c_27, if_pos c_36, if_neg c_52, if_pos c_61, if_pos c_99, if_neg c_125, if_pos c_134, if_pos w_148_49]
                  exact m_iret X hr hk V (by rw [e9]) (by rw [e9]) dX8_does_288
                by_cases w_148_64 : (v 7) = 64
                · refine lv_lookup (off := 141) (tgt := 289) hx hb dX8_does_148 (by decide +kernel) (by rw [w_148_64]; rfl) (by decide) ?_
                  refine lv_aload_n hx hb dX8_does_289 rfl (lv_at hl 3 rfl) ?_
                  refine lv_iload_n hx hb dX8_does_290 rfl (lv_at hl 2 rfl) ?_
                  obtain ⟨u291, hu291⟩ : ∃ u, pX8_gives v (qo (Int32.toNatClampNeg 0)) = u := ⟨_, rfl⟩
                  have hM := kX8_gives l D cB cI bd v qm ql qs qk qd qn qe qf qo qt qi qy (qo (Int32.toNatClampNeg 0))
                  rw [hu291] at hM
                  refine m_VA X V (w1 := (wR cB cI bd u291.2 qm ql qs qk qd qn qe qf qo qt qi qy)) (rest := []) (st1 := [.int u291.1]) hM okX8_gives gm_553 gm_704 gm_552 ⟨⟨rfl, rfl⟩, ⟨by decide, by decide⟩, Nat.zero_le _, Nat.zero_le _⟩ rfl rfl (wR_fst _ _ _ _ _ _ _ _ _ _ _ _ _ _ _ _) (wR_fst _ _ _ _ _ _ _ _ _ _ _ _ _ _ _ _) rfl hl.1 (Nat.le_of_ble_eq_true rfl) dX8_does_291 rfl rfl (fun H locs V => ?_)
                  have e9 : pX8_does v qm qs qo qt qi qy = (u291.1, u291.2, qm, qs, qt, qi, qy) := by rw [pX8_does, if_neg c_27, if_pos c_36, if_neg c_52, if_pos c_61, if_pos c_99, if_neg c_125, if_pos c_134, if_neg w_148_49, if_pos w_148_64, hu291, mLet_eq]
                  exact m_iret X hr hk V (by rw [e9]) (by rw [e9]) dX8_does_294
                by_cases w_148_65 : (v 7) = 65
                · refine lv_lookup (off := 141) (tgt := 289) hx hb dX8_does_148 (by decide +kernel) (by rw [w_148_65]; rfl) (by decide) ?_
                  refine lv_aload_n hx hb dX8_does_289 rfl (lv_at hl 3 rfl) ?_
                  refine lv_iload_n hx hb dX8_does_290 rfl (lv_at hl 2 rfl) ?_
                  obtain ⟨u291, hu291⟩ : ∃ u, pX8_gives v (qo (Int32.toNatClampNeg 0)) = u := ⟨_, rfl⟩
                  have hM := kX8_gives l D cB cI bd v qm ql qs qk qd qn qe qf qo qt qi qy (qo (Int32.toNatClampNeg 0))
                  rw [hu291] at hM
                  refine m_VA X V (w1 := (wR cB cI bd u291.2 qm ql qs qk qd qn qe qf qo qt qi qy)) (rest := []) (st1 := [.int u291.1]) hM okX8_gives gm_553 gm_704 gm_552 ⟨⟨rfl, rfl⟩, ⟨by decide, by decide⟩, Nat.zero_le _, Nat.zero_le _⟩ rfl rfl (wR_fst _ _ _ _ _ _ _ _ _ _ _ _ _ _ _ _) (wR_fst _ _ _ _ _ _ _ _ _ _ _ _ _ _ _ _) rfl hl.1 (Nat.le_of_ble_eq_true rfl) dX8_does_291 rfl rfl (fun H locs V => ?_)
                  have e9 : pX8_does v qm qs qo qt qi qy = (u291.1, u291.2, qm, qs, qt, qi, qy) := by rw [pX8_does, if_neg c_27, if_pos c_36, if_neg c_52, if_pos c_61, if_pos c_99, if_neg c_125, if_pos c_134, if_neg w_148_49, if_neg w_148_64, if_pos w_148_65, hu291, mLet_eq]
                  exact m_iret X hr hk V (by rw [e9]) (by rw [e9]) dX8_does_294
                by_cases w_148_66 : (v 7) = 66
                · refine lv_lookup (off := 141) (tgt := 289) hx hb dX8_does_148 (by decide +kernel) (by rw [w_148_66]; rfl) (by decide) ?_
                  refine lv_aload_n hx hb dX8_does_289 rfl (lv_at hl 3 rfl) ?_
                  refine lv_iload_n hx hb dX8_does_290 rfl (lv_at hl 2 rfl) ?_
                  obtain ⟨u291, hu291⟩ : ∃ u, pX8_gives v (qo (Int32.toNatClampNeg 0)) = u := ⟨_, rfl⟩
                  have hM := kX8_gives l D cB cI bd v qm ql qs qk qd qn qe qf qo qt qi qy (qo (Int32.toNatClampNeg 0))
                  rw [hu291] at hM
                  refine m_VA X V (w1 := (wR cB cI bd u291.2 qm ql qs qk qd qn qe qf qo qt qi qy)) (rest := []) (st1 := [.int u291.1]) hM okX8_gives gm_553 gm_704 gm_552 ⟨⟨rfl, rfl⟩, ⟨by decide, by decide⟩, Nat.zero_le _, Nat.zero_le _⟩ rfl rfl (wR_fst _ _ _ _ _ _ _ _ _ _ _ _ _ _ _ _) (wR_fst _ _ _ _ _ _ _ _ _ _ _ _ _ _ _ _) rfl hl.1 (Nat.le_of_ble_eq_true rfl) dX8_does_291 rfl rfl (fun H locs V => ?_)
                  have e9 : pX8_does v qm qs qo qt qi qy = (u291.1, u291.2, qm, qs, qt, qi, qy) := by rw [pX8_does, if_neg c_27, if_pos c_36, if_neg c_52, if_pos c_61, if_pos c_99, if_neg c_125, if_pos c_134, if_neg w_148_49, if_neg w_148_64, if_neg w_148_65, if_pos w_148_66, hu291, mLet_eq]
                  exact m_iret X hr hk V (by rw [e9]) (by rw [e9]) dX8_does_294
                by_cases w_148_68 : (v 7) = 68
                · refine lv_lookup (off := 147) (tgt := 295) hx hb dX8_does_148 (by decide +kernel) (by rw [w_148_68]; rfl) (by decide) ?_
                  refine lv_aload_n hx hb dX8_does_295 rfl (lv_at hl 3 rfl) ?_
                  refine lv_iload_n hx hb dX8_does_296 rfl (lv_at hl 2 rfl) ?_
                  refine lv_i2s hx hb dX8_does_297 rfl ?_
                  obtain ⟨u298, hu298⟩ : ∃ u, pX8_gives v ((Int32.toInt16 (qo (Int32.toNatClampNeg 0))).toInt32) = u := ⟨_, rfl⟩
                  have hM := kX8_gives l D cB cI bd v qm ql qs qk qd qn qe qf qo qt qi qy ((Int32.toInt16 (qo (Int32.toNatClampNeg 0))).toInt32)
                  rw [hu298] at hM
                  refine m_VA X V (w1 := (wR cB cI bd u298.2 qm ql qs qk qd qn qe qf qo qt qi qy)) (rest := []) (st1 := [.int u298.1]) hM okX8_gives gm_553 gm_704 gm_552 ⟨⟨rfl, rfl⟩, ⟨by decide, by decide⟩, Nat.zero_le _, Nat.zero_le _⟩ rfl rfl (wR_fst _ _ _ _ _ _ _ _ _ _ _ _ _ _ _ _) (wR_fst _ _ _ _ _ _ _ _ _ _ _ _ _ _ _ _) rfl hl.1 (Nat.le_of_ble_eq_true rfl) dX8_does_298 rfl rfl (fun H locs V => ?_)
                  have e9 : pX8_does v qm qs qo qt qi qy = (u298.1, u298.2, qm, qs, qt, qi, qy) := by rw [pX8_does, if_neg c_27, if_pos c_36, if_neg c_52, if_pos c_61, if_pos c_99, if_neg c_125, if_pos c_134, if_neg w_148_49, if_neg w_148_64, if_neg w_148_65, if_neg w_148_66, if_pos w_148_68, hu298, mLet_eq]
                  exact m_iret X hr hk V (by rw [e9]) (by rw [e9]) dX8_does_301
                by_cases w_148_69 : (v 7) = 69
                · refine lv_lookup (off := 154) (tgt := 302) hx hb dX8_does_148 (by decide +kernel) (by rw [w_148_69]; rfl) (by decide) ?_
                  refine lv_aload_n hx hb dX8_does_302 rfl (lv_at hl 3 rfl) ?_
                  refine lv_iload_n hx hb dX8_does_303 rfl (lv_at hl 2 rfl) ?_
                  refine lv_i2b hx hb dX8_does_304 rfl ?_
                  obtain ⟨u305, hu305⟩ : ∃ u, pX8_gives v ((Int32.toInt8 (qo (Int32.toNatClampNeg 0))).toInt32) = u := ⟨_, rfl⟩
                  have hM := kX8_gives l D cB cI bd v qm ql qs qk qd qn qe qf qo qt qi qy ((Int32.toInt8 (qo (Int32.toNatClampNeg 0))).toInt32)
                  rw [hu305] at hM
                  refine m_VA X V (w1 := (wR cB cI bd u305.2 qm ql qs qk qd qn qe qf qo qt qi qy)) (rest := []) (st1 := [.int u305.1]) hM okX8_gives gm_553 gm_704 gm_552 ⟨⟨rfl, rfl⟩, ⟨by decide, by decide⟩, Nat.zero_le _, Nat.zero_le _⟩ rfl rfl (wR_fst _ _ _ _ _ _ _ _ _ _ _ _ _ _ _ _) (wR_fst _ _ _ _ _ _ _ _ _ _ _ _ _ _ _ _) rfl hl.1 (Nat.le_of_ble_eq_true rfl) dX8_does_305 rfl rfl (fun H locs V => ?_)
                  have e9 : pX8_does v qm qs qo qt qi qy = (u305.1, u305.2, qm, qs, qt, qi, qy) := by rw [pX8_does, if_neg c_27, if_pos c_36, if_neg c_52, if_pos c_61, if_pos c_99, if_neg c_125, if_pos c_134, if_neg w_148_49, if_neg w_148_64, if_neg w_148_65, if_neg w_148_66, if_neg w_148_68, if_pos w_148_69, hu305, mLet_eq]
                  exact m_iret X hr hk V (by rw [e9]) (by rw [e9]) dX8_does_308
                by_cases w_148_256 : (v 7) = 256
                · refine lv_lookup (off := 161) (tgt := 309) hx hb dX8_does_148 (by decide +kernel) (by rw [w_148_256]; rfl) (by decide) ?_
                  refine lv_aload_n hx hb dX8_does_309 rfl (lv_at hl 3 rfl) ?_
                  refine lv_iload_n hx hb dX8_does_310 rfl (lv_at hl 2 rfl) ?_
                  obtain ⟨u311, hu311⟩ : ∃ u, pX8_gestalt (qo (Int32.toNatClampNeg 0)) = u := ⟨_, rfl⟩
                  have hM := kX8_gestalt l D cB cI (qo (Int32.toNatClampNeg 0))
                  rw [hu311] at hM
                  refine m_S X V (rest := [.ref (bd 0)]) (st1 := [.int u311, .ref (bd 0)]) hM okX8_gestalt gm_578 gm_577 ⟨⟨rfl, rfl⟩, ⟨by decide, by decide⟩, Nat.zero_le _, Nat.zero_le _⟩ rfl hl.1 (Nat.le_of_ble_eq_true rfl) dX8_does_311 rfl rfl (fun H locs V => ?_)
                  obtain ⟨u314, hu314⟩ : ∃ u, pX8_gives v u311 = u := ⟨_, rfl⟩
                  have hM := kX8_gives l D cB cI bd v qm ql qs qk qd qn qe qf qo qt qi qy u311
                  rw [hu314] at hM
                  refine m_VA X V (w1 := (wR cB cI bd u314.2 qm ql qs qk qd qn qe qf qo qt qi qy)) (rest := []) (st1 := [.int u314.1]) hM okX8_gives gm_553 gm_704 gm_552 ⟨⟨rfl, rfl⟩, ⟨by decide, by decide⟩, Nat.zero_le _, Nat.zero_le _⟩ rfl rfl (wR_fst _ _ _ _ _ _ _ _ _ _ _ _ _ _ _ _) (wR_fst _ _ _ _ _ _ _ _ _ _ _ _ _ _ _ _) rfl hl.1 (Nat.le_of_ble_eq_true rfl) dX8_does_314 rfl rfl (fun H locs V => ?_)
                  have e9 : pX8_does v qm qs qo qt qi qy = (u314.1, u314.2, qm, qs, qt, qi, qy) := by rw [pX8_does, if_neg c_27, if_pos c_36, if_neg c_52, if_pos c_61, if_pos c_99, if_neg c_125, if_pos c_134, if_neg w_148_49, if_neg w_148_64, if_neg w_148_65, if_neg w_148_66, if_neg w_148_68, if_neg w_148_69, if_pos w_148_256, hu311, mLet_eq, hu314, mLet_eq]
                  exact m_iret X hr hk V (by rw [e9]) (by rw [e9]) dX8_does_317
                by_cases w_148_260 : (v 7) = 260
                · refine lv_lookup (off := 170) (tgt := 318) hx hb dX8_does_148 (by decide +kernel) (by rw [w_148_260]; rfl) (by decide) ?_
                  refine lv_aload_n hx hb dX8_does_318 rfl (lv_at hl 3 rfl) ?_
                  refine lv_iload_n hx hb dX8_does_319 rfl (lv_at hl 2 rfl) ?_
                  refine m_put X V (ws' := (wR cB cI bd (upd v 14 (qo (Int32.toNatClampNeg 0))) qm ql qs qk qd qn qe qf qo qt qi qy)) 6 0 23 rfl gin_6 tyX8_ok nmX8 rfl (by decide) rfl gm_446 rfl rfl rfl (Nat.le_of_ble_eq_true rfl) dX8_does_320 rfl (fun H locs V => ?_)
                  refine lv_iconst (v := 0) hx hb dX8_does_323 (by decide) ?_
                  have e9 : pX8_does v qm qs qo qt qi qy = (0, (upd v 14 (qo (Int32.toNatClampNeg 0))), qm, qs, qt, qi, qy) := by rw [pX8_does, if_neg c_27, if_pos c_36, if_neg c_52, if_pos c_61, if_pos c_99, if_neg c_125, if_pos c_134, if_neg w_148_49, if_neg w_148_64, if_neg w_148_65, if_neg w_148_66, if_neg w_148_68, if_neg w_148_69, if_neg w_148_256, if_pos w_148_260]
                  exact m_iret X hr hk V (by rw [e9]) (by rw [e9]) dX8_does_324
                by_cases w_148_288 : (v 7) = 288
                · refine lv_lookup (off := 116) (tgt := 264) hx hb dX8_does_148 (by decide +kernel) (by rw [w_148_288]; rfl) (by decide) ?_
                  refine lv_aload_n hx hb dX8_does_264 rfl (lv_at hl 3 rfl) ?_
                  refine lv_aload_n hx hb dX8_does_265 rfl (lv_at hl 3 rfl) ?_
                  refine m_get X V 6 0 11 rfl gin_6 rfl (by decide) rfl gm_434 (v := .int (v 7)) rfl dX8_does_266 ?_
                  refine lv_bipush (v := 49) hx hb dX8_does_269 (by decide) ?_
                  refine lv_icmp_ne (tgt := 278) hx hb dX8_does_271 (by decide) (fun _ => ?_) (fun h => absurd h w_148_49)
                  refine lv_iconst (v := 0) hx hb dX8_does_278 (by decide) ?_
                  refine m_put X V (ws' := (wR cB cI bd (upd v 15 0) qm ql qs qk qd qn qe qf qo qt qi qy)) 6 0 24 rfl gin_6 tyX8_ok nmX8 rfl (by decide) rfl gm_447 rfl rfl rfl (Nat.le_of_ble_eq_true rfl) dX8_does_279 rfl (fun H locs V => ?_)
                  refine lv_aload_n hx hb dX8_does_282 rfl (lv_at hl 3 rfl) ?_
                  refine lv_iconst (v := 1) hx hb dX8_does_283 (by decide) ?_
                  refine m_put X V (ws' := (wR cB cI bd (upd (upd v 3 1) 15 0) qm ql qs qk qd qn qe qf qo qt qi qy)) 6 0 7 rfl gin_6 tyX8_ok nmX8 rfl (by decide) rfl gm_430 rfl rfl rfl (Nat.le_of_ble_eq_true rfl) dX8_does_284 rfl (fun H locs V => ?_)
                  refine lv_iconst (v := 0) hx hb dX8_does_287 (by decide) ?_
                  have e9 : pX8_does v qm qs qo qt qi qy = (0, (upd (upd v 3 1) 15 0), qm, qs, qt, qi, qy) := by rw [pX8_does, if_neg c_27, if_pos c_36, if_neg c_52, if_pos c_61, if_pos c_99, if_neg c_125, if_pos c_134, if_neg w_148_49, if_neg w_148_64, if_neg w_148_65, if_neg w_148_66, if_neg w_148_68, if_neg w_148_69, if_neg w_148_256, if_neg w_148_260, if_pos w_148_288]
                  exact m_iret X hr hk V (by rw [e9]) (by rw [e9]) dX8_does_288
                by_cases w_148_336 : (v 7) = 336
                · refine lv_lookup (off := 177) (tgt := 325) hx hb dX8_does_148 (by decide +kernel) (by rw [w_148_336]; rfl) (by decide) ?_
                  refine lv_aload_n hx hb dX8_does_325 rfl (lv_at hl 3 rfl) ?_
                  obtain ⟨u326, hu326⟩ : ∃ u, pX8_searches v qm qo qy = u := ⟨_, rfl⟩
                  have hM := kX8_searches l D cB cI bd v qm ql qs qk qd qn qe qf qo qt qi qy
                  rw [hu326] at hM
                  refine m_VA X V (w1 := (wR cB cI bd u326.2.1 qm ql qs qk qd qn qe qf qo qt qi u326.2.2)) (rest := []) (st1 := [.int u326.1]) hM okX8_searches gm_583 gm_710 gm_582 ⟨⟨rfl, rfl⟩, ⟨by decide, by decide⟩, Nat.zero_le _, Nat.zero_le _⟩ rfl rfl (wR_fst _ _ _ _ _ _ _ _ _ _ _ _ _ _ _ _) (wR_fst _ _ _ _ _ _ _ _ _ _ _ _ _ _ _ _) rfl hl.1 (Nat.le_of_ble_eq_true rfl) dX8_does_326 rfl rfl (fun H locs V => ?_)
                  have e9 : pX8_does v qm qs qo qt qi qy = (u326.1, u326.2.1, qm, qs, qt, qi, u326.2.2) := by rw [pX8_does, if_neg c_27, if_pos c_36, if_neg c_52, if_pos c_61, if_pos c_99, if_neg c_125, if_pos c_134, if_neg w_148_49, if_neg w_148_64, if_neg w_148_65, if_neg w_148_66, if_neg w_148_68, if_neg w_148_69, if_neg w_148_256, if_neg w_148_260, if_neg w_148_288, if_pos w_148_336, hu326, mLet_eq]
                  exact m_iret X hr hk V (by rw [e9]) (by rw [e9]) dX8_does_329
                by_cases w_148_337 : (v 7) = 337
                · refine lv_lookup (off := 177) (tgt := 325) hx hb dX8_does_148 (by decide +kernel) (by rw [w_148_337]; rfl) (by decide) ?_
                  refine lv_aload_n hx hb dX8_does_325 rfl (lv_at hl 3 rfl) ?_
                  obtain ⟨u326, hu326⟩ : ∃ u, pX8_searches v qm qo qy = u := ⟨_, rfl⟩
                  have hM := kX8_searches l D cB cI bd v qm ql qs qk qd qn qe qf qo qt qi qy
                  rw [hu326] at hM
                  refine m_VA X V (w1 := (wR cB cI bd u326.2.1 qm ql qs qk qd qn qe qf qo qt qi u326.2.2)) (rest := []) (st1 := [.int u326.1]) hM okX8_searches gm_583 gm_710 gm_582 ⟨⟨rfl, rfl⟩, ⟨by decide, by decide⟩, Nat.zero_le _, Nat.zero_le _⟩ rfl rfl (wR_fst _ _ _ _ _ _ _ _ _ _ _ _ _ _ _ _) (wR_fst _ _ _ _ _ _ _ _ _ _ _ _ _ _ _ _) rfl hl.1 (Nat.le_of_ble_eq_true rfl) dX8_does_326 rfl rfl (fun H locs V => ?_)
                  have e9 : pX8_does v qm qs qo qt qi qy = (u326.1, u326.2.1, qm, qs, qt, qi, u326.2.2) := by rw [pX8_does, if_neg c_27, if_pos c_36, if_neg c_52, if_pos c_61, if_pos c_99, if_neg c_125, if_pos c_134, if_neg w_148_49, if_neg w_148_64, if_neg w_148_65, if_neg w_148_66, if_neg w_148_68, if_neg w_148_69, if_neg w_148_256, if_neg w_148_260, if_neg w_148_288, if_neg w_148_336, if_pos w_148_337, hu326, mLet_eq]
                  exact m_iret X hr hk V (by rw [e9]) (by rw [e9]) dX8_does_329
                by_cases w_148_368 : (v 7) = 368
                · refine lv_lookup (off := 182) (tgt := 330) hx hb dX8_does_148 (by decide +kernel) (by rw [w_148_368]; rfl) (by decide) ?_
                  refine lv_aload_n hx hb dX8_does_330 rfl (lv_at hl 3 rfl) ?_
                  refine lv_iload_n hx hb dX8_does_331 rfl (lv_at hl 2 rfl) ?_
                  refine lv_iload_n hx hb dX8_does_332 rfl (lv_at hl 1 rfl) ?_
                  obtain ⟨u333, hu333⟩ : ∃ u, pX8_clears v qm (qo (Int32.toNatClampNeg 0)) (qo (Int32.toNatClampNeg 1)) = u := ⟨_, rfl⟩
                  have hM := kX8_clears l D cB cI bd v qm ql qs qk qd qn qe qf qo qt qi qy (qo (Int32.toNatClampNeg 0)) (qo (Int32.toNatClampNeg 1))
                  rw [hu333] at hM
                  refine m_VA X V (w1 := (wR cB cI bd v u333.2 ql qs qk qd qn qe qf qo qt qi qy)) (rest := []) (st1 := [.int u333.1]) hM okX8_clears gm_601 gm_716 gm_600 ⟨⟨rfl, rfl⟩, ⟨by decide, by decide⟩, Nat.zero_le _, Nat.zero_le _⟩ rfl rfl (wR_fst _ _ _ _ _ _ _ _ _ _ _ _ _ _ _ _) (wR_fst _ _ _ _ _ _ _ _ _ _ _ _ _ _ _ _) rfl hl.1 (Nat.le_of_ble_eq_true rfl) dX8_does_333 rfl rfl (fun H locs V => ?_)
                  have e9 : pX8_does v qm qs qo qt qi qy = (u333.1, v, u333.2, qs, qt, qi, qy) := by rw [pX8_does, if_neg c_27, if_pos c_36, if_neg c_52, if_pos c_61, if_pos c_99, if_neg c_125, if_pos c_134, if_neg w_148_49, if_neg w_148_64, if_neg w_148_65, if_neg w_148_66, if_neg w_148_68, if_neg w_148_69, if_neg w_148_256, if_neg w_148_260, if_neg w_148_288, if_neg w_148_336, if_neg w_148_337, if_pos w_148_368, hu333, mLet_eq]
                  exact m_iret X hr hk V (by rw [e9]) (by rw [e9]) dX8_does_336
                by_cases w_148_369 : (v 7) = 369
                · refine lv_lookup (off := 189) (tgt := 337) hx hb dX8_does_148 (by decide +kernel) (by rw [w_148_369]; rfl) (by decide) ?_
                  refine lv_aload_n hx hb dX8_does_337 rfl (lv_at hl 3 rfl) ?_
                  refine lv_iload_n hx hb dX8_does_338 rfl (lv_at hl 2 rfl) ?_
                  refine lv_iload_n hx hb dX8_does_339 rfl (lv_at hl 1 rfl) ?_
                  refine lv_iload_n hx hb dX8_does_340 rfl (lv_at hl 0 rfl) ?_
                  obtain ⟨u341, hu341⟩ : ∃ u, pX8_copies v qm qi (qo (Int32.toNatClampNeg 0)) (qo (Int32.toNatClampNeg 1)) (qo (Int32.toNatClampNeg 2)) = u := ⟨_, rfl⟩
                  have hM := kX8_copies l D cB cI bd v qm ql qs qk qd qn qe qf qo qt qi qy (qo (Int32.toNatClampNeg 0)) (qo (Int32.toNatClampNeg 1)) (qo (Int32.toNatClampNeg 2))
                  rw [hu341] at hM
                  refine m_VA X V (w1 := (wR cB cI bd v u341.2.1 ql qs qk qd qn qe qf qo qt u341.2.2 qy)) (rest := []) (st1 := [.int u341.1]) hM okX8_copies gm_604 gm_717 gm_603 ⟨⟨rfl, rfl⟩, ⟨by decide, by decide⟩, Nat.zero_le _, Nat.zero_le _⟩ rfl rfl (wR_fst _ _ _ _ _ _ _ _ _ _ _ _ _ _ _ _) (wR_fst _ _ _ _ _ _ _ _ _ _ _ _ _ _ _ _) rfl hl.1 (Nat.le_of_ble_eq_true rfl) dX8_does_341 rfl rfl (fun H locs V => ?_)
                  have e9 : pX8_does v qm qs qo qt qi qy = (u341.1, v, u341.2.1, qs, qt, u341.2.2, qy) := by rw [pX8_does, if_neg c_27, if_pos c_36, if_neg c_52, if_pos c_61, if_pos c_99, if_neg c_125, if_pos c_134, if_neg w_148_49, if_neg w_148_64, if_neg w_148_65, if_neg w_148_66, if_neg w_148_68, if_neg w_148_69, if_neg w_148_256, if_neg w_148_260, if_neg w_148_288, if_neg w_148_336, if_neg w_148_337, if_neg w_148_368, if_pos w_148_369, hu341, mLet_eq]
                  exact m_iret X hr hk V (by rw [e9]) (by rw [e9]) dX8_does_344
                refine lv_lookup (off := 197) (tgt := 345) hx hb dX8_does_148 (by decide +kernel) ((lv_osw w_148_49 rfl).trans ((lv_osw w_148_64 rfl).trans ((lv_osw w_148_65 rfl).trans ((lv_osw w_148_66 rfl).trans ((lv_osw w_148_68 rfl).trans ((lv_osw w_148_69 rfl).trans ((lv_osw w_148_256 rfl).trans ((lv_osw w_148_260 rfl).trans ((lv_osw w_148_288 rfl).trans ((lv_osw w_148_336 rfl).trans ((lv_osw w_148_337 rfl).trans ((lv_osw w_148_368 rfl).trans ((lv_osw w_148_369 rfl).trans (rfl)))))))))))))) (by decide) ?_
                refine lv_iconst (v := 0) hx hb dX8_does_345 (by decide) ?_
                have e9 : pX8_does v qm qs qo qt qi qy = (0, v, qm, qs, qt, qi, qy) := by rw [pX8_does, if_neg c_27, if_pos c_36, if_neg c_52, if_pos c_61, if_pos c_99, if_neg c_125, if_pos c_134, if_neg w_148_49, if_neg w_148_64, if_neg w_148_65, if_neg w_148_66, if_neg w_148_68, if_neg w_148_69, if_neg w_148_256, if_neg w_148_260, if_neg w_148_288, if_neg w_148_336, if_neg w_148_337, if_neg w_148_368, if_neg w_148_369]
                exact m_iret X hr hk V (by rw [e9]) (by rw [e9]) dX8_does_346
              · refine lv_aload_n hx hb dX8_does_137 rfl (lv_at hl 3 rfl) ?_
                refine lv_iload_n hx hb dX8_does_138 rfl (lv_at hl 2 rfl) ?_
                refine lv_iload_n hx hb dX8_does_139 rfl (lv_at hl 1 rfl) ?_
                obtain ⟨u140, hu140⟩ : ∃ u, pX8_onStack v qs qt (qo (Int32.toNatClampNeg 0)) (qo (Int32.toNatClampNeg 1)) = u := ⟨_, rfl⟩
                have hM := kX8_onStack l D cB cI bd v qm ql qs qk qd qn qe qf qo qt qi qy (qo (Int32.toNatClampNeg 0)) (qo (Int32.toNatClampNeg 1)) (show 0 ≤ Int32.toInt (v 0) ∧ Int32.toInt (v 0) ≤ 40 by omega)
                rw [hu140] at hM
                refine m_VA X V (w1 := (wR cB cI bd u140.2.1 qm ql u140.2.2.1 qk qd qn qe qf qo u140.2.2.2 qi qy)) (rest := []) (st1 := [.int u140.1]) hM okX8_onStack gm_572 gm_708 gm_571 ⟨⟨rfl, rfl⟩, ⟨by decide, by decide⟩, Nat.zero_le _, Nat.zero_le _⟩ rfl rfl (wR_fst _ _ _ _ _ _ _ _ _ _ _ _ _ _ _ _) (wR_fst _ _ _ _ _ _ _ _ _ _ _ _ _ _ _ _) rfl hl.1 (Nat.le_of_ble_eq_true rfl) dX8_does_140 rfl rfl (fun H locs V => ?_)
                have e9 : pX8_does v qm qs qo qt qi qy = (u140.1, u140.2.1, qm, u140.2.2.1, u140.2.2.2, qi, qy) := by rw [pX8_does, if_neg c_27, if_pos c_36, if_neg c_52, if_pos c_61, if_pos c_99, if_neg c_125, if_neg c_134, hu140, mLet_eq]
                exact m_iret X hr hk V (by rw [e9]) (by rw [e9]) dX8_does_143
          · refine lv_aload_n hx hb dX8_does_102 rfl (lv_at hl 3 rfl) ?_
            refine m_get X V 6 0 11 rfl gin_6 rfl (by decide) rfl gm_434 (v := .int (v 7)) rfl dX8_does_103 ?_
            refine lv_bipush (v := 79) hx hb dX8_does_106 (by decide) ?_
            refine lv_icmp_gt (tgt := 119) hx hb dX8_does_108 (by decide) (fun c_108 => ?_) (fun c_108 => ?_)
            · refine lv_aload_n hx hb dX8_does_119 rfl (lv_at hl 3 rfl) ?_
              refine m_get X V 6 0 11 rfl gin_6 rfl (by decide) rfl gm_434 (v := .int (v 7)) rfl dX8_does_120 ?_
              refine lv_bipush (v := 80) hx hb dX8_does_123 (by decide) ?_
              refine lv_icmp_lt (tgt := 144) hx hb dX8_does_125 (by decide) (fun c_125 => ?_) (fun c_125 => ?_)
              · refine lv_aload_n hx hb dX8_does_144 rfl (lv_at hl 3 rfl) ?_
                refine m_get X V 6 0 11 rfl gin_6 rfl (by decide) rfl gm_434 (v := .int (v 7)) rfl dX8_does_145 ?_
                by_cases w_148_49 : (v 7) = 49
                · refine lv_lookup (off := 116) (tgt := 264) hx hb dX8_does_148 (by decide +kernel) (by rw [w_148_49]; rfl) (by decide) ?_
                  refine lv_aload_n hx hb dX8_does_264 rfl (lv_at hl 3 rfl) ?_
                  refine lv_aload_n hx hb dX8_does_265 rfl (lv_at hl 3 rfl) ?_
                  refine m_get X V 6 0 11 rfl gin_6 rfl (by decide) rfl gm_434 (v := .int (v 7)) rfl dX8_does_266 ?_
                  refine lv_bipush (v := 49) hx hb dX8_does_269 (by decide) ?_
                  refine lv_icmp_ne (tgt := 278) hx hb dX8_does_271 (by decide) (fun h => absurd w_148_49 h) (fun _ => ?_)
                  refine lv_iload_n hx hb dX8_does_274 rfl (lv_at hl 2 rfl) ?_
                  refine lv_goto (tgt := 279) hx hb dX8_does_275 (by decide) ?_
                  refine m_put X V (ws' := (wR cB cI bd (upd v 15 (qo (Int32.toNatClampNeg 0))) qm ql qs qk qd qn qe qf qo qt qi qy)) 6 0 24 rfl gin_6 tyX8_ok nmX8 rfl (by decide) rfl gm_447 rfl rfl rfl (Nat.le_of_ble_eq_true rfl) dX8_does_279 rfl (fun H locs V => ?_)
                  refine lv_aload_n hx hb dX8_does_282 rfl (lv_at hl 3 rfl) ?_
                  refine lv_iconst (v := 1) hx hb dX8_does_283 (by decide) ?_
                  refine m_put X V (ws' := (wR cB cI bd (upd (upd v 3 1) 15 (qo (Int32.toNatClampNeg 0))) qm ql qs qk qd qn qe qf qo qt qi qy)) 6 0 7 rfl gin_6 tyX8_ok nmX8 rfl (by decide) rfl gm_430 rfl rfl rfl (Nat.le_of_ble_eq_true rfl) dX8_does_284 rfl (fun H locs V => ?_)
                  refine lv_iconst (v := 0) hx hb dX8_does_287 (by decide) ?_
                  have e9 : pX8_does v qm qs qo qt qi qy = (0, (upd (upd v 3 1) 15 (qo (Int32.toNatClampNeg 0))), qm, qs, qt, qi, qy) := by rw [pX8_does, if_neg c_27, if_pos c_36, if_neg c_52, if_pos c_61, if_neg c_99, if_pos c_108, if_pos c_125, if_pos w_148_49]
                  exact m_iret X hr hk V (by rw [e9]) (by rw [e9]) dX8_does_288
                by_cases w_148_64 : (v 7) = 64
                · refine lv_lookup (off := 141) (tgt := 289) hx hb dX8_does_148 (by decide +kernel) (by rw [w_148_64]; rfl) (by decide) ?_
                  refine lv_aload_n hx hb dX8_does_289 rfl (lv_at hl 3 rfl) ?_
                  refine lv_iload_n hx hb dX8_does_290 rfl (lv_at hl 2 rfl) ?_
                  obtain ⟨u291, hu291⟩ : ∃ u, pX8_gives v (qo (Int32.toNatClampNeg 0)) = u := ⟨_, rfl⟩
                  have hM := kX8_gives l D cB cI bd v qm ql qs qk qd qn qe qf qo qt qi qy (qo (Int32.toNatClampNeg 0))
                  rw [hu291] at hM
                  refine m_VA X V (w1 := (wR cB cI bd u291.2 qm ql qs qk qd qn qe qf qo qt qi qy)) (rest := []) (st1 := [.int u291.1]) hM okX8_gives gm_553 gm_704 gm_552 ⟨⟨rfl, rfl⟩, ⟨by decide, by decide⟩, Nat.zero_le _, Nat.zero_le _⟩ rfl rfl (wR_fst _ _ _ _ _ _ _ _ _ _ _ _ _ _ _ _) (wR_fst _ _ _ _ _ _ _ _ _ _ _ _ _ _ _ _) rfl hl.1 (Nat.le_of_ble_eq_true rfl) dX8_does_291 rfl rfl (fun H locs V => ?_)
                  have e9 : pX8_does v qm qs qo qt qi qy = (u291.1, u291.2, qm, qs, qt, qi, qy) := by rw [pX8_does, if_neg c_27, if_pos c_36, if_neg c_52, if_pos c_61, if_neg c_99, if_pos c_108, if_pos c_125, if_neg w_148_49, if_pos w_148_64, hu291, mLet_eq]
                  exact m_iret X hr hk V (by rw [e9]) (by rw [e9]) dX8_does_294
                by_cases w_148_65 : (v 7) = 65
                · refine lv_lookup (off := 141) (tgt := 289) hx hb dX8_does_148 (by decide +kernel) (by rw [w_148_65]; rfl) (by decide) ?_
                  refine lv_aload_n hx hb dX8_does_289 rfl (lv_at hl 3 rfl) ?_
                  refine lv_iload_n hx hb dX8_does_290 rfl (lv_at hl 2 rfl) ?_
                  obtain ⟨u291, hu291⟩ : ∃ u, pX8_gives v (qo (Int32.toNatClampNeg 0)) = u := ⟨_, rfl⟩
                  have hM := kX8_gives l D cB cI bd v qm ql qs qk qd qn qe qf qo qt qi qy (qo (Int32.toNatClampNeg 0))
                  rw [hu291] at hM
                  refine m_VA X V (w1 := (wR cB cI bd u291.2 qm ql qs qk qd qn qe qf qo qt qi qy)) (rest := []) (st1 := [.int u291.1]) hM okX8_gives gm_553 gm_704 gm_552 ⟨⟨rfl, rfl⟩, ⟨by decide, by decide⟩, Nat.zero_le _, Nat.zero_le _⟩ rfl rfl (wR_fst _ _ _ _ _ _ _ _ _ _ _ _ _ _ _ _) (wR_fst _ _ _ _ _ _ _ _ _ _ _ _ _ _ _ _) rfl hl.1 (Nat.le_of_ble_eq_true rfl) dX8_does_291 rfl rfl (fun H locs V => ?_)
                  have e9 : pX8_does v qm qs qo qt qi qy = (u291.1, u291.2, qm, qs, qt, qi, qy) := by rw [pX8_does, if_neg c_27, if_pos c_36, if_neg c_52, if_pos c_61, if_neg c_99, if_pos c_108, if_pos c_125, if_neg w_148_49, if_neg w_148_64, if_pos w_148_65, hu291, mLet_eq]
                  exact m_iret X hr hk V (by rw [e9]) (by rw [e9]) dX8_does_294
                by_cases w_148_66 : (v 7) = 66
                · refine lv_lookup (off := 141) (tgt := 289) hx hb dX8_does_148 (by decide +kernel) (by rw [w_148_66]; rfl) (by decide) ?_
                  refine lv_aload_n hx hb dX8_does_289 rfl (lv_at hl 3 rfl) ?_
                  refine lv_iload_n hx hb dX8_does_290 rfl (lv_at hl 2 rfl) ?_
                  obtain ⟨u291, hu291⟩ : ∃ u, pX8_gives v (qo (Int32.toNatClampNeg 0)) = u := ⟨_, rfl⟩
                  have hM := kX8_gives l D cB cI bd v qm ql qs qk qd qn qe qf qo qt qi qy (qo (Int32.toNatClampNeg 0))
                  rw [hu291] at hM
                  refine m_VA X V (w1 := (wR cB cI bd u291.2 qm ql qs qk qd qn qe qf qo qt qi qy)) (rest := []) (st1 := [.int u291.1]) hM okX8_gives gm_553 gm_704 gm_552 ⟨⟨rfl, rfl⟩, ⟨by decide, by decide⟩, Nat.zero_le _, Nat.zero_le _⟩ rfl rfl (wR_fst _ _ _ _ _ _ _ _ _ _ _ _ _ _ _ _) (wR_fst _ _ _ _ _ _ _ _ _ _ _ _ _ _ _ _) rfl hl.1 (Nat.le_of_ble_eq_true rfl) dX8_does_291 rfl rfl (fun H locs V => ?_)
                  have e9 : pX8_does v qm qs qo qt qi qy = (u291.1, u291.2, qm, qs, qt, qi, qy) := by rw [pX8_does, if_neg c_27, if_pos c_36, if_neg c_52, if_pos c_61, if_neg c_99, if_pos c_108, if_pos c_125, if_neg w_148_49, if_neg w_148_64, if_neg w_148_65, if_pos w_148_66, hu291, mLet_eq]
                  exact m_iret X hr hk V (by rw [e9]) (by rw [e9]) dX8_does_294
                by_cases w_148_68 : (v 7) = 68
                · refine lv_lookup (off := 147) (tgt := 295) hx hb dX8_does_148 (by decide +kernel) (by rw [w_148_68]; rfl) (by decide) ?_
                  refine lv_aload_n hx hb dX8_does_295 rfl (lv_at hl 3 rfl) ?_
                  refine lv_iload_n hx hb dX8_does_296 rfl (lv_at hl 2 rfl) ?_
                  refine lv_i2s hx hb dX8_does_297 rfl ?_
                  obtain ⟨u298, hu298⟩ : ∃ u, pX8_gives v ((Int32.toInt16 (qo (Int32.toNatClampNeg 0))).toInt32) = u := ⟨_, rfl⟩
                  have hM := kX8_gives l D cB cI bd v qm ql qs qk qd qn qe qf qo qt qi qy ((Int32.toInt16 (qo (Int32.toNatClampNeg 0))).toInt32)
                  rw [hu298] at hM
                  refine m_VA X V (w1 := (wR cB cI bd u298.2 qm ql qs qk qd qn qe qf qo qt qi qy)) (rest := []) (st1 := [.int u298.1]) hM okX8_gives gm_553 gm_704 gm_552 ⟨⟨rfl, rfl⟩, ⟨by decide, by decide⟩, Nat.zero_le _, Nat.zero_le _⟩ rfl rfl (wR_fst _ _ _ _ _ _ _ _ _ _ _ _ _ _ _ _) (wR_fst _ _ _ _ _ _ _ _ _ _ _ _ _ _ _ _) rfl hl.1 (Nat.le_of_ble_eq_true rfl) dX8_does_298 rfl rfl (fun H locs V => ?_)
                  have e9 : pX8_does v qm qs qo qt qi qy = (u298.1, u298.2, qm, qs, qt, qi, qy) := by rw [pX8_does, if_neg c_27, if_pos c_36, if_neg c_52, if_pos c_61, if_neg c_99, if_pos c_108, if_pos c_125, if_neg w_148_49, if_neg w_148_64, if_neg w_148_65, if_neg w_148_66, if_pos w_148_68, hu298, mLet_eq]
                  exact m_iret X hr hk V (by rw [e9]) (by rw [e9]) dX8_does_301
                by_cases w_148_69 : (v 7) = 69
                · refine lv_lookup (off := 154) (tgt := 302) hx hb dX8_does_148 (by decide +kernel) (by rw [w_148_69]; rfl) (by decide) ?_
                  refine lv_aload_n hx hb dX8_does_302 rfl (lv_at hl 3 rfl) ?_
                  refine lv_iload_n hx hb dX8_does_303 rfl (lv_at hl 2 rfl) ?_
                  refine lv_i2b hx hb dX8_does_304 rfl ?_
                  obtain ⟨u305, hu305⟩ : ∃ u, pX8_gives v ((Int32.toInt8 (qo (Int32.toNatClampNeg 0))).toInt32) = u := ⟨_, rfl⟩
                  have hM := kX8_gives l D cB cI bd v qm ql qs qk qd qn qe qf qo qt qi qy ((Int32.toInt8 (qo (Int32.toNatClampNeg 0))).toInt32)
                  rw [hu305] at hM
                  refine m_VA X V (w1 := (wR cB cI bd u305.2 qm ql qs qk qd qn qe qf qo qt qi qy)) (rest := []) (st1 := [.int u305.1]) hM okX8_gives gm_553 gm_704 gm_552 ⟨⟨rfl, rfl⟩, ⟨by decide, by decide⟩, Nat.zero_le _, Nat.zero_le _⟩ rfl rfl (wR_fst _ _ _ _ _ _ _ _ _ _ _ _ _ _ _ _) (wR_fst _ _ _ _ _ _ _ _ _ _ _ _ _ _ _ _) rfl hl.1 (Nat.le_of_ble_eq_true rfl) dX8_does_305 rfl rfl (fun H locs V => ?_)
                  have e9 : pX8_does v qm qs qo qt qi qy = (u305.1, u305.2, qm, qs, qt, qi, qy) := by rw [pX8_does, if_neg c_27, if_pos c_36, if_neg c_52, if_pos c_61, if_neg c_99, if_pos c_108, if_pos c_125, if_neg w_148_49, if_neg w_148_64, if_neg w_148_65, if_neg w_148_66, if_neg w_148_68, if_pos w_148_69, hu305, mLet_eq]
                  exact m_iret X hr hk V (by rw [e9]) (by rw [e9]) dX8_does_308
                by_cases w_148_256 : (v 7) = 256
                · refine lv_lookup (off := 161) (tgt := 309) hx hb dX8_does_148 (by decide +kernel) (by rw [w_148_256]; rfl) (by decide) ?_
                  refine lv_aload_n hx hb dX8_does_309 rfl (lv_at hl 3 rfl) ?_
                  refine lv_iload_n hx hb dX8_does_310 rfl (lv_at hl 2 rfl) ?_
                  obtain ⟨u311, hu311⟩ : ∃ u, pX8_gestalt (qo (Int32.toNatClampNeg 0)) = u := ⟨_, rfl⟩
                  have hM := kX8_gestalt l D cB cI (qo (Int32.toNatClampNeg 0))
                  rw [hu311] at hM
                  refine m_S X V (rest := [.ref (bd 0)]) (st1 := [.int u311, .ref (bd 0)]) hM okX8_gestalt gm_578 gm_577 ⟨⟨rfl, rfl⟩, ⟨by decide, by decide⟩, Nat.zero_le _, Nat.zero_le _⟩ rfl hl.1 (Nat.le_of_ble_eq_true rfl) dX8_does_311 rfl rfl (fun H locs V => ?_)
                  obtain ⟨u314, hu314⟩ : ∃ u, pX8_gives v u311 = u := ⟨_, rfl⟩
                  have hM := kX8_gives l D cB cI bd v qm ql qs qk qd qn qe qf qo qt qi qy u311
                  rw [hu314] at hM
                  refine m_VA X V (w1 := (wR cB cI bd u314.2 qm ql qs qk qd qn qe qf qo qt qi qy)) (rest := []) (st1 := [.int u314.1]) hM okX8_gives gm_553 gm_704 gm_552 ⟨⟨rfl, rfl⟩, ⟨by decide, by decide⟩, Nat.zero_le _, Nat.zero_le _⟩ rfl rfl (wR_fst _ _ _ _ _ _ _ _ _ _ _ _ _ _ _ _) (wR_fst _ _ _ _ _ _ _ _ _ _ _ _ _ _ _ _) rfl hl.1 (Nat.le_of_ble_eq_true rfl) dX8_does_314 rfl rfl (fun H locs V => ?_)
                  have e9 : pX8_does v qm qs qo qt qi qy = (u314.1, u314.2, qm, qs, qt, qi, qy) := by rw [pX8_does, if_neg c_27, if_pos c_36, if_neg c_52, if_pos c_61, if_neg c_99, if_pos c_108, if_pos c_125, if_neg w_148_49, if_neg w_148_64, if_neg w_148_65, if_neg w_148_66, if_neg w_148_68, if_neg w_148_69, if_pos w_148_256, hu311, mLet_eq, hu314, mLet_eq]
                  exact m_iret X hr hk V (by rw [e9]) (by rw [e9]) dX8_does_317
                by_cases w_148_260 : (v 7) = 260
                · refine lv_lookup (off := 170) (tgt := 318) hx hb dX8_does_148 (by decide +kernel) (by rw [w_148_260]; rfl) (by decide) ?_
                  refine lv_aload_n hx hb dX8_does_318 rfl (lv_at hl 3 rfl) ?_
                  refine lv_iload_n hx hb dX8_does_319 rfl (lv_at hl 2 rfl) ?_
                  refine m_put X V (ws' := (wR cB cI bd (upd v 14 (qo (Int32.toNatClampNeg 0))) qm ql qs qk qd qn qe qf qo qt qi qy)) 6 0 23 rfl gin_6 tyX8_ok nmX8 rfl (by decide) rfl gm_446 rfl rfl rfl (Nat.le_of_ble_eq_true rfl) dX8_does_320 rfl (fun H locs V => ?_)
                  refine lv_iconst (v := 0) hx hb dX8_does_323 (by decide) ?_
                  have e9 : pX8_does v qm qs qo qt qi qy = (0, (upd v 14 (qo (Int32.toNatClampNeg 0))), qm, qs, qt, qi, qy) := by rw [pX8_does, if_neg c_27, if_pos c_36, if_neg c_52, if_pos c_61, if_neg c_99, if_pos c_108, if_pos c_125, if_neg w_148_49, if_neg w_148_64, if_neg w_148_65, if_neg w_148_66, if_neg w_148_68, if_neg w_148_69, if_neg w_148_256, if_pos w_148_260]
                  exact m_iret X hr hk V (by rw [e9]) (by rw [e9]) dX8_does_324
                by_cases w_148_288 : (v 7) = 288
                · refine lv_lookup (off := 116) (tgt := 264) hx hb dX8_does_148 (by decide +kernel) (by rw [w_148_288]; rfl) (by decide) ?_
                  refine lv_aload_n hx hb dX8_does_264 rfl (lv_at hl 3 rfl) ?_
                  refine lv_aload_n hx hb dX8_does_265 rfl (lv_at hl 3 rfl) ?_
                  refine m_get X V 6 0 11 rfl gin_6 rfl (by decide) rfl gm_434 (v := .int (v 7)) rfl dX8_does_266 ?_
                  refine lv_bipush (v := 49) hx hb dX8_does_269 (by decide) ?_
                  refine lv_icmp_ne (tgt := 278) hx hb dX8_does_271 (by decide) (fun _ => ?_) (fun h => absurd h w_148_49)
                  refine lv_iconst (v := 0) hx hb dX8_does_278 (by decide) ?_
                  refine m_put X V (ws' := (wR cB cI bd (upd v 15 0) qm ql qs qk qd qn qe qf qo qt qi qy)) 6 0 24 rfl gin_6 tyX8_ok nmX8 rfl (by decide) rfl gm_447 rfl rfl rfl (Nat.le_of_ble_eq_true rfl) dX8_does_279 rfl (fun H locs V => ?_)
                  refine lv_aload_n hx hb dX8_does_282 rfl (lv_at hl 3 rfl) ?_
                  refine lv_iconst (v := 1) hx hb dX8_does_283 (by decide) ?_
                  refine m_put X V (ws' := (wR cB cI bd (upd (upd v 3 1) 15 0) qm ql qs qk qd qn qe qf qo qt qi qy)) 6 0 7 rfl gin_6 tyX8_ok nmX8 rfl (by decide) rfl gm_430 rfl rfl rfl (Nat.le_of_ble_eq_true rfl) dX8_does_284 rfl (fun H locs V => ?_)
                  refine lv_iconst (v := 0) hx hb dX8_does_287 (by decide) ?_
                  have e9 : pX8_does v qm qs qo qt qi qy = (0, (upd (upd v 3 1) 15 0), qm, qs, qt, qi, qy) := by rw [pX8_does, if_neg c_27, if_pos c_36, if_neg c_52, if_pos c_61, if_neg c_99, if_pos c_108, if_pos c_125, if_neg w_148_49, if_neg w_148_64, if_neg w_148_65, if_neg w_148_66, if_neg w_148_68, if_neg w_148_69, if_neg w_148_256, if_neg w_148_260, if_pos w_148_288]
                  exact m_iret X hr hk V (by rw [e9]) (by rw [e9]) dX8_does_288
                by_cases w_148_336 : (v 7) = 336
                · refine lv_lookup (off := 177) (tgt := 325) hx hb dX8_does_148 (by decide +kernel) (by rw [w_148_336]; rfl) (by decide) ?_
                  refine lv_aload_n hx hb dX8_does_325 rfl (lv_at hl 3 rfl) ?_
                  obtain ⟨u326, hu326⟩ : ∃ u, pX8_searches v qm qo qy = u := ⟨_, rfl⟩
                  have hM := kX8_searches l D cB cI bd v qm ql qs qk qd qn qe qf qo qt qi qy
                  rw [hu326] at hM
                  refine m_VA X V (w1 := (wR cB cI bd u326.2.1 qm ql qs qk qd qn qe qf qo qt qi u326.2.2)) (rest := []) (st1 := [.int u326.1]) hM okX8_searches gm_583 gm_710 gm_582 ⟨⟨rfl, rfl⟩, ⟨by decide, by decide⟩, Nat.zero_le _, Nat.zero_le _⟩ rfl rfl (wR_fst _ _ _ _ _ _ _ _ _ _ _ _ _ _ _ _) (wR_fst _ _ _ _ _ _ _ _ _ _ _ _ _ _ _ _) rfl hl.1 (Nat.le_of_ble_eq_true rfl) dX8_does_326 rfl rfl (fun H locs V => ?_)
                  have e9 : pX8_does v qm qs qo qt qi qy = (u326.1, u326.2.1, qm, qs, qt, qi, u326.2.2) := by rw [pX8_does, if_neg c_27, if_pos c_36, if_neg c_52, if_pos c_61, if_neg c_99, if_pos c_108, if_pos c_125, if_neg w_148_49, if_neg w_148_64, if_neg w_148_65, if_neg w_148_66, if_neg w_148_68, if_neg w_148_69, if_neg w_148_256, if_neg w_148_260, if_neg w_148_288, if_pos w_148_336, hu326, mLet_eq]
                  exact m_iret X hr hk V (by rw [e9]) (by rw [e9]) dX8_does_329
                by_cases w_148_337 : (v 7) = 337
                · refine lv_lookup (off := 177) (tgt := 325) hx hb dX8_does_148 (by decide +kernel) (by rw [w_148_337]; rfl) (by decide) ?_
                  refine lv_aload_n hx hb dX8_does_325 rfl (lv_at hl 3 rfl) ?_
                  obtain ⟨u326, hu326⟩ : ∃ u, pX8_searches v qm qo qy = u := ⟨_, rfl⟩
                  have hM := kX8_searches l D cB cI bd v qm ql qs qk qd qn qe qf qo qt qi qy
                  rw [hu326] at hM
                  refine m_VA X V (w1 := (wR cB cI bd u326.2.1 qm ql qs qk qd qn qe qf qo qt qi u326.2.2)) (rest := []) (st1 := [.int u326.1]) hM okX8_searches gm_583 gm_710 gm_582 ⟨⟨rfl, rfl⟩, ⟨by decide, by decide⟩, Nat.zero_le _, Nat.zero_le _⟩ rfl rfl (wR_fst _ _ _ _ _ _ _ _ _ _ _ _ _ _ _ _) (wR_fst _ _ _ _ _ _ _ _ _ _ _ _ _ _ _ _) rfl hl.1 (Nat.le_of_ble_eq_true rfl) dX8_does_326 rfl rfl (fun H locs V => ?_)
                  have e9 : pX8_does v qm qs qo qt qi qy = (u326.1, u326.2.1, qm, qs, qt, qi, u326.2.2) := by rw [pX8_does, if_neg c_27, if_pos c_36, if_neg c_52, if_pos c_61, if_neg c_99, if_pos c_108, if_pos c_125, if_neg w_148_49, if_neg w_148_64, if_neg w_148_65, if_neg w_148_66, if_neg w_148_68, if_neg w_148_69, if_neg w_148_256, if_neg w_148_260, if_neg w_148_288, if_neg w_148_336, if_pos w_148_337, hu326, mLet_eq]
                  exact m_iret X hr hk V (by rw [e9]) (by rw [e9]) dX8_does_329
                by_cases w_148_368 : (v 7) = 368
                · refine lv_lookup (off := 182) (tgt := 330) hx hb dX8_does_148 (by decide +kernel) (by rw [w_148_368]; rfl) (by decide) ?_
                  refine lv_aload_n hx hb dX8_does_330 rfl (lv_at hl 3 rfl) ?_
                  refine lv_iload_n hx hb dX8_does_331 rfl (lv_at hl 2 rfl) ?_
                  refine lv_iload_n hx hb dX8_does_332 rfl (lv_at hl 1 rfl) ?_
                  obtain ⟨u333, hu333⟩ : ∃ u, pX8_clears v qm (qo (Int32.toNatClampNeg 0)) (qo (Int32.toNatClampNeg 1)) = u := ⟨_, rfl⟩
                  have hM := kX8_clears l D cB cI bd v qm ql qs qk qd qn qe qf qo qt qi qy (qo (Int32.toNatClampNeg 0)) (qo (Int32.toNatClampNeg 1))
                  rw [hu333] at hM
                  refine m_VA X V (w1 := (wR cB cI bd v u333.2 ql qs qk qd qn qe qf qo qt qi qy)) (rest := []) (st1 := [.int u333.1]) hM okX8_clears gm_601 gm_716 gm_600 ⟨⟨rfl, rfl⟩, ⟨by decide, by decide⟩, Nat.zero_le _, Nat.zero_le _⟩ rfl rfl (wR_fst _ _ _ _ _ _ _ _ _ _ _ _ _ _ _ _) (wR_fst _ _ _ _ _ _ _ _ _ _ _ _ _ _ _ _) rfl hl.1 (Nat.le_of_ble_eq_true rfl) dX8_does_333 rfl rfl (fun H locs V => ?_)
                  have e9 : pX8_does v qm qs qo qt qi qy = (u333.1, v, u333.2, qs, qt, qi, qy) := by rw [pX8_does, if_neg c_27, if_pos c_36, if_neg c_52, if_pos c_61, if_neg c_99, if_pos c_108, if_pos c_125, if_neg w_148_49, if_neg w_148_64, if_neg w_148_65, if_neg w_148_66, if_neg w_148_68, if_neg w_148_69, if_neg w_148_256, if_neg w_148_260, if_neg w_148_288, if_neg w_148_336, if_neg w_148_337, if_pos w_148_368, hu333, mLet_eq]
                  exact m_iret X hr hk V (by rw [e9]) (by rw [e9]) dX8_does_336
                by_cases w_148_369 : (v 7) = 369
                · refine lv_lookup (off := 189) (tgt := 337) hx hb dX8_does_148 (by decide +kernel) (by rw [w_148_369]; rfl) (by decide) ?_
                  refine lv_aload_n hx hb dX8_does_337 rfl (lv_at hl 3 rfl) ?_
                  refine lv_iload_n hx hb dX8_does_338 rfl (lv_at hl 2 rfl) ?_
                  refine lv_iload_n hx hb dX8_does_339 rfl (lv_at hl 1 rfl) ?_
                  refine lv_iload_n hx hb dX8_does_340 rfl (lv_at hl 0 rfl) ?_
                  obtain ⟨u341, hu341⟩ : ∃ u, pX8_copies v qm qi (qo (Int32.toNatClampNeg 0)) (qo (Int32.toNatClampNeg 1)) (qo (Int32.toNatClampNeg 2)) = u := ⟨_, rfl⟩
                  have hM := kX8_copies l D cB cI bd v qm ql qs qk qd qn qe qf qo qt qi qy (qo (Int32.toNatClampNeg 0)) (qo (Int32.toNatClampNeg 1)) (qo (Int32.toNatClampNeg 2))
                  rw [hu341] at hM
                  refine m_VA X V (w1 := (wR cB cI bd v u341.2.1 ql qs qk qd qn qe qf qo qt u341.2.2 qy)) (rest := []) (st1 := [.int u341.1]) hM okX8_copies gm_604 gm_717 gm_603 ⟨⟨rfl, rfl⟩, ⟨by decide, by decide⟩, Nat.zero_le _, Nat.zero_le _⟩ rfl rfl (wR_fst _ _ _ _ _ _ _ _ _ _ _ _ _ _ _ _) (wR_fst _ _ _ _ _ _ _ _ _ _ _ _ _ _ _ _) rfl hl.1 (Nat.le_of_ble_eq_true rfl) dX8_does_341 rfl rfl (fun H locs V => ?_)
                  have e9 : pX8_does v qm qs qo qt qi qy = (u341.1, v, u341.2.1, qs, qt, u341.2.2, qy) := by rw [pX8_does, if_neg c_27, if_pos c_36, if_neg c_52, if_pos c_61, if_neg c_99, if_pos c_108, if_pos c_125, if_neg w_148_49, if_neg w_148_64, if_neg w_148_65, if_neg w_148_66, if_neg w_148_68, if_neg w_148_69, if_neg w_148_256, if_neg w_148_260, if_neg w_148_288, if_neg w_148_336, if_neg w_148_337, if_neg w_148_368, if_pos w_148_369, hu341, mLet_eq]
                  exact m_iret X hr hk V (by rw [e9]) (by rw [e9]) dX8_does_344
                refine lv_lookup (off := 197) (tgt := 345) hx hb dX8_does_148 (by decide +kernel) ((lv_osw w_148_49 rfl).trans ((lv_osw w_148_64 rfl).trans ((lv_osw w_148_65 rfl).trans ((lv_osw w_148_66 rfl).trans ((lv_osw w_148_68 rfl).trans ((lv_osw w_148_69 rfl).trans ((lv_osw w_148_256 rfl).trans ((lv_osw w_148_260 rfl).trans ((lv_osw w_148_288 rfl).trans ((lv_osw w_148_336 rfl).trans ((lv_osw w_148_337 rfl).trans ((lv_osw w_148_368 rfl).trans ((lv_osw w_148_369 rfl).trans (rfl)))))))))))))) (by decide) ?_
                refine lv_iconst (v := 0) hx hb dX8_does_345 (by decide) ?_
                have e9 : pX8_does v qm qs qo qt qi qy = (0, v, qm, qs, qt, qi, qy) := by rw [pX8_does, if_neg c_27, if_pos c_36, if_neg c_52, if_pos c_61, if_neg c_99, if_pos c_108, if_pos c_125, if_neg w_148_49, if_neg w_148_64, if_neg w_148_65, if_neg w_148_66, if_neg w_148_68, if_neg w_148_69, if_neg w_148_256, if_neg w_148_260, if_neg w_148_288, if_neg w_148_336, if_neg w_148_337, if_neg w_148_368, if_neg w_148_369]
                exact m_iret X hr hk V (by rw [e9]) (by rw [e9]) dX8_does_346
              · refine lv_aload_n hx hb dX8_does_128 rfl (lv_at hl 3 rfl) ?_
                refine m_get X V 6 0 11 rfl gin_6 rfl (by decide) rfl gm_434 (v := .int (v 7)) rfl dX8_does_129 ?_
                refine lv_bipush (v := 84) hx hb dX8_does_132 (by decide) ?_
                refine lv_icmp_gt (tgt := 144) hx hb dX8_does_134 (by decide) (fun c_134 => ?_) (fun c_134 => ?_)
                · refine lv_aload_n hx hb dX8_does_144 rfl (lv_at hl 3 rfl) ?_
                  refine m_get X V 6 0 11 rfl gin_6 rfl (by decide) rfl gm_434 (v := .int (v 7)) rfl dX8_does_145 ?_
                  by_cases w_148_49 : (v 7) = 49
                  · refine lv_lookup (off := 116) (tgt := 264) hx hb dX8_does_148 (by decide +kernel) (by rw [w_148_49]; rfl) (by decide) ?_
                    refine lv_aload_n hx hb dX8_does_264 rfl (lv_at hl 3 rfl) ?_
                    refine lv_aload_n hx hb dX8_does_265 rfl (lv_at hl 3 rfl) ?_
                    refine m_get X V 6 0 11 rfl gin_6 rfl (by decide) rfl gm_434 (v := .int (v 7)) rfl dX8_does_266 ?_
                    refine lv_bipush (v := 49) hx hb dX8_does_269 (by decide) ?_
                    refine lv_icmp_ne (tgt := 278) hx hb dX8_does_271 (by decide) (fun h => absurd w_148_49 h) (fun _ => ?_)
                    refine lv_iload_n hx hb dX8_does_274 rfl (lv_at hl 2 rfl) ?_
                    refine lv_goto (tgt := 279) hx hb dX8_does_275 (by decide) ?_
                    refine m_put X V (ws' := (wR cB cI bd (upd v 15 (qo (Int32.toNatClampNeg 0))) qm ql qs qk qd qn qe qf qo qt qi qy)) 6 0 24 rfl gin_6 tyX8_ok nmX8 rfl (by decide) rfl gm_447 rfl rfl rfl (Nat.le_of_ble_eq_true rfl) dX8_does_279 rfl (fun H locs V => ?_)
                    refine lv_aload_n hx hb dX8_does_282 rfl (lv_at hl 3 rfl) ?_
                    refine lv_iconst (v := 1) hx hb dX8_does_283 (by decide) ?_
                    refine m_put X V (ws' := (wR cB cI bd (upd (upd v 3 1) 15 (qo (Int32.toNatClampNeg 0))) qm ql qs qk qd qn qe qf qo qt qi qy)) 6 0 7 rfl gin_6 tyX8_ok nmX8 rfl (by decide) rfl gm_430 rfl rfl rfl (Nat.le_of_ble_eq_true rfl) dX8_does_284 rfl (fun H locs V => ?_)
                    refine lv_iconst (v := 0) hx hb dX8_does_287 (by decide) ?_
                    have e9 : pX8_does v qm qs qo qt qi qy = (0, (upd (upd v 3 1) 15 (qo (Int32.toNatClampNeg 0))), qm, qs, qt, qi, qy) := by rw [pX8_does, if_neg c_27, if_pos c_36, if_neg c_52, if_pos c_61, if_neg c_99, if_pos c_108, if_neg c_125, if_pos c_134, if_pos w_148_49]
                    exact m_iret X hr hk V (by rw [e9]) (by rw [e9]) dX8_does_288
                  by_cases w_148_64 : (v 7) = 64
                  · refine lv_lookup (off := 141) (tgt := 289) hx hb dX8_does_148 (by decide +kernel) (by rw [w_148_64]; rfl) (by decide) ?_
                    refine lv_aload_n hx hb dX8_does_289 rfl (lv_at hl 3 rfl) ?_
                    refine lv_iload_n hx hb dX8_does_290 rfl (lv_at hl 2 rfl) ?_
                    obtain ⟨u291, hu291⟩ : ∃ u, pX8_gives v (qo (Int32.toNatClampNeg 0)) = u := ⟨_, rfl⟩
                    have hM := kX8_gives l D cB cI bd v qm ql qs qk qd qn qe qf qo qt qi qy (qo (Int32.toNatClampNeg 0))
                    rw [hu291] at hM
                    refine m_VA X V (w1 := (wR cB cI bd u291.2 qm ql qs qk qd qn qe qf qo qt qi qy)) (rest := []) (st1 := [.int u291.1]) hM okX8_gives gm_553 gm_704 gm_552 ⟨⟨rfl, rfl⟩, ⟨by decide, by decide⟩, Nat.zero_le _, Nat.zero_le _⟩ rfl rfl (wR_fst _ _ _ _ _ _ _ _ _ _ _ _ _ _ _ _) (wR_fst _ _ _ _ _ _ _ _ _ _ _ _ _ _ _ _) rfl hl.1 (Nat.le_of_ble_eq_true rfl) dX8_does_291 rfl rfl (fun H locs V => ?_)
                    have e9 : pX8_does v qm qs qo qt qi qy = (u291.1, u291.2, qm, qs, qt, qi, qy) := by rw [pX8_does, if_neg c_27, if_pos c_36, if_neg c_52, if_pos c_61, if_neg c_99, if_pos c_108, if_neg c_125, if_pos c_134, if_neg w_148_49, if_pos w_148_64, hu291, mLet_eq]
                    exact m_iret X hr hk V (by rw [e9]) (by rw [e9]) dX8_does_294
                  by_cases w_148_65 : (v 7) = 65
                  · refine lv_lookup (off := 141) (tgt := 289) hx hb dX8_does_148 (by decide +kernel) (by rw [w_148_65]; rfl) (by decide) ?_
                    refine lv_aload_n hx hb dX8_does_289 rfl (lv_at hl 3 rfl) ?_
                    refine lv_iload_n hx hb dX8_does_290 rfl (lv_at hl 2 rfl) ?_
                    obtain ⟨u291, hu291⟩ : ∃ u, pX8_gives v (qo (Int32.toNatClampNeg 0)) = u := ⟨_, rfl⟩
                    have hM := kX8_gives l D cB cI bd v qm ql qs qk qd qn qe qf qo qt qi qy (qo (Int32.toNatClampNeg 0))
                    rw [hu291] at hM
                    refine m_VA X V (w1 := (wR cB cI bd u291.2 qm ql qs qk qd qn qe qf qo qt qi qy)) (rest := []) (st1 := [.int u291.1]) hM okX8_gives gm_553 gm_704 gm_552 ⟨⟨rfl, rfl⟩, ⟨by decide, by decide⟩, Nat.zero_le _, Nat.zero_le _⟩ rfl rfl (wR_fst _ _ _ _ _ _ _ _ _ _ _ _ _ _ _ _) (wR_fst _ _ _ _ _ _ _ _ _ _ _ _ _ _ _ _) rfl hl.1 (Nat.le_of_ble_eq_true rfl) dX8_does_291 rfl rfl (fun H locs V => ?_)
                    have e9 : pX8_does v qm qs qo qt qi qy = (u291.1, u291.2, qm, qs, qt, qi, qy) := by rw [pX8_does, if_neg c_27, if_pos c_36, if_neg c_52, if_pos c_61, if_neg c_99, if_pos c_108, if_neg c_125, if_pos c_134, if_neg w_148_49, if_neg w_148_64, if_pos w_148_65, hu291, mLet_eq]
                    exact m_iret X hr hk V (by rw [e9]) (by rw [e9]) dX8_does_294
                  by_cases w_148_66 : (v 7) = 66
                  · refine lv_lookup (off := 141) (tgt := 289) hx hb dX8_does_148 (by decide +kernel) (by rw [w_148_66]; rfl) (by decide) ?_
                    refine lv_aload_n hx hb dX8_does_289 rfl (lv_at hl 3 rfl) ?_
                    refine lv_iload_n hx hb dX8_does_290 rfl (lv_at hl 2 rfl) ?_
                    obtain ⟨u291, hu291⟩ : ∃ u, pX8_gives v (qo (Int32.toNatClampNeg 0)) = u := ⟨_, rfl⟩
                    have hM := kX8_gives l D cB cI bd v qm ql qs qk qd qn qe qf qo qt qi qy (qo (Int32.toNatClampNeg 0))
                    rw [hu291] at hM
                    refine m_VA X V (w1 := (wR cB cI bd u291.2 qm ql qs qk qd qn qe qf qo qt qi qy)) (rest := []) (st1 := [.int u291.1]) hM okX8_gives gm_553 gm_704 gm_552 ⟨⟨rfl, rfl⟩, ⟨by decide, by decide⟩, Nat.zero_le _, Nat.zero_le _⟩ rfl rfl (wR_fst _ _ _ _ _ _ _ _ _ _ _ _ _ _ _ _) (wR_fst _ _ _ _ _ _ _ _ _ _ _ _ _ _ _ _) rfl hl.1 (Nat.le_of_ble_eq_true rfl) dX8_does_291 rfl rfl (fun H locs V => ?_)
                    have e9 : pX8_does v qm qs qo qt qi qy = (u291.1, u291.2, qm, qs, qt, qi, qy) := by rw [pX8_does, if_neg c_27, if_pos c_36, if_neg c_52, if_pos c_61, if_neg c_99, if_pos c_108, if_neg c_125, if_pos c_134, if_neg w_148_49, if_neg w_148_64, if_neg w_148_65, if_pos w_148_66, hu291, mLet_eq]
                    exact m_iret X hr hk V (by rw [e9]) (by rw [e9]) dX8_does_294
                  by_cases w_148_68 : (v 7) = 68
                  · refine lv_lookup (off := 147) (tgt := 295) hx hb dX8_does_148 (by decide +kernel) (by rw [w_148_68]; rfl) (by decide) ?_
                    refine lv_aload_n hx hb dX8_does_295 rfl (lv_at hl 3 rfl) ?_
                    refine lv_iload_n hx hb dX8_does_296 rfl (lv_at hl 2 rfl) ?_
                    refine lv_i2s hx hb dX8_does_297 rfl ?_
                    obtain ⟨u298, hu298⟩ : ∃ u, pX8_gives v ((Int32.toInt16 (qo (Int32.toNatClampNeg 0))).toInt32) = u := ⟨_, rfl⟩
                    have hM := kX8_gives l D cB cI bd v qm ql qs qk qd qn qe qf qo qt qi qy ((Int32.toInt16 (qo (Int32.toNatClampNeg 0))).toInt32)
                    rw [hu298] at hM
                    refine m_VA X V (w1 := (wR cB cI bd u298.2 qm ql qs qk qd qn qe qf qo qt qi qy)) (rest := []) (st1 := [.int u298.1]) hM okX8_gives gm_553 gm_704 gm_552 ⟨⟨rfl, rfl⟩, ⟨by decide, by decide⟩, Nat.zero_le _, Nat.zero_le _⟩ rfl rfl (wR_fst _ _ _ _ _ _ _ _ _ _ _ _ _ _ _ _) (wR_fst _ _ _ _ _ _ _ _ _ _ _ _ _ _ _ _) rfl hl.1 (Nat.le_of_ble_eq_true rfl) dX8_does_298 rfl rfl (fun H locs V => ?_)
                    have e9 : pX8_does v qm qs qo qt qi qy = (u298.1, u298.2, qm, qs, qt, qi, qy) := by rw [pX8_does, if_neg c_27, if_pos c_36, if_neg c_52, if_pos c_61, if_neg c_99, if_pos c_108, if_neg c_125, if_pos c_134, if_neg w_148_49, if_neg w_148_64, if_neg w_148_65, if_neg w_148_66, if_pos w_148_68, hu298, mLet_eq]
                    exact m_iret X hr hk V (by rw [e9]) (by rw [e9]) dX8_does_301
                  by_cases w_148_69 : (v 7) = 69
                  · refine lv_lookup (off := 154) (tgt := 302) hx hb dX8_does_148 (by decide +kernel) (by rw [w_148_69]; rfl) (by decide) ?_
                    refine lv_aload_n hx hb dX8_does_302 rfl (lv_at hl 3 rfl) ?_
                    refine lv_iload_n hx hb dX8_does_303 rfl (lv_at hl 2 rfl) ?_
                    refine lv_i2b hx hb dX8_does_304 rfl ?_
                    obtain ⟨u305, hu305⟩ : ∃ u, pX8_gives v ((Int32.toInt8 (qo (Int32.toNatClampNeg 0))).toInt32) = u := ⟨_, rfl⟩
                    have hM := kX8_gives l D cB cI bd v qm ql qs qk qd qn qe qf qo qt qi qy ((Int32.toInt8 (qo (Int32.toNatClampNeg 0))).toInt32)
                    rw [hu305] at hM
                    refine m_VA X V (w1 := (wR cB cI bd u305.2 qm ql qs qk qd qn qe qf qo qt qi qy)) (rest := []) (st1 := [.int u305.1]) hM okX8_gives gm_553 gm_704 gm_552 ⟨⟨rfl, rfl⟩, ⟨by decide, by decide⟩, Nat.zero_le _, Nat.zero_le _⟩ rfl rfl (wR_fst _ _ _ _ _ _ _ _ _ _ _ _ _ _ _ _) (wR_fst _ _ _ _ _ _ _ _ _ _ _ _ _ _ _ _) rfl hl.1 (Nat.le_of_ble_eq_true rfl) dX8_does_305 rfl rfl (fun H locs V => ?_)
                    have e9 : pX8_does v qm qs qo qt qi qy = (u305.1, u305.2, qm, qs, qt, qi, qy) := by rw [pX8_does, if_neg c_27, if_pos c_36, if_neg c_52, if_pos c_61, if_neg c_99, if_pos c_108, if_neg c_125, if_pos c_134, if_neg w_148_49, if_neg w_148_64, if_neg w_148_65, if_neg w_148_66, if_neg w_148_68, if_pos w_148_69, hu305, mLet_eq]
                    exact m_iret X hr hk V (by rw [e9]) (by rw [e9]) dX8_does_308
                  by_cases w_148_256 : (v 7) = 256
                  · refine lv_lookup (off := 161) (tgt := 309) hx hb dX8_does_148 (by decide +kernel) (by rw [w_148_256]; rfl) (by decide) ?_
                    refine lv_aload_n hx hb dX8_does_309 rfl (lv_at hl 3 rfl) ?_
                    refine lv_iload_n hx hb dX8_does_310 rfl (lv_at hl 2 rfl) ?_
                    obtain ⟨u311, hu311⟩ : ∃ u, pX8_gestalt (qo (Int32.toNatClampNeg 0)) = u := ⟨_, rfl⟩
                    have hM := kX8_gestalt l D cB cI (qo (Int32.toNatClampNeg 0))
                    rw [hu311] at hM
                    refine m_S X V (rest := [.ref (bd 0)]) (st1 := [.int u311, .ref (bd 0)]) hM okX8_gestalt gm_578 gm_577 ⟨⟨rfl, rfl⟩, ⟨by decide, by decide⟩, Nat.zero_le _, Nat.zero_le _⟩ rfl hl.1 (Nat.le_of_ble_eq_true rfl) dX8_does_311 rfl rfl (fun H locs V => ?_)
                    obtain ⟨u314, hu314⟩ : ∃ u, pX8_gives v u311 = u := ⟨_, rfl⟩
                    have hM := kX8_gives l D cB cI bd v qm ql qs qk qd qn qe qf qo qt qi qy u311
                    rw [hu314] at hM
                    refine m_VA X V (w1 := (wR cB cI bd u314.2 qm ql qs qk qd qn qe qf qo qt qi qy)) (rest := []) (st1 := [.int u314.1]) hM okX8_gives gm_553 gm_704 gm_552 ⟨⟨rfl, rfl⟩, ⟨by decide, by decide⟩, Nat.zero_le _, Nat.zero_le _⟩ rfl rfl (wR_fst _ _ _ _ _ _ _ _ _ _ _ _ _ _ _ _) (wR_fst _ _ _ _ _ _ _ _ _ _ _ _ _ _ _ _) rfl hl.1 (Nat.le_of_ble_eq_true rfl) dX8_does_314 rfl rfl (fun H locs V => ?_)
                    have e9 : pX8_does v qm qs qo qt qi qy = (u314.1, u314.2, qm, qs, qt, qi, qy) := by rw [pX8_does, if_neg c_27, if_pos c_36, if_neg c_52, if_pos c_61, if_neg c_99, if_pos c_108, if_neg c_125, if_pos c_134, if_neg w_148_49, if_neg w_148_64, if_neg w_148_65, if_neg w_148_66, if_neg w_148_68, if_neg w_148_69, if_pos w_148_256, hu311, mLet_eq, hu314, mLet_eq]
                    exact m_iret X hr hk V (by rw [e9]) (by rw [e9]) dX8_does_317
                  by_cases w_148_260 : (v 7) = 260
                  · refine lv_lookup (off := 170) (tgt := 318) hx hb dX8_does_148 (by decide +kernel) (by rw [w_148_260]; rfl) (by decide) ?_
                    refine lv_aload_n hx hb dX8_does_318 rfl (lv_at hl 3 rfl) ?_
                    refine lv_iload_n hx hb dX8_does_319 rfl (lv_at hl 2 rfl) ?_
                    refine m_put X V (ws' := (wR cB cI bd (upd v 14 (qo (Int32.toNatClampNeg 0))) qm ql qs qk qd qn qe qf qo qt qi qy)) 6 0 23 rfl gin_6 tyX8_ok nmX8 rfl (by decide) rfl gm_446 rfl rfl rfl (Nat.le_of_ble_eq_true rfl) dX8_does_320 rfl (fun H locs V => ?_)
                    refine lv_iconst (v := 0) hx hb dX8_does_323 (by decide) ?_
                    have e9 : pX8_does v qm qs qo qt qi qy = (0, (upd v 14 (qo (Int32.toNatClampNeg 0))), qm, qs, qt, qi, qy) := by rw [pX8_does, if_neg c_27, if_pos c_36, if_neg c_52, if_pos c_61, if_neg c_99, if_pos c_108, if_neg c_125, if_pos c_134, if_neg w_148_49, if_neg w_148_64, if_neg w_148_65, if_neg w_148_66, if_neg w_148_68, if_neg w_148_69, if_neg w_148_256, if_pos w_148_260]
                    exact m_iret X hr hk V (by rw [e9]) (by rw [e9]) dX8_does_324
                  by_cases w_148_288 : (v 7) = 288
                  · refine lv_lookup (off := 116) (tgt := 264) hx hb dX8_does_148 (by decide +kernel) (by rw [w_148_288]; rfl) (by decide) ?_
                    refine lv_aload_n hx hb dX8_does_264 rfl (lv_at hl 3 rfl) ?_
                    refine lv_aload_n hx hb dX8_does_265 rfl (lv_at hl 3 rfl) ?_
                    refine m_get X V 6 0 11 rfl gin_6 rfl (by decide) rfl gm_434 (v := .int (v 7)) rfl dX8_does_266 ?_
                    refine lv_bipush (v := 49) hx hb dX8_does_269 (by decide) ?_
                    refine lv_icmp_ne (tgt := 278) hx hb dX8_does_271 (by decide) (fun _ => ?_) (fun h => absurd h w_148_49)
                    refine lv_iconst (v := 0) hx hb dX8_does_278 (by decide) ?_
                    refine m_put X V (ws' := (wR cB cI bd (upd v 15 0) qm ql qs qk qd qn qe qf qo qt qi qy)) 6 0 24 rfl gin_6 tyX8_ok nmX8 rfl (by decide) rfl gm_447 rfl rfl rfl (Nat.le_of_ble_eq_true rfl) dX8_does_279 rfl (fun H locs V => ?_)
                    refine lv_aload_n hx hb dX8_does_282 rfl (lv_at hl 3 rfl) ?_
                    refine lv_iconst (v := 1) hx hb dX8_does_283 (by decide) ?_
                    refine m_put X V (ws' := (wR cB cI bd (upd (upd v 3 1) 15 0) qm ql qs qk qd qn qe qf qo qt qi qy)) 6 0 7 rfl gin_6 tyX8_ok nmX8 rfl (by decide) rfl gm_430 rfl rfl rfl (Nat.le_of_ble_eq_true rfl) dX8_does_284 rfl (fun H locs V => ?_)
                    refine lv_iconst (v := 0) hx hb dX8_does_287 (by decide) ?_
                    have e9 : pX8_does v qm qs qo qt qi qy = (0, (upd (upd v 3 1) 15 0), qm, qs, qt, qi, qy) := by rw [pX8_does, if_neg c_27, if_pos c_36, if_neg c_52, if_pos c_61, if_neg c_99, if_pos c_108, if_neg c_125, if_pos c_134, if_neg w_148_49, if_neg w_148_64, if_neg w_148_65, if_neg w_148_66, if_neg w_148_68, if_neg w_148_69, if_neg w_148_256, if_neg w_148_260, if_pos w_148_288]
                    exact m_iret X hr hk V (by rw [e9]) (by rw [e9]) dX8_does_288
                  by_cases w_148_336 : (v 7) = 336
                  · refine lv_lookup (off := 177) (tgt := 325) hx hb dX8_does_148 (by decide +kernel) (by rw [w_148_336]; rfl) (by decide) ?_
                    refine lv_aload_n hx hb dX8_does_325 rfl (lv_at hl 3 rfl) ?_
                    obtain ⟨u326, hu326⟩ : ∃ u, pX8_searches v qm qo qy = u := ⟨_, rfl⟩
                    have hM := kX8_searches l D cB cI bd v qm ql qs qk qd qn qe qf qo qt qi qy
                    rw [hu326] at hM
                    refine m_VA X V (w1 := (wR cB cI bd u326.2.1 qm ql qs qk qd qn qe qf qo qt qi u326.2.2)) (rest := []) (st1 := [.int u326.1]) hM okX8_searches gm_583 gm_710 gm_582 ⟨⟨rfl, rfl⟩, ⟨by decide, by decide⟩, Nat.zero_le _, Nat.zero_le _⟩ rfl rfl (wR_fst _ _ _ _ _ _ _ _ _ _ _ _ _ _ _ _) (wR_fst _ _ _ _ _ _ _ _ _ _ _ _ _ _ _ _) rfl hl.1 (Nat.le_of_ble_eq_true rfl) dX8_does_326 rfl rfl (fun H locs V => ?_)
                    have e9 : pX8_does v qm qs qo qt qi qy = (u326.1, u326.2.1, qm, qs, qt, qi, u326.2.2) := by rw [pX8_does, if_neg c_27, if_pos c_36, if_neg c_52, if_pos c_61, if_neg c_99, if_pos c_108, if_neg c_125, if_pos c_134, if_neg w_148_49, if_neg w_148_64, if_neg w_148_65, if_neg w_148_66, if_neg w_148_68, if_neg w_148_69, if_neg w_148_256, if_neg w_148_260, if_neg w_148_288, if_pos w_148_336, hu326, mLet_eq]
                    exact m_iret X hr hk V (by rw [e9]) (by rw [e9]) dX8_does_329
                  by_cases w_148_337 : (v 7) = 337
                  · refine lv_lookup (off := 177) (tgt := 325) hx hb dX8_does_148 (by decide +kernel) (by rw [w_148_337]; rfl) (by decide) ?_
                    refine lv_aload_n hx hb dX8_does_325 rfl (lv_at hl 3 rfl) ?_
                    obtain ⟨u326, hu326⟩ : ∃ u, pX8_searches v qm qo qy = u := ⟨_, rfl⟩
                    have hM := kX8_searches l D cB cI bd v qm ql qs qk qd qn qe qf qo qt qi qy
                    rw [hu326] at hM
                    refine m_VA X V (w1 := (wR cB cI bd u326.2.1 qm ql qs qk qd qn qe qf qo qt qi u326.2.2)) (rest := []) (st1 := [.int u326.1]) hM okX8_searches gm_583 gm_710 gm_582 ⟨⟨rfl, rfl⟩, ⟨by decide, by decide⟩, Nat.zero_le _, Nat.zero_le _⟩ rfl rfl (wR_fst _ _ _ _ _ _ _ _ _ _ _ _ _ _ _ _) (wR_fst _ _ _ _ _ _ _ _ _ _ _ _ _ _ _ _) rfl hl.1 (Nat.le_of_ble_eq_true rfl) dX8_does_326 rfl rfl (fun H locs V => ?_)
                    have e9 : pX8_does v qm qs qo qt qi qy = (u326.1, u326.2.1, qm, qs, qt, qi, u326.2.2) := by rw [pX8_does, if_neg c_27, if_pos c_36, if_neg c_52, if_pos c_61, if_neg c_99, if_pos c_108, if_neg c_125, if_pos c_134, if_neg w_148_49, if_neg w_148_64, if_neg w_148_65, if_neg w_148_66, if_neg w_148_68, if_neg w_148_69, if_neg w_148_256, if_neg w_148_260, if_neg w_148_288, if_neg w_148_336, if_pos w_148_337, hu326, mLet_eq]
                    exact m_iret X hr hk V (by rw [e9]) (by rw [e9]) dX8_does_329
                  by_cases w_148_368 : (v 7) = 368
                  · refine lv_lookup (off := 182) (tgt := 330) hx hb dX8_does_148 (by decide +kernel) (by rw [w_148_368]; rfl) (by decide) ?_
                    refine lv_aload_n hx hb dX8_does_330 rfl (lv_at hl 3 rfl) ?_
                    refine lv_iload_n hx hb dX8_does_331 rfl (lv_at hl 2 rfl) ?_
                    refine lv_iload_n hx hb dX8_does_332 rfl (lv_at hl 1 rfl) ?_
                    obtain ⟨u333, hu333⟩ : ∃ u, pX8_clears v qm (qo (Int32.toNatClampNeg 0)) (qo (Int32.toNatClampNeg 1)) = u := ⟨_, rfl⟩
                    have hM := kX8_clears l D cB cI bd v qm ql qs qk qd qn qe qf qo qt qi qy (qo (Int32.toNatClampNeg 0)) (qo (Int32.toNatClampNeg 1))
                    rw [hu333] at hM
                    refine m_VA X V (w1 := (wR cB cI bd v u333.2 ql qs qk qd qn qe qf qo qt qi qy)) (rest := []) (st1 := [.int u333.1]) hM okX8_clears gm_601 gm_716 gm_600 ⟨⟨rfl, rfl⟩, ⟨by decide, by decide⟩, Nat.zero_le _, Nat.zero_le _⟩ rfl rfl (wR_fst _ _ _ _ _ _ _ _ _ _ _ _ _ _ _ _) (wR_fst _ _ _ _ _ _ _ _ _ _ _ _ _ _ _ _) rfl hl.1 (Nat.le_of_ble_eq_true rfl) dX8_does_333 rfl rfl (fun H locs V => ?_)
                    have e9 : pX8_does v qm qs qo qt qi qy = (u333.1, v, u333.2, qs, qt, qi, qy) := by rw [pX8_does, if_neg c_27, if_pos c_36, if_neg c_52, if_pos c_61, if_neg c_99, if_pos c_108, if_neg c_125, if_pos c_134, if_neg w_148_49, if_neg w_148_64, if_neg w_148_65, if_neg w_148_66, if_neg w_148_68, if_neg w_148_69, if_neg w_148_256, if_neg w_148_260, if_neg w_148_288, if_neg w_148_336, if_neg w_148_337, if_pos w_148_368, hu333, mLet_eq]
                    exact m_iret X hr hk V (by rw [e9]) (by rw [e9]) dX8_does_336
                  by_cases w_148_369 : (v 7) = 369
                  · refine lv_lookup (off := 189) (tgt := 337) hx hb dX8_does_148 (by decide +kernel) (by rw [w_148_369]; rfl) (by decide) ?_
                    refine lv_aload_n hx hb dX8_does_337 rfl (lv_at hl 3 rfl) ?_
                    refine lv_iload_n hx hb dX8_does_338 rfl (lv_at hl 2 rfl) ?_
                    refine lv_iload_n hx hb dX8_does_339 rfl (lv_at hl 1 rfl) ?_
                    refine lv_iload_n hx hb dX8_does_340 rfl (lv_at hl 0 rfl) ?_
                    obtain ⟨u341, hu341⟩ : ∃ u, pX8_copies v qm qi (qo (Int32.toNatClampNeg 0)) (qo (Int32.toNatClampNeg 1)) (qo (Int32.toNatClampNeg 2)) = u := ⟨_, rfl⟩
                    have hM := kX8_copies l D cB cI bd v qm ql qs qk qd qn qe qf qo qt qi qy (qo (Int32.toNatClampNeg 0)) (qo (Int32.toNatClampNeg 1)) (qo (Int32.toNatClampNeg 2))
                    rw [hu341] at hM
                    refine m_VA X V (w1 := (wR cB cI bd v u341.2.1 ql qs qk qd qn qe qf qo qt u341.2.2 qy)) (rest := []) (st1 := [.int u341.1]) hM okX8_copies gm_604 gm_717 gm_603 ⟨⟨rfl, rfl⟩, ⟨by decide, by decide⟩, Nat.zero_le _, Nat.zero_le _⟩ rfl rfl (wR_fst _ _ _ _ _ _ _ _ _ _ _ _ _ _ _ _) (wR_fst _ _ _ _ _ _ _ _ _ _ _ _ _ _ _ _) rfl hl.1 (Nat.le_of_ble_eq_true rfl) dX8_does_341 rfl rfl (fun H locs V => ?_)
                    have e9 : pX8_does v qm qs qo qt qi qy = (u341.1, v, u341.2.1, qs, qt, u341.2.2, qy) := by rw [pX8_does, if_neg c_27, if_pos c_36, if_neg c_52, if_pos c_61, if_neg c_99, if_pos c_108, if_neg c_125, if_pos c_134, if_neg w_148_49, if_neg w_148_64, if_neg w_148_65, if_neg w_148_66, if_neg w_148_68, if_neg w_148_69, if_neg w_148_256, if_neg w_148_260, if_neg w_148_288, if_neg w_148_336, if_neg w_148_337, if_neg w_148_368, if_pos w_148_369, hu341, mLet_eq]
                    exact m_iret X hr hk V (by rw [e9]) (by rw [e9]) dX8_does_344
                  refine lv_lookup (off := 197) (tgt := 345) hx hb dX8_does_148 (by decide +kernel) ((lv_osw w_148_49 rfl).trans ((lv_osw w_148_64 rfl).trans ((lv_osw w_148_65 rfl).trans ((lv_osw w_148_66 rfl).trans ((lv_osw w_148_68 rfl).trans ((lv_osw w_148_69 rfl).trans ((lv_osw w_148_256 rfl).trans ((lv_osw w_148_260 rfl).trans ((lv_osw w_148_288 rfl).trans ((lv_osw w_148_336 rfl).trans ((lv_osw w_148_337 rfl).trans ((lv_osw w_148_368 rfl).trans ((lv_osw w_148_369 rfl).trans (rfl)))))))))))))) (by decide) ?_
                  refine lv_iconst (v := 0) hx hb dX8_does_345 (by decide) ?_
                  have e9 : pX8_does v qm qs qo qt qi qy = (0, v, qm, qs, qt, qi, qy) := by rw [pX8_does, if_neg c_27, if_pos c_36, if_neg c_52, if_pos c_61, if_neg c_99, if_pos c_108, if_neg c_125, if_pos c_134, if_neg w_148_49, if_neg w_148_64, if_neg w_148_65, if_neg w_148_66, if_neg w_148_68, if_neg w_148_69, if_neg w_148_256, if_neg w_148_260, if_neg w_148_288, if_neg w_148_336, if_neg w_148_337, if_neg w_148_368, if_neg w_148_369]
                  exact m_iret X hr hk V (by rw [e9]) (by rw [e9]) dX8_does_346
                · refine lv_aload_n hx hb dX8_does_137 rfl (lv_at hl 3 rfl) ?_
                  refine lv_iload_n hx hb dX8_does_138 rfl (lv_at hl 2 rfl) ?_
                  refine lv_iload_n hx hb dX8_does_139 rfl (lv_at hl 1 rfl) ?_
                  obtain ⟨u140, hu140⟩ : ∃ u, pX8_onStack v qs qt (qo (Int32.toNatClampNeg 0)) (qo (Int32.toNatClampNeg 1)) = u := ⟨_, rfl⟩
                  have hM := kX8_onStack l D cB cI bd v qm ql qs qk qd qn qe qf qo qt qi qy (qo (Int32.toNatClampNeg 0)) (qo (Int32.toNatClampNeg 1)) (show 0 ≤ Int32.toInt (v 0) ∧ Int32.toInt (v 0) ≤ 40 by omega)
                  rw [hu140] at hM
                  refine m_VA X V (w1 := (wR cB cI bd u140.2.1 qm ql u140.2.2.1 qk qd qn qe qf qo u140.2.2.2 qi qy)) (rest := []) (st1 := [.int u140.1]) hM okX8_onStack gm_572 gm_708 gm_571 ⟨⟨rfl, rfl⟩, ⟨by decide, by decide⟩, Nat.zero_le _, Nat.zero_le _⟩ rfl rfl (wR_fst _ _ _ _ _ _ _ _ _ _ _ _ _ _ _ _) (wR_fst _ _ _ _ _ _ _ _ _ _ _ _ _ _ _ _) rfl hl.1 (Nat.le_of_ble_eq_true rfl) dX8_does_140 rfl rfl (fun H locs V => ?_)
                  have e9 : pX8_does v qm qs qo qt qi qy = (u140.1, u140.2.1, qm, u140.2.2.1, u140.2.2.2, qi, qy) := by rw [pX8_does, if_neg c_27, if_pos c_36, if_neg c_52, if_pos c_61, if_neg c_99, if_pos c_108, if_neg c_125, if_neg c_134, hu140, mLet_eq]
                  exact m_iret X hr hk V (by rw [e9]) (by rw [e9]) dX8_does_143
            · refine lv_aload_n hx hb dX8_does_111 rfl (lv_at hl 3 rfl) ?_
              refine lv_iload_n hx hb dX8_does_112 rfl (lv_at hl 2 rfl) ?_
              refine lv_iload_n hx hb dX8_does_113 rfl (lv_at hl 1 rfl) ?_
              refine lv_iload_n hx hb dX8_does_114 rfl (lv_at hl 0 rfl) ?_
              obtain ⟨u115, hu115⟩ : ∃ u, pX8_items v qm (qo (Int32.toNatClampNeg 0)) (qo (Int32.toNatClampNeg 1)) (qo (Int32.toNatClampNeg 2)) = u := ⟨_, rfl⟩
              have hM := kX8_items l D cB cI bd v qm ql qs qk qd qn qe qf qo qt qi qy (qo (Int32.toNatClampNeg 0)) (qo (Int32.toNatClampNeg 1)) (qo (Int32.toNatClampNeg 2))
              rw [hu115] at hM
              refine m_VA X V (w1 := (wR cB cI bd u115.2.1 u115.2.2 ql qs qk qd qn qe qf qo qt qi qy)) (rest := []) (st1 := [.int u115.1]) hM okX8_items gm_566 gm_706 gm_565 ⟨⟨rfl, rfl⟩, ⟨by decide, by decide⟩, Nat.zero_le _, Nat.zero_le _⟩ rfl rfl (wR_fst _ _ _ _ _ _ _ _ _ _ _ _ _ _ _ _) (wR_fst _ _ _ _ _ _ _ _ _ _ _ _ _ _ _ _) rfl hl.1 (Nat.le_of_ble_eq_true rfl) dX8_does_115 rfl rfl (fun H locs V => ?_)
              have e9 : pX8_does v qm qs qo qt qi qy = (u115.1, u115.2.1, u115.2.2, qs, qt, qi, qy) := by rw [pX8_does, if_neg c_27, if_pos c_36, if_neg c_52, if_pos c_61, if_neg c_99, if_neg c_108, hu115, mLet_eq]
              exact m_iret X hr hk V (by rw [e9]) (by rw [e9]) dX8_does_118
        · refine lv_aload_n hx hb dX8_does_64 rfl (lv_at hl 3 rfl) ?_
          refine m_get X V 6 0 11 rfl gin_6 rfl (by decide) rfl gm_434 (v := .int (v 7)) rfl dX8_does_65 ?_
          refine lv_iload_n hx hb dX8_does_68 rfl (lv_at hl 2 rfl) ?_
          refine lv_iload_n hx hb dX8_does_69 rfl (lv_at hl 1 rfl) ?_
          obtain ⟨u70, hu70⟩ : ∃ u, pX8_isSo (v 7) (qo (Int32.toNatClampNeg 0)) (qo (Int32.toNatClampNeg 1)) = u := ⟨_, rfl⟩
          have hM := kX8_isSo l D cB cI (v 7) (qo (Int32.toNatClampNeg 0)) (qo (Int32.toNatClampNeg 1))
          rw [hu70] at hM
          refine m_S X V (rest := []) (st1 := [.int u70]) hM okX8_isSo gm_559 gm_558 ⟨⟨rfl, rfl⟩, ⟨by decide, by decide⟩, Nat.zero_le _, Nat.zero_le _⟩ rfl hl.1 (Nat.le_of_ble_eq_true rfl) dX8_does_70 rfl rfl (fun H locs V => ?_)
          refine lv_if_eq (tgt := 91) hx hb dX8_does_73 (by decide) (fun c_73 => ?_) (fun c_73 => ?_)
          · refine lv_iconst (v := 0) hx hb dX8_does_91 (by decide) ?_
            have e9 : pX8_does v qm qs qo qt qi qy = (0, v, qm, qs, qt, qi, qy) := by rw [pX8_does, if_neg c_27, if_pos c_36, if_neg c_52, if_neg c_61, hu70, mLet_eq, if_pos c_73]
            exact m_iret X hr hk V (by rw [e9]) (by rw [e9]) dX8_does_92
          · refine lv_aload_n hx hb dX8_does_76 rfl (lv_at hl 3 rfl) ?_
            refine lv_aload_n hx hb dX8_does_77 rfl (lv_at hl 3 rfl) ?_
            refine m_get X V 6 0 21 rfl gin_6 rfl (by decide) rfl gm_444 (v := .ref (bd 9)) rfl dX8_does_78 ?_
            refine lv_aload_n hx hb dX8_does_81 rfl (lv_at hl 3 rfl) ?_
            refine m_get X V 6 0 12 rfl gin_6 rfl (by decide) rfl gm_435 (v := .int (v 8)) rfl dX8_does_82 ?_
            refine lv_iconst (v := 1) hx hb dX8_does_85 (by decide) ?_
            refine lv_isub hx hb dX8_does_86 ?_
            refine m_iald X V 9 rfl (by have z_a : Int32.toInt 32 = 32 := rfl; have z_b : Int32.toInt 45 = 45 := rfl; have q_1 := hbr (by have q := c_52; rw [Int32.lt_iff_toInt_lt] at q; omega) (by have q := c_61; rw [Int32.lt_iff_toInt_lt] at q; omega); have e_2 : Int32.toInt 1 = 1 := rfl; have e_3 : Int32.toInt ((v 8) - 1) = Int32.toInt (v 8) - Int32.toInt 1 := ti_sub (by omega) (by omega); rw [vp_in_iff]; omega) dX8_does_87 ?_
            obtain ⟨u88, hu88⟩ : ∃ u, pX8_branches v (qo (Int32.toNatClampNeg ((v 8) - 1))) = u := ⟨_, rfl⟩
            have hM := kX8_branches l D cB cI bd v qm ql qs qk qd qn qe qf qo qt qi qy (qo (Int32.toNatClampNeg ((v 8) - 1)))
            rw [hu88] at hM
            refine m_VA X V (w1 := (wR cB cI bd u88 qm ql qs qk qd qn qe qf qo qt qi qy)) (rest := []) (st1 := []) hM okX8_branches gm_563 gm_705 gm_562 ⟨⟨rfl, rfl⟩, ⟨by decide, by decide⟩, Nat.zero_le _, Nat.zero_le _⟩ rfl rfl (wR_fst _ _ _ _ _ _ _ _ _ _ _ _ _ _ _ _) (wR_fst _ _ _ _ _ _ _ _ _ _ _ _ _ _ _ _) rfl hl.1 (Nat.le_of_ble_eq_true rfl) dX8_does_88 rfl rfl (fun H locs V => ?_)
            refine lv_iconst (v := 0) hx hb dX8_does_91 (by decide) ?_
            have e9 : pX8_does v qm qs qo qt qi qy = (0, u88, qm, qs, qt, qi, qy) := by rw [pX8_does, if_neg c_27, if_pos c_36, if_neg c_52, if_neg c_61, hu70, mLet_eq, if_neg c_73, hu88, mLet_eq]
            exact m_iret X hr hk V (by rw [e9]) (by rw [e9]) dX8_does_92
    · refine lv_aload_n hx hb dX8_does_39 rfl (lv_at hl 3 rfl) ?_
      refine lv_iload_n hx hb dX8_does_40 rfl (lv_at hl 2 rfl) ?_
      refine lv_iload_n hx hb dX8_does_41 rfl (lv_at hl 1 rfl) ?_
      obtain ⟨u42, hu42⟩ : ∃ u, pX8_reckons v (qo (Int32.toNatClampNeg 0)) (qo (Int32.toNatClampNeg 1)) = u := ⟨_, rfl⟩
      have hM := kX8_reckons l D cB cI bd v qm ql qs qk qd qn qe qf qo qt qi qy (qo (Int32.toNatClampNeg 0)) (qo (Int32.toNatClampNeg 1))
      rw [hu42] at hM
      refine m_VA X V (w1 := (wR cB cI bd u42.2 qm ql qs qk qd qn qe qf qo qt qi qy)) (rest := []) (st1 := [.int u42.1]) hM okX8_reckons gm_550 gm_703 gm_549 ⟨⟨rfl, rfl⟩, ⟨by decide, by decide⟩, Nat.zero_le _, Nat.zero_le _⟩ rfl rfl (wR_fst _ _ _ _ _ _ _ _ _ _ _ _ _ _ _ _) (wR_fst _ _ _ _ _ _ _ _ _ _ _ _ _ _ _ _) rfl hl.1 (Nat.le_of_ble_eq_true rfl) dX8_does_42 rfl rfl (fun H locs V => ?_)
      have e9 : pX8_does v qm qs qo qt qi qy = (u42.1, u42.2, qm, qs, qt, qi, qy) := by rw [pX8_does, if_neg c_27, if_neg c_36, hu42, mLet_eq]
      exact m_iret X hr hk V (by rw [e9]) (by rw [e9]) dX8_does_45
def pX8_row (v : Nat → Int32) (qe : Nat → Int32) (qf : Nat → Int32) (x1 : Int32) : Int32 := (if x1 < 0 then ((-1)) else (if x1 ≤ 1 then (if (v 10) = 0 then ((-2)) else (if 2 ≤ x1 then (if 20 ≤ x1 then (if (x1 - 20) < (v 12) then ((qf (Int32.toNatClampNeg (x1 - 20)))) else ((-2))) else (if (x1 - 10) < (v 12) then ((qe (Int32.toNatClampNeg (x1 - 10)))) else ((-2)))) else (if x1 = 0 then ((v 11)) else ((v 12))))) else (if 10 ≤ x1 then (if (v 10) = 0 then ((-2)) else (if 2 ≤ x1 then (if 20 ≤ x1 then (if (x1 - 20) < (v 12) then ((qf (Int32.toNatClampNeg (x1 - 20)))) else ((-2))) else (if (x1 - 10) < (v 12) then ((qe (Int32.toNatClampNeg (x1 - 10)))) else ((-2)))) else (if x1 = 0 then ((v 11)) else ((v 12))))) else ((-1)))))
theorem okX8_row : mOk yX8_row cX8_row 3 (some .int) 1 := ⟨gm_525, gm_8, by decide +kernel⟩
set_option maxRecDepth 100000 in
set_option maxHeartbeats 4000000 in
theorem kX8_row (l : Launch) (D : va_G) (cB cI : ClassId) (bd : Nat → Nat) (v : Nat → Int32) (qm : Nat → Int32) (ql : Nat → Int32) (qs : Nat → Int32) (qk : Nat → Int32) (qd : Nat → Int32) (qn : Nat → Int32) (qe : Nat → Int32) (qf : Nat → Int32) (qo : Nat → Int32) (qt : Nat → Int32) (qi : Nat → Int32) (qy : Nat → Int32) (x1 : Int32) (hq : Int32.toInt (v 12) ≤ 8) : mM l D cB cI yX8_row cX8_row 3 (some .int) { frames := 0, cells := 0, slots := 0, locals := 0 } [.ref (bd 0), .int x1] (wR cB cI bd v qm ql qs qk qd qn qe qf qo qt qi qy) (some (pX8_row v qe qf x1)) (wR cB cI bd v qm ql qs qk qd qn qe qf qo qt qi qy) := by
  refine m_start (by decide +kernel) (Nat.le_of_ble_eq_true rfl) ?_
  intro p e s m below meth c A ls X hr hk V hl
  have X : mCx p s m _ c cX8_row 3 RX8 D cB cI := X
  have hx := X.1.1
  have hb := X.1.2.1
  have hl : lv_has ls 3 [(0, .ref (bd 0)), (1, .int x1)] := hl
  refine lv_iload_n hx hb dX8_row_0 rfl (lv_at hl 1 rfl) ?_
  refine lv_if_lt (tgt := 15) hx hb dX8_row_1 (by decide) (fun c_1 => ?_) (fun c_1 => ?_)
  · refine lv_iconst (v := (-1)) hx hb dX8_row_15 (by decide) ?_
    have e9 : pX8_row v qe qf x1 = ((-1)) := by rw [pX8_row, if_pos c_1]
    exact m_iret X hr hk V (by rw [e9]) rfl dX8_row_16
  · refine lv_iload_n hx hb dX8_row_4 rfl (lv_at hl 1 rfl) ?_
    refine lv_iconst (v := 1) hx hb dX8_row_5 (by decide) ?_
    refine lv_icmp_le (tgt := 17) hx hb dX8_row_6 (by decide) (fun c_6 => ?_) (fun c_6 => ?_)
    · refine lv_aload_n hx hb dX8_row_17 rfl (lv_at hl 0 rfl) ?_
      refine m_get X V 6 0 16 rfl gin_6 rfl (by decide) rfl gm_439 (v := .int (v 10)) rfl dX8_row_18 ?_
      refine lv_if_ne (tgt := 27) hx hb dX8_row_21 (by decide) (fun c_21 => ?_) (fun c_21 => ?_)
      · refine lv_iload_n hx hb dX8_row_27 rfl (lv_at hl 1 rfl) ?_
        refine lv_iconst (v := 2) hx hb dX8_row_28 (by decide) ?_
        refine lv_icmp_ge (tgt := 48) hx hb dX8_row_29 (by decide) (fun c_29 => ?_) (fun c_29 => ?_)
        · refine lv_iload_n hx hb dX8_row_48 rfl (lv_at hl 1 rfl) ?_
          refine lv_bipush (v := 20) hx hb dX8_row_49 (by decide) ?_
          refine lv_icmp_ge (tgt := 61) hx hb dX8_row_51 (by decide) (fun c_51 => ?_) (fun c_51 => ?_)
          · refine lv_iload_n hx hb dX8_row_61 rfl (lv_at hl 1 rfl) ?_
            refine lv_bipush (v := 20) hx hb dX8_row_62 (by decide) ?_
            refine lv_isub hx hb dX8_row_64 ?_
            refine lv_istore_n (lv' := [(2, .int (x1 - 20)), (0, .ref (bd 0)), (1, .int x1)]) hx hb dX8_row_65 rfl hl (by decide) rfl (fun ls hl => ?_)
            refine lv_iload_n hx hb dX8_row_66 rfl (lv_at hl 0 rfl) ?_
            refine lv_aload_n hx hb dX8_row_67 rfl (lv_at hl 1 rfl) ?_
            refine m_get X V 6 0 18 rfl gin_6 rfl (by decide) rfl gm_441 (v := .int (v 12)) rfl dX8_row_68 ?_
            refine lv_icmp_lt (tgt := 79) hx hb dX8_row_71 (by decide) (fun c_71 => ?_) (fun c_71 => ?_)
            · refine lv_iload_n hx hb dX8_row_79 rfl (lv_at hl 2 rfl) ?_
              refine lv_bipush (v := 20) hx hb dX8_row_80 (by decide) ?_
              refine lv_icmp_ge (tgt := 94) hx hb dX8_row_82 (by decide) (fun _ => ?_) (fun h => absurd c_51 h)
              refine lv_aload_n hx hb dX8_row_94 rfl (lv_at hl 1 rfl) ?_
              refine m_get X V 6 0 20 rfl gin_6 rfl (by decide) rfl gm_443 (v := .ref (bd 8)) rfl dX8_row_95 ?_
              refine lv_iload_n hx hb dX8_row_98 rfl (lv_at hl 0 rfl) ?_
              refine m_iald X V 8 rfl (by have r_0 := i32_le x1; have e_2 : Int32.toInt 0 = 0 := rfl; have f_3 : ¬ Int32.toInt x1 < Int32.toInt 0 := fun q => c_1 (Int32.lt_iff_toInt_lt.mpr q); have e_4 : Int32.toInt 1 = 1 := rfl; have f_5 : Int32.toInt x1 ≤ Int32.toInt 1 := Int32.le_iff_toInt_le.mp c_6; have e_6 : Int32.toInt 2 = 2 := rfl; have f_7 : Int32.toInt 2 ≤ Int32.toInt x1 := Int32.le_iff_toInt_le.mp c_29; have e_8 : Int32.toInt 20 = 20 := rfl; have f_9 : Int32.toInt 20 ≤ Int32.toInt x1 := Int32.le_iff_toInt_le.mp c_51; have e_10 : Int32.toInt (x1 - 20) = Int32.toInt x1 - Int32.toInt 20 := ti_sub (by omega) (by omega); have f_12 : Int32.toInt (x1 - 20) < Int32.toInt (v 12) := Int32.lt_iff_toInt_lt.mp c_71; rw [vp_in_iff]; omega) dX8_row_99 ?_
              have e9 : pX8_row v qe qf x1 = ((qf (Int32.toNatClampNeg (x1 - 20)))) := by rw [pX8_row, if_neg c_1, if_pos c_6, if_neg c_21, if_pos c_29, if_pos c_51, if_pos c_71]
              exact m_iret X hr hk V (by rw [e9]) rfl dX8_row_100
            · refine lv_bipush (v := (-2)) hx hb dX8_row_74 (by decide) ?_
              refine lv_goto (tgt := 100) hx hb dX8_row_76 (by decide) ?_
              have e9 : pX8_row v qe qf x1 = ((-2)) := by rw [pX8_row, if_neg c_1, if_pos c_6, if_neg c_21, if_pos c_29, if_pos c_51, if_neg c_71]
              exact m_iret X hr hk V (by rw [e9]) rfl dX8_row_100
          · refine lv_iload_n hx hb dX8_row_54 rfl (lv_at hl 1 rfl) ?_
            refine lv_bipush (v := 10) hx hb dX8_row_55 (by decide) ?_
            refine lv_isub hx hb dX8_row_57 ?_
            refine lv_goto (tgt := 65) hx hb dX8_row_58 (by decide) ?_
            refine lv_istore_n (lv' := [(2, .int (x1 - 10)), (0, .ref (bd 0)), (1, .int x1)]) hx hb dX8_row_65 rfl hl (by decide) rfl (fun ls hl => ?_)
            refine lv_iload_n hx hb dX8_row_66 rfl (lv_at hl 0 rfl) ?_
            refine lv_aload_n hx hb dX8_row_67 rfl (lv_at hl 1 rfl) ?_
            refine m_get X V 6 0 18 rfl gin_6 rfl (by decide) rfl gm_441 (v := .int (v 12)) rfl dX8_row_68 ?_
            refine lv_icmp_lt (tgt := 79) hx hb dX8_row_71 (by decide) (fun c_71 => ?_) (fun c_71 => ?_)
            · refine lv_iload_n hx hb dX8_row_79 rfl (lv_at hl 2 rfl) ?_
              refine lv_bipush (v := 20) hx hb dX8_row_80 (by decide) ?_
              refine lv_icmp_ge (tgt := 94) hx hb dX8_row_82 (by decide) (fun h => absurd h c_51) (fun _ => ?_)
              refine lv_aload_n hx hb dX8_row_85 rfl (lv_at hl 1 rfl) ?_
              refine m_get X V 6 0 19 rfl gin_6 rfl (by decide) rfl gm_442 (v := .ref (bd 7)) rfl dX8_row_86 ?_
              refine lv_iload_n hx hb dX8_row_89 rfl (lv_at hl 0 rfl) ?_
              refine m_iald X V 7 rfl (by have r_0 := i32_le x1; have e_2 : Int32.toInt 0 = 0 := rfl; have f_3 : ¬ Int32.toInt x1 < Int32.toInt 0 := fun q => c_1 (Int32.lt_iff_toInt_lt.mpr q); have e_4 : Int32.toInt 1 = 1 := rfl; have f_5 : Int32.toInt x1 ≤ Int32.toInt 1 := Int32.le_iff_toInt_le.mp c_6; have e_6 : Int32.toInt 2 = 2 := rfl; have f_7 : Int32.toInt 2 ≤ Int32.toInt x1 := Int32.le_iff_toInt_le.mp c_29; have e_8 : Int32.toInt 20 = 20 := rfl; have f_9 : ¬ Int32.toInt 20 ≤ Int32.toInt x1 := fun q => c_51 (Int32.le_iff_toInt_le.mpr q); have e_10 : Int32.toInt 10 = 10 := rfl; have e_11 : Int32.toInt (x1 - 10) = Int32.toInt x1 - Int32.toInt 10 := ti_sub (by omega) (by omega); have f_13 : Int32.toInt (x1 - 10) < Int32.toInt (v 12) := Int32.lt_iff_toInt_lt.mp c_71; rw [vp_in_iff]; omega) dX8_row_90 ?_
              refine lv_goto (tgt := 100) hx hb dX8_row_91 (by decide) ?_
              have e9 : pX8_row v qe qf x1 = ((qe (Int32.toNatClampNeg (x1 - 10)))) := by rw [pX8_row, if_neg c_1, if_pos c_6, if_neg c_21, if_pos c_29, if_neg c_51, if_pos c_71]
              exact m_iret X hr hk V (by rw [e9]) rfl dX8_row_100
            · refine lv_bipush (v := (-2)) hx hb dX8_row_74 (by decide) ?_
              refine lv_goto (tgt := 100) hx hb dX8_row_76 (by decide) ?_
              have e9 : pX8_row v qe qf x1 = ((-2)) := by rw [pX8_row, if_neg c_1, if_pos c_6, if_neg c_21, if_pos c_29, if_neg c_51, if_neg c_71]
              exact m_iret X hr hk V (by rw [e9]) rfl dX8_row_100
        · refine lv_iload_n hx hb dX8_row_32 rfl (lv_at hl 1 rfl) ?_
          refine lv_if_ne (tgt := 43) hx hb dX8_row_33 (by decide) (fun c_33 => ?_) (fun c_33 => ?_)
          · refine lv_aload_n hx hb dX8_row_43 rfl (lv_at hl 0 rfl) ?_
            refine m_get X V 6 0 18 rfl gin_6 rfl (by decide) rfl gm_441 (v := .int (v 12)) rfl dX8_row_44 ?_
            have e9 : pX8_row v qe qf x1 = ((v 12)) := by rw [pX8_row, if_neg c_1, if_pos c_6, if_neg c_21, if_neg c_29, if_neg c_33]
            exact m_iret X hr hk V (by rw [e9]) rfl dX8_row_47
          · refine lv_aload_n hx hb dX8_row_36 rfl (lv_at hl 0 rfl) ?_
            refine m_get X V 6 0 17 rfl gin_6 rfl (by decide) rfl gm_440 (v := .int (v 11)) rfl dX8_row_37 ?_
            refine lv_goto (tgt := 47) hx hb dX8_row_40 (by decide) ?_
            have e9 : pX8_row v qe qf x1 = ((v 11)) := by rw [pX8_row, if_neg c_1, if_pos c_6, if_neg c_21, if_neg c_29, if_pos c_33]
            exact m_iret X hr hk V (by rw [e9]) rfl dX8_row_47
      · refine lv_bipush (v := (-2)) hx hb dX8_row_24 (by decide) ?_
        have e9 : pX8_row v qe qf x1 = ((-2)) := by rw [pX8_row, if_neg c_1, if_pos c_6, if_pos c_21]
        exact m_iret X hr hk V (by rw [e9]) rfl dX8_row_26
    · refine lv_iload_n hx hb dX8_row_9 rfl (lv_at hl 1 rfl) ?_
      refine lv_bipush (v := 10) hx hb dX8_row_10 (by decide) ?_
      refine lv_icmp_ge (tgt := 17) hx hb dX8_row_12 (by decide) (fun c_12 => ?_) (fun c_12 => ?_)
      · refine lv_aload_n hx hb dX8_row_17 rfl (lv_at hl 0 rfl) ?_
        refine m_get X V 6 0 16 rfl gin_6 rfl (by decide) rfl gm_439 (v := .int (v 10)) rfl dX8_row_18 ?_
        refine lv_if_ne (tgt := 27) hx hb dX8_row_21 (by decide) (fun c_21 => ?_) (fun c_21 => ?_)
        · refine lv_iload_n hx hb dX8_row_27 rfl (lv_at hl 1 rfl) ?_
          refine lv_iconst (v := 2) hx hb dX8_row_28 (by decide) ?_
          refine lv_icmp_ge (tgt := 48) hx hb dX8_row_29 (by decide) (fun c_29 => ?_) (fun c_29 => ?_)
          · refine lv_iload_n hx hb dX8_row_48 rfl (lv_at hl 1 rfl) ?_
            refine lv_bipush (v := 20) hx hb dX8_row_49 (by decide) ?_
            refine lv_icmp_ge (tgt := 61) hx hb dX8_row_51 (by decide) (fun c_51 => ?_) (fun c_51 => ?_)
            · refine lv_iload_n hx hb dX8_row_61 rfl (lv_at hl 1 rfl) ?_
              refine lv_bipush (v := 20) hx hb dX8_row_62 (by decide) ?_
              refine lv_isub hx hb dX8_row_64 ?_
              refine lv_istore_n (lv' := [(2, .int (x1 - 20)), (0, .ref (bd 0)), (1, .int x1)]) hx hb dX8_row_65 rfl hl (by decide) rfl (fun ls hl => ?_)
              refine lv_iload_n hx hb dX8_row_66 rfl (lv_at hl 0 rfl) ?_
              refine lv_aload_n hx hb dX8_row_67 rfl (lv_at hl 1 rfl) ?_
              refine m_get X V 6 0 18 rfl gin_6 rfl (by decide) rfl gm_441 (v := .int (v 12)) rfl dX8_row_68 ?_
              refine lv_icmp_lt (tgt := 79) hx hb dX8_row_71 (by decide) (fun c_71 => ?_) (fun c_71 => ?_)
              · refine lv_iload_n hx hb dX8_row_79 rfl (lv_at hl 2 rfl) ?_
                refine lv_bipush (v := 20) hx hb dX8_row_80 (by decide) ?_
                refine lv_icmp_ge (tgt := 94) hx hb dX8_row_82 (by decide) (fun _ => ?_) (fun h => absurd c_51 h)
                refine lv_aload_n hx hb dX8_row_94 rfl (lv_at hl 1 rfl) ?_
                refine m_get X V 6 0 20 rfl gin_6 rfl (by decide) rfl gm_443 (v := .ref (bd 8)) rfl dX8_row_95 ?_
                refine lv_iload_n hx hb dX8_row_98 rfl (lv_at hl 0 rfl) ?_
                refine m_iald X V 8 rfl (by have r_0 := i32_le x1; have e_2 : Int32.toInt 0 = 0 := rfl; have f_3 : ¬ Int32.toInt x1 < Int32.toInt 0 := fun q => c_1 (Int32.lt_iff_toInt_lt.mpr q); have e_4 : Int32.toInt 1 = 1 := rfl; have f_5 : ¬ Int32.toInt x1 ≤ Int32.toInt 1 := fun q => c_6 (Int32.le_iff_toInt_le.mpr q); have e_6 : Int32.toInt 10 = 10 := rfl; have f_7 : Int32.toInt 10 ≤ Int32.toInt x1 := Int32.le_iff_toInt_le.mp c_12; have e_8 : Int32.toInt 2 = 2 := rfl; have f_9 : Int32.toInt 2 ≤ Int32.toInt x1 := Int32.le_iff_toInt_le.mp c_29; have e_10 : Int32.toInt 20 = 20 := rfl; have f_11 : Int32.toInt 20 ≤ Int32.toInt x1 := Int32.le_iff_toInt_le.mp c_51; have e_12 : Int32.toInt (x1 - 20) = Int32.toInt x1 - Int32.toInt 20 := ti_sub (by omega) (by omega); have f_14 : Int32.toInt (x1 - 20) < Int32.toInt (v 12) := Int32.lt_iff_toInt_lt.mp c_71; rw [vp_in_iff]; omega) dX8_row_99 ?_
                have e9 : pX8_row v qe qf x1 = ((qf (Int32.toNatClampNeg (x1 - 20)))) := by rw [pX8_row, if_neg c_1, if_neg c_6, if_pos c_12, if_neg c_21, if_pos c_29, if_pos c_51, if_pos c_71]
                exact m_iret X hr hk V (by rw [e9]) rfl dX8_row_100
              · refine lv_bipush (v := (-2)) hx hb dX8_row_74 (by decide) ?_
                refine lv_goto (tgt := 100) hx hb dX8_row_76 (by decide) ?_
                have e9 : pX8_row v qe qf x1 = ((-2)) := by rw [pX8_row, if_neg c_1, if_neg c_6, if_pos c_12, if_neg c_21, if_pos c_29, if_pos c_51, if_neg c_71]
                exact m_iret X hr hk V (by rw [e9]) rfl dX8_row_100
            · refine lv_iload_n hx hb dX8_row_54 rfl (lv_at hl 1 rfl) ?_
              refine lv_bipush (v := 10) hx hb dX8_row_55 (by decide) ?_
              refine lv_isub hx hb dX8_row_57 ?_
              refine lv_goto (tgt := 65) hx hb dX8_row_58 (by decide) ?_
              refine lv_istore_n (lv' := [(2, .int (x1 - 10)), (0, .ref (bd 0)), (1, .int x1)]) hx hb dX8_row_65 rfl hl (by decide) rfl (fun ls hl => ?_)
              refine lv_iload_n hx hb dX8_row_66 rfl (lv_at hl 0 rfl) ?_
              refine lv_aload_n hx hb dX8_row_67 rfl (lv_at hl 1 rfl) ?_
              refine m_get X V 6 0 18 rfl gin_6 rfl (by decide) rfl gm_441 (v := .int (v 12)) rfl dX8_row_68 ?_
              refine lv_icmp_lt (tgt := 79) hx hb dX8_row_71 (by decide) (fun c_71 => ?_) (fun c_71 => ?_)
              · refine lv_iload_n hx hb dX8_row_79 rfl (lv_at hl 2 rfl) ?_
                refine lv_bipush (v := 20) hx hb dX8_row_80 (by decide) ?_
                refine lv_icmp_ge (tgt := 94) hx hb dX8_row_82 (by decide) (fun h => absurd h c_51) (fun _ => ?_)
                refine lv_aload_n hx hb dX8_row_85 rfl (lv_at hl 1 rfl) ?_
                refine m_get X V 6 0 19 rfl gin_6 rfl (by decide) rfl gm_442 (v := .ref (bd 7)) rfl dX8_row_86 ?_
                refine lv_iload_n hx hb dX8_row_89 rfl (lv_at hl 0 rfl) ?_
                refine m_iald X V 7 rfl (by have r_0 := i32_le x1; have e_2 : Int32.toInt 0 = 0 := rfl; have f_3 : ¬ Int32.toInt x1 < Int32.toInt 0 := fun q => c_1 (Int32.lt_iff_toInt_lt.mpr q); have e_4 : Int32.toInt 1 = 1 := rfl; have f_5 : ¬ Int32.toInt x1 ≤ Int32.toInt 1 := fun q => c_6 (Int32.le_iff_toInt_le.mpr q); have e_6 : Int32.toInt 10 = 10 := rfl; have f_7 : Int32.toInt 10 ≤ Int32.toInt x1 := Int32.le_iff_toInt_le.mp c_12; have e_8 : Int32.toInt 2 = 2 := rfl; have f_9 : Int32.toInt 2 ≤ Int32.toInt x1 := Int32.le_iff_toInt_le.mp c_29; have e_10 : Int32.toInt 20 = 20 := rfl; have f_11 : ¬ Int32.toInt 20 ≤ Int32.toInt x1 := fun q => c_51 (Int32.le_iff_toInt_le.mpr q); have e_12 : Int32.toInt (x1 - 10) = Int32.toInt x1 - Int32.toInt 10 := ti_sub (by omega) (by omega); have f_14 : Int32.toInt (x1 - 10) < Int32.toInt (v 12) := Int32.lt_iff_toInt_lt.mp c_71; rw [vp_in_iff]; omega) dX8_row_90 ?_
                refine lv_goto (tgt := 100) hx hb dX8_row_91 (by decide) ?_
                have e9 : pX8_row v qe qf x1 = ((qe (Int32.toNatClampNeg (x1 - 10)))) := by rw [pX8_row, if_neg c_1, if_neg c_6, if_pos c_12, if_neg c_21, if_pos c_29, if_neg c_51, if_pos c_71]
                exact m_iret X hr hk V (by rw [e9]) rfl dX8_row_100
              · refine lv_bipush (v := (-2)) hx hb dX8_row_74 (by decide) ?_
                refine lv_goto (tgt := 100) hx hb dX8_row_76 (by decide) ?_
                have e9 : pX8_row v qe qf x1 = ((-2)) := by rw [pX8_row, if_neg c_1, if_neg c_6, if_pos c_12, if_neg c_21, if_pos c_29, if_neg c_51, if_neg c_71]
                exact m_iret X hr hk V (by rw [e9]) rfl dX8_row_100
          · refine lv_iload_n hx hb dX8_row_32 rfl (lv_at hl 1 rfl) ?_
            refine lv_if_ne (tgt := 43) hx hb dX8_row_33 (by decide) (fun c_33 => ?_) (fun c_33 => ?_)
            · refine lv_aload_n hx hb dX8_row_43 rfl (lv_at hl 0 rfl) ?_
              refine m_get X V 6 0 18 rfl gin_6 rfl (by decide) rfl gm_441 (v := .int (v 12)) rfl dX8_row_44 ?_
              have e9 : pX8_row v qe qf x1 = ((v 12)) := by rw [pX8_row, if_neg c_1, if_neg c_6, if_pos c_12, if_neg c_21, if_neg c_29, if_neg c_33]
              exact m_iret X hr hk V (by rw [e9]) rfl dX8_row_47
            · refine lv_aload_n hx hb dX8_row_36 rfl (lv_at hl 0 rfl) ?_
              refine m_get X V 6 0 17 rfl gin_6 rfl (by decide) rfl gm_440 (v := .int (v 11)) rfl dX8_row_37 ?_
              refine lv_goto (tgt := 47) hx hb dX8_row_40 (by decide) ?_
              have e9 : pX8_row v qe qf x1 = ((v 11)) := by rw [pX8_row, if_neg c_1, if_neg c_6, if_pos c_12, if_neg c_21, if_neg c_29, if_pos c_33]
              exact m_iret X hr hk V (by rw [e9]) rfl dX8_row_47
        · refine lv_bipush (v := (-2)) hx hb dX8_row_24 (by decide) ?_
          have e9 : pX8_row v qe qf x1 = ((-2)) := by rw [pX8_row, if_neg c_1, if_neg c_6, if_pos c_12, if_pos c_21]
          exact m_iret X hr hk V (by rw [e9]) rfl dX8_row_26
      · refine lv_iconst (v := (-1)) hx hb dX8_row_15 (by decide) ?_
        have e9 : pX8_row v qe qf x1 = ((-1)) := by rw [pX8_row, if_neg c_1, if_neg c_6, if_neg c_12]
        exact m_iret X hr hk V (by rw [e9]) rfl dX8_row_16
