theorem storeOf_le (x0 : Int32) : (pX8_storeOf x0).toInt ≤ 7 := by
  show (fun (r : Int32) => r.toInt ≤ 7) (pX8_storeOf x0)
  unfold pX8_storeOf
  repeat' (with_reducible refine pi_ite (fun (r : Int32) => r.toInt ≤ 7) ?_ ?_)
  all_goals decide
def pX8_doesRow_lp183 : Nat → (Nat → Int32) → (Nat → Int32) → (Nat → Int32) → (Nat → Int32) → (Nat → Int32) → (Nat → Int32) → (Nat → Int32) → (Nat → Int32) → (Nat → Int32) → (Nat → Int32) → (Nat → Int32) → (Int32) → (Int32) → (Int32) → Int32 × (Nat → Int32) × (Nat → Int32) × (Nat → Int32) × (Nat → Int32) × (Nat → Int32) × (Nat → Int32) × (Nat → Int32) × (Nat → Int32) × (Nat → Int32) × (Nat → Int32) × (Nat → Int32)
  | 0, v, qm, ql, qs, qk, qd, qn, qo, qt, qi, qy, k1, k2, k5 => (0, v, qm, ql, qs, qk, qd, qn, qo, qt, qi, qy)
  | n_ + 1, v, qm, ql, qs, qk, qd, qn, qo, qt, qi, qy, k1, k2, k5 => (if k2 ≤ k5 then (k1, v, qm, ql, qs, qk, qd, qn, qo, qt, qi, qy) else (pX8_doesRow_lp183 n_ v qm ql (upd qs (Int32.toNatClampNeg k5) (qk (Int32.toNatClampNeg k5))) qk qd qn qo qt qi qy k1 k2 (k5 + 1)))
def pX8_doesRow_lp96 : Nat → (Nat → Int32) → (Nat → Int32) → (Nat → Int32) → (Nat → Int32) → (Nat → Int32) → (Nat → Int32) → (Nat → Int32) → (Nat → Int32) → (Nat → Int32) → (Nat → Int32) → (Nat → Int32) → (Int32) → (Int32) → (Int32) → (Int32) → (Int32) → Int32 × (Nat → Int32) × (Nat → Int32) × (Nat → Int32) × (Nat → Int32) × (Nat → Int32) × (Nat → Int32) × (Nat → Int32) × (Nat → Int32) × (Nat → Int32) × (Nat → Int32) × (Nat → Int32)
  | 0, v, qm, ql, qs, qk, qd, qn, qo, qt, qi, qy, k1, k2, k3, k4, k5 => (0, v, qm, ql, qs, qk, qd, qn, qo, qt, qi, qy)
  | n_ + 1, v, qm, ql, qs, qk, qd, qn, qo, qt, qi, qy, k1, k2, k3, k4, k5 => (if (v 8) ≤ k5 then (if k1 = 0 then (mLet (pX8_does v qm qs qo qt qi qy) (fun (u143 : Int32 × (Nat → Int32) × (Nat → Int32) × (Nat → Int32) × (Nat → Int32) × (Nat → Int32) × (Nat → Int32)) => (if u143.1 = 0 then (if 0 ≤ k3 then (mLet (pX8_store u143.2.1 u143.2.2.1 ql u143.2.2.2.1 qd qn k3 k4 (u143.2.1 13)) (fun (u167 : Int32 × (Nat → Int32) × (Nat → Int32) × (Nat → Int32) × (Nat → Int32)) => (if u167.1 = 0 then (if (u167.2.1 3) = 0 then (0, (upd (upd (upd u167.2.1 1 (u167.2.1 14)) 4 (u167.2.1 4)) 6 ((u167.2.1 6) + 1)), u167.2.2.1, u167.2.2.2.1, u167.2.2.2.2, qk, qd, qn, qo, u143.2.2.2.2.1, u143.2.2.2.2.2.1, u143.2.2.2.2.2.2) else (0, (upd (upd (upd u167.2.1 1 (u167.2.1 14)) 4 (u167.2.1 15)) 6 ((u167.2.1 6) + 1)), u167.2.2.1, u167.2.2.2.1, u167.2.2.2.2, qk, qd, qn, qo, u143.2.2.2.2.1, u143.2.2.2.2.2.1, u143.2.2.2.2.2.2)) else (pX8_doesRow_lp183 ((Int32.toInt k2 - Int32.toInt 0).toNat + 1) (upd u167.2.1 0 k2) u167.2.2.1 u167.2.2.2.1 u167.2.2.2.2 qk qd qn qo u143.2.2.2.2.1 u143.2.2.2.2.2.1 u143.2.2.2.2.2.2 u167.1 k2 0)))) else (if (u143.2.1 3) = 0 then (0, (upd (upd (upd u143.2.1 1 (u143.2.1 14)) 4 (u143.2.1 4)) 6 ((u143.2.1 6) + 1)), u143.2.2.1, ql, u143.2.2.2.1, qk, qd, qn, qo, u143.2.2.2.2.1, u143.2.2.2.2.2.1, u143.2.2.2.2.2.2) else (0, (upd (upd (upd u143.2.1 1 (u143.2.1 14)) 4 (u143.2.1 15)) 6 ((u143.2.1 6) + 1)), u143.2.2.1, ql, u143.2.2.2.1, qk, qd, qn, qo, u143.2.2.2.2.1, u143.2.2.2.2.2.1, u143.2.2.2.2.2.2))) else (pX8_doesRow_lp183 ((Int32.toInt k2 - Int32.toInt 0).toNat + 1) (upd u143.2.1 0 k2) u143.2.2.1 ql u143.2.2.2.1 qk qd qn qo u143.2.2.2.2.1 u143.2.2.2.2.2.1 u143.2.2.2.2.2.2 u143.1 k2 0)))) else (pX8_doesRow_lp183 ((Int32.toInt k2 - Int32.toInt 0).toNat + 1) (upd v 0 k2) qm ql qs qk qd qn qo qt qi qy k1 k2 0)) else (if k1 = 0 then (if k5 = k3 then (pX8_doesRow_lp96 n_ v qm ql qs qk qd qn qo qt qi qy 0 k2 k3 k4 (k5 + 1)) else (mLet (pX8_load v qm ql qs qd qn qo k5 k4) (fun (u124 : Int32 × (Nat → Int32) × (Nat → Int32)) => (pX8_doesRow_lp96 n_ u124.2.1 qm ql qs qk qd qn u124.2.2 qt qi qy u124.1 k2 k3 k4 (k5 + 1))))) else (pX8_doesRow_lp183 ((Int32.toInt k2 - Int32.toInt 0).toNat + 1) (upd v 0 k2) qm ql qs qk qd qn qo qt qi qy k1 k2 0)))
def pX8_doesRow_lp22 : Nat → (Nat → Int32) → (Nat → Int32) → (Nat → Int32) → (Nat → Int32) → (Nat → Int32) → (Nat → Int32) → (Nat → Int32) → (Nat → Int32) → (Nat → Int32) → (Nat → Int32) → (Nat → Int32) → (Int32) → (Int32) → (Int32) → Int32 × (Nat → Int32) × (Nat → Int32) × (Nat → Int32) × (Nat → Int32) × (Nat → Int32) × (Nat → Int32) × (Nat → Int32) × (Nat → Int32) × (Nat → Int32) × (Nat → Int32) × (Nat → Int32)
  | 0, v, qm, ql, qs, qk, qd, qn, qo, qt, qi, qy, k1, k2, k3 => (0, v, qm, ql, qs, qk, qd, qn, qo, qt, qi, qy)
  | n_ + 1, v, qm, ql, qs, qk, qd, qn, qo, qt, qi, qy, k1, k2, k3 => (if (v 0) ≤ k3 then (if (v 7) = 65 then (pX8_doesRow_lp96 ((Int32.toInt ((upd v 14 (v 9)) 8) - Int32.toInt 0).toNat + 1) (upd v 14 (v 9)) qm ql qs qk qd qn qo qt qi qy k1 k2 (pX8_storeOf (v 7)) 2 0) else (if (v 7) = 66 then (pX8_doesRow_lp96 ((Int32.toInt ((upd v 14 (v 9)) 8) - Int32.toInt 0).toNat + 1) (upd v 14 (v 9)) qm ql qs qk qd qn qo qt qi qy k1 k2 (pX8_storeOf (v 7)) 1 0) else (pX8_doesRow_lp96 ((Int32.toInt ((upd v 14 (v 9)) 8) - Int32.toInt 0).toNat + 1) (upd v 14 (v 9)) qm ql qs qk qd qn qo qt qi qy k1 k2 (pX8_storeOf (v 7)) 4 0))) else (pX8_doesRow_lp22 n_ v qm ql qs (upd qk (Int32.toNatClampNeg k3) (qs (Int32.toNatClampNeg k3))) qd qn qo qt qi qy k1 k2 (k3 + 1)))
def pX8_doesRow (v : Nat → Int32) (qm : Nat → Int32) (ql : Nat → Int32) (qs : Nat → Int32) (qk : Nat → Int32) (qd : Nat → Int32) (qn : Nat → Int32) (qo : Nat → Int32) (qt : Nat → Int32) (qi : Nat → Int32) (qy : Nat → Int32) : Int32 × (Nat → Int32) × (Nat → Int32) × (Nat → Int32) × (Nat → Int32) × (Nat → Int32) × (Nat → Int32) × (Nat → Int32) × (Nat → Int32) × (Nat → Int32) × (Nat → Int32) × (Nat → Int32) := (mLet (pX8_takeApart v qm qd qn (v 1)) (fun (u5 : Int32 × (Nat → Int32) × (Nat → Int32) × (Nat → Int32)) => (if u5.1 = 0 then (pX8_doesRow_lp22 ((Int32.toInt (u5.2.1 0) - Int32.toInt 0).toNat + 1) u5.2.1 qm ql qs qk u5.2.2.1 u5.2.2.2 qo qt qi qy u5.1 (u5.2.1 0) 0) else (u5.1, u5.2.1, qm, ql, qs, qk, u5.2.2.1, u5.2.2.2, qo, qt, qi, qy))))
theorem okX8_doesRow : mOk yX8_doesRow cX8_doesRow 6 (some .int) 0 := ⟨gm_532, gm_8, by decide +kernel⟩
set_option maxRecDepth 100000 in
set_option maxHeartbeats 4000000 in
theorem lpX8_doesRow_183 {p : Program} {e : Env} {s : State} {m : MethodId} {args : Array Value} {below : List Frame} {meth : Method} {c : Code} {A : Nat → Prop} {l : Launch} {D : va_G} {cB cI : ClassId} {bd : Nat → Nat} {qe : Nat → Int32} {qf : Nat → Int32} (X : mCx p s m args c cX8_doesRow 6 RX8 D cB cI) (hr : meth.sig.returnType = (some .int)) (hk : meth.locks = false) : ∀ (n_ : Nat) (v : Nat → Int32) (qm : Nat → Int32) (ql : Nat → Int32) (qs : Nat → Int32) (qk : Nat → Int32) (qd : Nat → Int32) (qn : Nat → Int32) (qo : Nat → Int32) (qt : Nat → Int32) (qi : Nat → Int32) (qy : Nat → Int32) (k1 : Int32) (k2 : Int32) (k5 : Int32) (H : Heap) (locs : List Loc) (ls : Array Slot), (0 ≤ Int32.toInt k5) → (0 ≤ Int32.toInt k2 ∧ Int32.toInt k2 ≤ 40) → (Int32.toInt k2 - Int32.toInt k5).toNat < n_ → mWd D A s (wR cB cI bd v qm ql qs qk qd qn qe qf qo qt qi qy) H locs → lv_has ls 6 [(0, .ref (bd 0)), (1, .int k1), (2, .int k2), (5, .int k5)] → W p l e { frames := 4, cells := 0, slots := 0, locals := 100 } s m args below meth c H locs 0 0 (MQ below (mQ D A (wR cB cI bd ((pX8_doesRow_lp183 n_ v qm ql qs qk qd qn qo qt qi qy k1 k2 k5).2.1) ((pX8_doesRow_lp183 n_ v qm ql qs qk qd qn qo qt qi qy k1 k2 k5).2.2.1) ((pX8_doesRow_lp183 n_ v qm ql qs qk qd qn qo qt qi qy k1 k2 k5).2.2.2.1) ((pX8_doesRow_lp183 n_ v qm ql qs qk qd qn qo qt qi qy k1 k2 k5).2.2.2.2.1) ((pX8_doesRow_lp183 n_ v qm ql qs qk qd qn qo qt qi qy k1 k2 k5).2.2.2.2.2.1) ((pX8_doesRow_lp183 n_ v qm ql qs qk qd qn qo qt qi qy k1 k2 k5).2.2.2.2.2.2.1) ((pX8_doesRow_lp183 n_ v qm ql qs qk qd qn qo qt qi qy k1 k2 k5).2.2.2.2.2.2.2.1) qe qf ((pX8_doesRow_lp183 n_ v qm ql qs qk qd qn qo qt qi qy k1 k2 k5).2.2.2.2.2.2.2.2.1) ((pX8_doesRow_lp183 n_ v qm ql qs qk qd qn qo qt qi qy k1 k2 k5).2.2.2.2.2.2.2.2.2.1) ((pX8_doesRow_lp183 n_ v qm ql qs qk qd qn qo qt qi qy k1 k2 k5).2.2.2.2.2.2.2.2.2.2.1) ((pX8_doesRow_lp183 n_ v qm ql qs qk qd qn qo qt qi qy k1 k2 k5).2.2.2.2.2.2.2.2.2.2.2)) (some ((pX8_doesRow_lp183 n_ v qm ql qs qk qd qn qo qt qi qy k1 k2 k5).1))) args s 0 0 A) (F0 m 183 ls []) := by
  have hx := X.1.1
  have hb := X.1.2.1
  intro n_
  induction n_ with
  | zero =>
    intro v qm ql qs qk qd qn qo qt qi qy k1 k2 k5 H locs ls hk5 hk2 hm V hl
    exact absurd hm (Nat.not_lt_zero _)
  | succ n_ ih =>
    intro v qm ql qs qk qd qn qo qt qi qy k1 k2 k5 H locs ls hk5 hk2 hm V hl
    refine lv_iload hx hb dX8_doesRow_183 (lv_at hl 3 rfl) ?_
    refine lv_iload_n hx hb dX8_doesRow_185 rfl (lv_at hl 2 rfl) ?_
    refine lv_icmp_ge (tgt := 209) hx hb dX8_doesRow_186 (by decide) (fun c_186 => ?_) (fun c_186 => ?_)
    · refine lv_iload_n hx hb dX8_doesRow_209 rfl (lv_at hl 1 rfl) ?_
      have e9 : pX8_doesRow_lp183 (n_ + 1) v qm ql qs qk qd qn qo qt qi qy k1 k2 k5 = (k1, v, qm, ql, qs, qk, qd, qn, qo, qt, qi, qy) := by rw [pX8_doesRow_lp183, if_pos c_186]
      exact m_iret X hr hk V (by rw [e9]) (by rw [e9]) dX8_doesRow_210
    · refine lv_aload_n hx hb dX8_doesRow_189 rfl (lv_at hl 0 rfl) ?_
      refine m_get X V 6 0 2 rfl gin_6 rfl (by decide) rfl gm_425 (v := .ref (bd 3)) rfl dX8_doesRow_190 ?_
      refine lv_iload hx hb dX8_doesRow_193 (lv_at hl 3 rfl) ?_
      refine lv_aload_n hx hb dX8_doesRow_195 rfl (lv_at hl 0 rfl) ?_
      refine m_get X V 6 0 3 rfl gin_6 rfl (by decide) rfl gm_426 (v := .ref (bd 4)) rfl dX8_doesRow_196 ?_
      refine lv_iload hx hb dX8_doesRow_199 (lv_at hl 3 rfl) ?_
      refine m_iald X V 4 rfl (by have f_3 : ¬ Int32.toInt k2 ≤ Int32.toInt k5 := fun q => c_186 (Int32.le_iff_toInt_le.mpr q); rw [vp_in_iff]; omega) dX8_doesRow_201 ?_
      refine m_iast X V (ws' := (wR cB cI bd v qm ql (upd qs (Int32.toNatClampNeg k5) (qk (Int32.toNatClampNeg k5))) qk qd qn qe qf qo qt qi qy)) 3 rfl (by have f_3 : ¬ Int32.toInt k2 ≤ Int32.toInt k5 := fun q => c_186 (Int32.le_iff_toInt_le.mpr q); rw [vp_in_iff]; omega) dX8_doesRow_202 rfl (fun H locs V => ?_)
      refine lv_iinc (v := (k5 + 1)) (lv' := [(5, .int (k5 + 1)), (0, .ref (bd 0)), (1, .int k1), (2, .int k2)]) hx hb dX8_doesRow_203 hl (k := 3) rfl rfl (by decide) rfl (fun ls hl => ?_)
      refine lv_goto (tgt := 183) hx hb dX8_doesRow_206 (by decide) ?_
      rw [show pX8_doesRow_lp183 (n_ + 1) v qm ql qs qk qd qn qo qt qi qy k1 k2 k5 = pX8_doesRow_lp183 n_ v qm ql (upd qs (Int32.toNatClampNeg k5) (qk (Int32.toNatClampNeg k5))) qk qd qn qo qt qi qy k1 k2 (k5 + 1) from by rw [pX8_doesRow_lp183, if_neg c_186]]
      exact ih v qm ql (upd qs (Int32.toNatClampNeg k5) (qk (Int32.toNatClampNeg k5))) qk qd qn qo qt qi qy k1 k2 (k5 + 1) _ _ _ (show 0 ≤ Int32.toInt (k5 + 1) by have f_3 : ¬ Int32.toInt k2 ≤ Int32.toInt k5 := fun q => c_186 (Int32.le_iff_toInt_le.mpr q); have e_4 : Int32.toInt 1 = 1 := rfl; have e_5 : Int32.toInt (k5 + 1) = Int32.toInt k5 + Int32.toInt 1 := ti_add (by omega) (by omega); omega) (show 0 ≤ Int32.toInt k2 ∧ Int32.toInt k2 ≤ 40 by have f_3 : ¬ Int32.toInt k2 ≤ Int32.toInt k5 := fun q => c_186 (Int32.le_iff_toInt_le.mpr q); have e_4 : Int32.toInt 1 = 1 := rfl; have e_5 : Int32.toInt (k5 + 1) = Int32.toInt k5 + Int32.toInt 1 := ti_add (by omega) (by omega); omega) (ms_up c_186 hm) V (lv_sub hl [1, 2, 3, 0] rfl)
set_option maxRecDepth 100000 in
set_option maxHeartbeats 4000000 in
theorem lpX8_doesRow_96 {p : Program} {e : Env} {s : State} {m : MethodId} {args : Array Value} {below : List Frame} {meth : Method} {c : Code} {A : Nat → Prop} {l : Launch} {D : va_G} {cB cI : ClassId} {bd : Nat → Nat} {qe : Nat → Int32} {qf : Nat → Int32} (X : mCx p s m args c cX8_doesRow 6 RX8 D cB cI) (hr : meth.sig.returnType = (some .int)) (hk : meth.locks = false) : ∀ (n_ : Nat) (v : Nat → Int32) (qm : Nat → Int32) (ql : Nat → Int32) (qs : Nat → Int32) (qk : Nat → Int32) (qd : Nat → Int32) (qn : Nat → Int32) (qo : Nat → Int32) (qt : Nat → Int32) (qi : Nat → Int32) (qy : Nat → Int32) (k1 : Int32) (k2 : Int32) (k3 : Int32) (k4 : Int32) (k5 : Int32) (H : Heap) (locs : List Loc) (ls : Array Slot), (0 ≤ Int32.toInt k5) → (0 ≤ Int32.toInt k2 ∧ Int32.toInt k2 ≤ 40) → (1 ≤ Int32.toInt k4 ∧ Int32.toInt k4 ≤ 4) → (Int32.toInt k3 ≤ 7) → (Tp v) → (BRm v) → (Int32.toInt (v 8) - Int32.toInt k5).toNat < n_ → mWd D A s (wR cB cI bd v qm ql qs qk qd qn qe qf qo qt qi qy) H locs → lv_has ls 6 [(0, .ref (bd 0)), (1, .int k1), (2, .int k2), (3, .int k3), (4, .int k4), (5, .int k5)] → W p l e { frames := 4, cells := 0, slots := 0, locals := 100 } s m args below meth c H locs 0 0 (MQ below (mQ D A (wR cB cI bd ((pX8_doesRow_lp96 n_ v qm ql qs qk qd qn qo qt qi qy k1 k2 k3 k4 k5).2.1) ((pX8_doesRow_lp96 n_ v qm ql qs qk qd qn qo qt qi qy k1 k2 k3 k4 k5).2.2.1) ((pX8_doesRow_lp96 n_ v qm ql qs qk qd qn qo qt qi qy k1 k2 k3 k4 k5).2.2.2.1) ((pX8_doesRow_lp96 n_ v qm ql qs qk qd qn qo qt qi qy k1 k2 k3 k4 k5).2.2.2.2.1) ((pX8_doesRow_lp96 n_ v qm ql qs qk qd qn qo qt qi qy k1 k2 k3 k4 k5).2.2.2.2.2.1) ((pX8_doesRow_lp96 n_ v qm ql qs qk qd qn qo qt qi qy k1 k2 k3 k4 k5).2.2.2.2.2.2.1) ((pX8_doesRow_lp96 n_ v qm ql qs qk qd qn qo qt qi qy k1 k2 k3 k4 k5).2.2.2.2.2.2.2.1) qe qf ((pX8_doesRow_lp96 n_ v qm ql qs qk qd qn qo qt qi qy k1 k2 k3 k4 k5).2.2.2.2.2.2.2.2.1) ((pX8_doesRow_lp96 n_ v qm ql qs qk qd qn qo qt qi qy k1 k2 k3 k4 k5).2.2.2.2.2.2.2.2.2.1) ((pX8_doesRow_lp96 n_ v qm ql qs qk qd qn qo qt qi qy k1 k2 k3 k4 k5).2.2.2.2.2.2.2.2.2.2.1) ((pX8_doesRow_lp96 n_ v qm ql qs qk qd qn qo qt qi qy k1 k2 k3 k4 k5).2.2.2.2.2.2.2.2.2.2.2)) (some ((pX8_doesRow_lp96 n_ v qm ql qs qk qd qn qo qt qi qy k1 k2 k3 k4 k5).1))) args s 0 0 A) (F0 m 96 ls []) := by
  have hx := X.1.1
  have hb := X.1.2.1
  intro n_
  induction n_ with
  | zero =>
    intro v qm ql qs qk qd qn qo qt qi qy k1 k2 k3 k4 k5 H locs ls hk5 hk2 hk4 hk37 htp hbr hm V hl
    exact absurd hm (Nat.not_lt_zero _)
  | succ n_ ih =>
    intro v qm ql qs qk qd qn qo qt qi qy k1 k2 k3 k4 k5 H locs ls hk5 hk2 hk4 hk37 htp hbr hm V hl
    refine lv_iload hx hb dX8_doesRow_96 (lv_at hl 5 rfl) ?_
    refine lv_aload_n hx hb dX8_doesRow_98 rfl (lv_at hl 0 rfl) ?_
    refine m_get X V 6 0 12 rfl gin_6 rfl (by decide) rfl gm_435 (v := .int (v 8)) rfl dX8_doesRow_99 ?_
    refine lv_icmp_ge (tgt := 134) hx hb dX8_doesRow_102 (by decide) (fun c_102 => ?_) (fun c_102 => ?_)
    · refine lv_iload_n hx hb dX8_doesRow_134 rfl (lv_at hl 1 rfl) ?_
      refine lv_if_eq (tgt := 142) hx hb dX8_doesRow_135 (by decide) (fun c_135 => ?_) (fun c_135 => ?_)
      · refine lv_aload_n hx hb dX8_doesRow_142 rfl (lv_at hl 0 rfl) ?_
        obtain ⟨u143, hu143⟩ : ∃ u, pX8_does v qm qs qo qt qi qy = u := ⟨_, rfl⟩
        have hM := kX8_does l D cB cI bd v qm ql qs qk qd qn qe qf qo qt qi qy hbr.2 htp
        rw [hu143] at hM
        refine m_VA X V (w1 := (wR cB cI bd u143.2.1 u143.2.2.1 ql u143.2.2.2.1 qk qd qn qe qf qo u143.2.2.2.2.1 u143.2.2.2.2.2.1 u143.2.2.2.2.2.2)) (rest := []) (st1 := [.int u143.1]) hM okX8_does gm_547 gm_702 gm_546 ⟨⟨rfl, rfl⟩, ⟨by decide, by decide⟩, Nat.zero_le _, Nat.zero_le _⟩ rfl rfl (wR_fst _ _ _ _ _ _ _ _ _ _ _ _ _ _ _ _) (wR_fst _ _ _ _ _ _ _ _ _ _ _ _ _ _ _ _) rfl hl.1 (Nat.le_of_ble_eq_true rfl) dX8_doesRow_143 rfl rfl (fun H locs V => ?_)
        refine lv_istore_n (lv' := [(1, .int u143.1), (0, .ref (bd 0)), (2, .int k2), (3, .int k3), (4, .int k4), (5, .int k5)]) hx hb dX8_doesRow_146 rfl hl (by decide) rfl (fun ls hl => ?_)
        refine lv_iload_n hx hb dX8_doesRow_147 rfl (lv_at hl 0 rfl) ?_
        refine lv_if_ne (tgt := 155) hx hb dX8_doesRow_148 (by decide) (fun c_148 => ?_) (fun c_148 => ?_)
        · refine lv_iload_n hx hb dX8_doesRow_155 rfl (lv_at hl 0 rfl) ?_
          refine lv_goto (tgt := 170) hx hb dX8_doesRow_156 (by decide) ?_
          refine lv_istore_n (lv' := [(1, .int u143.1), (0, .ref (bd 0)), (2, .int k2), (3, .int k3), (4, .int k4), (5, .int k5)]) hx hb dX8_doesRow_170 rfl hl (by decide) rfl (fun ls hl => ?_)
          refine lv_iload_n hx hb dX8_doesRow_171 rfl (lv_at hl 0 rfl) ?_
          refine lv_if_eq (tgt := 211) hx hb dX8_doesRow_172 (by decide) (fun h => absurd h c_148) (fun _ => ?_)
          refine lv_aload_n hx hb dX8_doesRow_175 rfl (lv_at hl 1 rfl) ?_
          refine lv_iload_n hx hb dX8_doesRow_176 rfl (lv_at hl 2 rfl) ?_
          refine m_put X V (ws' := (wR cB cI bd (upd u143.2.1 0 k2) u143.2.2.1 ql u143.2.2.2.1 qk qd qn qe qf qo u143.2.2.2.2.1 u143.2.2.2.2.2.1 u143.2.2.2.2.2.2)) 6 0 4 rfl gin_6 tyX8_ok nmX8 rfl (by decide) rfl gm_427 rfl rfl rfl (Nat.le_of_ble_eq_true rfl) dX8_doesRow_177 rfl (fun H locs V => ?_)
          refine lv_iconst (v := 0) hx hb dX8_doesRow_180 (by decide) ?_
          refine lv_istore (lv' := [(5, .int 0), (1, .int u143.1), (0, .ref (bd 0)), (2, .int k2), (3, .int k3), (4, .int k4)]) hx hb dX8_doesRow_181 hl (by decide) rfl (fun ls hl => ?_)
          rw [show pX8_doesRow_lp96 (n_ + 1) v qm ql qs qk qd qn qo qt qi qy k1 k2 k3 k4 k5 = (pX8_doesRow_lp183 ((Int32.toInt k2 - Int32.toInt 0).toNat + 1) (upd u143.2.1 0 k2) u143.2.2.1 ql u143.2.2.2.1 qk qd qn qo u143.2.2.2.2.1 u143.2.2.2.2.2.1 u143.2.2.2.2.2.2 u143.1 k2 0) from by rw [pX8_doesRow_lp96, if_pos c_102, if_pos c_135, hu143, mLet_eq, if_neg c_148]]
          exact lpX8_doesRow_183 X hr hk  ((Int32.toInt k2 - Int32.toInt 0).toNat + 1) (upd u143.2.1 0 k2) u143.2.2.1 ql u143.2.2.2.1 qk qd qn qo u143.2.2.2.2.1 u143.2.2.2.2.2.1 u143.2.2.2.2.2.2 u143.1 k2 0 _ _ _ (show 0 ≤ Int32.toInt 0 by have z_0 : Int32.toInt 0 = 0 := rfl; omega) (show 0 ≤ Int32.toInt k2 ∧ Int32.toInt k2 ≤ 40 by omega) (Nat.lt_succ_self _) V (lv_sub hl [2, 1, 3, 0] rfl)
        · refine lv_iload_n hx hb dX8_doesRow_151 rfl (lv_at hl 3 rfl) ?_
          refine lv_if_ge (tgt := 159) hx hb dX8_doesRow_152 (by decide) (fun c_152 => ?_) (fun c_152 => ?_)
          · refine lv_aload_n hx hb dX8_doesRow_159 rfl (lv_at hl 1 rfl) ?_
            refine lv_iload_n hx hb dX8_doesRow_160 rfl (lv_at hl 3 rfl) ?_
            refine lv_iload hx hb dX8_doesRow_161 (lv_at hl 4 rfl) ?_
            refine lv_aload_n hx hb dX8_doesRow_163 rfl (lv_at hl 1 rfl) ?_
            refine m_get X V 6 0 22 rfl gin_6 rfl (by decide) rfl gm_445 (v := .int (u143.2.1 13)) rfl dX8_doesRow_164 ?_
            obtain ⟨u167, hu167⟩ : ∃ u, pX8_store u143.2.1 u143.2.2.1 ql u143.2.2.2.1 qd qn k3 k4 (u143.2.1 13) = u := ⟨_, rfl⟩
            have hM := kX8_store l D cB cI bd u143.2.1 u143.2.2.1 ql u143.2.2.2.1 qk qd qn qe qf qo u143.2.2.2.2.1 u143.2.2.2.2.2.1 u143.2.2.2.2.2.2 k3 k4 (u143.2.1 13) (show 0 ≤ Int32.toInt k3 ∧ Int32.toInt k3 < 8 by have e_1 : Int32.toInt 0 = 0 := rfl; have f_3 : Int32.toInt 0 ≤ Int32.toInt k3 := Int32.le_iff_toInt_le.mp c_152; omega) (show 1 ≤ Int32.toInt k4 ∧ Int32.toInt k4 ≤ 4 by omega) (by have h := does_tp qm qs qo qt qi qy htp; rw [hu143] at h; exact h)
            rw [hu167] at hM
            refine m_VA X V (w1 := (wR cB cI bd u167.2.1 u167.2.2.1 u167.2.2.2.1 u167.2.2.2.2 qk qd qn qe qf qo u143.2.2.2.2.1 u143.2.2.2.2.2.1 u143.2.2.2.2.2.2)) (rest := []) (st1 := [.int u167.1]) hM okX8_store gm_607 gm_718 gm_606 ⟨⟨rfl, rfl⟩, ⟨by decide, by decide⟩, Nat.zero_le _, Nat.zero_le _⟩ rfl rfl (wR_fst _ _ _ _ _ _ _ _ _ _ _ _ _ _ _ _) (wR_fst _ _ _ _ _ _ _ _ _ _ _ _ _ _ _ _) rfl hl.1 (Nat.le_of_ble_eq_true rfl) dX8_doesRow_167 rfl rfl (fun H locs V => ?_)
            refine lv_istore_n (lv' := [(1, .int u167.1), (0, .ref (bd 0)), (2, .int k2), (3, .int k3), (4, .int k4), (5, .int k5)]) hx hb dX8_doesRow_170 rfl hl (by decide) rfl (fun ls hl => ?_)
            refine lv_iload_n hx hb dX8_doesRow_171 rfl (lv_at hl 0 rfl) ?_
            refine lv_if_eq (tgt := 211) hx hb dX8_doesRow_172 (by decide) (fun c_172 => ?_) (fun c_172 => ?_)
            · refine lv_aload_n hx hb dX8_doesRow_211 rfl (lv_at hl 1 rfl) ?_
              refine lv_aload_n hx hb dX8_doesRow_212 rfl (lv_at hl 1 rfl) ?_
              refine m_get X V 6 0 23 rfl gin_6 rfl (by decide) rfl gm_446 (v := .int (u167.2.1 14)) rfl dX8_doesRow_213 ?_
              refine m_put X V (ws' := (wR cB cI bd (upd u167.2.1 1 (u167.2.1 14)) u167.2.2.1 u167.2.2.2.1 u167.2.2.2.2 qk qd qn qe qf qo u143.2.2.2.2.1 u143.2.2.2.2.2.1 u143.2.2.2.2.2.2)) 6 0 5 rfl gin_6 tyX8_ok nmX8 rfl (by decide) rfl gm_428 rfl rfl rfl (Nat.le_of_ble_eq_true rfl) dX8_doesRow_216 rfl (fun H locs V => ?_)
              refine lv_aload_n hx hb dX8_doesRow_219 rfl (lv_at hl 1 rfl) ?_
              refine lv_aload_n hx hb dX8_doesRow_220 rfl (lv_at hl 1 rfl) ?_
              refine m_get X V 6 0 7 rfl gin_6 rfl (by decide) rfl gm_430 (v := .int (u167.2.1 3)) rfl dX8_doesRow_221 ?_
              refine lv_if_eq (tgt := 234) hx hb dX8_doesRow_224 (by decide) (fun c_224 => ?_) (fun c_224 => ?_)
              · refine lv_aload_n hx hb dX8_doesRow_234 rfl (lv_at hl 1 rfl) ?_
                refine m_get X V 6 0 8 rfl gin_6 rfl (by decide) rfl gm_431 (v := .int (u167.2.1 4)) rfl dX8_doesRow_235 ?_
                refine m_put X V (ws' := (wR cB cI bd (upd (upd u167.2.1 1 (u167.2.1 14)) 4 (u167.2.1 4)) u167.2.2.1 u167.2.2.2.1 u167.2.2.2.2 qk qd qn qe qf qo u143.2.2.2.2.1 u143.2.2.2.2.2.1 u143.2.2.2.2.2.2)) 6 0 8 rfl gin_6 tyX8_ok nmX8 rfl (by decide) rfl gm_431 rfl rfl rfl (Nat.le_of_ble_eq_true rfl) dX8_doesRow_238 rfl (fun H locs V => ?_)
                refine lv_aload_n hx hb dX8_doesRow_241 rfl (lv_at hl 1 rfl) ?_
                refine lv_dup hx hb dX8_doesRow_242 rfl ?_
                refine m_get X V 6 0 10 rfl gin_6 rfl (by decide) rfl gm_433 (v := .int (u167.2.1 6)) rfl dX8_doesRow_243 ?_
                refine lv_iconst (v := 1) hx hb dX8_doesRow_246 (by decide) ?_
                refine lv_iadd hx hb dX8_doesRow_247 ?_
                refine m_put X V (ws' := (wR cB cI bd (upd (upd (upd u167.2.1 1 (u167.2.1 14)) 4 (u167.2.1 4)) 6 ((u167.2.1 6) + 1)) u167.2.2.1 u167.2.2.2.1 u167.2.2.2.2 qk qd qn qe qf qo u143.2.2.2.2.1 u143.2.2.2.2.2.1 u143.2.2.2.2.2.2)) 6 0 10 rfl gin_6 tyX8_ok nmX8 rfl (by decide) rfl gm_433 rfl rfl rfl (Nat.le_of_ble_eq_true rfl) dX8_doesRow_248 rfl (fun H locs V => ?_)
                refine lv_iconst (v := 0) hx hb dX8_doesRow_251 (by decide) ?_
                have e9 : pX8_doesRow_lp96 (n_ + 1) v qm ql qs qk qd qn qo qt qi qy k1 k2 k3 k4 k5 = (0, (upd (upd (upd u167.2.1 1 (u167.2.1 14)) 4 (u167.2.1 4)) 6 ((u167.2.1 6) + 1)), u167.2.2.1, u167.2.2.2.1, u167.2.2.2.2, qk, qd, qn, qo, u143.2.2.2.2.1, u143.2.2.2.2.2.1, u143.2.2.2.2.2.2) := by rw [pX8_doesRow_lp96, if_pos c_102, if_pos c_135, hu143, mLet_eq, if_pos c_148, if_pos c_152, hu167, mLet_eq, if_pos c_172, if_pos c_224]
                exact m_iret X hr hk V (by rw [e9]) (by rw [e9]) dX8_doesRow_252
              · refine lv_aload_n hx hb dX8_doesRow_227 rfl (lv_at hl 1 rfl) ?_
                refine m_get X V 6 0 24 rfl gin_6 rfl (by decide) rfl gm_447 (v := .int (u167.2.1 15)) rfl dX8_doesRow_228 ?_
                refine lv_goto (tgt := 238) hx hb dX8_doesRow_231 (by decide) ?_
                refine m_put X V (ws' := (wR cB cI bd (upd (upd u167.2.1 1 (u167.2.1 14)) 4 (u167.2.1 15)) u167.2.2.1 u167.2.2.2.1 u167.2.2.2.2 qk qd qn qe qf qo u143.2.2.2.2.1 u143.2.2.2.2.2.1 u143.2.2.2.2.2.2)) 6 0 8 rfl gin_6 tyX8_ok nmX8 rfl (by decide) rfl gm_431 rfl rfl rfl (Nat.le_of_ble_eq_true rfl) dX8_doesRow_238 rfl (fun H locs V => ?_)
                refine lv_aload_n hx hb dX8_doesRow_241 rfl (lv_at hl 1 rfl) ?_
                refine lv_dup hx hb dX8_doesRow_242 rfl ?_
                refine m_get X V 6 0 10 rfl gin_6 rfl (by decide) rfl gm_433 (v := .int (u167.2.1 6)) rfl dX8_doesRow_243 ?_
                refine lv_iconst (v := 1) hx hb dX8_doesRow_246 (by decide) ?_
                refine lv_iadd hx hb dX8_doesRow_247 ?_
                refine m_put X V (ws' := (wR cB cI bd (upd (upd (upd u167.2.1 1 (u167.2.1 14)) 4 (u167.2.1 15)) 6 ((u167.2.1 6) + 1)) u167.2.2.1 u167.2.2.2.1 u167.2.2.2.2 qk qd qn qe qf qo u143.2.2.2.2.1 u143.2.2.2.2.2.1 u143.2.2.2.2.2.2)) 6 0 10 rfl gin_6 tyX8_ok nmX8 rfl (by decide) rfl gm_433 rfl rfl rfl (Nat.le_of_ble_eq_true rfl) dX8_doesRow_248 rfl (fun H locs V => ?_)
                refine lv_iconst (v := 0) hx hb dX8_doesRow_251 (by decide) ?_
                have e9 : pX8_doesRow_lp96 (n_ + 1) v qm ql qs qk qd qn qo qt qi qy k1 k2 k3 k4 k5 = (0, (upd (upd (upd u167.2.1 1 (u167.2.1 14)) 4 (u167.2.1 15)) 6 ((u167.2.1 6) + 1)), u167.2.2.1, u167.2.2.2.1, u167.2.2.2.2, qk, qd, qn, qo, u143.2.2.2.2.1, u143.2.2.2.2.2.1, u143.2.2.2.2.2.2) := by rw [pX8_doesRow_lp96, if_pos c_102, if_pos c_135, hu143, mLet_eq, if_pos c_148, if_pos c_152, hu167, mLet_eq, if_pos c_172, if_neg c_224]
                exact m_iret X hr hk V (by rw [e9]) (by rw [e9]) dX8_doesRow_252
            · refine lv_aload_n hx hb dX8_doesRow_175 rfl (lv_at hl 1 rfl) ?_
              refine lv_iload_n hx hb dX8_doesRow_176 rfl (lv_at hl 2 rfl) ?_
              refine m_put X V (ws' := (wR cB cI bd (upd u167.2.1 0 k2) u167.2.2.1 u167.2.2.2.1 u167.2.2.2.2 qk qd qn qe qf qo u143.2.2.2.2.1 u143.2.2.2.2.2.1 u143.2.2.2.2.2.2)) 6 0 4 rfl gin_6 tyX8_ok nmX8 rfl (by decide) rfl gm_427 rfl rfl rfl (Nat.le_of_ble_eq_true rfl) dX8_doesRow_177 rfl (fun H locs V => ?_)
              refine lv_iconst (v := 0) hx hb dX8_doesRow_180 (by decide) ?_
              refine lv_istore (lv' := [(5, .int 0), (1, .int u167.1), (0, .ref (bd 0)), (2, .int k2), (3, .int k3), (4, .int k4)]) hx hb dX8_doesRow_181 hl (by decide) rfl (fun ls hl => ?_)
              rw [show pX8_doesRow_lp96 (n_ + 1) v qm ql qs qk qd qn qo qt qi qy k1 k2 k3 k4 k5 = (pX8_doesRow_lp183 ((Int32.toInt k2 - Int32.toInt 0).toNat + 1) (upd u167.2.1 0 k2) u167.2.2.1 u167.2.2.2.1 u167.2.2.2.2 qk qd qn qo u143.2.2.2.2.1 u143.2.2.2.2.2.1 u143.2.2.2.2.2.2 u167.1 k2 0) from by rw [pX8_doesRow_lp96, if_pos c_102, if_pos c_135, hu143, mLet_eq, if_pos c_148, if_pos c_152, hu167, mLet_eq, if_neg c_172]]
              exact lpX8_doesRow_183 X hr hk  ((Int32.toInt k2 - Int32.toInt 0).toNat + 1) (upd u167.2.1 0 k2) u167.2.2.1 u167.2.2.2.1 u167.2.2.2.2 qk qd qn qo u143.2.2.2.2.1 u143.2.2.2.2.2.1 u143.2.2.2.2.2.2 u167.1 k2 0 _ _ _ (show 0 ≤ Int32.toInt 0 by have z_0 : Int32.toInt 0 = 0 := rfl; omega) (show 0 ≤ Int32.toInt k2 ∧ Int32.toInt k2 ≤ 40 by omega) (Nat.lt_succ_self _) V (lv_sub hl [2, 1, 3, 0] rfl)
          · refine lv_iload_n hx hb dX8_doesRow_155 rfl (lv_at hl 0 rfl) ?_
            refine lv_goto (tgt := 170) hx hb dX8_doesRow_156 (by decide) ?_
            refine lv_istore_n (lv' := [(1, .int u143.1), (0, .ref (bd 0)), (2, .int k2), (3, .int k3), (4, .int k4), (5, .int k5)]) hx hb dX8_doesRow_170 rfl hl (by decide) rfl (fun ls hl => ?_)
            refine lv_iload_n hx hb dX8_doesRow_171 rfl (lv_at hl 0 rfl) ?_
            refine lv_if_eq (tgt := 211) hx hb dX8_doesRow_172 (by decide) (fun _ => ?_) (fun h => absurd c_148 h)
            refine lv_aload_n hx hb dX8_doesRow_211 rfl (lv_at hl 1 rfl) ?_
            refine lv_aload_n hx hb dX8_doesRow_212 rfl (lv_at hl 1 rfl) ?_
            refine m_get X V 6 0 23 rfl gin_6 rfl (by decide) rfl gm_446 (v := .int (u143.2.1 14)) rfl dX8_doesRow_213 ?_
            refine m_put X V (ws' := (wR cB cI bd (upd u143.2.1 1 (u143.2.1 14)) u143.2.2.1 ql u143.2.2.2.1 qk qd qn qe qf qo u143.2.2.2.2.1 u143.2.2.2.2.2.1 u143.2.2.2.2.2.2)) 6 0 5 rfl gin_6 tyX8_ok nmX8 rfl (by decide) rfl gm_428 rfl rfl rfl (Nat.le_of_ble_eq_true rfl) dX8_doesRow_216 rfl (fun H locs V => ?_)
            refine lv_aload_n hx hb dX8_doesRow_219 rfl (lv_at hl 1 rfl) ?_
            refine lv_aload_n hx hb dX8_doesRow_220 rfl (lv_at hl 1 rfl) ?_
            refine m_get X V 6 0 7 rfl gin_6 rfl (by decide) rfl gm_430 (v := .int (u143.2.1 3)) rfl dX8_doesRow_221 ?_
            refine lv_if_eq (tgt := 234) hx hb dX8_doesRow_224 (by decide) (fun c_224 => ?_) (fun c_224 => ?_)
            · refine lv_aload_n hx hb dX8_doesRow_234 rfl (lv_at hl 1 rfl) ?_
              refine m_get X V 6 0 8 rfl gin_6 rfl (by decide) rfl gm_431 (v := .int (u143.2.1 4)) rfl dX8_doesRow_235 ?_
              refine m_put X V (ws' := (wR cB cI bd (upd (upd u143.2.1 1 (u143.2.1 14)) 4 (u143.2.1 4)) u143.2.2.1 ql u143.2.2.2.1 qk qd qn qe qf qo u143.2.2.2.2.1 u143.2.2.2.2.2.1 u143.2.2.2.2.2.2)) 6 0 8 rfl gin_6 tyX8_ok nmX8 rfl (by decide) rfl gm_431 rfl rfl rfl (Nat.le_of_ble_eq_true rfl) dX8_doesRow_238 rfl (fun H locs V => ?_)
              refine lv_aload_n hx hb dX8_doesRow_241 rfl (lv_at hl 1 rfl) ?_
              refine lv_dup hx hb dX8_doesRow_242 rfl ?_
              refine m_get X V 6 0 10 rfl gin_6 rfl (by decide) rfl gm_433 (v := .int (u143.2.1 6)) rfl dX8_doesRow_243 ?_
              refine lv_iconst (v := 1) hx hb dX8_doesRow_246 (by decide) ?_
              refine lv_iadd hx hb dX8_doesRow_247 ?_
              refine m_put X V (ws' := (wR cB cI bd (upd (upd (upd u143.2.1 1 (u143.2.1 14)) 4 (u143.2.1 4)) 6 ((u143.2.1 6) + 1)) u143.2.2.1 ql u143.2.2.2.1 qk qd qn qe qf qo u143.2.2.2.2.1 u143.2.2.2.2.2.1 u143.2.2.2.2.2.2)) 6 0 10 rfl gin_6 tyX8_ok nmX8 rfl (by decide) rfl gm_433 rfl rfl rfl (Nat.le_of_ble_eq_true rfl) dX8_doesRow_248 rfl (fun H locs V => ?_)
              refine lv_iconst (v := 0) hx hb dX8_doesRow_251 (by decide) ?_
              have e9 : pX8_doesRow_lp96 (n_ + 1) v qm ql qs qk qd qn qo qt qi qy k1 k2 k3 k4 k5 = (0, (upd (upd (upd u143.2.1 1 (u143.2.1 14)) 4 (u143.2.1 4)) 6 ((u143.2.1 6) + 1)), u143.2.2.1, ql, u143.2.2.2.1, qk, qd, qn, qo, u143.2.2.2.2.1, u143.2.2.2.2.2.1, u143.2.2.2.2.2.2) := by rw [pX8_doesRow_lp96, if_pos c_102, if_pos c_135, hu143, mLet_eq, if_pos c_148, if_neg c_152, if_pos c_224]
              exact m_iret X hr hk V (by rw [e9]) (by rw [e9]) dX8_doesRow_252
            · refine lv_aload_n hx hb dX8_doesRow_227 rfl (lv_at hl 1 rfl) ?_
              refine m_get X V 6 0 24 rfl gin_6 rfl (by decide) rfl gm_447 (v := .int (u143.2.1 15)) rfl dX8_doesRow_228 ?_
              refine lv_goto (tgt := 238) hx hb dX8_doesRow_231 (by decide) ?_
              refine m_put X V (ws' := (wR cB cI bd (upd (upd u143.2.1 1 (u143.2.1 14)) 4 (u143.2.1 15)) u143.2.2.1 ql u143.2.2.2.1 qk qd qn qe qf qo u143.2.2.2.2.1 u143.2.2.2.2.2.1 u143.2.2.2.2.2.2)) 6 0 8 rfl gin_6 tyX8_ok nmX8 rfl (by decide) rfl gm_431 rfl rfl rfl (Nat.le_of_ble_eq_true rfl) dX8_doesRow_238 rfl (fun H locs V => ?_)
              refine lv_aload_n hx hb dX8_doesRow_241 rfl (lv_at hl 1 rfl) ?_
              refine lv_dup hx hb dX8_doesRow_242 rfl ?_
              refine m_get X V 6 0 10 rfl gin_6 rfl (by decide) rfl gm_433 (v := .int (u143.2.1 6)) rfl dX8_doesRow_243 ?_
              refine lv_iconst (v := 1) hx hb dX8_doesRow_246 (by decide) ?_
              refine lv_iadd hx hb dX8_doesRow_247 ?_
              refine m_put X V (ws' := (wR cB cI bd (upd (upd (upd u143.2.1 1 (u143.2.1 14)) 4 (u143.2.1 15)) 6 ((u143.2.1 6) + 1)) u143.2.2.1 ql u143.2.2.2.1 qk qd qn qe qf qo u143.2.2.2.2.1 u143.2.2.2.2.2.1 u143.2.2.2.2.2.2)) 6 0 10 rfl gin_6 tyX8_ok nmX8 rfl (by decide) rfl gm_433 rfl rfl rfl (Nat.le_of_ble_eq_true rfl) dX8_doesRow_248 rfl (fun H locs V => ?_)
              refine lv_iconst (v := 0) hx hb dX8_doesRow_251 (by decide) ?_
              have e9 : pX8_doesRow_lp96 (n_ + 1) v qm ql qs qk qd qn qo qt qi qy k1 k2 k3 k4 k5 = (0, (upd (upd (upd u143.2.1 1 (u143.2.1 14)) 4 (u143.2.1 15)) 6 ((u143.2.1 6) + 1)), u143.2.2.1, ql, u143.2.2.2.1, qk, qd, qn, qo, u143.2.2.2.2.1, u143.2.2.2.2.2.1, u143.2.2.2.2.2.2) := by rw [pX8_doesRow_lp96, if_pos c_102, if_pos c_135, hu143, mLet_eq, if_pos c_148, if_neg c_152, if_neg c_224]
              exact m_iret X hr hk V (by rw [e9]) (by rw [e9]) dX8_doesRow_252
      · refine lv_iload_n hx hb dX8_doesRow_138 rfl (lv_at hl 1 rfl) ?_
        refine lv_goto (tgt := 146) hx hb dX8_doesRow_139 (by decide) ?_
        refine lv_istore_n (lv' := [(1, .int k1), (0, .ref (bd 0)), (2, .int k2), (3, .int k3), (4, .int k4), (5, .int k5)]) hx hb dX8_doesRow_146 rfl hl (by decide) rfl (fun ls hl => ?_)
        refine lv_iload_n hx hb dX8_doesRow_147 rfl (lv_at hl 0 rfl) ?_
        refine lv_if_ne (tgt := 155) hx hb dX8_doesRow_148 (by decide) (fun _ => ?_) (fun h => absurd h c_135)
        refine lv_iload_n hx hb dX8_doesRow_155 rfl (lv_at hl 0 rfl) ?_
        refine lv_goto (tgt := 170) hx hb dX8_doesRow_156 (by decide) ?_
        refine lv_istore_n (lv' := [(1, .int k1), (0, .ref (bd 0)), (2, .int k2), (3, .int k3), (4, .int k4), (5, .int k5)]) hx hb dX8_doesRow_170 rfl hl (by decide) rfl (fun ls hl => ?_)
        refine lv_iload_n hx hb dX8_doesRow_171 rfl (lv_at hl 0 rfl) ?_
        refine lv_if_eq (tgt := 211) hx hb dX8_doesRow_172 (by decide) (fun h => absurd h c_135) (fun _ => ?_)
        refine lv_aload_n hx hb dX8_doesRow_175 rfl (lv_at hl 1 rfl) ?_
        refine lv_iload_n hx hb dX8_doesRow_176 rfl (lv_at hl 2 rfl) ?_
        refine m_put X V (ws' := (wR cB cI bd (upd v 0 k2) qm ql qs qk qd qn qe qf qo qt qi qy)) 6 0 4 rfl gin_6 tyX8_ok nmX8 rfl (by decide) rfl gm_427 rfl rfl rfl (Nat.le_of_ble_eq_true rfl) dX8_doesRow_177 rfl (fun H locs V => ?_)
        refine lv_iconst (v := 0) hx hb dX8_doesRow_180 (by decide) ?_
        refine lv_istore (lv' := [(5, .int 0), (1, .int k1), (0, .ref (bd 0)), (2, .int k2), (3, .int k3), (4, .int k4)]) hx hb dX8_doesRow_181 hl (by decide) rfl (fun ls hl => ?_)
        rw [show pX8_doesRow_lp96 (n_ + 1) v qm ql qs qk qd qn qo qt qi qy k1 k2 k3 k4 k5 = (pX8_doesRow_lp183 ((Int32.toInt k2 - Int32.toInt 0).toNat + 1) (upd v 0 k2) qm ql qs qk qd qn qo qt qi qy k1 k2 0) from by rw [pX8_doesRow_lp96, if_pos c_102, if_neg c_135]]
        exact lpX8_doesRow_183 X hr hk  ((Int32.toInt k2 - Int32.toInt 0).toNat + 1) (upd v 0 k2) qm ql qs qk qd qn qo qt qi qy k1 k2 0 _ _ _ (show 0 ≤ Int32.toInt 0 by have z_0 : Int32.toInt 0 = 0 := rfl; omega) (show 0 ≤ Int32.toInt k2 ∧ Int32.toInt k2 ≤ 40 by omega) (Nat.lt_succ_self _) V (lv_sub hl [2, 1, 3, 0] rfl)
    · refine lv_iload_n hx hb dX8_doesRow_105 rfl (lv_at hl 1 rfl) ?_
      refine lv_if_ne (tgt := 134) hx hb dX8_doesRow_106 (by decide) (fun c_106 => ?_) (fun c_106 => ?_)
      · refine lv_iload_n hx hb dX8_doesRow_134 rfl (lv_at hl 1 rfl) ?_
        refine lv_if_eq (tgt := 142) hx hb dX8_doesRow_135 (by decide) (fun h => absurd h c_106) (fun _ => ?_)
        refine lv_iload_n hx hb dX8_doesRow_138 rfl (lv_at hl 1 rfl) ?_
        refine lv_goto (tgt := 146) hx hb dX8_doesRow_139 (by decide) ?_
        refine lv_istore_n (lv' := [(1, .int k1), (0, .ref (bd 0)), (2, .int k2), (3, .int k3), (4, .int k4), (5, .int k5)]) hx hb dX8_doesRow_146 rfl hl (by decide) rfl (fun ls hl => ?_)
        refine lv_iload_n hx hb dX8_doesRow_147 rfl (lv_at hl 0 rfl) ?_
        refine lv_if_ne (tgt := 155) hx hb dX8_doesRow_148 (by decide) (fun _ => ?_) (fun h => absurd h c_106)
        refine lv_iload_n hx hb dX8_doesRow_155 rfl (lv_at hl 0 rfl) ?_
        refine lv_goto (tgt := 170) hx hb dX8_doesRow_156 (by decide) ?_
        refine lv_istore_n (lv' := [(1, .int k1), (0, .ref (bd 0)), (2, .int k2), (3, .int k3), (4, .int k4), (5, .int k5)]) hx hb dX8_doesRow_170 rfl hl (by decide) rfl (fun ls hl => ?_)
        refine lv_iload_n hx hb dX8_doesRow_171 rfl (lv_at hl 0 rfl) ?_
        refine lv_if_eq (tgt := 211) hx hb dX8_doesRow_172 (by decide) (fun h => absurd h c_106) (fun _ => ?_)
        refine lv_aload_n hx hb dX8_doesRow_175 rfl (lv_at hl 1 rfl) ?_
        refine lv_iload_n hx hb dX8_doesRow_176 rfl (lv_at hl 2 rfl) ?_
        refine m_put X V (ws' := (wR cB cI bd (upd v 0 k2) qm ql qs qk qd qn qe qf qo qt qi qy)) 6 0 4 rfl gin_6 tyX8_ok nmX8 rfl (by decide) rfl gm_427 rfl rfl rfl (Nat.le_of_ble_eq_true rfl) dX8_doesRow_177 rfl (fun H locs V => ?_)
        refine lv_iconst (v := 0) hx hb dX8_doesRow_180 (by decide) ?_
        refine lv_istore (lv' := [(5, .int 0), (1, .int k1), (0, .ref (bd 0)), (2, .int k2), (3, .int k3), (4, .int k4)]) hx hb dX8_doesRow_181 hl (by decide) rfl (fun ls hl => ?_)
        rw [show pX8_doesRow_lp96 (n_ + 1) v qm ql qs qk qd qn qo qt qi qy k1 k2 k3 k4 k5 = (pX8_doesRow_lp183 ((Int32.toInt k2 - Int32.toInt 0).toNat + 1) (upd v 0 k2) qm ql qs qk qd qn qo qt qi qy k1 k2 0) from by rw [pX8_doesRow_lp96, if_neg c_102, if_neg c_106]]
        exact lpX8_doesRow_183 X hr hk  ((Int32.toInt k2 - Int32.toInt 0).toNat + 1) (upd v 0 k2) qm ql qs qk qd qn qo qt qi qy k1 k2 0 _ _ _ (show 0 ≤ Int32.toInt 0 by have z_0 : Int32.toInt 0 = 0 := rfl; omega) (show 0 ≤ Int32.toInt k2 ∧ Int32.toInt k2 ≤ 40 by omega) (Nat.lt_succ_self _) V (lv_sub hl [2, 1, 3, 0] rfl)
      · refine lv_iload hx hb dX8_doesRow_109 (lv_at hl 5 rfl) ?_
        refine lv_iload_n hx hb dX8_doesRow_111 rfl (lv_at hl 3 rfl) ?_
        refine lv_icmp_ne (tgt := 119) hx hb dX8_doesRow_112 (by decide) (fun c_112 => ?_) (fun c_112 => ?_)
        · refine lv_aload_n hx hb dX8_doesRow_119 rfl (lv_at hl 0 rfl) ?_
          refine lv_iload hx hb dX8_doesRow_120 (lv_at hl 5 rfl) ?_
          refine lv_iload hx hb dX8_doesRow_122 (lv_at hl 4 rfl) ?_
          obtain ⟨u124, hu124⟩ : ∃ u, pX8_load v qm ql qs qd qn qo k5 k4 = u := ⟨_, rfl⟩
          have hM := kX8_load l D cB cI bd v qm ql qs qk qd qn qe qf qo qt qi qy k5 k4 (show 0 ≤ Int32.toInt k5 ∧ Int32.toInt k5 < 8 by have m_1 := hbr.1; have m_2 : 0 ≤ Int32.toInt (v 0) ∧ Int32.toInt (v 0) ≤ 40 := htp; have f_3 : ¬ Int32.toInt (v 8) ≤ Int32.toInt k5 := fun q => c_102 (Int32.le_iff_toInt_le.mpr q); have f_5 : ¬ Int32.toInt k5 = Int32.toInt k3 := fun q => c_112 (Int32.toInt_inj.mp q); omega) (show 1 ≤ Int32.toInt k4 ∧ Int32.toInt k4 ≤ 4 by have m_1 := hbr.1; have m_2 : 0 ≤ Int32.toInt (v 0) ∧ Int32.toInt (v 0) ≤ 40 := htp; omega) (show 0 ≤ Int32.toInt (v 0) ∧ Int32.toInt (v 0) ≤ 40 by have m_1 := hbr.1; have m_2 : 0 ≤ Int32.toInt (v 0) ∧ Int32.toInt (v 0) ≤ 40 := htp; omega)
          rw [hu124] at hM
          refine m_VA X V (w1 := (wR cB cI bd u124.2.1 qm ql qs qk qd qn qe qf u124.2.2 qt qi qy)) (rest := []) (st1 := [.int u124.1]) hM okX8_load gm_534 gm_700 gm_533 ⟨⟨rfl, rfl⟩, ⟨by decide, by decide⟩, Nat.zero_le _, Nat.zero_le _⟩ rfl rfl (wR_fst _ _ _ _ _ _ _ _ _ _ _ _ _ _ _ _) (wR_fst _ _ _ _ _ _ _ _ _ _ _ _ _ _ _ _) rfl hl.1 (Nat.le_of_ble_eq_true rfl) dX8_doesRow_124 rfl rfl (fun H locs V => ?_)
          refine lv_istore_n (lv' := [(1, .int u124.1), (0, .ref (bd 0)), (2, .int k2), (3, .int k3), (4, .int k4), (5, .int k5)]) hx hb dX8_doesRow_127 rfl hl (by decide) rfl (fun ls hl => ?_)
          refine lv_iinc (v := (k5 + 1)) (lv' := [(5, .int (k5 + 1)), (1, .int u124.1), (0, .ref (bd 0)), (2, .int k2), (3, .int k3), (4, .int k4)]) hx hb dX8_doesRow_128 hl (k := 5) rfl rfl (by decide) rfl (fun ls hl => ?_)
          refine lv_goto (tgt := 96) hx hb dX8_doesRow_131 (by decide) ?_
          rw [show pX8_doesRow_lp96 (n_ + 1) v qm ql qs qk qd qn qo qt qi qy k1 k2 k3 k4 k5 = pX8_doesRow_lp96 n_ u124.2.1 qm ql qs qk qd qn u124.2.2 qt qi qy u124.1 k2 k3 k4 (k5 + 1) from by rw [pX8_doesRow_lp96, if_neg c_102, if_pos c_106, if_neg c_112, hu124, mLet_eq]]
          exact ih u124.2.1 qm ql qs qk qd qn u124.2.2 qt qi qy u124.1 k2 k3 k4 (k5 + 1) _ _ _ (show 0 ≤ Int32.toInt (k5 + 1) by have m_1 := hbr.1; have m_2 : 0 ≤ Int32.toInt (v 0) ∧ Int32.toInt (v 0) ≤ 40 := htp; have f_3 : ¬ Int32.toInt (v 8) ≤ Int32.toInt k5 := fun q => c_102 (Int32.le_iff_toInt_le.mpr q); have f_5 : ¬ Int32.toInt k5 = Int32.toInt k3 := fun q => c_112 (Int32.toInt_inj.mp q); have e_6 : Int32.toInt 1 = 1 := rfl; have e_7 : Int32.toInt (k5 + 1) = Int32.toInt k5 + Int32.toInt 1 := ti_add (by omega) (by omega); omega) (show 0 ≤ Int32.toInt k2 ∧ Int32.toInt k2 ≤ 40 by have m_1 := hbr.1; have m_2 : 0 ≤ Int32.toInt (v 0) ∧ Int32.toInt (v 0) ≤ 40 := htp; have f_3 : ¬ Int32.toInt (v 8) ≤ Int32.toInt k5 := fun q => c_102 (Int32.le_iff_toInt_le.mpr q); have f_5 : ¬ Int32.toInt k5 = Int32.toInt k3 := fun q => c_112 (Int32.toInt_inj.mp q); have e_6 : Int32.toInt 1 = 1 := rfl; have e_7 : Int32.toInt (k5 + 1) = Int32.toInt k5 + Int32.toInt 1 := ti_add (by omega) (by omega); omega) (show 1 ≤ Int32.toInt k4 ∧ Int32.toInt k4 ≤ 4 by have m_1 := hbr.1; have m_2 : 0 ≤ Int32.toInt (v 0) ∧ Int32.toInt (v 0) ≤ 40 := htp; have f_3 : ¬ Int32.toInt (v 8) ≤ Int32.toInt k5 := fun q => c_102 (Int32.le_iff_toInt_le.mpr q); have f_5 : ¬ Int32.toInt k5 = Int32.toInt k3 := fun q => c_112 (Int32.toInt_inj.mp q); have e_6 : Int32.toInt 1 = 1 := rfl; have e_7 : Int32.toInt (k5 + 1) = Int32.toInt k5 + Int32.toInt 1 := ti_add (by omega) (by omega); omega) (show Int32.toInt k3 ≤ 7 by have m_1 := hbr.1; have m_2 : 0 ≤ Int32.toInt (v 0) ∧ Int32.toInt (v 0) ≤ 40 := htp; have f_3 : ¬ Int32.toInt (v 8) ≤ Int32.toInt k5 := fun q => c_102 (Int32.le_iff_toInt_le.mpr q); have f_5 : ¬ Int32.toInt k5 = Int32.toInt k3 := fun q => c_112 (Int32.toInt_inj.mp q); have e_6 : Int32.toInt 1 = 1 := rfl; have e_7 : Int32.toInt (k5 + 1) = Int32.toInt k5 + Int32.toInt 1 := ti_add (by omega) (by omega); omega) (by have h := (load_v (v := v) qm ql qs qd qn qo k5 k4).2 htp; rw [hu124] at h; exact h) (BR_of (by rw [← hu124]; exact (load_v qm ql qs qd qn qo k5 k4).1 7 (by decide)) (by rw [← hu124]; exact (load_v qm ql qs qd qn qo k5 k4).1 8 (by decide)) hbr) (by rw [show u124.2.1 8 = v 8 from by rw [← hu124]; exact (load_v qm ql qs qd qn qo k5 k4).1 8 (by decide)]; exact ms_up c_102 hm) V (lv_sub hl [2, 1, 3, 4, 5, 0] rfl)
        · refine lv_iconst (v := 0) hx hb dX8_doesRow_115 (by decide) ?_
          refine lv_goto (tgt := 127) hx hb dX8_doesRow_116 (by decide) ?_
          refine lv_istore_n (lv' := [(1, .int 0), (0, .ref (bd 0)), (2, .int k2), (3, .int k3), (4, .int k4), (5, .int k5)]) hx hb dX8_doesRow_127 rfl hl (by decide) rfl (fun ls hl => ?_)
          refine lv_iinc (v := (k5 + 1)) (lv' := [(5, .int (k5 + 1)), (1, .int 0), (0, .ref (bd 0)), (2, .int k2), (3, .int k3), (4, .int k4)]) hx hb dX8_doesRow_128 hl (k := 5) rfl rfl (by decide) rfl (fun ls hl => ?_)
          refine lv_goto (tgt := 96) hx hb dX8_doesRow_131 (by decide) ?_
          rw [show pX8_doesRow_lp96 (n_ + 1) v qm ql qs qk qd qn qo qt qi qy k1 k2 k3 k4 k5 = pX8_doesRow_lp96 n_ v qm ql qs qk qd qn qo qt qi qy 0 k2 k3 k4 (k5 + 1) from by rw [pX8_doesRow_lp96, if_neg c_102, if_pos c_106, if_pos c_112]]
          exact ih v qm ql qs qk qd qn qo qt qi qy 0 k2 k3 k4 (k5 + 1) _ _ _ (show 0 ≤ Int32.toInt (k5 + 1) by have m_1 := hbr.1; have m_2 : 0 ≤ Int32.toInt (v 0) ∧ Int32.toInt (v 0) ≤ 40 := htp; have f_3 : ¬ Int32.toInt (v 8) ≤ Int32.toInt k5 := fun q => c_102 (Int32.le_iff_toInt_le.mpr q); have f_5 : Int32.toInt k5 = Int32.toInt k3 := congrArg Int32.toInt c_112; have e_6 : Int32.toInt 1 = 1 := rfl; have e_7 : Int32.toInt (k5 + 1) = Int32.toInt k5 + Int32.toInt 1 := ti_add (by omega) (by omega); omega) (show 0 ≤ Int32.toInt k2 ∧ Int32.toInt k2 ≤ 40 by have m_1 := hbr.1; have m_2 : 0 ≤ Int32.toInt (v 0) ∧ Int32.toInt (v 0) ≤ 40 := htp; have f_3 : ¬ Int32.toInt (v 8) ≤ Int32.toInt k5 := fun q => c_102 (Int32.le_iff_toInt_le.mpr q); have f_5 : Int32.toInt k5 = Int32.toInt k3 := congrArg Int32.toInt c_112; have e_6 : Int32.toInt 1 = 1 := rfl; have e_7 : Int32.toInt (k5 + 1) = Int32.toInt k5 + Int32.toInt 1 := ti_add (by omega) (by omega); omega) (show 1 ≤ Int32.toInt k4 ∧ Int32.toInt k4 ≤ 4 by have m_1 := hbr.1; have m_2 : 0 ≤ Int32.toInt (v 0) ∧ Int32.toInt (v 0) ≤ 40 := htp; have f_3 : ¬ Int32.toInt (v 8) ≤ Int32.toInt k5 := fun q => c_102 (Int32.le_iff_toInt_le.mpr q); have f_5 : Int32.toInt k5 = Int32.toInt k3 := congrArg Int32.toInt c_112; have e_6 : Int32.toInt 1 = 1 := rfl; have e_7 : Int32.toInt (k5 + 1) = Int32.toInt k5 + Int32.toInt 1 := ti_add (by omega) (by omega); omega) (show Int32.toInt k3 ≤ 7 by have m_1 := hbr.1; have m_2 : 0 ≤ Int32.toInt (v 0) ∧ Int32.toInt (v 0) ≤ 40 := htp; have f_3 : ¬ Int32.toInt (v 8) ≤ Int32.toInt k5 := fun q => c_102 (Int32.le_iff_toInt_le.mpr q); have f_5 : Int32.toInt k5 = Int32.toInt k3 := congrArg Int32.toInt c_112; have e_6 : Int32.toInt 1 = 1 := rfl; have e_7 : Int32.toInt (k5 + 1) = Int32.toInt k5 + Int32.toInt 1 := ti_add (by omega) (by omega); omega) htp hbr (ms_up c_102 hm) V (lv_sub hl [2, 1, 3, 4, 5, 0] rfl)
set_option maxRecDepth 100000 in
set_option maxHeartbeats 4000000 in
theorem lpX8_doesRow_22 {p : Program} {e : Env} {s : State} {m : MethodId} {args : Array Value} {below : List Frame} {meth : Method} {c : Code} {A : Nat → Prop} {l : Launch} {D : va_G} {cB cI : ClassId} {bd : Nat → Nat} {qe : Nat → Int32} {qf : Nat → Int32} (X : mCx p s m args c cX8_doesRow 6 RX8 D cB cI) (hr : meth.sig.returnType = (some .int)) (hk : meth.locks = false) : ∀ (n_ : Nat) (v : Nat → Int32) (qm : Nat → Int32) (ql : Nat → Int32) (qs : Nat → Int32) (qk : Nat → Int32) (qd : Nat → Int32) (qn : Nat → Int32) (qo : Nat → Int32) (qt : Nat → Int32) (qi : Nat → Int32) (qy : Nat → Int32) (k1 : Int32) (k2 : Int32) (k3 : Int32) (H : Heap) (locs : List Loc) (ls : Array Slot), (0 ≤ Int32.toInt k3) → (0 ≤ Int32.toInt k2 ∧ Int32.toInt k2 ≤ 40) → (Tp v) → (BRm v) → (Int32.toInt (v 0) - Int32.toInt k3).toNat < n_ → mWd D A s (wR cB cI bd v qm ql qs qk qd qn qe qf qo qt qi qy) H locs → lv_has ls 6 [(0, .ref (bd 0)), (1, .int k1), (2, .int k2), (3, .int k3)] → W p l e { frames := 4, cells := 0, slots := 0, locals := 100 } s m args below meth c H locs 0 0 (MQ below (mQ D A (wR cB cI bd ((pX8_doesRow_lp22 n_ v qm ql qs qk qd qn qo qt qi qy k1 k2 k3).2.1) ((pX8_doesRow_lp22 n_ v qm ql qs qk qd qn qo qt qi qy k1 k2 k3).2.2.1) ((pX8_doesRow_lp22 n_ v qm ql qs qk qd qn qo qt qi qy k1 k2 k3).2.2.2.1) ((pX8_doesRow_lp22 n_ v qm ql qs qk qd qn qo qt qi qy k1 k2 k3).2.2.2.2.1) ((pX8_doesRow_lp22 n_ v qm ql qs qk qd qn qo qt qi qy k1 k2 k3).2.2.2.2.2.1) ((pX8_doesRow_lp22 n_ v qm ql qs qk qd qn qo qt qi qy k1 k2 k3).2.2.2.2.2.2.1) ((pX8_doesRow_lp22 n_ v qm ql qs qk qd qn qo qt qi qy k1 k2 k3).2.2.2.2.2.2.2.1) qe qf ((pX8_doesRow_lp22 n_ v qm ql qs qk qd qn qo qt qi qy k1 k2 k3).2.2.2.2.2.2.2.2.1) ((pX8_doesRow_lp22 n_ v qm ql qs qk qd qn qo qt qi qy k1 k2 k3).2.2.2.2.2.2.2.2.2.1) ((pX8_doesRow_lp22 n_ v qm ql qs qk qd qn qo qt qi qy k1 k2 k3).2.2.2.2.2.2.2.2.2.2.1) ((pX8_doesRow_lp22 n_ v qm ql qs qk qd qn qo qt qi qy k1 k2 k3).2.2.2.2.2.2.2.2.2.2.2)) (some ((pX8_doesRow_lp22 n_ v qm ql qs qk qd qn qo qt qi qy k1 k2 k3).1))) args s 0 0 A) (F0 m 22 ls []) := by
  have hx := X.1.1
  have hb := X.1.2.1
  intro n_
  induction n_ with
  | zero =>
    intro v qm ql qs qk qd qn qo qt qi qy k1 k2 k3 H locs ls hk3 hk2 htp hbr hm V hl
    exact absurd hm (Nat.not_lt_zero _)
  | succ n_ ih =>
    intro v qm ql qs qk qd qn qo qt qi qy k1 k2 k3 H locs ls hk3 hk2 htp hbr hm V hl
    refine lv_iload_n hx hb dX8_doesRow_22 rfl (lv_at hl 3 rfl) ?_
    refine lv_aload_n hx hb dX8_doesRow_23 rfl (lv_at hl 0 rfl) ?_
    refine m_get X V 6 0 4 rfl gin_6 rfl (by decide) rfl gm_427 (v := .int (v 0)) rfl dX8_doesRow_24 ?_
    refine lv_icmp_ge (tgt := 48) hx hb dX8_doesRow_27 (by decide) (fun c_27 => ?_) (fun c_27 => ?_)
    · refine lv_aload_n hx hb dX8_doesRow_48 rfl (lv_at hl 0 rfl) ?_
      refine m_get X V 6 0 11 rfl gin_6 rfl (by decide) rfl gm_434 (v := .int (v 7)) rfl dX8_doesRow_49 ?_
      refine m_S X V (rest := []) (st1 := [.int (pX8_storeOf (v 7))]) (kX8_storeOf l D cB cI (v 7)) okX8_storeOf gm_520 gm_519 ⟨⟨rfl, rfl⟩, ⟨by decide, by decide⟩, Nat.zero_le _, Nat.zero_le _⟩ rfl hl.1 (Nat.le_of_ble_eq_true rfl) dX8_doesRow_52 rfl rfl (fun H locs V => ?_)
      refine lv_istore_n (lv' := [(3, .int (pX8_storeOf (v 7))), (0, .ref (bd 0)), (1, .int k1), (2, .int k2)]) hx hb dX8_doesRow_55 rfl hl (by decide) rfl (fun ls hl => ?_)
      refine lv_aload_n hx hb dX8_doesRow_56 rfl (lv_at hl 1 rfl) ?_
      refine m_get X V 6 0 11 rfl gin_6 rfl (by decide) rfl gm_434 (v := .int (v 7)) rfl dX8_doesRow_57 ?_
      refine lv_bipush (v := 65) hx hb dX8_doesRow_60 (by decide) ?_
      refine lv_icmp_ne (tgt := 69) hx hb dX8_doesRow_62 (by decide) (fun c_62 => ?_) (fun c_62 => ?_)
      · refine lv_aload_n hx hb dX8_doesRow_69 rfl (lv_at hl 1 rfl) ?_
        refine m_get X V 6 0 11 rfl gin_6 rfl (by decide) rfl gm_434 (v := .int (v 7)) rfl dX8_doesRow_70 ?_
        refine lv_bipush (v := 66) hx hb dX8_doesRow_73 (by decide) ?_
        refine lv_icmp_ne (tgt := 82) hx hb dX8_doesRow_75 (by decide) (fun c_75 => ?_) (fun c_75 => ?_)
        · refine lv_iconst (v := 4) hx hb dX8_doesRow_82 (by decide) ?_
          refine lv_istore (lv' := [(4, .int 4), (3, .int (pX8_storeOf (v 7))), (0, .ref (bd 0)), (1, .int k1), (2, .int k2)]) hx hb dX8_doesRow_83 hl (by decide) rfl (fun ls hl => ?_)
          refine lv_aload_n hx hb dX8_doesRow_85 rfl (lv_at hl 2 rfl) ?_
          refine lv_aload_n hx hb dX8_doesRow_86 rfl (lv_at hl 2 rfl) ?_
          refine m_get X V 6 0 15 rfl gin_6 rfl (by decide) rfl gm_438 (v := .int (v 9)) rfl dX8_doesRow_87 ?_
          refine m_put X V (ws' := (wR cB cI bd (upd v 14 (v 9)) qm ql qs qk qd qn qe qf qo qt qi qy)) 6 0 23 rfl gin_6 tyX8_ok nmX8 rfl (by decide) rfl gm_446 rfl rfl rfl (Nat.le_of_ble_eq_true rfl) dX8_doesRow_90 rfl (fun H locs V => ?_)
          refine lv_iconst (v := 0) hx hb dX8_doesRow_93 (by decide) ?_
          refine lv_istore (lv' := [(5, .int 0), (4, .int 4), (3, .int (pX8_storeOf (v 7))), (0, .ref (bd 0)), (1, .int k1), (2, .int k2)]) hx hb dX8_doesRow_94 hl (by decide) rfl (fun ls hl => ?_)
          rw [show pX8_doesRow_lp22 (n_ + 1) v qm ql qs qk qd qn qo qt qi qy k1 k2 k3 = (pX8_doesRow_lp96 ((Int32.toInt ((upd v 14 (v 9)) 8) - Int32.toInt 0).toNat + 1) (upd v 14 (v 9)) qm ql qs qk qd qn qo qt qi qy k1 k2 (pX8_storeOf (v 7)) 4 0) from by rw [pX8_doesRow_lp22, if_pos c_27, if_neg c_62, if_neg c_75]]
          exact lpX8_doesRow_96 X hr hk  ((Int32.toInt ((upd v 14 (v 9)) 8) - Int32.toInt 0).toNat + 1) (upd v 14 (v 9)) qm ql qs qk qd qn qo qt qi qy k1 k2 (pX8_storeOf (v 7)) 4 0 _ _ _ (show 0 ≤ Int32.toInt 0 by have z_0 : Int32.toInt 0 = 0 := rfl; have m_2 : 0 ≤ Int32.toInt (v 0) ∧ Int32.toInt (v 0) ≤ 40 := htp; have s_1 := storeOf_le (v 7); omega) (show 0 ≤ Int32.toInt k2 ∧ Int32.toInt k2 ≤ 40 by have m_2 : 0 ≤ Int32.toInt (v 0) ∧ Int32.toInt (v 0) ≤ 40 := htp; have s_1 := storeOf_le (v 7); omega) (show 1 ≤ Int32.toInt 4 ∧ Int32.toInt 4 ≤ 4 by have z_0 : Int32.toInt 4 = 4 := rfl; have m_2 : 0 ≤ Int32.toInt (v 0) ∧ Int32.toInt (v 0) ≤ 40 := htp; have s_1 := storeOf_le (v 7); omega) (show Int32.toInt (pX8_storeOf (v 7)) ≤ 7 by have m_2 : 0 ≤ Int32.toInt (v 0) ∧ Int32.toInt (v 0) ≤ 40 := htp; have s_1 := storeOf_le (v 7); have e_2 : Int32.toInt 65 = 65 := rfl; have f_3 : ¬ Int32.toInt (v 7) = Int32.toInt 65 := fun q => c_62 (Int32.toInt_inj.mp q); have e_4 : Int32.toInt 66 = 66 := rfl; have f_5 : ¬ Int32.toInt (v 7) = Int32.toInt 66 := fun q => c_75 (Int32.toInt_inj.mp q); omega) htp hbr (Nat.lt_succ_self _) V (lv_sub hl [3, 4, 5, 2, 1, 0] rfl)
        · refine lv_iconst (v := 1) hx hb dX8_doesRow_78 (by decide) ?_
          refine lv_goto (tgt := 83) hx hb dX8_doesRow_79 (by decide) ?_
          refine lv_istore (lv' := [(4, .int 1), (3, .int (pX8_storeOf (v 7))), (0, .ref (bd 0)), (1, .int k1), (2, .int k2)]) hx hb dX8_doesRow_83 hl (by decide) rfl (fun ls hl => ?_)
          refine lv_aload_n hx hb dX8_doesRow_85 rfl (lv_at hl 2 rfl) ?_
          refine lv_aload_n hx hb dX8_doesRow_86 rfl (lv_at hl 2 rfl) ?_
          refine m_get X V 6 0 15 rfl gin_6 rfl (by decide) rfl gm_438 (v := .int (v 9)) rfl dX8_doesRow_87 ?_
          refine m_put X V (ws' := (wR cB cI bd (upd v 14 (v 9)) qm ql qs qk qd qn qe qf qo qt qi qy)) 6 0 23 rfl gin_6 tyX8_ok nmX8 rfl (by decide) rfl gm_446 rfl rfl rfl (Nat.le_of_ble_eq_true rfl) dX8_doesRow_90 rfl (fun H locs V => ?_)
          refine lv_iconst (v := 0) hx hb dX8_doesRow_93 (by decide) ?_
          refine lv_istore (lv' := [(5, .int 0), (4, .int 1), (3, .int (pX8_storeOf (v 7))), (0, .ref (bd 0)), (1, .int k1), (2, .int k2)]) hx hb dX8_doesRow_94 hl (by decide) rfl (fun ls hl => ?_)
          rw [show pX8_doesRow_lp22 (n_ + 1) v qm ql qs qk qd qn qo qt qi qy k1 k2 k3 = (pX8_doesRow_lp96 ((Int32.toInt ((upd v 14 (v 9)) 8) - Int32.toInt 0).toNat + 1) (upd v 14 (v 9)) qm ql qs qk qd qn qo qt qi qy k1 k2 (pX8_storeOf (v 7)) 1 0) from by rw [pX8_doesRow_lp22, if_pos c_27, if_neg c_62, if_pos c_75]]
          exact lpX8_doesRow_96 X hr hk  ((Int32.toInt ((upd v 14 (v 9)) 8) - Int32.toInt 0).toNat + 1) (upd v 14 (v 9)) qm ql qs qk qd qn qo qt qi qy k1 k2 (pX8_storeOf (v 7)) 1 0 _ _ _ (show 0 ≤ Int32.toInt 0 by have z_0 : Int32.toInt 0 = 0 := rfl; have m_2 : 0 ≤ Int32.toInt (v 0) ∧ Int32.toInt (v 0) ≤ 40 := htp; have s_1 := storeOf_le (v 7); omega) (show 0 ≤ Int32.toInt k2 ∧ Int32.toInt k2 ≤ 40 by have m_2 : 0 ≤ Int32.toInt (v 0) ∧ Int32.toInt (v 0) ≤ 40 := htp; have s_1 := storeOf_le (v 7); omega) (show 1 ≤ Int32.toInt 1 ∧ Int32.toInt 1 ≤ 4 by have z_0 : Int32.toInt 1 = 1 := rfl; have m_2 : 0 ≤ Int32.toInt (v 0) ∧ Int32.toInt (v 0) ≤ 40 := htp; have s_1 := storeOf_le (v 7); omega) (show Int32.toInt (pX8_storeOf (v 7)) ≤ 7 by have m_2 : 0 ≤ Int32.toInt (v 0) ∧ Int32.toInt (v 0) ≤ 40 := htp; have s_1 := storeOf_le (v 7); have e_2 : Int32.toInt 65 = 65 := rfl; have f_3 : ¬ Int32.toInt (v 7) = Int32.toInt 65 := fun q => c_62 (Int32.toInt_inj.mp q); have e_4 : Int32.toInt 66 = 66 := rfl; have f_5 : Int32.toInt (v 7) = Int32.toInt 66 := congrArg Int32.toInt c_75; omega) htp hbr (Nat.lt_succ_self _) V (lv_sub hl [3, 4, 5, 2, 1, 0] rfl)
      · refine lv_iconst (v := 2) hx hb dX8_doesRow_65 (by decide) ?_
        refine lv_goto (tgt := 83) hx hb dX8_doesRow_66 (by decide) ?_
        refine lv_istore (lv' := [(4, .int 2), (3, .int (pX8_storeOf (v 7))), (0, .ref (bd 0)), (1, .int k1), (2, .int k2)]) hx hb dX8_doesRow_83 hl (by decide) rfl (fun ls hl => ?_)
        refine lv_aload_n hx hb dX8_doesRow_85 rfl (lv_at hl 2 rfl) ?_
        refine lv_aload_n hx hb dX8_doesRow_86 rfl (lv_at hl 2 rfl) ?_
        refine m_get X V 6 0 15 rfl gin_6 rfl (by decide) rfl gm_438 (v := .int (v 9)) rfl dX8_doesRow_87 ?_
        refine m_put X V (ws' := (wR cB cI bd (upd v 14 (v 9)) qm ql qs qk qd qn qe qf qo qt qi qy)) 6 0 23 rfl gin_6 tyX8_ok nmX8 rfl (by decide) rfl gm_446 rfl rfl rfl (Nat.le_of_ble_eq_true rfl) dX8_doesRow_90 rfl (fun H locs V => ?_)
        refine lv_iconst (v := 0) hx hb dX8_doesRow_93 (by decide) ?_
        refine lv_istore (lv' := [(5, .int 0), (4, .int 2), (3, .int (pX8_storeOf (v 7))), (0, .ref (bd 0)), (1, .int k1), (2, .int k2)]) hx hb dX8_doesRow_94 hl (by decide) rfl (fun ls hl => ?_)
        rw [show pX8_doesRow_lp22 (n_ + 1) v qm ql qs qk qd qn qo qt qi qy k1 k2 k3 = (pX8_doesRow_lp96 ((Int32.toInt ((upd v 14 (v 9)) 8) - Int32.toInt 0).toNat + 1) (upd v 14 (v 9)) qm ql qs qk qd qn qo qt qi qy k1 k2 (pX8_storeOf (v 7)) 2 0) from by rw [pX8_doesRow_lp22, if_pos c_27, if_pos c_62]]
        exact lpX8_doesRow_96 X hr hk  ((Int32.toInt ((upd v 14 (v 9)) 8) - Int32.toInt 0).toNat + 1) (upd v 14 (v 9)) qm ql qs qk qd qn qo qt qi qy k1 k2 (pX8_storeOf (v 7)) 2 0 _ _ _ (show 0 ≤ Int32.toInt 0 by have z_0 : Int32.toInt 0 = 0 := rfl; have m_2 : 0 ≤ Int32.toInt (v 0) ∧ Int32.toInt (v 0) ≤ 40 := htp; have s_1 := storeOf_le (v 7); omega) (show 0 ≤ Int32.toInt k2 ∧ Int32.toInt k2 ≤ 40 by have m_2 : 0 ≤ Int32.toInt (v 0) ∧ Int32.toInt (v 0) ≤ 40 := htp; have s_1 := storeOf_le (v 7); omega) (show 1 ≤ Int32.toInt 2 ∧ Int32.toInt 2 ≤ 4 by have z_0 : Int32.toInt 2 = 2 := rfl; have m_2 : 0 ≤ Int32.toInt (v 0) ∧ Int32.toInt (v 0) ≤ 40 := htp; have s_1 := storeOf_le (v 7); omega) (show Int32.toInt (pX8_storeOf (v 7)) ≤ 7 by have m_2 : 0 ≤ Int32.toInt (v 0) ∧ Int32.toInt (v 0) ≤ 40 := htp; have s_1 := storeOf_le (v 7); have e_2 : Int32.toInt 65 = 65 := rfl; have f_3 : Int32.toInt (v 7) = Int32.toInt 65 := congrArg Int32.toInt c_62; omega) htp hbr (Nat.lt_succ_self _) V (lv_sub hl [3, 4, 5, 2, 1, 0] rfl)
    · refine lv_aload_n hx hb dX8_doesRow_30 rfl (lv_at hl 0 rfl) ?_
      refine m_get X V 6 0 3 rfl gin_6 rfl (by decide) rfl gm_426 (v := .ref (bd 4)) rfl dX8_doesRow_31 ?_
      refine lv_iload_n hx hb dX8_doesRow_34 rfl (lv_at hl 3 rfl) ?_
      refine lv_aload_n hx hb dX8_doesRow_35 rfl (lv_at hl 0 rfl) ?_
      refine m_get X V 6 0 2 rfl gin_6 rfl (by decide) rfl gm_425 (v := .ref (bd 3)) rfl dX8_doesRow_36 ?_
      refine lv_iload_n hx hb dX8_doesRow_39 rfl (lv_at hl 3 rfl) ?_
      refine m_iald X V 3 rfl (by have m_2 : 0 ≤ Int32.toInt (v 0) ∧ Int32.toInt (v 0) ≤ 40 := htp; have f_3 : ¬ Int32.toInt (v 0) ≤ Int32.toInt k3 := fun q => c_27 (Int32.le_iff_toInt_le.mpr q); rw [vp_in_iff]; omega) dX8_doesRow_40 ?_
      refine m_iast X V (ws' := (wR cB cI bd v qm ql qs (upd qk (Int32.toNatClampNeg k3) (qs (Int32.toNatClampNeg k3))) qd qn qe qf qo qt qi qy)) 4 rfl (by have m_2 : 0 ≤ Int32.toInt (v 0) ∧ Int32.toInt (v 0) ≤ 40 := htp; have f_3 : ¬ Int32.toInt (v 0) ≤ Int32.toInt k3 := fun q => c_27 (Int32.le_iff_toInt_le.mpr q); rw [vp_in_iff]; omega) dX8_doesRow_41 rfl (fun H locs V => ?_)
      refine lv_iinc (v := (k3 + 1)) (lv' := [(3, .int (k3 + 1)), (0, .ref (bd 0)), (1, .int k1), (2, .int k2)]) hx hb dX8_doesRow_42 hl (k := 3) rfl rfl (by decide) rfl (fun ls hl => ?_)
      refine lv_goto (tgt := 22) hx hb dX8_doesRow_45 (by decide) ?_
      rw [show pX8_doesRow_lp22 (n_ + 1) v qm ql qs qk qd qn qo qt qi qy k1 k2 k3 = pX8_doesRow_lp22 n_ v qm ql qs (upd qk (Int32.toNatClampNeg k3) (qs (Int32.toNatClampNeg k3))) qd qn qo qt qi qy k1 k2 (k3 + 1) from by rw [pX8_doesRow_lp22, if_neg c_27]]
      exact ih v qm ql qs (upd qk (Int32.toNatClampNeg k3) (qs (Int32.toNatClampNeg k3))) qd qn qo qt qi qy k1 k2 (k3 + 1) _ _ _ (show 0 ≤ Int32.toInt (k3 + 1) by have m_2 : 0 ≤ Int32.toInt (v 0) ∧ Int32.toInt (v 0) ≤ 40 := htp; have f_3 : ¬ Int32.toInt (v 0) ≤ Int32.toInt k3 := fun q => c_27 (Int32.le_iff_toInt_le.mpr q); have e_4 : Int32.toInt 1 = 1 := rfl; have e_5 : Int32.toInt (k3 + 1) = Int32.toInt k3 + Int32.toInt 1 := ti_add (by omega) (by omega); omega) (show 0 ≤ Int32.toInt k2 ∧ Int32.toInt k2 ≤ 40 by have m_2 : 0 ≤ Int32.toInt (v 0) ∧ Int32.toInt (v 0) ≤ 40 := htp; have f_3 : ¬ Int32.toInt (v 0) ≤ Int32.toInt k3 := fun q => c_27 (Int32.le_iff_toInt_le.mpr q); have e_4 : Int32.toInt 1 = 1 := rfl; have e_5 : Int32.toInt (k3 + 1) = Int32.toInt k3 + Int32.toInt 1 := ti_add (by omega) (by omega); omega) htp hbr (ms_up c_27 hm) V (lv_sub hl [1, 2, 3, 0] rfl)
set_option maxRecDepth 100000 in
set_option maxHeartbeats 4000000 in
theorem kX8_doesRow (l : Launch) (D : va_G) (cB cI : ClassId) (bd : Nat → Nat) (v : Nat → Int32) (qm : Nat → Int32) (ql : Nat → Int32) (qs : Nat → Int32) (qk : Nat → Int32) (qd : Nat → Int32) (qn : Nat → Int32) (qe : Nat → Int32) (qf : Nat → Int32) (qo : Nat → Int32) (qt : Nat → Int32) (qi : Nat → Int32) (qy : Nat → Int32) (hqd : ∀ j : Nat, 0 ≤ Int32.toInt (qd j)) (ht : 0 ≤ Int32.toInt (v 0) ∧ Int32.toInt (v 0) ≤ 40) : mM l D cB cI yX8_doesRow cX8_doesRow 6 (some .int) { frames := 4, cells := 0, slots := 0, locals := 100 } [.ref (bd 0)] (wR cB cI bd v qm ql qs qk qd qn qe qf qo qt qi qy) (some ((pX8_doesRow v qm ql qs qk qd qn qo qt qi qy).1)) (wR cB cI bd ((pX8_doesRow v qm ql qs qk qd qn qo qt qi qy).2.1) ((pX8_doesRow v qm ql qs qk qd qn qo qt qi qy).2.2.1) ((pX8_doesRow v qm ql qs qk qd qn qo qt qi qy).2.2.2.1) ((pX8_doesRow v qm ql qs qk qd qn qo qt qi qy).2.2.2.2.1) ((pX8_doesRow v qm ql qs qk qd qn qo qt qi qy).2.2.2.2.2.1) ((pX8_doesRow v qm ql qs qk qd qn qo qt qi qy).2.2.2.2.2.2.1) ((pX8_doesRow v qm ql qs qk qd qn qo qt qi qy).2.2.2.2.2.2.2.1) qe qf ((pX8_doesRow v qm ql qs qk qd qn qo qt qi qy).2.2.2.2.2.2.2.2.1) ((pX8_doesRow v qm ql qs qk qd qn qo qt qi qy).2.2.2.2.2.2.2.2.2.1) ((pX8_doesRow v qm ql qs qk qd qn qo qt qi qy).2.2.2.2.2.2.2.2.2.2.1) ((pX8_doesRow v qm ql qs qk qd qn qo qt qi qy).2.2.2.2.2.2.2.2.2.2.2)) := by
  refine m_start (by decide +kernel) (Nat.le_of_ble_eq_true rfl) ?_
  intro p e s m below meth c A ls X hr hk V hl
  have X : mCx p s m _ c cX8_doesRow 6 RX8 D cB cI := X
  have hx := X.1.1
  have hb := X.1.2.1
  have hl : lv_has ls 6 [(0, .ref (bd 0))] := hl
  refine lv_aload_n hx hb dX8_doesRow_0 rfl (lv_at hl 0 rfl) ?_
  refine lv_aload_n hx hb dX8_doesRow_1 rfl (lv_at hl 0 rfl) ?_
  refine m_get X V 6 0 5 rfl gin_6 rfl (by decide) rfl gm_428 (v := .int (v 1)) rfl dX8_doesRow_2 ?_
  obtain ⟨u5, hu5⟩ : ∃ u, pX8_takeApart v qm qd qn (v 1) = u := ⟨_, rfl⟩
  have hM := kX8_takeApart l D cB cI bd v qm ql qs qk qd qn qe qf qo qt qi qy (v 1) (show ∀ j : Nat, 0 ≤ Int32.toInt (qd j) by omega)
  rw [hu5] at hM
  refine m_VA X V (w1 := (wR cB cI bd u5.2.1 qm ql qs qk u5.2.2.1 u5.2.2.2 qe qf qo qt qi qy)) (rest := []) (st1 := [.int u5.1]) hM okX8_takeApart gm_507 gm_697 gm_506 ⟨⟨rfl, rfl⟩, ⟨by decide, by decide⟩, Nat.zero_le _, Nat.zero_le _⟩ rfl rfl (wR_fst _ _ _ _ _ _ _ _ _ _ _ _ _ _ _ _) (wR_fst _ _ _ _ _ _ _ _ _ _ _ _ _ _ _ _) rfl hl.1 (Nat.le_of_ble_eq_true rfl) dX8_doesRow_5 rfl rfl (fun H locs V => ?_)
  refine lv_istore_n (lv' := [(1, .int u5.1), (0, .ref (bd 0))]) hx hb dX8_doesRow_8 rfl hl (by decide) rfl (fun ls hl => ?_)
  refine lv_iload_n hx hb dX8_doesRow_9 rfl (lv_at hl 0 rfl) ?_
  refine lv_if_eq (tgt := 15) hx hb dX8_doesRow_10 (by decide) (fun c_10 => ?_) (fun c_10 => ?_)
  · refine lv_aload_n hx hb dX8_doesRow_15 rfl (lv_at hl 1 rfl) ?_
    refine m_get X V 6 0 4 rfl gin_6 rfl (by decide) rfl gm_427 (v := .int (u5.2.1 0)) rfl dX8_doesRow_16 ?_
    refine lv_istore_n (lv' := [(2, .int (u5.2.1 0)), (1, .int u5.1), (0, .ref (bd 0))]) hx hb dX8_doesRow_19 rfl hl (by decide) rfl (fun ls hl => ?_)
    refine lv_iconst (v := 0) hx hb dX8_doesRow_20 (by decide) ?_
    refine lv_istore_n (lv' := [(3, .int 0), (2, .int (u5.2.1 0)), (1, .int u5.1), (0, .ref (bd 0))]) hx hb dX8_doesRow_21 rfl hl (by decide) rfl (fun ls hl => ?_)
    rw [show pX8_doesRow v qm ql qs qk qd qn qo qt qi qy = (pX8_doesRow_lp22 ((Int32.toInt (u5.2.1 0) - Int32.toInt 0).toNat + 1) u5.2.1 qm ql qs qk u5.2.2.1 u5.2.2.2 qo qt qi qy u5.1 (u5.2.1 0) 0) from by rw [pX8_doesRow, hu5, mLet_eq, if_pos c_10]]
    exact lpX8_doesRow_22 X hr hk  ((Int32.toInt (u5.2.1 0) - Int32.toInt 0).toNat + 1) u5.2.1 qm ql qs qk u5.2.2.1 u5.2.2.2 qo qt qi qy u5.1 (u5.2.1 0) 0 _ _ _ (show 0 ≤ Int32.toInt 0 by have z_0 : Int32.toInt 0 = 0 := rfl; have m_2 : Int32.toInt (u5.2.1 0) = Int32.toInt (v 0) := (by rw [← hu5]; exact congrArg Int32.toInt ((ta_ok _ _ _ _ _).1 0 (by decide) (by decide) (by decide))); omega) (show 0 ≤ Int32.toInt (u5.2.1 0) ∧ Int32.toInt (u5.2.1 0) ≤ 40 by have m_2 : Int32.toInt (u5.2.1 0) = Int32.toInt (v 0) := (by rw [← hu5]; exact congrArg Int32.toInt ((ta_ok _ _ _ _ _).1 0 (by decide) (by decide) (by decide))); omega) (Tp_of (by rw [← hu5]; exact (ta_ok _ _ _ _ _).1 0 (by decide) (by decide) (by decide)) (show Tp v from ht)) (ta_br hu5 c_10) (Nat.lt_succ_self _) V (lv_sub hl [3, 2, 1, 0] rfl)
  · refine lv_iload_n hx hb dX8_doesRow_13 rfl (lv_at hl 0 rfl) ?_
    have e9 : pX8_doesRow v qm ql qs qk qd qn qo qt qi qy = (u5.1, u5.2.1, qm, ql, qs, qk, u5.2.2.1, u5.2.2.2, qo, qt, qi, qy) := by rw [pX8_doesRow, hu5, mLet_eq, if_neg c_10]
    exact m_iret X hr hk V (by rw [e9]) (by rw [e9]) dX8_doesRow_14
def pX8_step (v : Nat → Int32) (qm : Nat → Int32) (ql : Nat → Int32) (qs : Nat → Int32) (qk : Nat → Int32) (qd : Nat → Int32) (qn : Nat → Int32) (qo : Nat → Int32) (qt : Nat → Int32) (qi : Nat → Int32) (qy : Nat → Int32) : Int32 × (Nat → Int32) × (Nat → Int32) × (Nat → Int32) × (Nat → Int32) × (Nat → Int32) × (Nat → Int32) × (Nat → Int32) × (Nat → Int32) × (Nat → Int32) × (Nat → Int32) × (Nat → Int32) := (if (v 3) = 0 then (mLet (pX8_doesRow (upd v 5 0) qm ql qs qk qd qn qo qt qi qy) (fun (u16 : Int32 × (Nat → Int32) × (Nat → Int32) × (Nat → Int32) × (Nat → Int32) × (Nat → Int32) × (Nat → Int32) × (Nat → Int32) × (Nat → Int32) × (Nat → Int32) × (Nat → Int32) × (Nat → Int32)) => (if u16.1 = 0 then (if (u16.2.1 3) = 0 then (1, (upd u16.2.1 5 u16.1), u16.2.2.1, u16.2.2.2.1, u16.2.2.2.2.1, u16.2.2.2.2.2.1, u16.2.2.2.2.2.2.1, u16.2.2.2.2.2.2.2.1, u16.2.2.2.2.2.2.2.2.1, u16.2.2.2.2.2.2.2.2.2.1, u16.2.2.2.2.2.2.2.2.2.2.1, u16.2.2.2.2.2.2.2.2.2.2.2) else (0, (upd u16.2.1 5 u16.1), u16.2.2.1, u16.2.2.2.1, u16.2.2.2.2.1, u16.2.2.2.2.2.1, u16.2.2.2.2.2.2.1, u16.2.2.2.2.2.2.2.1, u16.2.2.2.2.2.2.2.2.1, u16.2.2.2.2.2.2.2.2.2.1, u16.2.2.2.2.2.2.2.2.2.2.1, u16.2.2.2.2.2.2.2.2.2.2.2)) else (((-10) - u16.1), (upd u16.2.1 5 u16.1), u16.2.2.1, u16.2.2.2.1, u16.2.2.2.2.1, u16.2.2.2.2.2.1, u16.2.2.2.2.2.2.1, u16.2.2.2.2.2.2.2.1, u16.2.2.2.2.2.2.2.2.1, u16.2.2.2.2.2.2.2.2.2.1, u16.2.2.2.2.2.2.2.2.2.2.1, u16.2.2.2.2.2.2.2.2.2.2.2)))) else (0, (upd v 5 0), qm, ql, qs, qk, qd, qn, qo, qt, qi, qy))
theorem okX8_step : mOk yX8_step cX8_step 1 (some .int) 0 := ⟨gm_529, gm_8, by decide +kernel⟩
set_option maxRecDepth 100000 in
set_option maxHeartbeats 4000000 in
theorem kX8_step (l : Launch) (D : va_G) (cB cI : ClassId) (bd : Nat → Nat) (v : Nat → Int32) (qm : Nat → Int32) (ql : Nat → Int32) (qs : Nat → Int32) (qk : Nat → Int32) (qd : Nat → Int32) (qn : Nat → Int32) (qe : Nat → Int32) (qf : Nat → Int32) (qo : Nat → Int32) (qt : Nat → Int32) (qi : Nat → Int32) (qy : Nat → Int32) (hqd : ∀ j : Nat, 0 ≤ Int32.toInt (qd j)) (ht : 0 ≤ Int32.toInt (v 0) ∧ Int32.toInt (v 0) ≤ 40) : mM l D cB cI yX8_step cX8_step 1 (some .int) { frames := 5, cells := 0, slots := 0, locals := 125 } [.ref (bd 0)] (wR cB cI bd v qm ql qs qk qd qn qe qf qo qt qi qy) (some ((pX8_step v qm ql qs qk qd qn qo qt qi qy).1)) (wR cB cI bd ((pX8_step v qm ql qs qk qd qn qo qt qi qy).2.1) ((pX8_step v qm ql qs qk qd qn qo qt qi qy).2.2.1) ((pX8_step v qm ql qs qk qd qn qo qt qi qy).2.2.2.1) ((pX8_step v qm ql qs qk qd qn qo qt qi qy).2.2.2.2.1) ((pX8_step v qm ql qs qk qd qn qo qt qi qy).2.2.2.2.2.1) ((pX8_step v qm ql qs qk qd qn qo qt qi qy).2.2.2.2.2.2.1) ((pX8_step v qm ql qs qk qd qn qo qt qi qy).2.2.2.2.2.2.2.1) qe qf ((pX8_step v qm ql qs qk qd qn qo qt qi qy).2.2.2.2.2.2.2.2.1) ((pX8_step v qm ql qs qk qd qn qo qt qi qy).2.2.2.2.2.2.2.2.2.1) ((pX8_step v qm ql qs qk qd qn qo qt qi qy).2.2.2.2.2.2.2.2.2.2.1) ((pX8_step v qm ql qs qk qd qn qo qt qi qy).2.2.2.2.2.2.2.2.2.2.2)) := by
  refine m_start (by decide +kernel) (Nat.le_of_ble_eq_true rfl) ?_
  intro p e s m below meth c A ls X hr hk V hl
  have X : mCx p s m _ c cX8_step 1 RX8 D cB cI := X
  have hx := X.1.1
  have hb := X.1.2.1
  have hl : lv_has ls 1 [(0, .ref (bd 0))] := hl
  refine lv_aload_n hx hb dX8_step_0 rfl (lv_at hl 0 rfl) ?_
  refine lv_iconst (v := 0) hx hb dX8_step_1 (by decide) ?_
  refine m_put X V (ws' := (wR cB cI bd (upd v 5 0) qm ql qs qk qd qn qe qf qo qt qi qy)) 6 0 9 rfl gin_6 tyX8_ok nmX8 rfl (by decide) rfl gm_432 rfl rfl rfl (Nat.le_of_ble_eq_true rfl) dX8_step_2 rfl (fun H locs V => ?_)
  refine lv_aload_n hx hb dX8_step_5 rfl (lv_at hl 0 rfl) ?_
  refine m_get X V 6 0 7 rfl gin_6 rfl (by decide) rfl gm_430 (v := .int (v 3)) rfl dX8_step_6 ?_
  refine lv_if_eq (tgt := 14) hx hb dX8_step_9 (by decide) (fun c_9 => ?_) (fun c_9 => ?_)
  · refine lv_aload_n hx hb dX8_step_14 rfl (lv_at hl 0 rfl) ?_
    refine lv_aload_n hx hb dX8_step_15 rfl (lv_at hl 0 rfl) ?_
    obtain ⟨u16, hu16⟩ : ∃ u, pX8_doesRow (upd v 5 0) qm ql qs qk qd qn qo qt qi qy = u := ⟨_, rfl⟩
    have hM := kX8_doesRow l D cB cI bd (upd v 5 0) qm ql qs qk qd qn qe qf qo qt qi qy hqd ht
    rw [hu16] at hM
    refine m_VA X V (w1 := (wR cB cI bd u16.2.1 u16.2.2.1 u16.2.2.2.1 u16.2.2.2.2.1 u16.2.2.2.2.2.1 u16.2.2.2.2.2.2.1 u16.2.2.2.2.2.2.2.1 qe qf u16.2.2.2.2.2.2.2.2.1 u16.2.2.2.2.2.2.2.2.2.1 u16.2.2.2.2.2.2.2.2.2.2.1 u16.2.2.2.2.2.2.2.2.2.2.2)) (rest := [.ref (bd 0)]) (st1 := [.int u16.1, .ref (bd 0)]) hM okX8_doesRow gm_531 gm_699 gm_530 ⟨⟨rfl, rfl⟩, ⟨by decide, by decide⟩, Nat.zero_le _, Nat.zero_le _⟩ rfl rfl (wR_fst _ _ _ _ _ _ _ _ _ _ _ _ _ _ _ _) (wR_fst _ _ _ _ _ _ _ _ _ _ _ _ _ _ _ _) rfl hl.1 (Nat.le_of_ble_eq_true rfl) dX8_step_16 rfl rfl (fun H locs V => ?_)
    refine m_put X V (ws' := (wR cB cI bd (upd u16.2.1 5 u16.1) u16.2.2.1 u16.2.2.2.1 u16.2.2.2.2.1 u16.2.2.2.2.2.1 u16.2.2.2.2.2.2.1 u16.2.2.2.2.2.2.2.1 qe qf u16.2.2.2.2.2.2.2.2.1 u16.2.2.2.2.2.2.2.2.2.1 u16.2.2.2.2.2.2.2.2.2.2.1 u16.2.2.2.2.2.2.2.2.2.2.2)) 6 0 9 rfl gin_6 tyX8_ok nmX8 rfl (by decide) rfl gm_432 rfl rfl rfl (Nat.le_of_ble_eq_true rfl) dX8_step_19 rfl (fun H locs V => ?_)
    refine lv_aload_n hx hb dX8_step_22 rfl (lv_at hl 0 rfl) ?_
    refine m_get X V 6 0 9 rfl gin_6 rfl (by decide) rfl gm_432 (v := .int u16.1) rfl dX8_step_23 ?_
    refine lv_if_eq (tgt := 39) hx hb dX8_step_26 (by decide) (fun c_26 => ?_) (fun c_26 => ?_)
    · refine lv_aload_n hx hb dX8_step_39 rfl (lv_at hl 0 rfl) ?_
      refine m_get X V 6 0 7 rfl gin_6 rfl (by decide) rfl gm_430 (v := .int (u16.2.1 3)) rfl dX8_step_40 ?_
      refine lv_if_eq (tgt := 50) hx hb dX8_step_43 (by decide) (fun c_43 => ?_) (fun c_43 => ?_)
      · refine lv_iconst (v := 1) hx hb dX8_step_50 (by decide) ?_
        have e9 : pX8_step v qm ql qs qk qd qn qo qt qi qy = (1, (upd u16.2.1 5 u16.1), u16.2.2.1, u16.2.2.2.1, u16.2.2.2.2.1, u16.2.2.2.2.2.1, u16.2.2.2.2.2.2.1, u16.2.2.2.2.2.2.2.1, u16.2.2.2.2.2.2.2.2.1, u16.2.2.2.2.2.2.2.2.2.1, u16.2.2.2.2.2.2.2.2.2.2.1, u16.2.2.2.2.2.2.2.2.2.2.2) := by rw [pX8_step, if_pos c_9, hu16, mLet_eq, if_pos c_26, if_pos c_43]
        exact m_iret X hr hk V (by rw [e9]) (by rw [e9]) dX8_step_51
      · refine lv_iconst (v := 0) hx hb dX8_step_46 (by decide) ?_
        refine lv_goto (tgt := 51) hx hb dX8_step_47 (by decide) ?_
        have e9 : pX8_step v qm ql qs qk qd qn qo qt qi qy = (0, (upd u16.2.1 5 u16.1), u16.2.2.1, u16.2.2.2.1, u16.2.2.2.2.1, u16.2.2.2.2.2.1, u16.2.2.2.2.2.2.1, u16.2.2.2.2.2.2.2.1, u16.2.2.2.2.2.2.2.2.1, u16.2.2.2.2.2.2.2.2.2.1, u16.2.2.2.2.2.2.2.2.2.2.1, u16.2.2.2.2.2.2.2.2.2.2.2) := by rw [pX8_step, if_pos c_9, hu16, mLet_eq, if_pos c_26, if_neg c_43]
        exact m_iret X hr hk V (by rw [e9]) (by rw [e9]) dX8_step_51
    · refine lv_bipush (v := (-10)) hx hb dX8_step_29 (by decide) ?_
      refine lv_aload_n hx hb dX8_step_31 rfl (lv_at hl 0 rfl) ?_
      refine m_get X V 6 0 9 rfl gin_6 rfl (by decide) rfl gm_432 (v := .int u16.1) rfl dX8_step_32 ?_
      refine lv_isub hx hb dX8_step_35 ?_
      refine lv_goto (tgt := 51) hx hb dX8_step_36 (by decide) ?_
      have e9 : pX8_step v qm ql qs qk qd qn qo qt qi qy = (((-10) - u16.1), (upd u16.2.1 5 u16.1), u16.2.2.1, u16.2.2.2.1, u16.2.2.2.2.1, u16.2.2.2.2.2.1, u16.2.2.2.2.2.2.1, u16.2.2.2.2.2.2.2.1, u16.2.2.2.2.2.2.2.2.1, u16.2.2.2.2.2.2.2.2.2.1, u16.2.2.2.2.2.2.2.2.2.2.1, u16.2.2.2.2.2.2.2.2.2.2.2) := by rw [pX8_step, if_pos c_9, hu16, mLet_eq, if_neg c_26]
      exact m_iret X hr hk V (by rw [e9]) (by rw [e9]) dX8_step_51
  · refine lv_iconst (v := 0) hx hb dX8_step_12 (by decide) ?_
    have e9 : pX8_step v qm ql qs qk qd qn qo qt qi qy = (0, (upd v 5 0), qm, ql, qs, qk, qd, qn, qo, qt, qi, qy) := by rw [pX8_step, if_neg c_9]
    exact m_iret X hr hk V (by rw [e9]) (by rw [e9]) dX8_step_13
