theorem ta349 : ∀ (n_ : Nat) (v qd qn : Nat → Int32) (k4 k7 k8 : Int32), (∀ k : Nat, k ≠ 9 → (pX8_takeApart_lp349 n_ v qd qn k4 k7 k8).2.1 k = v k) ∧ (pX8_takeApart_lp349 n_ v qd qn k4 k7 k8).2.2.1 = qd := by
  intro n_
  induction n_ with
  | zero => intro v qd qn k4 k7 k8; exact ⟨fun _ _ => rfl, rfl⟩
  | succ n_ ih =>
    intro v qd qn k4 k7 k8
    have P0 : (∀ k : Nat, k ≠ 9 → v k = v k) ∧ qd = qd := ⟨fun _ _ => rfl, rfl⟩
    have P1 : (∀ k : Nat, k ≠ 9 → upd v 9 k4 k = v k) ∧ qd = qd := ⟨fun _ h => pk_un h, rfl⟩
    show (fun (r : Int32 × (Nat → Int32) × (Nat → Int32) × (Nat → Int32)) => (∀ k : Nat, k ≠ 9 → r.2.1 k = v k) ∧ r.2.2.1 = qd) (pX8_takeApart_lp349 (n_ + 1) v qd qn k4 k7 k8)
    rw [pX8_takeApart_lp349]
    repeat' (with_reducible refine pi_ite (fun (r : Int32 × (Nat → Int32) × (Nat → Int32) × (Nat → Int32)) => (∀ k : Nat, k ≠ 9 → r.2.1 k = v k) ∧ r.2.2.1 = qd) ?_ ?_)
    all_goals first | with_reducible exact P0 | with_reducible exact P1 | with_reducible exact ih _ _ _ _ _ _
theorem ta232 (qm : Nat → Int32) : ∀ (n_ : Nat) (v qd qn : Nat → Int32) (k4 k7 : Int32), (∀ k : Nat, k ≠ 9 → (pX8_takeApart_lp232 qm n_ v qd qn k4 k7).2.1 k = v k) ∧ (pX8_takeApart_lp232 qm n_ v qd qn k4 k7).2.2.1 = qd := by
  intro n_
  induction n_ with
  | zero => intro v qd qn k4 k7; exact ⟨fun _ _ => rfl, rfl⟩
  | succ n_ ih =>
    intro v qd qn k4 k7
    show (fun (r : Int32 × (Nat → Int32) × (Nat → Int32) × (Nat → Int32)) => (∀ k : Nat, k ≠ 9 → r.2.1 k = v k) ∧ r.2.2.1 = qd) (pX8_takeApart_lp232 qm (n_ + 1) v qd qn k4 k7)
    rw [pX8_takeApart_lp232]
    repeat' (first | with_reducible refine pi_ite (fun (r : Int32 × (Nat → Int32) × (Nat → Int32) × (Nat → Int32)) => (∀ k : Nat, k ≠ 9 → r.2.1 k = v k) ∧ r.2.2.1 = qd) ?_ ?_ | with_reducible refine pi_let (fun (r : Int32 × (Nat → Int32) × (Nat → Int32) × (Nat → Int32)) => (∀ k : Nat, k ≠ 9 → r.2.1 k = v k) ∧ r.2.2.1 = qd) ?_)
    all_goals first | with_reducible exact ta349 _ _ _ _ _ _ _ | with_reducible exact ih _ _ _ _ _
def nnQ (q : Nat → Int32) : Prop := ∀ j : Nat, 0 ≤ Int32.toInt (q j)
theorem ta153 (qm : Nat → Int32) : ∀ (n_ : Nat) (v qd qn : Nat → Int32) (k4 k5 k6 k7 : Int32), (∀ k : Nat, k ≠ 9 → (pX8_takeApart_lp153 qm n_ v qd qn k4 k5 k6 k7).2.1 k = v k) ∧ (nnQ qd → nnQ (pX8_takeApart_lp153 qm n_ v qd qn k4 k5 k6 k7).2.2.1) := by
  intro n_
  induction n_ with
  | zero => intro v qd qn k4 k5 k6 k7; exact ⟨fun _ _ => rfl, fun h => h⟩
  | succ n_ ih =>
    intro v qd qn k4 k5 k6 k7
    have P0 : (∀ k : Nat, k ≠ 9 → v k = v k) ∧ (nnQ qd → nnQ qd) := ⟨fun _ _ => rfl, fun h => h⟩
    have P1 : ∀ (a : Nat) (b : Int32), (∀ k : Nat, k ≠ 9 → (pX8_takeApart_lp232 qm a v qd qn b 0).2.1 k = v k) ∧ (nnQ qd → nnQ (pX8_takeApart_lp232 qm a v qd qn b 0).2.2.1) := fun a b => by
      have h := ta232 qm a v qd qn b 0
      exact ⟨h.1, fun q => by rw [h.2]; exact q⟩
    rw [pX8_takeApart_lp153]
    by_cases h1 : v 8 ≤ k7
    · rw [if_pos h1]
      by_cases h2 : k6 ≤ 1024
      · rw [if_pos h2]; exact P1 _ _
      · rw [if_neg h2]; exact P0
    · rw [if_neg h1, mLet_eq]
      refine ⟨(ih _ _ _ _ _ _ _).1, fun q => (ih _ _ _ _ _ _ _).2 (nn_upd q (and15 _))⟩
theorem ta_ok (v qm qd qn : Nat → Int32) (x1 : Int32) : (∀ k : Nat, k ≠ 7 → k ≠ 8 → k ≠ 9 → (pX8_takeApart v qm qd qn x1).2.1 k = v k) ∧ (nnQ qd → nnQ (pX8_takeApart v qm qd qn x1).2.2.1) ∧ ((pX8_takeApart v qm qd qn x1).1 = 0 → 0 ≤ Int32.toInt ((pX8_takeApart v qm qd qn x1).2.1 8) ∧ (pX8_takeApart v qm qd qn x1).2.1 8 = pX8_operands ((pX8_takeApart v qm qd qn x1).2.1 7)) := by
  have P0 : ∀ e : Int32, ¬ e = 0 → (∀ k : Nat, k ≠ 7 → k ≠ 8 → k ≠ 9 → v k = v k) ∧ (nnQ qd → nnQ qd) ∧ (e = 0 → 0 ≤ Int32.toInt (v 8) ∧ v 8 = pX8_operands (v 7)) := fun e he => ⟨fun _ _ _ _ => rfl, fun h => h, fun h => absurd h he⟩
  have P1 : ∀ e a : Int32, ¬ e = 0 → (∀ k : Nat, k ≠ 7 → k ≠ 8 → k ≠ 9 → (upd (upd v 7 a) 8 (pX8_operands a)) k = v k) ∧ (nnQ qd → nnQ qd) ∧ (e = 0 → 0 ≤ Int32.toInt ((upd (upd v 7 a) 8 (pX8_operands a)) 8) ∧ (upd (upd v 7 a) 8 (pX8_operands a)) 8 = pX8_operands ((upd (upd v 7 a) 8 (pX8_operands a)) 7)) := fun e a he => ⟨fun k h7 h8 _ => (pk_un h8).trans (pk_un h7), fun h => h, fun h => absurd h he⟩
  have P2 : ∀ (a b c d : Int32) (n : Nat), 0 ≤ pX8_operands a → (∀ k : Nat, k ≠ 7 → k ≠ 8 → k ≠ 9 → (pX8_takeApart_lp153 qm n (upd (upd v 7 a) 8 (pX8_operands a)) qd qn b c d 0).2.1 k = v k) ∧ (nnQ qd → nnQ (pX8_takeApart_lp153 qm n (upd (upd v 7 a) 8 (pX8_operands a)) qd qn b c d 0).2.2.1) ∧ ((pX8_takeApart_lp153 qm n (upd (upd v 7 a) 8 (pX8_operands a)) qd qn b c d 0).1 = 0 → 0 ≤ Int32.toInt ((pX8_takeApart_lp153 qm n (upd (upd v 7 a) 8 (pX8_operands a)) qd qn b c d 0).2.1 8) ∧ (pX8_takeApart_lp153 qm n (upd (upd v 7 a) 8 (pX8_operands a)) qd qn b c d 0).2.1 8 = pX8_operands ((pX8_takeApart_lp153 qm n (upd (upd v 7 a) 8 (pX8_operands a)) qd qn b c d 0).2.1 7)) := by
    intro a b c d n ha
    have h := ta153 qm n (upd (upd v 7 a) 8 (pX8_operands a)) qd qn b c d 0
    refine ⟨fun k h7 h8 h9 => (h.1 k h9).trans ((pk_un h8).trans (pk_un h7)), h.2, fun _ => ?_⟩
    rw [h.1 8 (by decide), h.1 7 (by decide)]
    exact ⟨Int32.le_iff_toInt_le.mp ha, rfl⟩
  show (fun (r : Int32 × (Nat → Int32) × (Nat → Int32) × (Nat → Int32)) => (∀ k : Nat, k ≠ 7 → k ≠ 8 → k ≠ 9 → r.2.1 k = v k) ∧ (nnQ qd → nnQ r.2.2.1) ∧ (r.1 = 0 → 0 ≤ Int32.toInt (r.2.1 8) ∧ r.2.1 8 = pX8_operands (r.2.1 7))) (pX8_takeApart v qm qd qn x1)
  unfold pX8_takeApart
  repeat' (first | with_reducible refine pi_iteH (fun (r : Int32 × (Nat → Int32) × (Nat → Int32) × (Nat → Int32)) => (∀ k : Nat, k ≠ 7 → k ≠ 8 → k ≠ 9 → r.2.1 k = v k) ∧ (nnQ qd → nnQ r.2.2.1) ∧ (r.1 = 0 → 0 ≤ Int32.toInt (r.2.1 8) ∧ r.2.1 8 = pX8_operands (r.2.1 7))) (fun hh => ?_) (fun hh => ?_) | with_reducible refine pi_let (fun (r : Int32 × (Nat → Int32) × (Nat → Int32) × (Nat → Int32)) => (∀ k : Nat, k ≠ 7 → k ≠ 8 → k ≠ 9 → r.2.1 k = v k) ∧ (nnQ qd → nnQ r.2.2.1) ∧ (r.1 = 0 → 0 ≤ Int32.toInt (r.2.1 8) ∧ r.2.1 8 = pX8_operands (r.2.1 7))) ?_)
  all_goals first | with_reducible exact P0 1 (by decide) | with_reducible exact P0 3 (by decide) | with_reducible exact P1 1 _ (by decide) | with_reducible exact P1 3 _ (by decide) | with_reducible exact P2 _ _ _ _ _ (by assumption)
theorem br_many {a : Int32} (h1 : 32 ≤ a.toInt) (h2 : a.toInt ≤ 45) (h3 : 0 ≤ (pX8_operands a).toInt) : 1 ≤ (pX8_operands a).toInt := by
  have hc : a.toInt = 32 ∨ a.toInt = 33 ∨ a.toInt = 34 ∨ a.toInt = 35 ∨ a.toInt = 36 ∨ a.toInt = 37 ∨ a.toInt = 38 ∨ a.toInt = 39 ∨ a.toInt = 40 ∨ a.toInt = 41 ∨ a.toInt = 42 ∨ a.toInt = 43 ∨ a.toInt = 44 ∨ a.toInt = 45 := by omega
  have go : ∀ k : Int32, a.toInt = k.toInt → (0 ≤ (pX8_operands k).toInt → 1 ≤ (pX8_operands k).toInt) → 1 ≤ (pX8_operands a).toInt := fun k e h => by
    have e2 := Int32.toInt_inj.mp e
    rw [e2] at h3 ⊢
    exact h h3
  rcases hc with h | h | h | h | h | h | h | h | h | h | h | h | h | h
  · exact go 32 h (by decide)
  · exact go 33 h (by decide)
  · exact go 34 h (by decide)
  · exact go 35 h (by decide)
  · exact go 36 h (by decide)
  · exact go 37 h (by decide)
  · exact go 38 h (by decide)
  · exact go 39 h (by decide)
  · exact go 40 h (by decide)
  · exact go 41 h (by decide)
  · exact go 42 h (by decide)
  · exact go 43 h (by decide)
  · exact go 44 h (by decide)
  · exact go 45 h (by decide)
def BRm (w : Nat → Int32) : Prop := (0 ≤ Int32.toInt (w 8) ∧ Int32.toInt (w 8) ≤ 8) ∧ (32 ≤ Int32.toInt (w 7) → Int32.toInt (w 7) ≤ 45 → 1 ≤ Int32.toInt (w 8) ∧ Int32.toInt (w 8) ≤ 8)
theorem BR_of {v w : Nat → Int32} (h7 : w 7 = v 7) (h8 : w 8 = v 8) (h : BRm v) : BRm w := by
  unfold BRm at h ⊢
  rw [h7, h8]; exact h
theorem ta_br {v qm qd qn : Nat → Int32} {x1 : Int32} {u : Int32 × (Nat → Int32) × (Nat → Int32) × (Nat → Int32)} (hu : pX8_takeApart v qm qd qn x1 = u) (h : u.1 = 0) : BRm u.2.1 := by
  subst hu
  obtain ⟨h1, h2⟩ := (ta_ok v qm qd qn x1).2.2 h
  have h3 := operands_le8 ((pX8_takeApart v qm qd qn x1).2.1 7)
  unfold BRm
  rw [h2] at h1 ⊢
  exact ⟨⟨h1, h3⟩, fun a b => ⟨br_many a b h1, h3⟩⟩
def pX8_read_lp38 (x1 : Int32) : Nat → (Nat → Int32) → (Nat → Int32) → (Nat → Int32) → (Nat → Int32) → (Nat → Int32) → (Int32) → Int32 × (Nat → Int32) × (Nat → Int32) × (Nat → Int32) × (Nat → Int32) × (Nat → Int32)
  | 0, v, qd, qn, qe, qf, k3 => (0, v, qd, qn, qe, qf)
  | n_ + 1, v, qd, qn, qe, qf, k3 => (if (v 8) ≤ k3 then (((v 9) - x1), v, qd, qn, qe, qf) else (pX8_read_lp38 x1 n_ v qd qn (upd qe (Int32.toNatClampNeg k3) (qd (Int32.toNatClampNeg k3))) (upd qf (Int32.toNatClampNeg k3) (qn (Int32.toNatClampNeg k3))) (k3 + 1)))
def pX8_read (v : Nat → Int32) (qm : Nat → Int32) (qd : Nat → Int32) (qn : Nat → Int32) (qe : Nat → Int32) (qf : Nat → Int32) (x1 : Int32) : Int32 × (Nat → Int32) × (Nat → Int32) × (Nat → Int32) × (Nat → Int32) × (Nat → Int32) := (mLet (pX8_takeApart v qm qd qn x1) (fun (u2 : Int32 × (Nat → Int32) × (Nat → Int32) × (Nat → Int32)) => (if u2.1 = 0 then (pX8_read_lp38 x1 ((Int32.toInt (u2.2.1 8) - Int32.toInt 0).toNat + 1) (upd (upd (upd u2.2.1 10 1) 11 (u2.2.1 7)) 12 (u2.2.1 8)) u2.2.2.1 u2.2.2.2 qe qf 0) else (((-10) - u2.1), u2.2.1, u2.2.2.1, u2.2.2.2, qe, qf))))
theorem okX8_read : mOk yX8_read cX8_read 4 (some .int) 1 := ⟨gm_505, gm_8, by decide +kernel⟩
set_option maxRecDepth 100000 in
set_option maxHeartbeats 4000000 in
theorem lpX8_read_38 {p : Program} {e : Env} {s : State} {m : MethodId} {args : Array Value} {below : List Frame} {meth : Method} {c : Code} {A : Nat → Prop} {l : Launch} {D : va_G} {cB cI : ClassId} {bd : Nat → Nat} {qm : Nat → Int32} {ql : Nat → Int32} {qs : Nat → Int32} {qk : Nat → Int32} {qo : Nat → Int32} {qt : Nat → Int32} {qi : Nat → Int32} {qy : Nat → Int32} {x1 : Int32} (X : mCx p s m args c cX8_read 4 RX8 D cB cI) (hr : meth.sig.returnType = (some .int)) (hk : meth.locks = false) : ∀ (n_ : Nat) (v : Nat → Int32) (qd : Nat → Int32) (qn : Nat → Int32) (qe : Nat → Int32) (qf : Nat → Int32) (k3 : Int32) (H : Heap) (locs : List Loc) (ls : Array Slot), (0 ≤ Int32.toInt k3) → (0 ≤ Int32.toInt (v 8) ∧ Int32.toInt (v 8) ≤ 8) → (Int32.toInt (v 8) - Int32.toInt k3).toNat < n_ → mWd D A s (wR cB cI bd v qm ql qs qk qd qn qe qf qo qt qi qy) H locs → lv_has ls 4 [(0, .ref (bd 0)), (1, .int x1), (3, .int k3)] → W p l e { frames := 2, cells := 0, slots := 0, locals := 54 } s m args below meth c H locs 0 0 (MQ below (mQ D A (wR cB cI bd ((pX8_read_lp38 x1 n_ v qd qn qe qf k3).2.1) qm ql qs qk ((pX8_read_lp38 x1 n_ v qd qn qe qf k3).2.2.1) ((pX8_read_lp38 x1 n_ v qd qn qe qf k3).2.2.2.1) ((pX8_read_lp38 x1 n_ v qd qn qe qf k3).2.2.2.2.1) ((pX8_read_lp38 x1 n_ v qd qn qe qf k3).2.2.2.2.2) qo qt qi qy) (some ((pX8_read_lp38 x1 n_ v qd qn qe qf k3).1))) args s 0 0 A) (F0 m 38 ls []) := by
  have hx := X.1.1
  have hb := X.1.2.1
  intro n_
  induction n_ with
  | zero =>
    intro v qd qn qe qf k3 H locs ls hk3 hm8 hm V hl
    exact absurd hm (Nat.not_lt_zero _)
  | succ n_ ih =>
    intro v qd qn qe qf k3 H locs ls hk3 hm8 hm V hl
    refine lv_iload_n hx hb dX8_read_38 rfl (lv_at hl 2 rfl) ?_
    refine lv_aload_n hx hb dX8_read_39 rfl (lv_at hl 0 rfl) ?_
    refine m_get X V 6 0 12 rfl gin_6 rfl (by decide) rfl gm_435 (v := .int (v 8)) rfl dX8_read_40 ?_
    refine lv_icmp_ge (tgt := 76) hx hb dX8_read_43 (by decide) (fun c_43 => ?_) (fun c_43 => ?_)
    · refine lv_aload_n hx hb dX8_read_76 rfl (lv_at hl 0 rfl) ?_
      refine m_get X V 6 0 15 rfl gin_6 rfl (by decide) rfl gm_438 (v := .int (v 9)) rfl dX8_read_77 ?_
      refine lv_iload_n hx hb dX8_read_80 rfl (lv_at hl 1 rfl) ?_
      refine lv_isub hx hb dX8_read_81 ?_
      have e9 : pX8_read_lp38 x1 (n_ + 1) v qd qn qe qf k3 = (((v 9) - x1), v, qd, qn, qe, qf) := by rw [pX8_read_lp38, if_pos c_43]
      exact m_iret X hr hk V (by rw [e9]) (by rw [e9]) dX8_read_82
    · refine lv_aload_n hx hb dX8_read_46 rfl (lv_at hl 0 rfl) ?_
      refine m_get X V 6 0 19 rfl gin_6 rfl (by decide) rfl gm_442 (v := .ref (bd 7)) rfl dX8_read_47 ?_
      refine lv_iload_n hx hb dX8_read_50 rfl (lv_at hl 2 rfl) ?_
      refine lv_aload_n hx hb dX8_read_51 rfl (lv_at hl 0 rfl) ?_
      refine m_get X V 6 0 13 rfl gin_6 rfl (by decide) rfl gm_436 (v := .ref (bd 5)) rfl dX8_read_52 ?_
      refine lv_iload_n hx hb dX8_read_55 rfl (lv_at hl 2 rfl) ?_
      refine m_iald X V 5 rfl (by have f_3 : ¬ Int32.toInt (v 8) ≤ Int32.toInt k3 := fun q => c_43 (Int32.le_iff_toInt_le.mpr q); rw [vp_in_iff]; omega) dX8_read_56 ?_
      refine m_iast X V (ws' := (wR cB cI bd v qm ql qs qk qd qn (upd qe (Int32.toNatClampNeg k3) (qd (Int32.toNatClampNeg k3))) qf qo qt qi qy)) 7 rfl (by have f_3 : ¬ Int32.toInt (v 8) ≤ Int32.toInt k3 := fun q => c_43 (Int32.le_iff_toInt_le.mpr q); rw [vp_in_iff]; omega) dX8_read_57 rfl (fun H locs V => ?_)
      refine lv_aload_n hx hb dX8_read_58 rfl (lv_at hl 0 rfl) ?_
      refine m_get X V 6 0 20 rfl gin_6 rfl (by decide) rfl gm_443 (v := .ref (bd 8)) rfl dX8_read_59 ?_
      refine lv_iload_n hx hb dX8_read_62 rfl (lv_at hl 2 rfl) ?_
      refine lv_aload_n hx hb dX8_read_63 rfl (lv_at hl 0 rfl) ?_
      refine m_get X V 6 0 14 rfl gin_6 rfl (by decide) rfl gm_437 (v := .ref (bd 6)) rfl dX8_read_64 ?_
      refine lv_iload_n hx hb dX8_read_67 rfl (lv_at hl 2 rfl) ?_
      refine m_iald X V 6 rfl (by have f_3 : ¬ Int32.toInt (v 8) ≤ Int32.toInt k3 := fun q => c_43 (Int32.le_iff_toInt_le.mpr q); rw [vp_in_iff]; omega) dX8_read_68 ?_
      refine m_iast X V (ws' := (wR cB cI bd v qm ql qs qk qd qn (upd qe (Int32.toNatClampNeg k3) (qd (Int32.toNatClampNeg k3))) (upd qf (Int32.toNatClampNeg k3) (qn (Int32.toNatClampNeg k3))) qo qt qi qy)) 8 rfl (by have f_3 : ¬ Int32.toInt (v 8) ≤ Int32.toInt k3 := fun q => c_43 (Int32.le_iff_toInt_le.mpr q); rw [vp_in_iff]; omega) dX8_read_69 rfl (fun H locs V => ?_)
      refine lv_iinc (v := (k3 + 1)) (lv' := [(3, .int (k3 + 1)), (0, .ref (bd 0)), (1, .int x1)]) hx hb dX8_read_70 hl (k := 2) rfl rfl (by decide) rfl (fun ls hl => ?_)
      refine lv_goto (tgt := 38) hx hb dX8_read_73 (by decide) ?_
      rw [show pX8_read_lp38 x1 (n_ + 1) v qd qn qe qf k3 = pX8_read_lp38 x1 n_ v qd qn (upd qe (Int32.toNatClampNeg k3) (qd (Int32.toNatClampNeg k3))) (upd qf (Int32.toNatClampNeg k3) (qn (Int32.toNatClampNeg k3))) (k3 + 1) from by rw [pX8_read_lp38, if_neg c_43]]
      exact ih v qd qn (upd qe (Int32.toNatClampNeg k3) (qd (Int32.toNatClampNeg k3))) (upd qf (Int32.toNatClampNeg k3) (qn (Int32.toNatClampNeg k3))) (k3 + 1) _ _ _ (show 0 ≤ Int32.toInt (k3 + 1) by have f_3 : ¬ Int32.toInt (v 8) ≤ Int32.toInt k3 := fun q => c_43 (Int32.le_iff_toInt_le.mpr q); have e_4 : Int32.toInt 1 = 1 := rfl; have e_5 : Int32.toInt (k3 + 1) = Int32.toInt k3 + Int32.toInt 1 := ti_add (by omega) (by omega); omega) (show 0 ≤ Int32.toInt (v 8) ∧ Int32.toInt (v 8) ≤ 8 by have f_3 : ¬ Int32.toInt (v 8) ≤ Int32.toInt k3 := fun q => c_43 (Int32.le_iff_toInt_le.mpr q); have e_4 : Int32.toInt 1 = 1 := rfl; have e_5 : Int32.toInt (k3 + 1) = Int32.toInt k3 + Int32.toInt 1 := ti_add (by omega) (by omega); omega) (ms_up c_43 hm) V (lv_sub hl [1, 2, 0] rfl)
set_option maxRecDepth 100000 in
set_option maxHeartbeats 4000000 in
theorem kX8_read (l : Launch) (D : va_G) (cB cI : ClassId) (bd : Nat → Nat) (v : Nat → Int32) (qm : Nat → Int32) (ql : Nat → Int32) (qs : Nat → Int32) (qk : Nat → Int32) (qd : Nat → Int32) (qn : Nat → Int32) (qe : Nat → Int32) (qf : Nat → Int32) (qo : Nat → Int32) (qt : Nat → Int32) (qi : Nat → Int32) (qy : Nat → Int32) (x1 : Int32) (hqd : ∀ j : Nat, 0 ≤ Int32.toInt (qd j)) : mM l D cB cI yX8_read cX8_read 4 (some .int) { frames := 2, cells := 0, slots := 0, locals := 54 } [.ref (bd 0), .int x1] (wR cB cI bd v qm ql qs qk qd qn qe qf qo qt qi qy) (some ((pX8_read v qm qd qn qe qf x1).1)) (wR cB cI bd ((pX8_read v qm qd qn qe qf x1).2.1) qm ql qs qk ((pX8_read v qm qd qn qe qf x1).2.2.1) ((pX8_read v qm qd qn qe qf x1).2.2.2.1) ((pX8_read v qm qd qn qe qf x1).2.2.2.2.1) ((pX8_read v qm qd qn qe qf x1).2.2.2.2.2) qo qt qi qy) := by
  refine m_start (by decide +kernel) (Nat.le_of_ble_eq_true rfl) ?_
  intro p e s m below meth c A ls X hr hk V hl
  have X : mCx p s m _ c cX8_read 4 RX8 D cB cI := X
  have hx := X.1.1
  have hb := X.1.2.1
  have hl : lv_has ls 4 [(0, .ref (bd 0)), (1, .int x1)] := hl
  refine lv_aload_n hx hb dX8_read_0 rfl (lv_at hl 0 rfl) ?_
  refine lv_iload_n hx hb dX8_read_1 rfl (lv_at hl 1 rfl) ?_
  obtain ⟨u2, hu2⟩ : ∃ u, pX8_takeApart v qm qd qn x1 = u := ⟨_, rfl⟩
  have hM := kX8_takeApart l D cB cI bd v qm ql qs qk qd qn qe qf qo qt qi qy x1 (show ∀ j : Nat, 0 ≤ Int32.toInt (qd j) by omega)
  rw [hu2] at hM
  refine m_VA X V (w1 := (wR cB cI bd u2.2.1 qm ql qs qk u2.2.2.1 u2.2.2.2 qe qf qo qt qi qy)) (rest := []) (st1 := [.int u2.1]) hM okX8_takeApart gm_507 gm_697 gm_506 ⟨⟨rfl, rfl⟩, ⟨by decide, by decide⟩, Nat.zero_le _, Nat.zero_le _⟩ rfl rfl (wR_fst _ _ _ _ _ _ _ _ _ _ _ _ _ _ _ _) (wR_fst _ _ _ _ _ _ _ _ _ _ _ _ _ _ _ _) rfl hl.1 (Nat.le_of_ble_eq_true rfl) dX8_read_2 rfl rfl (fun H locs V => ?_)
  refine lv_istore_n (lv' := [(2, .int u2.1), (0, .ref (bd 0)), (1, .int x1)]) hx hb dX8_read_5 rfl hl (by decide) rfl (fun ls hl => ?_)
  refine lv_iload_n hx hb dX8_read_6 rfl (lv_at hl 0 rfl) ?_
  refine lv_if_eq (tgt := 15) hx hb dX8_read_7 (by decide) (fun c_7 => ?_) (fun c_7 => ?_)
  · refine lv_aload_n hx hb dX8_read_15 rfl (lv_at hl 1 rfl) ?_
    refine lv_iconst (v := 1) hx hb dX8_read_16 (by decide) ?_
    refine m_put X V (ws' := (wR cB cI bd (upd u2.2.1 10 1) qm ql qs qk u2.2.2.1 u2.2.2.2 qe qf qo qt qi qy)) 6 0 16 rfl gin_6 tyX8_ok nmX8 rfl (by decide) rfl gm_439 rfl rfl rfl (Nat.le_of_ble_eq_true rfl) dX8_read_17 rfl (fun H locs V => ?_)
    refine lv_aload_n hx hb dX8_read_20 rfl (lv_at hl 1 rfl) ?_
    refine lv_aload_n hx hb dX8_read_21 rfl (lv_at hl 1 rfl) ?_
    refine m_get X V 6 0 11 rfl gin_6 rfl (by decide) rfl gm_434 (v := .int (u2.2.1 7)) rfl dX8_read_22 ?_
    refine m_put X V (ws' := (wR cB cI bd (upd (upd u2.2.1 10 1) 11 (u2.2.1 7)) qm ql qs qk u2.2.2.1 u2.2.2.2 qe qf qo qt qi qy)) 6 0 17 rfl gin_6 tyX8_ok nmX8 rfl (by decide) rfl gm_440 rfl rfl rfl (Nat.le_of_ble_eq_true rfl) dX8_read_25 rfl (fun H locs V => ?_)
    refine lv_aload_n hx hb dX8_read_28 rfl (lv_at hl 1 rfl) ?_
    refine lv_aload_n hx hb dX8_read_29 rfl (lv_at hl 1 rfl) ?_
    refine m_get X V 6 0 12 rfl gin_6 rfl (by decide) rfl gm_435 (v := .int (u2.2.1 8)) rfl dX8_read_30 ?_
    refine m_put X V (ws' := (wR cB cI bd (upd (upd (upd u2.2.1 10 1) 11 (u2.2.1 7)) 12 (u2.2.1 8)) qm ql qs qk u2.2.2.1 u2.2.2.2 qe qf qo qt qi qy)) 6 0 18 rfl gin_6 tyX8_ok nmX8 rfl (by decide) rfl gm_441 rfl rfl rfl (Nat.le_of_ble_eq_true rfl) dX8_read_33 rfl (fun H locs V => ?_)
    refine lv_iconst (v := 0) hx hb dX8_read_36 (by decide) ?_
    refine lv_istore_n (lv' := [(3, .int 0), (2, .int u2.1), (0, .ref (bd 0)), (1, .int x1)]) hx hb dX8_read_37 rfl hl (by decide) rfl (fun ls hl => ?_)
    rw [show pX8_read v qm qd qn qe qf x1 = (pX8_read_lp38 x1 ((Int32.toInt (u2.2.1 8) - Int32.toInt 0).toNat + 1) (upd (upd (upd u2.2.1 10 1) 11 (u2.2.1 7)) 12 (u2.2.1 8)) u2.2.2.1 u2.2.2.2 qe qf 0) from by rw [pX8_read, hu2, mLet_eq, if_pos c_7]]
    exact lpX8_read_38 X hr hk  ((Int32.toInt (u2.2.1 8) - Int32.toInt 0).toNat + 1) (upd (upd (upd u2.2.1 10 1) 11 (u2.2.1 7)) 12 (u2.2.1 8)) u2.2.2.1 u2.2.2.2 qe qf 0 _ _ _ (show 0 ≤ Int32.toInt 0 by have z_0 : Int32.toInt 0 = 0 := rfl; have t_1 := (ta_br hu2 c_7).1; omega) (show 0 ≤ Int32.toInt (u2.2.1 8) ∧ Int32.toInt (u2.2.1 8) ≤ 8 by have t_1 := (ta_br hu2 c_7).1; omega) (Nat.lt_succ_self _) V (lv_sub hl [2, 3, 0] rfl)
  · refine lv_bipush (v := (-10)) hx hb dX8_read_10 (by decide) ?_
    refine lv_iload_n hx hb dX8_read_12 rfl (lv_at hl 0 rfl) ?_
    refine lv_isub hx hb dX8_read_13 ?_
    have e9 : pX8_read v qm qd qn qe qf x1 = (((-10) - u2.1), u2.2.1, u2.2.2.1, u2.2.2.2, qe, qf) := by rw [pX8_read, hu2, mLet_eq, if_neg c_7]
    exact m_iret X hr hk V (by rw [e9]) (by rw [e9]) dX8_read_14
