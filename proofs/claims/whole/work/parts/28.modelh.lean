theorem store_lp (x2 x3 : Int32) : ∀ (n_ : Nat) (v qm ql qs : Nat → Int32) (k5 k6 : Int32), (pX8_store_lp101 x2 x3 n_ v qm ql qs k5 k6).2.1 = v := by
  intro n_
  induction n_ with
  | zero => intro v qm ql qs k5 k6; rfl
  | succ n_ ih =>
    intro v qm ql qs k5 k6
    rw [pX8_store_lp101]
    by_cases h : x2 ≤ k6
    · rw [if_pos h]
    · rw [if_neg h]; exact ih _ _ _ _ _ _
theorem store_tp {v : Nat → Int32} (qm ql qs qd qn : Nat → Int32) (x1 x2 x3 : Int32) (h : Tp v) : Tp (pX8_store v qm ql qs qd qn x1 x2 x3).2.1 := by
  have P1 : ¬ v 0 = 40 → Tp (upd v 0 (v 0 + 1)) := by
    intro hz
    have z0 : Int32.toInt 40 = 40 := rfl
    have z1 : Int32.toInt 1 = 1 := rfl
    have hn : ¬ Int32.toInt (v 0) = Int32.toInt 40 := fun q => hz (Int32.toInt_inj.mp q)
    have h0 := h.1
    have h9 := h.2
    have e := ti_add (a := v 0) (b := 1) (by omega) (by omega)
    show 0 ≤ Int32.toInt (v 0 + 1) ∧ Int32.toInt (v 0 + 1) ≤ 40
    omega
  have P2 : ∀ (n : Nat) (a : Int32), Tp (pX8_store_lp101 x2 x3 n v qm ql qs a 0).2.1 := fun n a => by rw [store_lp]; exact h
  show (fun (r : Int32 × (Nat → Int32) × (Nat → Int32) × (Nat → Int32) × (Nat → Int32)) => Tp r.2.1) (pX8_store v qm ql qs qd qn x1 x2 x3)
  unfold pX8_store
  repeat' (first | with_reducible refine pi_iteH (fun (r : Int32 × (Nat → Int32) × (Nat → Int32) × (Nat → Int32) × (Nat → Int32)) => Tp r.2.1) (fun hh => ?_) (fun hh => ?_) | with_reducible refine pi_let (fun (r : Int32 × (Nat → Int32) × (Nat → Int32) × (Nat → Int32) × (Nat → Int32)) => Tp r.2.1) ?_)
  all_goals first | with_reducible exact h | with_reducible exact P1 (by assumption) | with_reducible exact P2 _ _
theorem dr183 : ∀ (n_ : Nat) (v qm ql qs qk qd qn qo qt qi qy : Nat → Int32) (k1 k2 k5 : Int32), (pX8_doesRow_lp183 n_ v qm ql qs qk qd qn qo qt qi qy k1 k2 k5).2.1 = v ∧ (pX8_doesRow_lp183 n_ v qm ql qs qk qd qn qo qt qi qy k1 k2 k5).2.2.2.2.2.2.1 = qd := by
  intro n_
  induction n_ with
  | zero => intro v qm ql qs qk qd qn qo qt qi qy k1 k2 k5; exact ⟨rfl, rfl⟩
  | succ n_ ih =>
    intro v qm ql qs qk qd qn qo qt qi qy k1 k2 k5
    rw [pX8_doesRow_lp183]
    by_cases h : k2 ≤ k5
    · rw [if_pos h]; exact ⟨rfl, rfl⟩
    · rw [if_neg h]; exact ih _ _ _ _ _ _ _ _ _ _ _ _ _ _
theorem dr96 : ∀ (n_ : Nat) (v qm ql qs qk qd qn qo qt qi qy : Nat → Int32) (k1 k2 k3 k4 k5 : Int32), Tp v → 0 ≤ Int32.toInt k2 ∧ Int32.toInt k2 ≤ 40 → Tp (pX8_doesRow_lp96 n_ v qm ql qs qk qd qn qo qt qi qy k1 k2 k3 k4 k5).2.1 ∧ (pX8_doesRow_lp96 n_ v qm ql qs qk qd qn qo qt qi qy k1 k2 k3 k4 k5).2.2.2.2.2.2.1 = qd := by
  intro n_
  induction n_ with
  | zero => intro v qm ql qs qk qd qn qo qt qi qy k1 k2 k3 k4 k5 h _; exact ⟨h, rfl⟩
  | succ n_ ih =>
    intro v qm ql qs qk qd qn qo qt qi qy k1 k2 k3 k4 k5 h hk
    have hR : ∀ (n : Nat) (w a b c d f g i j : Nat → Int32) (e : Int32), Tp (pX8_doesRow_lp183 n (upd w 0 k2) a b c d qd f g i j qy e k2 0).2.1 ∧ (pX8_doesRow_lp183 n (upd w 0 k2) a b c d qd f g i j qy e k2 0).2.2.2.2.2.2.1 = qd := fun n w a b c d f g i j e => by
      have q := dr183 n (upd w 0 k2) a b c d qd f g i j qy e k2 0
      exact ⟨by rw [q.1]; exact hk, q.2⟩
    have hR2 : ∀ (n : Nat) (w a b c d f g i j y : Nat → Int32) (e : Int32), Tp (pX8_doesRow_lp183 n (upd w 0 k2) a b c d qd f g i j y e k2 0).2.1 ∧ (pX8_doesRow_lp183 n (upd w 0 k2) a b c d qd f g i j y e k2 0).2.2.2.2.2.2.1 = qd := fun n w a b c d f g i j y e => by
      have q := dr183 n (upd w 0 k2) a b c d qd f g i j y e k2 0
      exact ⟨by rw [q.1]; exact hk, q.2⟩
    have hD : Tp (pX8_does v qm qs qo qt qi qy).2.1 := does_tp _ _ _ _ _ _ h
    have hS : ∀ x : Int32, Tp (pX8_store (pX8_does v qm qs qo qt qi qy).2.1 (pX8_does v qm qs qo qt qi qy).2.2.1 ql (pX8_does v qm qs qo qt qi qy).2.2.2.1 qd qn k3 k4 x).2.1 := fun x => store_tp _ _ _ _ _ _ _ _ hD
    have hU : ∀ (w : Nat → Int32) (a b c : Int32), Tp w → Tp (upd (upd (upd w 1 a) 4 b) 6 c) := fun w a b c q => q
    rw [pX8_doesRow_lp96]
    by_cases h1 : v 8 ≤ k5
    · rw [if_pos h1]
      by_cases h2 : k1 = 0
      · rw [if_pos h2, mLet_eq]
        by_cases h3 : (pX8_does v qm qs qo qt qi qy).1 = 0
        · rw [if_pos h3]
          by_cases h4 : 0 ≤ k3
          · rw [if_pos h4, mLet_eq]
            by_cases h5 : (pX8_store (pX8_does v qm qs qo qt qi qy).2.1 (pX8_does v qm qs qo qt qi qy).2.2.1 ql (pX8_does v qm qs qo qt qi qy).2.2.2.1 qd qn k3 k4 ((pX8_does v qm qs qo qt qi qy).2.1 13)).1 = 0
            · rw [if_pos h5]
              split
              · exact ⟨hU _ _ _ _ (hS _), rfl⟩
              · exact ⟨hU _ _ _ _ (hS _), rfl⟩
            · rw [if_neg h5]; exact hR2 _ _ _ _ _ _ _ _ _ _ _ _
          · rw [if_neg h4]
            split
            · exact ⟨hU _ _ _ _ hD, rfl⟩
            · exact ⟨hU _ _ _ _ hD, rfl⟩
        · rw [if_neg h3]; exact hR2 _ _ _ _ _ _ _ _ _ _ _ _
      · rw [if_neg h2]; exact hR2 _ _ _ _ _ _ _ _ _ _ _ _
    · rw [if_neg h1]
      by_cases h2 : k1 = 0
      · rw [if_pos h2]
        by_cases h3 : k5 = k3
        · rw [if_pos h3]; exact ih _ _ _ _ _ _ _ _ _ _ _ _ _ _ _ _ h hk
        · rw [if_neg h3, mLet_eq]; exact ih _ _ _ _ _ _ _ _ _ _ _ _ _ _ _ _ ((load_v _ _ _ _ _ _ _ _).2 h) hk
      · rw [if_neg h2]; exact hR2 _ _ _ _ _ _ _ _ _ _ _ _
theorem dr22 : ∀ (n_ : Nat) (v qm ql qs qk qd qn qo qt qi qy : Nat → Int32) (k1 k2 k3 : Int32), Tp v → 0 ≤ Int32.toInt k2 ∧ Int32.toInt k2 ≤ 40 → Tp (pX8_doesRow_lp22 n_ v qm ql qs qk qd qn qo qt qi qy k1 k2 k3).2.1 ∧ (pX8_doesRow_lp22 n_ v qm ql qs qk qd qn qo qt qi qy k1 k2 k3).2.2.2.2.2.2.1 = qd := by
  intro n_
  induction n_ with
  | zero => intro v qm ql qs qk qd qn qo qt qi qy k1 k2 k3 h _; exact ⟨h, rfl⟩
  | succ n_ ih =>
    intro v qm ql qs qk qd qn qo qt qi qy k1 k2 k3 h hk
    have hv : Tp (upd v 14 (v 9)) := h
    rw [pX8_doesRow_lp22]
    by_cases h1 : v 0 ≤ k3
    · rw [if_pos h1]
      by_cases h2 : v 7 = 65
      · rw [if_pos h2]; exact dr96 _ _ _ _ _ _ _ _ _ _ _ _ _ _ _ _ _ hv hk
      rw [if_neg h2]
      by_cases h3 : v 7 = 66
      · rw [if_pos h3]; exact dr96 _ _ _ _ _ _ _ _ _ _ _ _ _ _ _ _ _ hv hk
      rw [if_neg h3]; exact dr96 _ _ _ _ _ _ _ _ _ _ _ _ _ _ _ _ _ hv hk
    · rw [if_neg h1]; exact ih _ _ _ _ _ _ _ _ _ _ _ _ _ _ h hk
theorem dr_ok {v qm ql qs qk qd qn qo qt qi qy : Nat → Int32} {u : Int32 × (Nat → Int32) × (Nat → Int32) × (Nat → Int32) × (Nat → Int32) × (Nat → Int32) × (Nat → Int32) × (Nat → Int32) × (Nat → Int32) × (Nat → Int32) × (Nat → Int32) × (Nat → Int32)} (hu : pX8_doesRow v qm ql qs qk qd qn qo qt qi qy = u) (h : Tp v) (hq : nnQ qd) : Tp u.2.1 ∧ nnQ u.2.2.2.2.2.2.1 := by
  subst hu
  have ht := ta_ok v qm qd qn (v 1)
  have h0 := ht.1 0 (by decide) (by decide) (by decide)
  have hT : Tp (pX8_takeApart v qm qd qn (v 1)).2.1 := Tp_of h0 h
  unfold pX8_doesRow
  rw [mLet_eq]
  by_cases h1 : (pX8_takeApart v qm qd qn (v 1)).1 = 0
  · rw [if_pos h1]
    have q := dr22 ((Int32.toInt ((pX8_takeApart v qm qd qn (v 1)).2.1 0) - Int32.toInt 0).toNat + 1) (pX8_takeApart v qm qd qn (v 1)).2.1 qm ql qs qk (pX8_takeApart v qm qd qn (v 1)).2.2.1 (pX8_takeApart v qm qd qn (v 1)).2.2.2 qo qt qi qy (pX8_takeApart v qm qd qn (v 1)).1 ((pX8_takeApart v qm qd qn (v 1)).2.1 0) 0 hT hT
    exact ⟨q.1, by rw [q.2]; exact ht.2.1 hq⟩
  · rw [if_neg h1]; exact ⟨hT, ht.2.1 hq⟩
theorem ms_run1 {x k a b : Int32} {n : Nat} (c : ¬ x ≤ k) (ha : a = 0) (hm : (x.toInt - k.toInt).toNat * 2 + (if a = 0 then 1 else 0) < n + 1) : (x.toInt - (k + 1).toInt).toNat * 2 + (if b = 0 then 1 else 0) < n := by
  rw [if_pos ha] at hm
  rw [i32_add1 c]
  rw [Int32.le_iff_toInt_le] at c
  have : (if b = 0 then 1 else 0) ≤ 1 := by by_cases hb : b = 0 <;> simp [hb]
  omega
theorem ms_run0 {x k a b : Int32} {n : Nat} (hb : ¬ b = 0) (ha : a = 0) (hm : (x.toInt - k.toInt).toNat * 2 + (if a = 0 then 1 else 0) < n + 1) : (x.toInt - (k + 0).toInt).toNat * 2 + (if b = 0 then 1 else 0) < n := by
  rw [if_pos ha] at hm
  rw [if_neg hb, Int32.add_zero]
  omega
def pX8_run_lp20 (x1 : Int32) : Nat → (Nat → Int32) → (Nat → Int32) → (Nat → Int32) → (Nat → Int32) → (Nat → Int32) → (Nat → Int32) → (Nat → Int32) → (Nat → Int32) → (Nat → Int32) → (Nat → Int32) → (Nat → Int32) → (Int32) → Int32 × (Nat → Int32) × (Nat → Int32) × (Nat → Int32) × (Nat → Int32) × (Nat → Int32) × (Nat → Int32) × (Nat → Int32) × (Nat → Int32) × (Nat → Int32) × (Nat → Int32) × (Nat → Int32)
  | 0, v, qm, ql, qs, qk, qd, qn, qo, qt, qi, qy, k2 => (0, v, qm, ql, qs, qk, qd, qn, qo, qt, qi, qy)
  | n_ + 1, v, qm, ql, qs, qk, qd, qn, qo, qt, qi, qy, k2 => (if x1 ≤ k2 then (k2, v, qm, ql, qs, qk, qd, qn, qo, qt, qi, qy) else (if (v 3) = 0 then (if (v 5) = 0 then (mLet (pX8_doesRow v qm ql qs qk qd qn qo qt qi qy) (fun (u41 : Int32 × (Nat → Int32) × (Nat → Int32) × (Nat → Int32) × (Nat → Int32) × (Nat → Int32) × (Nat → Int32) × (Nat → Int32) × (Nat → Int32) × (Nat → Int32) × (Nat → Int32) × (Nat → Int32)) => (if u41.1 = 0 then (pX8_run_lp20 x1 n_ (upd u41.2.1 5 u41.1) u41.2.2.1 u41.2.2.2.1 u41.2.2.2.2.1 u41.2.2.2.2.2.1 u41.2.2.2.2.2.2.1 u41.2.2.2.2.2.2.2.1 u41.2.2.2.2.2.2.2.2.1 u41.2.2.2.2.2.2.2.2.2.1 u41.2.2.2.2.2.2.2.2.2.2.1 u41.2.2.2.2.2.2.2.2.2.2.2 (k2 + 1)) else (pX8_run_lp20 x1 n_ (upd u41.2.1 5 u41.1) u41.2.2.1 u41.2.2.2.1 u41.2.2.2.2.1 u41.2.2.2.2.2.1 u41.2.2.2.2.2.2.1 u41.2.2.2.2.2.2.2.1 u41.2.2.2.2.2.2.2.2.1 u41.2.2.2.2.2.2.2.2.2.1 u41.2.2.2.2.2.2.2.2.2.2.1 u41.2.2.2.2.2.2.2.2.2.2.2 (k2 + 0))))) else (k2, v, qm, ql, qs, qk, qd, qn, qo, qt, qi, qy)) else (k2, v, qm, ql, qs, qk, qd, qn, qo, qt, qi, qy)))
def pX8_run (v : Nat → Int32) (qm : Nat → Int32) (ql : Nat → Int32) (qs : Nat → Int32) (qk : Nat → Int32) (qd : Nat → Int32) (qn : Nat → Int32) (qo : Nat → Int32) (qt : Nat → Int32) (qi : Nat → Int32) (qy : Nat → Int32) (x1 : Int32) : Int32 × (Nat → Int32) × (Nat → Int32) × (Nat → Int32) × (Nat → Int32) × (Nat → Int32) × (Nat → Int32) × (Nat → Int32) × (Nat → Int32) × (Nat → Int32) × (Nat → Int32) × (Nat → Int32) := (if x1 < 0 then ((-1), v, qm, ql, qs, qk, qd, qn, qo, qt, qi, qy) else (if x1 ≤ 2000 then (pX8_run_lp20 x1 ((Int32.toInt x1 - Int32.toInt 0).toNat * 2 + (if 0 = 0 then 1 else 0) + 1) (upd v 5 0) qm ql qs qk qd qn qo qt qi qy 0) else ((-1), v, qm, ql, qs, qk, qd, qn, qo, qt, qi, qy)))
theorem okX8_run : mOk yX8_run cX8_run 3 (some .int) 1 := ⟨gm_612, gm_8, by decide +kernel⟩
set_option maxRecDepth 100000 in
set_option maxHeartbeats 4000000 in
theorem lpX8_run_20 {p : Program} {e : Env} {s : State} {m : MethodId} {args : Array Value} {below : List Frame} {meth : Method} {c : Code} {A : Nat → Prop} {l : Launch} {D : va_G} {cB cI : ClassId} {bd : Nat → Nat} {qe : Nat → Int32} {qf : Nat → Int32} {x1 : Int32} (X : mCx p s m args c cX8_run 3 RX8 D cB cI) (hr : meth.sig.returnType = (some .int)) (hk : meth.locks = false) : ∀ (n_ : Nat) (v : Nat → Int32) (qm : Nat → Int32) (ql : Nat → Int32) (qs : Nat → Int32) (qk : Nat → Int32) (qd : Nat → Int32) (qn : Nat → Int32) (qo : Nat → Int32) (qt : Nat → Int32) (qi : Nat → Int32) (qy : Nat → Int32) (k2 : Int32) (H : Heap) (locs : List Loc) (ls : Array Slot), (∀ j : Nat, 0 ≤ Int32.toInt (qd j)) → (Tp v) → (Int32.toInt x1 - Int32.toInt k2).toNat * 2 + (if (v 5) = 0 then 1 else 0) < n_ → mWd D A s (wR cB cI bd v qm ql qs qk qd qn qe qf qo qt qi qy) H locs → lv_has ls 3 [(0, .ref (bd 0)), (1, .int x1), (2, .int k2)] → W p l e { frames := 5, cells := 0, slots := 0, locals := 125 } s m args below meth c H locs 0 0 (MQ below (mQ D A (wR cB cI bd ((pX8_run_lp20 x1 n_ v qm ql qs qk qd qn qo qt qi qy k2).2.1) ((pX8_run_lp20 x1 n_ v qm ql qs qk qd qn qo qt qi qy k2).2.2.1) ((pX8_run_lp20 x1 n_ v qm ql qs qk qd qn qo qt qi qy k2).2.2.2.1) ((pX8_run_lp20 x1 n_ v qm ql qs qk qd qn qo qt qi qy k2).2.2.2.2.1) ((pX8_run_lp20 x1 n_ v qm ql qs qk qd qn qo qt qi qy k2).2.2.2.2.2.1) ((pX8_run_lp20 x1 n_ v qm ql qs qk qd qn qo qt qi qy k2).2.2.2.2.2.2.1) ((pX8_run_lp20 x1 n_ v qm ql qs qk qd qn qo qt qi qy k2).2.2.2.2.2.2.2.1) qe qf ((pX8_run_lp20 x1 n_ v qm ql qs qk qd qn qo qt qi qy k2).2.2.2.2.2.2.2.2.1) ((pX8_run_lp20 x1 n_ v qm ql qs qk qd qn qo qt qi qy k2).2.2.2.2.2.2.2.2.2.1) ((pX8_run_lp20 x1 n_ v qm ql qs qk qd qn qo qt qi qy k2).2.2.2.2.2.2.2.2.2.2.1) ((pX8_run_lp20 x1 n_ v qm ql qs qk qd qn qo qt qi qy k2).2.2.2.2.2.2.2.2.2.2.2)) (some ((pX8_run_lp20 x1 n_ v qm ql qs qk qd qn qo qt qi qy k2).1))) args s 0 0 A) (F0 m 20 ls []) := by
  have hx := X.1.1
  have hb := X.1.2.1
  intro n_
  induction n_ with
  | zero =>
    intro v qm ql qs qk qd qn qo qt qi qy k2 H locs ls hqd htp hm V hl
    exact absurd hm (Nat.not_lt_zero _)
  | succ n_ ih =>
    intro v qm ql qs qk qd qn qo qt qi qy k2 H locs ls hqd htp hm V hl
    refine lv_iload_n hx hb dX8_run_20 rfl (lv_at hl 2 rfl) ?_
    refine lv_iload_n hx hb dX8_run_21 rfl (lv_at hl 1 rfl) ?_
    refine lv_icmp_ge (tgt := 65) hx hb dX8_run_22 (by decide) (fun c_22 => ?_) (fun c_22 => ?_)
    · refine lv_iload_n hx hb dX8_run_65 rfl (lv_at hl 2 rfl) ?_
      have e9 : pX8_run_lp20 x1 (n_ + 1) v qm ql qs qk qd qn qo qt qi qy k2 = (k2, v, qm, ql, qs, qk, qd, qn, qo, qt, qi, qy) := by rw [pX8_run_lp20, if_pos c_22]
      exact m_iret X hr hk V (by rw [e9]) (by rw [e9]) dX8_run_66
    · refine lv_aload_n hx hb dX8_run_25 rfl (lv_at hl 0 rfl) ?_
      refine m_get X V 6 0 7 rfl gin_6 rfl (by decide) rfl gm_430 (v := .int (v 3)) rfl dX8_run_26 ?_
      refine lv_if_ne (tgt := 65) hx hb dX8_run_29 (by decide) (fun c_29 => ?_) (fun c_29 => ?_)
      · refine lv_iload_n hx hb dX8_run_65 rfl (lv_at hl 2 rfl) ?_
        have e9 : pX8_run_lp20 x1 (n_ + 1) v qm ql qs qk qd qn qo qt qi qy k2 = (k2, v, qm, ql, qs, qk, qd, qn, qo, qt, qi, qy) := by rw [pX8_run_lp20, if_neg c_22, if_neg c_29]
        exact m_iret X hr hk V (by rw [e9]) (by rw [e9]) dX8_run_66
      · refine lv_aload_n hx hb dX8_run_32 rfl (lv_at hl 0 rfl) ?_
        refine m_get X V 6 0 9 rfl gin_6 rfl (by decide) rfl gm_432 (v := .int (v 5)) rfl dX8_run_33 ?_
        refine lv_if_ne (tgt := 65) hx hb dX8_run_36 (by decide) (fun c_36 => ?_) (fun c_36 => ?_)
        · refine lv_iload_n hx hb dX8_run_65 rfl (lv_at hl 2 rfl) ?_
          have e9 : pX8_run_lp20 x1 (n_ + 1) v qm ql qs qk qd qn qo qt qi qy k2 = (k2, v, qm, ql, qs, qk, qd, qn, qo, qt, qi, qy) := by rw [pX8_run_lp20, if_neg c_22, if_pos c_29, if_neg c_36]
          exact m_iret X hr hk V (by rw [e9]) (by rw [e9]) dX8_run_66
        · refine lv_aload_n hx hb dX8_run_39 rfl (lv_at hl 0 rfl) ?_
          refine lv_aload_n hx hb dX8_run_40 rfl (lv_at hl 0 rfl) ?_
          obtain ⟨u41, hu41⟩ : ∃ u, pX8_doesRow v qm ql qs qk qd qn qo qt qi qy = u := ⟨_, rfl⟩
          have hM := kX8_doesRow l D cB cI bd v qm ql qs qk qd qn qe qf qo qt qi qy hqd htp
          rw [hu41] at hM
          refine m_VA X V (w1 := (wR cB cI bd u41.2.1 u41.2.2.1 u41.2.2.2.1 u41.2.2.2.2.1 u41.2.2.2.2.2.1 u41.2.2.2.2.2.2.1 u41.2.2.2.2.2.2.2.1 qe qf u41.2.2.2.2.2.2.2.2.1 u41.2.2.2.2.2.2.2.2.2.1 u41.2.2.2.2.2.2.2.2.2.2.1 u41.2.2.2.2.2.2.2.2.2.2.2)) (rest := [.ref (bd 0)]) (st1 := [.int u41.1, .ref (bd 0)]) hM okX8_doesRow gm_531 gm_699 gm_530 ⟨⟨rfl, rfl⟩, ⟨by decide, by decide⟩, Nat.zero_le _, Nat.zero_le _⟩ rfl rfl (wR_fst _ _ _ _ _ _ _ _ _ _ _ _ _ _ _ _) (wR_fst _ _ _ _ _ _ _ _ _ _ _ _ _ _ _ _) rfl hl.1 (Nat.le_of_ble_eq_true rfl) dX8_run_41 rfl rfl (fun H locs V => ?_)
          refine m_put X V (ws' := (wR cB cI bd (upd u41.2.1 5 u41.1) u41.2.2.1 u41.2.2.2.1 u41.2.2.2.2.1 u41.2.2.2.2.2.1 u41.2.2.2.2.2.2.1 u41.2.2.2.2.2.2.2.1 qe qf u41.2.2.2.2.2.2.2.2.1 u41.2.2.2.2.2.2.2.2.2.1 u41.2.2.2.2.2.2.2.2.2.2.1 u41.2.2.2.2.2.2.2.2.2.2.2)) 6 0 9 rfl gin_6 tyX8_ok nmX8 rfl (by decide) rfl gm_432 rfl rfl rfl (Nat.le_of_ble_eq_true rfl) dX8_run_44 rfl (fun H locs V => ?_)
          refine lv_iload_n hx hb dX8_run_47 rfl (lv_at hl 2 rfl) ?_
          refine lv_aload_n hx hb dX8_run_48 rfl (lv_at hl 0 rfl) ?_
          refine m_get X V 6 0 9 rfl gin_6 rfl (by decide) rfl gm_432 (v := .int u41.1) rfl dX8_run_49 ?_
          refine lv_if_ne (tgt := 59) hx hb dX8_run_52 (by decide) (fun c_52 => ?_) (fun c_52 => ?_)
          · refine lv_iconst (v := 0) hx hb dX8_run_59 (by decide) ?_
            refine lv_iadd hx hb dX8_run_60 ?_
            refine lv_istore_n (lv' := [(2, .int (k2 + 0)), (0, .ref (bd 0)), (1, .int x1)]) hx hb dX8_run_61 rfl hl (by decide) rfl (fun ls hl => ?_)
            refine lv_goto (tgt := 20) hx hb dX8_run_62 (by decide) ?_
            rw [show pX8_run_lp20 x1 (n_ + 1) v qm ql qs qk qd qn qo qt qi qy k2 = pX8_run_lp20 x1 n_ (upd u41.2.1 5 u41.1) u41.2.2.1 u41.2.2.2.1 u41.2.2.2.2.1 u41.2.2.2.2.2.1 u41.2.2.2.2.2.2.1 u41.2.2.2.2.2.2.2.1 u41.2.2.2.2.2.2.2.2.1 u41.2.2.2.2.2.2.2.2.2.1 u41.2.2.2.2.2.2.2.2.2.2.1 u41.2.2.2.2.2.2.2.2.2.2.2 (k2 + 0) from by rw [pX8_run_lp20, if_neg c_22, if_pos c_29, if_pos c_36, hu41, mLet_eq, if_neg c_52]]
            exact ih (upd u41.2.1 5 u41.1) u41.2.2.1 u41.2.2.2.1 u41.2.2.2.2.1 u41.2.2.2.2.2.1 u41.2.2.2.2.2.2.1 u41.2.2.2.2.2.2.2.1 u41.2.2.2.2.2.2.2.2.1 u41.2.2.2.2.2.2.2.2.2.1 u41.2.2.2.2.2.2.2.2.2.2.1 u41.2.2.2.2.2.2.2.2.2.2.2 (k2 + 0) _ _ _ (dr_ok hu41 htp hqd).2 (dr_ok hu41 htp hqd).1 (ms_run0 c_52 c_36 hm) V (lv_sub hl [1, 2, 0] rfl)
          · refine lv_iconst (v := 1) hx hb dX8_run_55 (by decide) ?_
            refine lv_goto (tgt := 60) hx hb dX8_run_56 (by decide) ?_
            refine lv_iadd hx hb dX8_run_60 ?_
            refine lv_istore_n (lv' := [(2, .int (k2 + 1)), (0, .ref (bd 0)), (1, .int x1)]) hx hb dX8_run_61 rfl hl (by decide) rfl (fun ls hl => ?_)
            refine lv_goto (tgt := 20) hx hb dX8_run_62 (by decide) ?_
            rw [show pX8_run_lp20 x1 (n_ + 1) v qm ql qs qk qd qn qo qt qi qy k2 = pX8_run_lp20 x1 n_ (upd u41.2.1 5 u41.1) u41.2.2.1 u41.2.2.2.1 u41.2.2.2.2.1 u41.2.2.2.2.2.1 u41.2.2.2.2.2.2.1 u41.2.2.2.2.2.2.2.1 u41.2.2.2.2.2.2.2.2.1 u41.2.2.2.2.2.2.2.2.2.1 u41.2.2.2.2.2.2.2.2.2.2.1 u41.2.2.2.2.2.2.2.2.2.2.2 (k2 + 1) from by rw [pX8_run_lp20, if_neg c_22, if_pos c_29, if_pos c_36, hu41, mLet_eq, if_pos c_52]]
            exact ih (upd u41.2.1 5 u41.1) u41.2.2.1 u41.2.2.2.1 u41.2.2.2.2.1 u41.2.2.2.2.2.1 u41.2.2.2.2.2.2.1 u41.2.2.2.2.2.2.2.1 u41.2.2.2.2.2.2.2.2.1 u41.2.2.2.2.2.2.2.2.2.1 u41.2.2.2.2.2.2.2.2.2.2.1 u41.2.2.2.2.2.2.2.2.2.2.2 (k2 + 1) _ _ _ (dr_ok hu41 htp hqd).2 (dr_ok hu41 htp hqd).1 (ms_run1 c_22 c_36 hm) V (lv_sub hl [1, 2, 0] rfl)
set_option maxRecDepth 100000 in
set_option maxHeartbeats 4000000 in
theorem kX8_run (l : Launch) (D : va_G) (cB cI : ClassId) (bd : Nat → Nat) (v : Nat → Int32) (qm : Nat → Int32) (ql : Nat → Int32) (qs : Nat → Int32) (qk : Nat → Int32) (qd : Nat → Int32) (qn : Nat → Int32) (qe : Nat → Int32) (qf : Nat → Int32) (qo : Nat → Int32) (qt : Nat → Int32) (qi : Nat → Int32) (qy : Nat → Int32) (x1 : Int32) (hqd : ∀ j : Nat, 0 ≤ Int32.toInt (qd j)) (ht : 0 ≤ Int32.toInt (v 0) ∧ Int32.toInt (v 0) ≤ 40) : mM l D cB cI yX8_run cX8_run 3 (some .int) { frames := 5, cells := 0, slots := 0, locals := 125 } [.ref (bd 0), .int x1] (wR cB cI bd v qm ql qs qk qd qn qe qf qo qt qi qy) (some ((pX8_run v qm ql qs qk qd qn qo qt qi qy x1).1)) (wR cB cI bd ((pX8_run v qm ql qs qk qd qn qo qt qi qy x1).2.1) ((pX8_run v qm ql qs qk qd qn qo qt qi qy x1).2.2.1) ((pX8_run v qm ql qs qk qd qn qo qt qi qy x1).2.2.2.1) ((pX8_run v qm ql qs qk qd qn qo qt qi qy x1).2.2.2.2.1) ((pX8_run v qm ql qs qk qd qn qo qt qi qy x1).2.2.2.2.2.1) ((pX8_run v qm ql qs qk qd qn qo qt qi qy x1).2.2.2.2.2.2.1) ((pX8_run v qm ql qs qk qd qn qo qt qi qy x1).2.2.2.2.2.2.2.1) qe qf ((pX8_run v qm ql qs qk qd qn qo qt qi qy x1).2.2.2.2.2.2.2.2.1) ((pX8_run v qm ql qs qk qd qn qo qt qi qy x1).2.2.2.2.2.2.2.2.2.1) ((pX8_run v qm ql qs qk qd qn qo qt qi qy x1).2.2.2.2.2.2.2.2.2.2.1) ((pX8_run v qm ql qs qk qd qn qo qt qi qy x1).2.2.2.2.2.2.2.2.2.2.2)) := by
  refine m_start (by decide +kernel) (Nat.le_of_ble_eq_true rfl) ?_
  intro p e s m below meth c A ls X hr hk V hl
  have X : mCx p s m _ c cX8_run 3 RX8 D cB cI := X
  have hx := X.1.1
  have hb := X.1.2.1
  have hl : lv_has ls 3 [(0, .ref (bd 0)), (1, .int x1)] := hl
  refine lv_iload_n hx hb dX8_run_0 rfl (lv_at hl 1 rfl) ?_
  refine lv_if_lt (tgt := 11) hx hb dX8_run_1 (by decide) (fun c_1 => ?_) (fun c_1 => ?_)
  · refine lv_iconst (v := (-1)) hx hb dX8_run_11 (by decide) ?_
    have e9 : pX8_run v qm ql qs qk qd qn qo qt qi qy x1 = ((-1), v, qm, ql, qs, qk, qd, qn, qo, qt, qi, qy) := by rw [pX8_run, if_pos c_1]
    exact m_iret X hr hk V (by rw [e9]) (by rw [e9]) dX8_run_12
  · refine lv_iload_n hx hb dX8_run_4 rfl (lv_at hl 1 rfl) ?_
    refine lv_sipush (v := 2000) hx hb dX8_run_5 (by decide) ?_
    refine lv_icmp_le (tgt := 13) hx hb dX8_run_8 (by decide) (fun c_8 => ?_) (fun c_8 => ?_)
    · refine lv_iconst (v := 0) hx hb dX8_run_13 (by decide) ?_
      refine lv_istore_n (lv' := [(2, .int 0), (0, .ref (bd 0)), (1, .int x1)]) hx hb dX8_run_14 rfl hl (by decide) rfl (fun ls hl => ?_)
      refine lv_aload_n hx hb dX8_run_15 rfl (lv_at hl 1 rfl) ?_
      refine lv_iconst (v := 0) hx hb dX8_run_16 (by decide) ?_
      refine m_put X V (ws' := (wR cB cI bd (upd v 5 0) qm ql qs qk qd qn qe qf qo qt qi qy)) 6 0 9 rfl gin_6 tyX8_ok nmX8 rfl (by decide) rfl gm_432 rfl rfl rfl (Nat.le_of_ble_eq_true rfl) dX8_run_17 rfl (fun H locs V => ?_)
      rw [show pX8_run v qm ql qs qk qd qn qo qt qi qy x1 = (pX8_run_lp20 x1 ((Int32.toInt x1 - Int32.toInt 0).toNat * 2 + (if 0 = 0 then 1 else 0) + 1) (upd v 5 0) qm ql qs qk qd qn qo qt qi qy 0) from by rw [pX8_run, if_neg c_1, if_pos c_8]]
      exact lpX8_run_20 X hr hk  ((Int32.toInt x1 - Int32.toInt 0).toNat * 2 + (if 0 = 0 then 1 else 0) + 1) (upd v 5 0) qm ql qs qk qd qn qo qt qi qy 0 _ _ _ hqd ht (Nat.lt_succ_self _) V (lv_sub hl [1, 2, 0] rfl)
    · refine lv_iconst (v := (-1)) hx hb dX8_run_11 (by decide) ?_
      have e9 : pX8_run v qm ql qs qk qd qn qo qt qi qy x1 = ((-1), v, qm, ql, qs, qk, qd, qn, qo, qt, qi, qy) := by rw [pX8_run, if_neg c_1, if_neg c_8]
      exact m_iret X hr hk V (by rw [e9]) (by rw [e9]) dX8_run_12
