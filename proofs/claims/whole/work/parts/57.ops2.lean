theorem shift_28 (a b : Int32) : (if pX4_isShift b = 0 then 0 else a <<< (b &&& 31)) = pX8_shifted 28 a b := by
  rw [pX4_isShift, pX8_shifted, if_neg (show ¬ (28 : Int32) = 29 by decide), if_neg (show ¬ (28 : Int32) = 29 by decide), if_pos (show (28 : Int32) = 28 from rfl)]
  by_cases c : b < 0
  · rw [if_pos c, if_pos c]; rfl
  · rw [if_neg c, if_neg c]
    by_cases d : b ≤ 31
    · rw [if_neg (Int32.not_lt.mpr d), if_pos d]; rfl
    · rw [if_pos (Int32.not_le.mp d), if_neg d]; rfl
theorem shift_29 (a b : Int32) : (if pX4_isShift b = 0 then a >>> (31 &&& 31) else a >>> (b &&& 31)) = pX8_shifted 29 a b := by
  rw [pX4_isShift, pX8_shifted, if_pos (show (29 : Int32) = 29 from rfl), if_neg (show ¬ (29 : Int32) = 28 by decide), if_pos (show (29 : Int32) = 29 from rfl), shr31]
  by_cases c : b < 0
  · rw [if_pos c, if_pos c]; rfl
  · rw [if_neg c, if_neg c]
    by_cases d : b ≤ 31
    · rw [if_neg (Int32.not_lt.mpr d), if_pos d]; rfl
    · rw [if_pos (Int32.not_le.mp d), if_neg d]; rfl
theorem shift_30 (a b : Int32) : (if pX4_isShift b = 0 then 0 else (a.toUInt32 >>> (Int32.toUInt32 b &&& Int32.toUInt32 31)).toInt32) = pX8_shifted 30 a b := by
  rw [pX4_isShift, pX8_shifted, if_neg (show ¬ (30 : Int32) = 29 by decide), if_neg (show ¬ (30 : Int32) = 28 by decide), if_neg (show ¬ (30 : Int32) = 29 by decide)]
  by_cases c : b < 0
  · rw [if_pos c, if_pos c]; rfl
  · rw [if_neg c, if_neg c]
    by_cases d : b ≤ 31
    · rw [if_neg (Int32.not_lt.mpr d), if_pos d]; rfl
    · rw [if_pos (Int32.not_le.mp d), if_neg d]; rfl
theorem br_all {T0 : Int} {g mem pf qm qs v ld qo : Nat → Int32} (H : PH T0 g mem pf qm qs v) {t : Nat → Int32} (pg z key qt qi qy : Nat → Int32) {o : Int32} (hL : LD o ld qo) (ho : ¬ pX6_stores o = 1) (hl : 1 ≤ (pX6_loadsOf o).toInt ∧ (pX6_loadsOf o).toInt ≤ 7) (ht : t 1 = pX6_loadsOf o) (h8 : v 8 = pX6_loadsOf o) (u : Int32) : pRel T0 g pf v o (mLet (pX2_branchIf g t ld u) (fun (u135 : Int32 × (Nat → Int32)) => (u135.1, u135.2, mem, pf, pg, v 0, z, key))) (if u = 0 then (0, v, qm, qs, qt, qi, qy) else (mLet (pX8_branches v (qo (Int32.toNatClampNeg ((v 8) - 1)))) (fun (u88 : (Nat → Int32)) => (0, u88, qm, qs, qt, qi, qy)))) := by
  have z1 : Int32.toInt 1 = 1 := rfl
  have es : (pX6_loadsOf o - 1).toInt = (pX6_loadsOf o).toInt - 1 := by rw [ti_sub (by omega) (by omega), z1]
  have l := (ld_at hL (k := pX6_loadsOf o - 1) (by omega) (by omega) hl.2).1
  rw [mLet_eq, pX2_branchIf, ht, l, h8]
  by_cases c : u = 0
  · rw [if_pos c, if_pos c]; exact p_mem H ho H.1 pg z key qt qi qy
  · rw [if_neg c, if_neg c, mLet_eq, pX8_branches]
    generalize qo (pX6_loadsOf o - 1).toNatClampNeg = y
    by_cases d : y = 0
    · rw [if_pos d, if_pos d, mLet_eq, pX2_end]; exact p_end H ho y pg z key qt qi qy
    · rw [if_neg d, if_neg d]
      by_cases d1 : y = 1
      · rw [if_pos d1, if_pos d1, mLet_eq, pX2_end]; exact p_end H ho y pg z key qt qi qy
      · rw [if_neg d1, if_neg d1, mLet_eq, pX2_jump]
        have e : (g 2 + y) - 2 = (v 9 + y) - 2 := by rw [H.2.2.2.2.2.1, H.2.2.2.2.2.2.1]
        rw [e]; exact p_jump H ho _ pg z key qt qi qy
theorem do_16 {T0 : Int} {g mem pf qm qs v ld qo : Nat → Int32} (H : PH T0 g mem pf qm qs v) (t pg z key qt qi qy : Nat → Int32) (hL : LD 16 ld qo) (e : v 7 = 16) : pRel T0 g pf v 16 (pX2_perform g mem pf pg (v 0) t z key ld 16) (pX8_does v qm qs qo qt qi qy) := by
  have l0 := (ld_at hL (k := 0) (by decide +kernel) (by decide +kernel) (by decide +kernel)).1
  have l1 := (ld_at hL (k := 1) (by decide +kernel) (by decide +kernel) (by decide +kernel)).1

  rw [pX8_does, e, if_neg (by decide), if_neg (by decide), mLet_eq, pX8_reckons, e, if_pos (by decide), mLet_eq, pX8_gives]
  rw [pX2_perform, if_pos (by decide), mLet_eq, pX2_reckon, if_neg (by decide), if_neg (by decide), pX4_result, if_pos (by decide)]
  rw [l0, l1]
  exact p_give H pg z key qt qi qy (lw_w (by decide) _)
theorem do_17 {T0 : Int} {g mem pf qm qs v ld qo : Nat → Int32} (H : PH T0 g mem pf qm qs v) (t pg z key qt qi qy : Nat → Int32) (hL : LD 17 ld qo) (e : v 7 = 17) : pRel T0 g pf v 17 (pX2_perform g mem pf pg (v 0) t z key ld 17) (pX8_does v qm qs qo qt qi qy) := by
  have l0 := (ld_at hL (k := 0) (by decide +kernel) (by decide +kernel) (by decide +kernel)).1
  have l1 := (ld_at hL (k := 1) (by decide +kernel) (by decide +kernel) (by decide +kernel)).1

  rw [pX8_does, e, if_neg (by decide), if_neg (by decide), mLet_eq, pX8_reckons, e, if_neg (by decide), if_pos (by decide), mLet_eq, pX8_gives]
  rw [pX2_perform, if_pos (by decide), mLet_eq, pX2_reckon, if_neg (by decide), if_neg (by decide), pX4_result, if_neg (by decide), if_pos (by decide)]
  rw [l0, l1]
  exact p_give H pg z key qt qi qy (lw_w (by decide) _)
theorem do_18 {T0 : Int} {g mem pf qm qs v ld qo : Nat → Int32} (H : PH T0 g mem pf qm qs v) (t pg z key qt qi qy : Nat → Int32) (hL : LD 18 ld qo) (e : v 7 = 18) : pRel T0 g pf v 18 (pX2_perform g mem pf pg (v 0) t z key ld 18) (pX8_does v qm qs qo qt qi qy) := by
  have l0 := (ld_at hL (k := 0) (by decide +kernel) (by decide +kernel) (by decide +kernel)).1
  have l1 := (ld_at hL (k := 1) (by decide +kernel) (by decide +kernel) (by decide +kernel)).1

  rw [pX8_does, e, if_neg (by decide), if_neg (by decide), mLet_eq, pX8_reckons, e, if_neg (by decide), if_neg (by decide), if_pos (by decide), mLet_eq, pX8_gives]
  rw [pX2_perform, if_pos (by decide), mLet_eq, pX2_reckon, if_neg (by decide), if_neg (by decide), pX4_result, if_neg (by decide), if_neg (by decide), if_pos (by decide)]
  rw [l0, l1]
  exact p_give H pg z key qt qi qy (lw_w (by decide) _)
theorem do_21 {T0 : Int} {g mem pf qm qs v ld qo : Nat → Int32} (H : PH T0 g mem pf qm qs v) (t pg z key qt qi qy : Nat → Int32) (hL : LD 21 ld qo) (e : v 7 = 21) : pRel T0 g pf v 21 (pX2_perform g mem pf pg (v 0) t z key ld 21) (pX8_does v qm qs qo qt qi qy) := by
  have l0 := (ld_at hL (k := 0) (by decide +kernel) (by decide +kernel) (by decide +kernel)).1

  rw [pX8_does, e, if_neg (by decide), if_neg (by decide), mLet_eq, pX8_reckons, e, if_neg (by decide), if_neg (by decide), if_neg (by decide), if_neg (by decide), if_neg (by decide), if_pos (by decide), mLet_eq, pX8_gives]
  rw [pX2_perform, if_pos (by decide), mLet_eq, pX2_reckon, if_neg (by decide), if_neg (by decide), pX4_result, if_neg (by decide), if_neg (by decide), if_neg (by decide), if_neg (by decide), if_neg (by decide), if_pos (by decide)]
  rw [l0]
  exact p_give H pg z key qt qi qy (lw_w (by decide) _)
theorem do_24 {T0 : Int} {g mem pf qm qs v ld qo : Nat → Int32} (H : PH T0 g mem pf qm qs v) (t pg z key qt qi qy : Nat → Int32) (hL : LD 24 ld qo) (e : v 7 = 24) : pRel T0 g pf v 24 (pX2_perform g mem pf pg (v 0) t z key ld 24) (pX8_does v qm qs qo qt qi qy) := by
  have l0 := (ld_at hL (k := 0) (by decide +kernel) (by decide +kernel) (by decide +kernel)).1
  have l1 := (ld_at hL (k := 1) (by decide +kernel) (by decide +kernel) (by decide +kernel)).1

  rw [pX8_does, e, if_neg (by decide), if_neg (by decide), mLet_eq, pX8_reckons, e, if_neg (by decide), if_neg (by decide), if_neg (by decide), if_neg (by decide), if_neg (by decide), if_neg (by decide), if_pos (by decide), mLet_eq, pX8_gives]
  rw [pX2_perform, if_pos (by decide), mLet_eq, pX2_reckon, if_neg (by decide), if_neg (by decide), pX4_result, if_neg (by decide), if_neg (by decide), if_neg (by decide), if_neg (by decide), if_neg (by decide), if_neg (by decide), if_pos (by decide)]
  rw [l0, l1]
  exact p_give H pg z key qt qi qy (lw_w (by decide) _)
theorem do_25 {T0 : Int} {g mem pf qm qs v ld qo : Nat → Int32} (H : PH T0 g mem pf qm qs v) (t pg z key qt qi qy : Nat → Int32) (hL : LD 25 ld qo) (e : v 7 = 25) : pRel T0 g pf v 25 (pX2_perform g mem pf pg (v 0) t z key ld 25) (pX8_does v qm qs qo qt qi qy) := by
  have l0 := (ld_at hL (k := 0) (by decide +kernel) (by decide +kernel) (by decide +kernel)).1
  have l1 := (ld_at hL (k := 1) (by decide +kernel) (by decide +kernel) (by decide +kernel)).1

  rw [pX8_does, e, if_neg (by decide), if_neg (by decide), mLet_eq, pX8_reckons, e, if_neg (by decide), if_neg (by decide), if_neg (by decide), if_neg (by decide), if_neg (by decide), if_neg (by decide), if_neg (by decide), if_pos (by decide), mLet_eq, pX8_gives]
  rw [pX2_perform, if_pos (by decide), mLet_eq, pX2_reckon, if_neg (by decide), if_neg (by decide), pX4_result, if_neg (by decide), if_neg (by decide), if_neg (by decide), if_neg (by decide), if_neg (by decide), if_neg (by decide), if_neg (by decide), if_pos (by decide)]
  rw [l0, l1]
  exact p_give H pg z key qt qi qy (lw_w (by decide) _)
theorem do_26 {T0 : Int} {g mem pf qm qs v ld qo : Nat → Int32} (H : PH T0 g mem pf qm qs v) (t pg z key qt qi qy : Nat → Int32) (hL : LD 26 ld qo) (e : v 7 = 26) : pRel T0 g pf v 26 (pX2_perform g mem pf pg (v 0) t z key ld 26) (pX8_does v qm qs qo qt qi qy) := by
  have l0 := (ld_at hL (k := 0) (by decide +kernel) (by decide +kernel) (by decide +kernel)).1
  have l1 := (ld_at hL (k := 1) (by decide +kernel) (by decide +kernel) (by decide +kernel)).1

  rw [pX8_does, e, if_neg (by decide), if_neg (by decide), mLet_eq, pX8_reckons, e, if_neg (by decide), if_neg (by decide), if_neg (by decide), if_neg (by decide), if_neg (by decide), if_neg (by decide), if_neg (by decide), if_neg (by decide), if_pos (by decide), mLet_eq, pX8_gives]
  rw [pX2_perform, if_pos (by decide), mLet_eq, pX2_reckon, if_neg (by decide), if_neg (by decide), pX4_result, if_neg (by decide), if_neg (by decide), if_neg (by decide), if_neg (by decide), if_neg (by decide), if_neg (by decide), if_neg (by decide), if_neg (by decide), if_pos (by decide)]
  rw [l0, l1]
  exact p_give H pg z key qt qi qy (lw_w (by decide) _)
theorem do_27 {T0 : Int} {g mem pf qm qs v ld qo : Nat → Int32} (H : PH T0 g mem pf qm qs v) (t pg z key qt qi qy : Nat → Int32) (hL : LD 27 ld qo) (e : v 7 = 27) : pRel T0 g pf v 27 (pX2_perform g mem pf pg (v 0) t z key ld 27) (pX8_does v qm qs qo qt qi qy) := by
  have l0 := (ld_at hL (k := 0) (by decide +kernel) (by decide +kernel) (by decide +kernel)).1

  rw [pX8_does, e, if_neg (by decide), if_neg (by decide), mLet_eq, pX8_reckons, e, if_neg (by decide), if_neg (by decide), if_neg (by decide), if_neg (by decide), if_neg (by decide), if_neg (by decide), if_neg (by decide), if_neg (by decide), if_neg (by decide), if_pos (by decide), mLet_eq, pX8_gives]
  rw [pX2_perform, if_pos (by decide), mLet_eq, pX2_reckon, if_neg (by decide), if_neg (by decide), pX4_result, if_neg (by decide), if_neg (by decide), if_neg (by decide), if_neg (by decide), if_neg (by decide), if_neg (by decide), if_neg (by decide), if_neg (by decide), if_neg (by decide), if_pos (by decide)]
  rw [l0]
  exact p_give H pg z key qt qi qy (lw_w (by decide) _)
theorem do_28 {T0 : Int} {g mem pf qm qs v ld qo : Nat → Int32} (H : PH T0 g mem pf qm qs v) (t pg z key qt qi qy : Nat → Int32) (hL : LD 28 ld qo) (e : v 7 = 28) : pRel T0 g pf v 28 (pX2_perform g mem pf pg (v 0) t z key ld 28) (pX8_does v qm qs qo qt qi qy) := by
  have l0 := (ld_at hL (k := 0) (by decide +kernel) (by decide +kernel) (by decide +kernel)).1
  have l1 := (ld_at hL (k := 1) (by decide +kernel) (by decide +kernel) (by decide +kernel)).1

  rw [pX8_does, e, if_neg (by decide), if_neg (by decide), mLet_eq, pX8_reckons, e, if_neg (by decide), if_neg (by decide), if_neg (by decide), if_neg (by decide), if_neg (by decide), if_neg (by decide), if_neg (by decide), if_neg (by decide), if_neg (by decide), if_neg (by decide), mLet_eq, pX8_gives]
  rw [pX2_perform, if_pos (by decide), mLet_eq, pX2_reckon, if_neg (by decide), if_neg (by decide), pX4_result, if_neg (by decide), if_neg (by decide), if_neg (by decide), if_neg (by decide), if_neg (by decide), if_neg (by decide), if_neg (by decide), if_neg (by decide), if_neg (by decide), if_neg (by decide), if_pos (by decide)]
  rw [l0, l1, shift_28]
  exact p_give H pg z key qt qi qy (lw_w (by decide) _)
theorem do_29 {T0 : Int} {g mem pf qm qs v ld qo : Nat → Int32} (H : PH T0 g mem pf qm qs v) (t pg z key qt qi qy : Nat → Int32) (hL : LD 29 ld qo) (e : v 7 = 29) : pRel T0 g pf v 29 (pX2_perform g mem pf pg (v 0) t z key ld 29) (pX8_does v qm qs qo qt qi qy) := by
  have l0 := (ld_at hL (k := 0) (by decide +kernel) (by decide +kernel) (by decide +kernel)).1
  have l1 := (ld_at hL (k := 1) (by decide +kernel) (by decide +kernel) (by decide +kernel)).1

  rw [pX8_does, e, if_neg (by decide), if_neg (by decide), mLet_eq, pX8_reckons, e, if_neg (by decide), if_neg (by decide), if_neg (by decide), if_neg (by decide), if_neg (by decide), if_neg (by decide), if_neg (by decide), if_neg (by decide), if_neg (by decide), if_neg (by decide), mLet_eq, pX8_gives]
  rw [pX2_perform, if_pos (by decide), mLet_eq, pX2_reckon, if_neg (by decide), if_neg (by decide), pX4_result, if_neg (by decide), if_neg (by decide), if_neg (by decide), if_neg (by decide), if_neg (by decide), if_neg (by decide), if_neg (by decide), if_neg (by decide), if_neg (by decide), if_neg (by decide), if_neg (by decide), if_pos (by decide)]
  rw [l0, l1, shift_29]
  exact p_give H pg z key qt qi qy (lw_w (by decide) _)
theorem do_30 {T0 : Int} {g mem pf qm qs v ld qo : Nat → Int32} (H : PH T0 g mem pf qm qs v) (t pg z key qt qi qy : Nat → Int32) (hL : LD 30 ld qo) (e : v 7 = 30) : pRel T0 g pf v 30 (pX2_perform g mem pf pg (v 0) t z key ld 30) (pX8_does v qm qs qo qt qi qy) := by
  have l0 := (ld_at hL (k := 0) (by decide +kernel) (by decide +kernel) (by decide +kernel)).1
  have l1 := (ld_at hL (k := 1) (by decide +kernel) (by decide +kernel) (by decide +kernel)).1

  rw [pX8_does, e, if_neg (by decide), if_neg (by decide), mLet_eq, pX8_reckons, e, if_neg (by decide), if_neg (by decide), if_neg (by decide), if_neg (by decide), if_neg (by decide), if_neg (by decide), if_neg (by decide), if_neg (by decide), if_neg (by decide), if_neg (by decide), mLet_eq, pX8_gives]
  rw [pX2_perform, if_pos (by decide), mLet_eq, pX2_reckon, if_neg (by decide), if_neg (by decide), pX4_result, if_neg (by decide), if_neg (by decide), if_neg (by decide), if_neg (by decide), if_neg (by decide), if_neg (by decide), if_neg (by decide), if_neg (by decide), if_neg (by decide), if_neg (by decide), if_neg (by decide), if_neg (by decide), if_pos (by decide)]
  rw [l0, l1, shift_30]
  exact p_give H pg z key qt qi qy (lw_w (by decide) _)
theorem do_19 {T0 : Int} {g mem pf qm qs v ld qo : Nat → Int32} (H : PH T0 g mem pf qm qs v) (t pg z key qt qi qy : Nat → Int32) (hL : LD 19 ld qo) (e : v 7 = 19) : pRel T0 g pf v 19 (pX2_perform g mem pf pg (v 0) t z key ld 19) (pX8_does v qm qs qo qt qi qy) := by
  have l0 := (ld_at hL (k := 0) (by decide +kernel) (by decide +kernel) (by decide +kernel)).1
  have l1 := (ld_at hL (k := 1) (by decide +kernel) (by decide +kernel) (by decide +kernel)).1

  rw [pX8_does, e, if_neg (by decide), if_neg (by decide), mLet_eq, pX8_reckons, e, if_neg (by decide), if_neg (by decide), if_neg (by decide), if_pos (by decide)]
  rw [pX2_perform, if_pos (by decide), mLet_eq, pX2_reckon, if_pos (by decide)]
  rw [l0, l1]
  generalize qo (Int32.toNatClampNeg 0) = x
  generalize qo (Int32.toNatClampNeg 1) = y
  by_cases c : y = 0
  · rw [if_pos c, if_pos c]; exact p_flt H 6 (by decide) pg z key qt qi qy
  · have r : pX4_result 19 x y = x / y := by rw [pX4_result, if_neg (by decide), if_neg (by decide), if_neg (by decide), if_pos (by decide), if_neg c]
    rw [if_neg c, if_neg c, r]
    by_cases d : y = -1
    · rw [if_pos d, mLet_eq, pX8_gives, d, div_m1]; exact p_give H pg z key qt qi qy (lw_w (by decide) _)
    · rw [if_neg d, mLet_eq, pX8_gives]; exact p_give H pg z key qt qi qy (lw_w (by decide) _)
theorem do_20 {T0 : Int} {g mem pf qm qs v ld qo : Nat → Int32} (H : PH T0 g mem pf qm qs v) (t pg z key qt qi qy : Nat → Int32) (hL : LD 20 ld qo) (e : v 7 = 20) : pRel T0 g pf v 20 (pX2_perform g mem pf pg (v 0) t z key ld 20) (pX8_does v qm qs qo qt qi qy) := by
  have l0 := (ld_at hL (k := 0) (by decide +kernel) (by decide +kernel) (by decide +kernel)).1
  have l1 := (ld_at hL (k := 1) (by decide +kernel) (by decide +kernel) (by decide +kernel)).1

  rw [pX8_does, e, if_neg (by decide), if_neg (by decide), mLet_eq, pX8_reckons, e, if_neg (by decide), if_neg (by decide), if_neg (by decide), if_neg (by decide), if_pos (by decide)]
  rw [pX2_perform, if_pos (by decide), mLet_eq, pX2_reckon, if_neg (by decide), if_pos (by decide)]
  rw [l0, l1]
  generalize qo (Int32.toNatClampNeg 0) = x
  generalize qo (Int32.toNatClampNeg 1) = y
  by_cases c : y = 0
  · rw [if_pos c, if_pos c]; exact p_flt H 6 (by decide) pg z key qt qi qy
  · have r : pX4_result 20 x y = x - x / y * y := by rw [pX4_result, if_neg (by decide), if_neg (by decide), if_neg (by decide), if_neg (by decide), if_pos (by decide), if_neg c]
    rw [if_neg c, if_neg c, r]
    by_cases d : y = -1
    · rw [if_pos d, mLet_eq, pX8_gives, d, rem_m1]; exact p_give H pg z key qt qi qy (lw_w (by decide) _)
    · rw [if_neg d, mLet_eq, pX8_gives]; exact p_give H pg z key qt qi qy (lw_w (by decide) _)
theorem so_32_ (a b : Int32) : pX4_branches 32 a b = pX8_isSo 32 a b := by
  have r1 : pX4_branches 32 a b = (1) := by rw [pX4_branches, if_pos (by decide)]
  have r2 : pX8_isSo 32 a b = (1) := by rw [pX8_isSo, if_pos (by decide), if_pos (by decide)]
  rw [r1, r2]
theorem do_32 {T0 : Int} {g mem pf qm qs v ld qo : Nat → Int32} (H : PH T0 g mem pf qm qs v) (t pg z key qt qi qy : Nat → Int32) (hL : LD 32 ld qo) (e : v 7 = 32) (ht : t 1 = 1) (h8 : v 8 = 1) : pRel T0 g pf v 32 (pX2_perform g mem pf pg (v 0) t z key ld 32) (pX8_does v qm qs qo qt qi qy) := by
  have l0 := (ld_at hL (k := 0) (by decide +kernel) (by decide +kernel) (by decide +kernel)).1

  rw [pX8_does, e, if_neg (by decide), if_pos (by decide), if_neg (by decide), if_neg (by decide), mLet_eq, pX2_perform, if_neg (by decide), if_pos (by decide), mLet_eq, so_32_, show pX8_isSo 32 (pX2_load ld 0) (pX2_load ld 1) = pX8_isSo 32 (qo (Int32.toNatClampNeg 0)) (qo (Int32.toNatClampNeg 1)) by rw [pX8_isSo, pX8_isSo, if_pos (by decide), if_pos (by decide), if_pos (by decide), if_pos (by decide)]]
  exact br_all H pg z key qt qi qy hL (by decide) (by decide +kernel) ht h8 _
theorem so_34_ (a b : Int32) : pX4_branches 34 a b = pX8_isSo 34 a b := by
  have r1 : pX4_branches 34 a b = (if a = 0 then (1) else (0)) := by rw [pX4_branches, if_neg (by decide), if_pos (by decide)]
  have r2 : pX8_isSo 34 a b = (if a = 0 then (1) else (0)) := by rw [pX8_isSo, if_pos (by decide), if_neg (by decide), if_pos (by decide)]
  rw [r1, r2]
theorem do_34 {T0 : Int} {g mem pf qm qs v ld qo : Nat → Int32} (H : PH T0 g mem pf qm qs v) (t pg z key qt qi qy : Nat → Int32) (hL : LD 34 ld qo) (e : v 7 = 34) (ht : t 1 = 2) (h8 : v 8 = 2) : pRel T0 g pf v 34 (pX2_perform g mem pf pg (v 0) t z key ld 34) (pX8_does v qm qs qo qt qi qy) := by
  have l0 := (ld_at hL (k := 0) (by decide +kernel) (by decide +kernel) (by decide +kernel)).1
  have l1 := (ld_at hL (k := 1) (by decide +kernel) (by decide +kernel) (by decide +kernel)).1

  rw [pX8_does, e, if_neg (by decide), if_pos (by decide), if_neg (by decide), if_neg (by decide), mLet_eq, pX2_perform, if_neg (by decide), if_pos (by decide), mLet_eq, so_34_, l0, l1]
  exact br_all H pg z key qt qi qy hL (by decide) (by decide +kernel) ht h8 _
theorem so_35_ (a b : Int32) : pX4_branches 35 a b = pX8_isSo 35 a b := by
  have r1 : pX4_branches 35 a b = (if a = 0 then (0) else (1)) := by rw [pX4_branches, if_neg (by decide), if_neg (by decide), if_pos (by decide)]
  have r2 : pX8_isSo 35 a b = (if a = 0 then (0) else (1)) := by rw [pX8_isSo, if_pos (by decide), if_neg (by decide), if_neg (by decide), if_pos (by decide)]
  rw [r1, r2]
theorem do_35 {T0 : Int} {g mem pf qm qs v ld qo : Nat → Int32} (H : PH T0 g mem pf qm qs v) (t pg z key qt qi qy : Nat → Int32) (hL : LD 35 ld qo) (e : v 7 = 35) (ht : t 1 = 2) (h8 : v 8 = 2) : pRel T0 g pf v 35 (pX2_perform g mem pf pg (v 0) t z key ld 35) (pX8_does v qm qs qo qt qi qy) := by
  have l0 := (ld_at hL (k := 0) (by decide +kernel) (by decide +kernel) (by decide +kernel)).1
  have l1 := (ld_at hL (k := 1) (by decide +kernel) (by decide +kernel) (by decide +kernel)).1

  rw [pX8_does, e, if_neg (by decide), if_pos (by decide), if_neg (by decide), if_neg (by decide), mLet_eq, pX2_perform, if_neg (by decide), if_pos (by decide), mLet_eq, so_35_, l0, l1]
  exact br_all H pg z key qt qi qy hL (by decide) (by decide +kernel) ht h8 _
theorem so_36_ (a b : Int32) : pX4_branches 36 a b = pX8_isSo 36 a b := by
  have r1 : pX4_branches 36 a b = (if a = b then (1) else (0)) := by rw [pX4_branches, if_neg (by decide), if_neg (by decide), if_neg (by decide), if_pos (by decide)]
  have r2 : pX8_isSo 36 a b = (if a = b then (1) else (0)) := by rw [pX8_isSo, if_pos (by decide), if_neg (by decide), if_neg (by decide), if_neg (by decide), if_pos (by decide)]
  rw [r1, r2]
theorem do_36 {T0 : Int} {g mem pf qm qs v ld qo : Nat → Int32} (H : PH T0 g mem pf qm qs v) (t pg z key qt qi qy : Nat → Int32) (hL : LD 36 ld qo) (e : v 7 = 36) (ht : t 1 = 3) (h8 : v 8 = 3) : pRel T0 g pf v 36 (pX2_perform g mem pf pg (v 0) t z key ld 36) (pX8_does v qm qs qo qt qi qy) := by
  have l0 := (ld_at hL (k := 0) (by decide +kernel) (by decide +kernel) (by decide +kernel)).1
  have l1 := (ld_at hL (k := 1) (by decide +kernel) (by decide +kernel) (by decide +kernel)).1
  have l2 := (ld_at hL (k := 2) (by decide +kernel) (by decide +kernel) (by decide +kernel)).1

  rw [pX8_does, e, if_neg (by decide), if_pos (by decide), if_neg (by decide), if_neg (by decide), mLet_eq, pX2_perform, if_neg (by decide), if_pos (by decide), mLet_eq, so_36_, l0, l1]
  exact br_all H pg z key qt qi qy hL (by decide) (by decide +kernel) ht h8 _
theorem so_37_ (a b : Int32) : pX4_branches 37 a b = pX8_isSo 37 a b := by
  have r1 : pX4_branches 37 a b = (if a = b then (0) else (1)) := by rw [pX4_branches, if_neg (by decide), if_neg (by decide), if_neg (by decide), if_neg (by decide), if_pos (by decide)]
  have r2 : pX8_isSo 37 a b = (if a = b then (0) else (1)) := by rw [pX8_isSo, if_pos (by decide), if_neg (by decide), if_neg (by decide), if_neg (by decide), if_neg (by decide), if_pos (by decide)]
  rw [r1, r2]
theorem do_37 {T0 : Int} {g mem pf qm qs v ld qo : Nat → Int32} (H : PH T0 g mem pf qm qs v) (t pg z key qt qi qy : Nat → Int32) (hL : LD 37 ld qo) (e : v 7 = 37) (ht : t 1 = 3) (h8 : v 8 = 3) : pRel T0 g pf v 37 (pX2_perform g mem pf pg (v 0) t z key ld 37) (pX8_does v qm qs qo qt qi qy) := by
  have l0 := (ld_at hL (k := 0) (by decide +kernel) (by decide +kernel) (by decide +kernel)).1
  have l1 := (ld_at hL (k := 1) (by decide +kernel) (by decide +kernel) (by decide +kernel)).1
  have l2 := (ld_at hL (k := 2) (by decide +kernel) (by decide +kernel) (by decide +kernel)).1

  rw [pX8_does, e, if_neg (by decide), if_pos (by decide), if_neg (by decide), if_neg (by decide), mLet_eq, pX2_perform, if_neg (by decide), if_pos (by decide), mLet_eq, so_37_, l0, l1]
  exact br_all H pg z key qt qi qy hL (by decide) (by decide +kernel) ht h8 _
theorem so_38_ (a b : Int32) : pX4_branches 38 a b = pX8_isSo 38 a b := by
  have r1 : pX4_branches 38 a b = (if b ≤ a then (0) else (1)) := by rw [pX4_branches, if_neg (by decide), if_neg (by decide), if_neg (by decide), if_neg (by decide), if_neg (by decide), if_pos (by decide)]
  have r2 : pX8_isSo 38 a b = (if b ≤ a then (0) else (1)) := by rw [pX8_isSo, if_pos (by decide), if_neg (by decide), if_neg (by decide), if_neg (by decide), if_neg (by decide), if_neg (by decide), if_pos (by decide)]
  rw [r1, r2]
theorem do_38 {T0 : Int} {g mem pf qm qs v ld qo : Nat → Int32} (H : PH T0 g mem pf qm qs v) (t pg z key qt qi qy : Nat → Int32) (hL : LD 38 ld qo) (e : v 7 = 38) (ht : t 1 = 3) (h8 : v 8 = 3) : pRel T0 g pf v 38 (pX2_perform g mem pf pg (v 0) t z key ld 38) (pX8_does v qm qs qo qt qi qy) := by
  have l0 := (ld_at hL (k := 0) (by decide +kernel) (by decide +kernel) (by decide +kernel)).1
  have l1 := (ld_at hL (k := 1) (by decide +kernel) (by decide +kernel) (by decide +kernel)).1
  have l2 := (ld_at hL (k := 2) (by decide +kernel) (by decide +kernel) (by decide +kernel)).1

  rw [pX8_does, e, if_neg (by decide), if_pos (by decide), if_neg (by decide), if_neg (by decide), mLet_eq, pX2_perform, if_neg (by decide), if_pos (by decide), mLet_eq, so_38_, l0, l1]
  exact br_all H pg z key qt qi qy hL (by decide) (by decide +kernel) ht h8 _
theorem so_39_ (a b : Int32) : pX4_branches 39 a b = pX8_isSo 39 a b := by
  have r1 : pX4_branches 39 a b = (if a < b then (0) else (1)) := by rw [pX4_branches, if_neg (by decide), if_neg (by decide), if_neg (by decide), if_neg (by decide), if_neg (by decide), if_neg (by decide), if_pos (by decide)]
  have r2 : pX8_isSo 39 a b = (if a < b then (0) else (1)) := by rw [pX8_isSo, if_pos (by decide), if_neg (by decide), if_neg (by decide), if_neg (by decide), if_neg (by decide), if_neg (by decide), if_neg (by decide), if_pos (by decide)]
  rw [r1, r2]
theorem do_39 {T0 : Int} {g mem pf qm qs v ld qo : Nat → Int32} (H : PH T0 g mem pf qm qs v) (t pg z key qt qi qy : Nat → Int32) (hL : LD 39 ld qo) (e : v 7 = 39) (ht : t 1 = 3) (h8 : v 8 = 3) : pRel T0 g pf v 39 (pX2_perform g mem pf pg (v 0) t z key ld 39) (pX8_does v qm qs qo qt qi qy) := by
  have l0 := (ld_at hL (k := 0) (by decide +kernel) (by decide +kernel) (by decide +kernel)).1
  have l1 := (ld_at hL (k := 1) (by decide +kernel) (by decide +kernel) (by decide +kernel)).1
  have l2 := (ld_at hL (k := 2) (by decide +kernel) (by decide +kernel) (by decide +kernel)).1

  rw [pX8_does, e, if_neg (by decide), if_pos (by decide), if_neg (by decide), if_neg (by decide), mLet_eq, pX2_perform, if_neg (by decide), if_pos (by decide), mLet_eq, so_39_, l0, l1]
  exact br_all H pg z key qt qi qy hL (by decide) (by decide +kernel) ht h8 _
theorem so_40_ (a b : Int32) : pX4_branches 40 a b = pX8_isSo 40 a b := by
  have r1 : pX4_branches 40 a b = (if a ≤ b then (0) else (1)) := by rw [pX4_branches, if_neg (by decide), if_neg (by decide), if_neg (by decide), if_neg (by decide), if_neg (by decide), if_neg (by decide), if_neg (by decide), if_pos (by decide)]
  have r2 : pX8_isSo 40 a b = (if a ≤ b then (0) else (1)) := by rw [pX8_isSo, if_pos (by decide), if_neg (by decide), if_neg (by decide), if_neg (by decide), if_neg (by decide), if_neg (by decide), if_neg (by decide), if_neg (by decide), if_pos (by decide)]
  rw [r1, r2]
theorem do_40 {T0 : Int} {g mem pf qm qs v ld qo : Nat → Int32} (H : PH T0 g mem pf qm qs v) (t pg z key qt qi qy : Nat → Int32) (hL : LD 40 ld qo) (e : v 7 = 40) (ht : t 1 = 3) (h8 : v 8 = 3) : pRel T0 g pf v 40 (pX2_perform g mem pf pg (v 0) t z key ld 40) (pX8_does v qm qs qo qt qi qy) := by
  have l0 := (ld_at hL (k := 0) (by decide +kernel) (by decide +kernel) (by decide +kernel)).1
  have l1 := (ld_at hL (k := 1) (by decide +kernel) (by decide +kernel) (by decide +kernel)).1
  have l2 := (ld_at hL (k := 2) (by decide +kernel) (by decide +kernel) (by decide +kernel)).1

  rw [pX8_does, e, if_neg (by decide), if_pos (by decide), if_neg (by decide), if_neg (by decide), mLet_eq, pX2_perform, if_neg (by decide), if_pos (by decide), mLet_eq, so_40_, l0, l1]
  exact br_all H pg z key qt qi qy hL (by decide) (by decide +kernel) ht h8 _
theorem so_41_ (a b : Int32) : pX4_branches 41 a b = pX8_isSo 41 a b := by
  have r1 : pX4_branches 41 a b = (if b < a then (0) else (1)) := by rw [pX4_branches, if_neg (by decide), if_neg (by decide), if_neg (by decide), if_neg (by decide), if_neg (by decide), if_neg (by decide), if_neg (by decide), if_neg (by decide), if_pos (by decide)]
  have r2 : pX8_isSo 41 a b = (if b < a then (0) else (1)) := by rw [pX8_isSo, if_pos (by decide), if_neg (by decide), if_neg (by decide), if_neg (by decide), if_neg (by decide), if_neg (by decide), if_neg (by decide), if_neg (by decide), if_neg (by decide)]
  rw [r1, r2]
theorem do_41 {T0 : Int} {g mem pf qm qs v ld qo : Nat → Int32} (H : PH T0 g mem pf qm qs v) (t pg z key qt qi qy : Nat → Int32) (hL : LD 41 ld qo) (e : v 7 = 41) (ht : t 1 = 3) (h8 : v 8 = 3) : pRel T0 g pf v 41 (pX2_perform g mem pf pg (v 0) t z key ld 41) (pX8_does v qm qs qo qt qi qy) := by
  have l0 := (ld_at hL (k := 0) (by decide +kernel) (by decide +kernel) (by decide +kernel)).1
  have l1 := (ld_at hL (k := 1) (by decide +kernel) (by decide +kernel) (by decide +kernel)).1
  have l2 := (ld_at hL (k := 2) (by decide +kernel) (by decide +kernel) (by decide +kernel)).1

  rw [pX8_does, e, if_neg (by decide), if_pos (by decide), if_neg (by decide), if_neg (by decide), mLet_eq, pX2_perform, if_neg (by decide), if_pos (by decide), mLet_eq, so_41_, l0, l1]
  exact br_all H pg z key qt qi qy hL (by decide) (by decide +kernel) ht h8 _
theorem so_42_ (a b : Int32) : pX4_branches 42 a b = pX8_isSo 42 a b := by
  have r1 : pX4_branches 42 a b = (mLet (pJ6_compareUnsigned_7cf53 a b) (fun (u162 : Int32) => (if 0 ≤ u162 then (0) else (1)))) := by rw [pX4_branches, if_neg (by decide), if_neg (by decide), if_neg (by decide), if_neg (by decide), if_neg (by decide), if_neg (by decide), if_neg (by decide), if_neg (by decide), if_neg (by decide), if_pos (by decide)]
  have r2 : pX8_isSo 42 a b = (if (b ^^^ (-2147483648)) ≤ (a ^^^ (-2147483648)) then (0) else (1)) := by rw [pX8_isSo, if_neg (by decide), if_neg (by decide), if_neg (by decide), if_neg (by decide), if_neg (by decide), if_neg (by decide), if_pos (by decide)]
  rw [r1, r2, mLet_eq, so_42]
theorem do_42 {T0 : Int} {g mem pf qm qs v ld qo : Nat → Int32} (H : PH T0 g mem pf qm qs v) (t pg z key qt qi qy : Nat → Int32) (hL : LD 42 ld qo) (e : v 7 = 42) (ht : t 1 = 3) (h8 : v 8 = 3) : pRel T0 g pf v 42 (pX2_perform g mem pf pg (v 0) t z key ld 42) (pX8_does v qm qs qo qt qi qy) := by
  have l0 := (ld_at hL (k := 0) (by decide +kernel) (by decide +kernel) (by decide +kernel)).1
  have l1 := (ld_at hL (k := 1) (by decide +kernel) (by decide +kernel) (by decide +kernel)).1
  have l2 := (ld_at hL (k := 2) (by decide +kernel) (by decide +kernel) (by decide +kernel)).1

  rw [pX8_does, e, if_neg (by decide), if_pos (by decide), if_neg (by decide), if_neg (by decide), mLet_eq, pX2_perform, if_neg (by decide), if_pos (by decide), mLet_eq, so_42_, l0, l1]
  exact br_all H pg z key qt qi qy hL (by decide) (by decide +kernel) ht h8 _
theorem so_43_ (a b : Int32) : pX4_branches 43 a b = pX8_isSo 43 a b := by
  have r1 : pX4_branches 43 a b = (mLet (pJ6_compareUnsigned_7cf53 a b) (fun (u176 : Int32) => (if u176 < 0 then (0) else (1)))) := by rw [pX4_branches, if_neg (by decide), if_neg (by decide), if_neg (by decide), if_neg (by decide), if_neg (by decide), if_neg (by decide), if_neg (by decide), if_neg (by decide), if_neg (by decide), if_neg (by decide), if_pos (by decide)]
  have r2 : pX8_isSo 43 a b = (if (a ^^^ (-2147483648)) < (b ^^^ (-2147483648)) then (0) else (1)) := by rw [pX8_isSo, if_neg (by decide), if_neg (by decide), if_neg (by decide), if_neg (by decide), if_neg (by decide), if_neg (by decide), if_neg (by decide), if_pos (by decide)]
  rw [r1, r2, mLet_eq, so_43]
theorem do_43 {T0 : Int} {g mem pf qm qs v ld qo : Nat → Int32} (H : PH T0 g mem pf qm qs v) (t pg z key qt qi qy : Nat → Int32) (hL : LD 43 ld qo) (e : v 7 = 43) (ht : t 1 = 3) (h8 : v 8 = 3) : pRel T0 g pf v 43 (pX2_perform g mem pf pg (v 0) t z key ld 43) (pX8_does v qm qs qo qt qi qy) := by
  have l0 := (ld_at hL (k := 0) (by decide +kernel) (by decide +kernel) (by decide +kernel)).1
  have l1 := (ld_at hL (k := 1) (by decide +kernel) (by decide +kernel) (by decide +kernel)).1
  have l2 := (ld_at hL (k := 2) (by decide +kernel) (by decide +kernel) (by decide +kernel)).1

  rw [pX8_does, e, if_neg (by decide), if_pos (by decide), if_neg (by decide), if_neg (by decide), mLet_eq, pX2_perform, if_neg (by decide), if_pos (by decide), mLet_eq, so_43_, l0, l1]
  exact br_all H pg z key qt qi qy hL (by decide) (by decide +kernel) ht h8 _
theorem so_44_ (a b : Int32) : pX4_branches 44 a b = pX8_isSo 44 a b := by
  have r1 : pX4_branches 44 a b = (mLet (pJ6_compareUnsigned_7cf53 a b) (fun (u190 : Int32) => (if u190 ≤ 0 then (0) else (1)))) := by rw [pX4_branches, if_neg (by decide), if_neg (by decide), if_neg (by decide), if_neg (by decide), if_neg (by decide), if_neg (by decide), if_neg (by decide), if_neg (by decide), if_neg (by decide), if_neg (by decide), if_neg (by decide), if_pos (by decide)]
  have r2 : pX8_isSo 44 a b = (if (a ^^^ (-2147483648)) ≤ (b ^^^ (-2147483648)) then (0) else (1)) := by rw [pX8_isSo, if_neg (by decide), if_neg (by decide), if_neg (by decide), if_neg (by decide), if_neg (by decide), if_neg (by decide), if_neg (by decide), if_neg (by decide), if_pos (by decide)]
  rw [r1, r2, mLet_eq, so_44]
theorem do_44 {T0 : Int} {g mem pf qm qs v ld qo : Nat → Int32} (H : PH T0 g mem pf qm qs v) (t pg z key qt qi qy : Nat → Int32) (hL : LD 44 ld qo) (e : v 7 = 44) (ht : t 1 = 3) (h8 : v 8 = 3) : pRel T0 g pf v 44 (pX2_perform g mem pf pg (v 0) t z key ld 44) (pX8_does v qm qs qo qt qi qy) := by
  have l0 := (ld_at hL (k := 0) (by decide +kernel) (by decide +kernel) (by decide +kernel)).1
  have l1 := (ld_at hL (k := 1) (by decide +kernel) (by decide +kernel) (by decide +kernel)).1
  have l2 := (ld_at hL (k := 2) (by decide +kernel) (by decide +kernel) (by decide +kernel)).1

  rw [pX8_does, e, if_neg (by decide), if_pos (by decide), if_neg (by decide), if_neg (by decide), mLet_eq, pX2_perform, if_neg (by decide), if_pos (by decide), mLet_eq, so_44_, l0, l1]
  exact br_all H pg z key qt qi qy hL (by decide) (by decide +kernel) ht h8 _
theorem so_45_ (a b : Int32) : pX4_branches 45 a b = pX8_isSo 45 a b := by
  have r1 : pX4_branches 45 a b = (mLet (pJ6_compareUnsigned_7cf53 a b) (fun (u204 : Int32) => (if 0 < u204 then (0) else (1)))) := by rw [pX4_branches, if_neg (by decide), if_neg (by decide), if_neg (by decide), if_neg (by decide), if_neg (by decide), if_neg (by decide), if_neg (by decide), if_neg (by decide), if_neg (by decide), if_neg (by decide), if_neg (by decide), if_neg (by decide), if_pos (by decide)]
  have r2 : pX8_isSo 45 a b = (if (b ^^^ (-2147483648)) < (a ^^^ (-2147483648)) then (0) else (1)) := by rw [pX8_isSo, if_neg (by decide), if_neg (by decide), if_neg (by decide), if_neg (by decide), if_neg (by decide), if_neg (by decide), if_neg (by decide), if_neg (by decide), if_neg (by decide)]
  rw [r1, r2, mLet_eq, so_45]
theorem do_45 {T0 : Int} {g mem pf qm qs v ld qo : Nat → Int32} (H : PH T0 g mem pf qm qs v) (t pg z key qt qi qy : Nat → Int32) (hL : LD 45 ld qo) (e : v 7 = 45) (ht : t 1 = 3) (h8 : v 8 = 3) : pRel T0 g pf v 45 (pX2_perform g mem pf pg (v 0) t z key ld 45) (pX8_does v qm qs qo qt qi qy) := by
  have l0 := (ld_at hL (k := 0) (by decide +kernel) (by decide +kernel) (by decide +kernel)).1
  have l1 := (ld_at hL (k := 1) (by decide +kernel) (by decide +kernel) (by decide +kernel)).1
  have l2 := (ld_at hL (k := 2) (by decide +kernel) (by decide +kernel) (by decide +kernel)).1

  rw [pX8_does, e, if_neg (by decide), if_pos (by decide), if_neg (by decide), if_neg (by decide), mLet_eq, pX2_perform, if_neg (by decide), if_pos (by decide), mLet_eq, so_45_, l0, l1]
  exact br_all H pg z key qt qi qy hL (by decide) (by decide +kernel) ht h8 _
theorem ab_eq (x : Int32) : pX4_ability x = pX8_gestalt x := by rw [pX4_ability, pX8_gestalt]
theorem do_0 {T0 : Int} {g mem pf qm qs v ld qo : Nat → Int32} (H : PH T0 g mem pf qm qs v) (t pg z key qt qi qy : Nat → Int32) (hL : LD 0 ld qo) (e : v 7 = 0) : pRel T0 g pf v 0 (pX2_perform g mem pf pg (v 0) t z key ld 0) (pX8_does v qm qs qo qt qi qy) := by
  rw [pX8_does, e, if_pos (by decide), if_pos (by decide), if_pos (by decide), if_pos (by decide), if_neg (by decide), if_neg (by decide), if_neg (by decide), if_neg (by decide), if_neg (by decide), if_neg (by decide), if_neg (by decide), if_neg (by decide), if_neg (by decide), if_neg (by decide), if_neg (by decide), if_neg (by decide), if_neg (by decide), pX2_perform, if_neg (by decide), if_neg (by decide), if_neg (by decide), if_neg (by decide), if_neg (by decide), if_neg (by decide), if_neg (by decide), if_neg (by decide), if_neg (by decide)]
  exact p_mem H (by decide) H.1 pg z key qt qi qy
theorem do_49 {T0 : Int} {g mem pf qm qs v ld qo : Nat → Int32} (H : PH T0 g mem pf qm qs v) (t pg z key qt qi qy : Nat → Int32) (hL : LD 49 ld qo) (e : v 7 = 49) : pRel T0 g pf v 49 (pX2_perform g mem pf pg (v 0) t z key ld 49) (pX8_does v qm qs qo qt qi qy) := by
  have l0 := (ld_at hL (k := 0) (by decide +kernel) (by decide +kernel) (by decide +kernel)).1
  rw [pX8_does, e, if_neg (by decide), if_pos (by decide), if_neg (by decide), if_pos (by decide), if_pos (by decide), if_pos (by decide), if_pos (by decide), pX2_perform, if_neg (by decide), if_neg (by decide), if_pos (by decide), mLet_eq, pX2_end, l0]
  exact p_end H (by decide) _ pg z key qt qi qy
theorem do_288 {T0 : Int} {g mem pf qm qs v ld qo : Nat → Int32} (H : PH T0 g mem pf qm qs v) (t pg z key qt qi qy : Nat → Int32) (hL : LD 288 ld qo) (e : v 7 = 288) : pRel T0 g pf v 288 (pX2_perform g mem pf pg (v 0) t z key ld 288) (pX8_does v qm qs qo qt qi qy) := by
  rw [pX8_does, e, if_neg (by decide), if_pos (by decide), if_neg (by decide), if_pos (by decide), if_neg (by decide), if_pos (by decide), if_neg (by decide), if_pos (by decide), if_neg (by decide), if_neg (by decide), if_neg (by decide), if_neg (by decide), if_neg (by decide), if_neg (by decide), if_neg (by decide), if_neg (by decide), if_pos (by decide), pX2_perform, if_neg (by decide), if_neg (by decide), if_neg (by decide), if_neg (by decide), if_neg (by decide), if_neg (by decide), if_pos (by decide), mLet_eq, pX2_end]
  exact p_end H (by decide) _ pg z key qt qi qy
theorem do_260 {T0 : Int} {g mem pf qm qs v ld qo : Nat → Int32} (H : PH T0 g mem pf qm qs v) (t pg z key qt qi qy : Nat → Int32) (hL : LD 260 ld qo) (e : v 7 = 260) : pRel T0 g pf v 260 (pX2_perform g mem pf pg (v 0) t z key ld 260) (pX8_does v qm qs qo qt qi qy) := by
  have l0 := (ld_at hL (k := 0) (by decide +kernel) (by decide +kernel) (by decide +kernel)).1
  rw [pX8_does, e, if_neg (by decide), if_pos (by decide), if_neg (by decide), if_pos (by decide), if_neg (by decide), if_pos (by decide), if_neg (by decide), if_pos (by decide), if_neg (by decide), if_neg (by decide), if_neg (by decide), if_neg (by decide), if_neg (by decide), if_neg (by decide), if_neg (by decide), if_pos (by decide), pX2_perform, if_neg (by decide), if_neg (by decide), if_neg (by decide), if_neg (by decide), if_neg (by decide), if_pos (by decide), if_pos (by decide), mLet_eq, pX2_jump, l0]
  exact p_jump H (by decide) _ pg z key qt qi qy
theorem do_256 {T0 : Int} {g mem pf qm qs v ld qo : Nat → Int32} (H : PH T0 g mem pf qm qs v) (t pg z key qt qi qy : Nat → Int32) (hL : LD 256 ld qo) (e : v 7 = 256) : pRel T0 g pf v 256 (pX2_perform g mem pf pg (v 0) t z key ld 256) (pX8_does v qm qs qo qt qi qy) := by
  have l0 := (ld_at hL (k := 0) (by decide +kernel) (by decide +kernel) (by decide +kernel)).1
  have l1 := (ld_at hL (k := 1) (by decide +kernel) (by decide +kernel) (by decide +kernel)).1
  rw [pX8_does, e, if_neg (by decide), if_pos (by decide), if_neg (by decide), if_pos (by decide), if_neg (by decide), if_pos (by decide), if_neg (by decide), if_pos (by decide), if_neg (by decide), if_neg (by decide), if_neg (by decide), if_neg (by decide), if_neg (by decide), if_neg (by decide), if_pos (by decide), mLet_eq, mLet_eq, pX8_gives, pX2_perform, if_neg (by decide), if_neg (by decide), if_neg (by decide), if_neg (by decide), if_neg (by decide), if_pos (by decide), if_neg (by decide), l0, ab_eq]
  exact p_give H pg z key qt qi qy (lw_w (by decide) _)
theorem do_64 {T0 : Int} {g mem pf qm qs v ld qo : Nat → Int32} (H : PH T0 g mem pf qm qs v) (t pg z key qt qi qy : Nat → Int32) (hL : LD 64 ld qo) (e : v 7 = 64) : pRel T0 g pf v 64 (pX2_perform g mem pf pg (v 0) t z key ld 64) (pX8_does v qm qs qo qt qi qy) := by
  have l0 := (ld_at hL (k := 0) (by decide +kernel) (by decide +kernel) (by decide +kernel)).1
  have w0 := (ld_at hL (k := 0) (by decide +kernel) (by decide +kernel) (by decide +kernel)).2
  rw [pX8_does, e, if_neg (by decide), if_pos (by decide), if_neg (by decide), if_pos (by decide), if_pos (by decide), if_pos (by decide), if_neg (by decide), if_pos (by decide), mLet_eq, pX8_gives, pX2_perform, if_neg (by decide), if_neg (by decide), if_neg (by decide), if_pos (by decide), if_neg (by decide), mLet_eq, pX4_result, if_neg (by decide), if_neg (by decide), if_neg (by decide), if_neg (by decide), if_neg (by decide), if_neg (by decide), if_neg (by decide), if_neg (by decide), if_neg (by decide), if_neg (by decide), if_neg (by decide), if_neg (by decide), if_neg (by decide), if_neg (by decide), if_neg (by decide), l0]
  exact p_give H pg z key qt qi qy w0
theorem do_65 {T0 : Int} {g mem pf qm qs v ld qo : Nat → Int32} (H : PH T0 g mem pf qm qs v) (t pg z key qt qi qy : Nat → Int32) (hL : LD 65 ld qo) (e : v 7 = 65) : pRel T0 g pf v 65 (pX2_perform g mem pf pg (v 0) t z key ld 65) (pX8_does v qm qs qo qt qi qy) := by
  have l0 := (ld_at hL (k := 0) (by decide +kernel) (by decide +kernel) (by decide +kernel)).1
  have w0 := (ld_at hL (k := 0) (by decide +kernel) (by decide +kernel) (by decide +kernel)).2
  rw [pX8_does, e, if_neg (by decide), if_pos (by decide), if_neg (by decide), if_pos (by decide), if_pos (by decide), if_pos (by decide), if_neg (by decide), if_neg (by decide), if_pos (by decide), mLet_eq, pX8_gives, pX2_perform, if_neg (by decide), if_neg (by decide), if_neg (by decide), if_pos (by decide), if_neg (by decide), mLet_eq, pX4_result, if_neg (by decide), if_neg (by decide), if_neg (by decide), if_neg (by decide), if_neg (by decide), if_neg (by decide), if_neg (by decide), if_neg (by decide), if_neg (by decide), if_neg (by decide), if_neg (by decide), if_neg (by decide), if_neg (by decide), if_neg (by decide), if_neg (by decide), l0]
  exact p_give H pg z key qt qi qy w0
theorem do_66 {T0 : Int} {g mem pf qm qs v ld qo : Nat → Int32} (H : PH T0 g mem pf qm qs v) (t pg z key qt qi qy : Nat → Int32) (hL : LD 66 ld qo) (e : v 7 = 66) : pRel T0 g pf v 66 (pX2_perform g mem pf pg (v 0) t z key ld 66) (pX8_does v qm qs qo qt qi qy) := by
  have l0 := (ld_at hL (k := 0) (by decide +kernel) (by decide +kernel) (by decide +kernel)).1
  have w0 := (ld_at hL (k := 0) (by decide +kernel) (by decide +kernel) (by decide +kernel)).2
  rw [pX8_does, e, if_neg (by decide), if_pos (by decide), if_neg (by decide), if_pos (by decide), if_pos (by decide), if_pos (by decide), if_neg (by decide), if_neg (by decide), if_neg (by decide), if_pos (by decide), mLet_eq, pX8_gives, pX2_perform, if_neg (by decide), if_neg (by decide), if_neg (by decide), if_pos (by decide), if_neg (by decide), mLet_eq, pX4_result, if_neg (by decide), if_neg (by decide), if_neg (by decide), if_neg (by decide), if_neg (by decide), if_neg (by decide), if_neg (by decide), if_neg (by decide), if_neg (by decide), if_neg (by decide), if_neg (by decide), if_neg (by decide), if_neg (by decide), if_neg (by decide), if_neg (by decide), l0]
  exact p_give H pg z key qt qi qy w0
theorem do_68 {T0 : Int} {g mem pf qm qs v ld qo : Nat → Int32} (H : PH T0 g mem pf qm qs v) (t pg z key qt qi qy : Nat → Int32) (hL : LD 68 ld qo) (e : v 7 = 68) : pRel T0 g pf v 68 (pX2_perform g mem pf pg (v 0) t z key ld 68) (pX8_does v qm qs qo qt qi qy) := by
  have l0 := (ld_at hL (k := 0) (by decide +kernel) (by decide +kernel) (by decide +kernel)).1
  have w0 := (ld_at hL (k := 0) (by decide +kernel) (by decide +kernel) (by decide +kernel)).2
  rw [pX8_does, e, if_neg (by decide), if_pos (by decide), if_neg (by decide), if_pos (by decide), if_pos (by decide), if_pos (by decide), if_neg (by decide), if_neg (by decide), if_neg (by decide), if_neg (by decide), if_pos (by decide), mLet_eq, pX8_gives, pX2_perform, if_neg (by decide), if_neg (by decide), if_neg (by decide), if_pos (by decide), if_neg (by decide), mLet_eq, pX4_result, if_neg (by decide), if_neg (by decide), if_neg (by decide), if_neg (by decide), if_neg (by decide), if_neg (by decide), if_neg (by decide), if_neg (by decide), if_neg (by decide), if_neg (by decide), if_neg (by decide), if_neg (by decide), if_neg (by decide), if_pos (by decide), l0]
  exact p_give H pg z key qt qi qy (lw_w (by decide) _)
theorem do_69 {T0 : Int} {g mem pf qm qs v ld qo : Nat → Int32} (H : PH T0 g mem pf qm qs v) (t pg z key qt qi qy : Nat → Int32) (hL : LD 69 ld qo) (e : v 7 = 69) : pRel T0 g pf v 69 (pX2_perform g mem pf pg (v 0) t z key ld 69) (pX8_does v qm qs qo qt qi qy) := by
  have l0 := (ld_at hL (k := 0) (by decide +kernel) (by decide +kernel) (by decide +kernel)).1
  have w0 := (ld_at hL (k := 0) (by decide +kernel) (by decide +kernel) (by decide +kernel)).2
  rw [pX8_does, e, if_neg (by decide), if_pos (by decide), if_neg (by decide), if_pos (by decide), if_pos (by decide), if_pos (by decide), if_neg (by decide), if_neg (by decide), if_neg (by decide), if_neg (by decide), if_neg (by decide), if_pos (by decide), mLet_eq, pX8_gives, pX2_perform, if_neg (by decide), if_neg (by decide), if_neg (by decide), if_pos (by decide), if_neg (by decide), mLet_eq, pX4_result, if_neg (by decide), if_neg (by decide), if_neg (by decide), if_neg (by decide), if_neg (by decide), if_neg (by decide), if_neg (by decide), if_neg (by decide), if_neg (by decide), if_neg (by decide), if_neg (by decide), if_neg (by decide), if_neg (by decide), if_neg (by decide), if_pos (by decide), l0]
  exact p_give H pg z key qt qi qy (lw_w (by decide) _)
theorem do_80 {T0 : Int} {g mem pf qm qs v ld qo : Nat → Int32} (H : PH T0 g mem pf qm qs v) (t pg z key qt qi qy : Nat → Int32) (hL : LD 80 ld qo) (e : v 7 = 80) : pRel T0 g pf v 80 (pX2_perform g mem pf pg (v 0) t z key ld 80) (pX8_does v qm qs qo qt qi qy) := by
  rw [pX8_does, e, if_neg (by decide), if_pos (by decide), if_neg (by decide), if_pos (by decide), if_neg (by decide), if_pos (by decide), if_neg (by decide), if_neg (by decide), mLet_eq, pX8_onStack, e, if_pos (by decide), mLet_eq, pX8_gives, pX2_perform, if_neg (by decide), if_neg (by decide), if_neg (by decide), if_neg (by decide), if_pos (by decide), mLet_eq, pX2_onPile, if_pos (by decide)]
  exact p_give H pg z key qt qi qy (lw_w (by decide) _)
theorem do_81 {T0 : Int} {g mem pf qm qs v ld qo : Nat → Int32} (H : PH T0 g mem pf qm qs v) (t pg z key qt qi qy : Nat → Int32) (hL : LD 81 ld qo) (e : v 7 = 81) : pRel T0 g pf v 81 (pX2_perform g mem pf pg (v 0) t z key ld 81) (pX8_does v qm qs qo qt qi qy) := by
  have l0 := (ld_at hL (k := 0) (by decide +kernel) (by decide +kernel) (by decide +kernel)).1
  rw [pX8_does, e, if_neg (by decide), if_pos (by decide), if_neg (by decide), if_pos (by decide), if_neg (by decide), if_pos (by decide), if_neg (by decide), if_neg (by decide), mLet_eq, pX8_onStack, e, if_neg (by decide), if_pos (by decide), pX2_perform, if_neg (by decide), if_neg (by decide), if_neg (by decide), if_neg (by decide), if_pos (by decide), mLet_eq, pX2_onPile, if_neg (by decide), if_pos (by decide), mLet_eq, pX2_peek, l0]
  generalize qo (Int32.toNatClampNeg 0) = x
  have z0 : Int32.toInt 0 = 0 := rfl
  have z1 : Int32.toInt 1 = 1 := rfl
  have hv := H.2.2.2.2.2.2.2.2.1
  have hT := H.2.2.2.2.2.2.2.2.2.1
  have hs := H.2.2.2.2.2.2.2.2.2.2
  by_cases c : x < 0
  · rw [if_pos c, if_pos c]; exact p_flt H 4 (by decide) pg z key qt qi qy
  · rw [if_neg c, if_neg c]
    by_cases d : x < v 0
    · have c' := c
      have d' := d
      rw [Int32.lt_iff_toInt_lt, z0] at c'
      rw [Int32.lt_iff_toInt_lt] at d'
      have hv1 := hv.1
      have hv2 := hv.2
      have e1 : (v 0 - 1).toInt = (v 0).toInt - 1 := by rw [ti_sub (by omega) (by omega), z1]
      have e2 : (v 0 - 1 - x).toInt = (v 0).toInt - 1 - x.toInt := by rw [ti_sub (by omega) (by omega), e1]
      have hcl := nat_clamp (x := v 0 - 1 - x) (by omega)
      rw [if_pos d, if_pos d, mLet_eq, pX8_gives, pX3_fromTop, if_neg c, if_neg (Int32.not_le.mpr d), cell_in (by omega) (by omega), hs _ (by omega)]
      exact p_give H pg z key qt qi qy (lw_w (by decide) _)
    · rw [if_neg d, if_neg d]; exact p_flt H 4 (by decide) pg z key qt qi qy
