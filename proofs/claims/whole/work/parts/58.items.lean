theorem may_eq {g v : Nat → Int32} (h0 : g 0 = v 2) (h5 : g 5 = 0) {a n : Int32} (hn : 0 ≤ n.toInt) : pX2_mayStore g a n = if pX8_isIn a n = 0 then (0, upd g 5 1) else if v 2 ≤ a then (1, g) else (0, upd g 5 8) := by
  rw [pX2_mayStore, h0, if_pos h5]
  by_cases c : pX8_isIn a n = 0
  · rw [if_pos c, if_pos ((holds_isIn hn).mpr c)]
  · rw [if_neg c, if_neg (fun q => c ((holds_isIn hn).mp q))]
theorem holds_neg {a n : Int32} (hn : n < 0) : pX0_holds 1024 a n = 0 := by
  rw [pX0_holds, if_pos hn]
  by_cases c : a < 0
  · rw [if_pos c]
  · rw [if_neg c]
theorem may_neg {g : Nat → Int32} {a n : Int32} (hn : n < 0) : pX2_mayStore g a n = (0, upd g 5 1) := by
  rw [pX2_mayStore, if_pos (holds_neg hn)]
theorem one_ne (x : Nat → Int32) : ¬ ((1 : Int32), x).1 = 0 := (by decide : ¬ (1 : Int32) = 0)
theorem nought_eq (x : Nat → Int32) : ((0 : Int32), x).1 = 0 := rfl
theorem st_all {T0 : Int} {g mem pf qm qs v : Nat → Int32} (H : PH T0 g mem pf qm qs v) {o : Int32} (ho : ¬ pX6_stores o = 1) (pg z key qt qi qy : Nat → Int32) {a w x y : Int32} (hw : 0 ≤ w.toInt ∧ w.toInt ≤ 4) (hx : ¬ pX8_isIn a w = 0 → x = y) : pRel T0 g pf v o (0, (pX2_storeMemory g mem a w x).1, (pX2_storeMemory g mem a w x).2, pf, pg, v 0, z, key) ((pX8_lays v qm a w y).1, v, (pX8_lays v qm a w y).2, qs, qt, qi, qy) := by
  rw [pX2_storeMemory, mLet_eq, may_eq H.2.2.2.2.2.2.2.1 H.2.1 hw.1, pX8_lays]
  by_cases c : pX8_isIn a w = 0
  · rw [if_pos c, if_pos c, if_pos (nought_eq _)]; exact p_flt H 1 (by decide) pg z key qt qi qy
  · rw [if_neg c, if_neg c, hx c]
    by_cases d : v 2 ≤ a
    · have i := (isIn_iff (by omega)).mp c
      rw [if_pos d, if_pos d, if_neg (one_ne _), mLet_eq]
      have e1 := (lays_lp y i.1 hw.1 i.2 ((Int32.toInt w - Int32.toInt 0).toNat + 1) qm 0 (by decide) (by have z0 : Int32.toInt 0 = 0 := rfl; omega)).1
      have m := p_mem H ho (put_lays H.1 y i.1 hw.1 hw.2 i.2) pg z key qt qi qy (a := 0)
      rw [e1]; exact m
    · rw [if_neg d, if_neg d, if_pos (nought_eq _)]; exact p_flt H 8 (by decide) pg z key qt qi qy
theorem or_not (m p : Int32) : (m &&& (p ^^^ (-1))) ||| p = m ||| p := by
  refine b_ext fun i hi => ?_
  rw [b_or, b_or, b_and, b_xor, b_m1 i hi]
  cases bt m i <;> cases bt p i <;> rfl
theorem pl_72 (x y : Int32) : pX2_itemPlace (72 &&& 3) x y = x + (4 * y) := by rw [pX2_itemPlace, if_pos (by decide)]
theorem wd_72 : pX2_itemWidth (72 &&& 3) = 4 := by decide +kernel
theorem do_72 {T0 : Int} {g mem pf qm qs v ld qo : Nat → Int32} (H : PH T0 g mem pf qm qs v) (t pg z key qt qi qy : Nat → Int32) (hL : LD 72 ld qo) (e : v 7 = 72) : pRel T0 g pf v 72 (pX2_perform g mem pf pg (v 0) t z key ld 72) (pX8_does v qm qs qo qt qi qy) := by
  have l0 := (ld_at hL (k := 0) (by decide +kernel) (by decide +kernel) (by decide +kernel)).1
  have l1 := (ld_at hL (k := 1) (by decide +kernel) (by decide +kernel) (by decide +kernel)).1

  rw [pX8_does, e, if_neg (by decide), if_pos (by decide), if_neg (by decide), if_pos (by decide), if_neg (by decide), if_neg (by decide), mLet_eq, pX8_items, e, if_pos (by decide), if_pos (by decide)]
  rw [pX2_perform, if_neg (by decide), if_neg (by decide), if_neg (by decide), if_pos (by decide), if_pos (by decide), mLet_eq, pX2_array, pl_72, wd_72, if_neg (by decide), l0, l1]
  generalize qo (Int32.toNatClampNeg 0) = x
  generalize qo (Int32.toNatClampNeg 1) = y
  by_cases c : pX8_isIn (x + (4 * y)) 4 = 0
  · rw [if_pos c, mLet_eq, pX2_fetch, if_pos ((holds_isIn (by decide)).mpr c)]
    rw [if_neg (by decide)]; exact p_flt H 1 (by decide) pg z key qt qi qy
  · rw [if_neg c, mLet_eq, if_neg (by decide), mLet_eq, pX8_gives]
    rw [mLet_eq, if_neg (by decide), pX2_fetch, if_neg (fun q => c ((holds_isIn (by decide)).mp q)), number_eq H.1 ((isIn_iff (by decide)).mp c)]
    exact p_give H pg z key qt qi qy (lw_w (by decide) _)
theorem pl_73 (x y : Int32) : pX2_itemPlace (73 &&& 3) x y = x + (2 * y) := by rw [pX2_itemPlace, if_neg (by decide), if_pos (by decide)]
theorem wd_73 : pX2_itemWidth (73 &&& 3) = 2 := by decide +kernel
theorem do_73 {T0 : Int} {g mem pf qm qs v ld qo : Nat → Int32} (H : PH T0 g mem pf qm qs v) (t pg z key qt qi qy : Nat → Int32) (hL : LD 73 ld qo) (e : v 7 = 73) : pRel T0 g pf v 73 (pX2_perform g mem pf pg (v 0) t z key ld 73) (pX8_does v qm qs qo qt qi qy) := by
  have l0 := (ld_at hL (k := 0) (by decide +kernel) (by decide +kernel) (by decide +kernel)).1
  have l1 := (ld_at hL (k := 1) (by decide +kernel) (by decide +kernel) (by decide +kernel)).1

  rw [pX8_does, e, if_neg (by decide), if_pos (by decide), if_neg (by decide), if_pos (by decide), if_neg (by decide), if_neg (by decide), mLet_eq, pX8_items, e, if_neg (by decide), if_neg (by decide), if_pos (by decide), if_pos (by decide)]
  rw [pX2_perform, if_neg (by decide), if_neg (by decide), if_neg (by decide), if_pos (by decide), if_pos (by decide), mLet_eq, pX2_array, pl_73, wd_73, if_neg (by decide), l0, l1]
  generalize qo (Int32.toNatClampNeg 0) = x
  generalize qo (Int32.toNatClampNeg 1) = y
  by_cases c : pX8_isIn (x + (2 * y)) 2 = 0
  · rw [if_pos c, mLet_eq, pX2_fetch, if_pos ((holds_isIn (by decide)).mpr c)]
    rw [if_neg (by decide)]; exact p_flt H 1 (by decide) pg z key qt qi qy
  · rw [if_neg c, mLet_eq, if_neg (by decide), mLet_eq, pX8_gives]
    rw [mLet_eq, if_neg (by decide), pX2_fetch, if_neg (fun q => c ((holds_isIn (by decide)).mp q)), number_eq H.1 ((isIn_iff (by decide)).mp c)]
    exact p_give H pg z key qt qi qy (lw_w (by decide) _)
theorem pl_74 (x y : Int32) : pX2_itemPlace (74 &&& 3) x y = x + y := by rw [pX2_itemPlace, if_neg (by decide), if_neg (by decide), if_pos (by decide)]
theorem wd_74 : pX2_itemWidth (74 &&& 3) = 1 := by decide +kernel
theorem do_74 {T0 : Int} {g mem pf qm qs v ld qo : Nat → Int32} (H : PH T0 g mem pf qm qs v) (t pg z key qt qi qy : Nat → Int32) (hL : LD 74 ld qo) (e : v 7 = 74) : pRel T0 g pf v 74 (pX2_perform g mem pf pg (v 0) t z key ld 74) (pX8_does v qm qs qo qt qi qy) := by
  have l0 := (ld_at hL (k := 0) (by decide +kernel) (by decide +kernel) (by decide +kernel)).1
  have l1 := (ld_at hL (k := 1) (by decide +kernel) (by decide +kernel) (by decide +kernel)).1

  rw [pX8_does, e, if_neg (by decide), if_pos (by decide), if_neg (by decide), if_pos (by decide), if_neg (by decide), if_neg (by decide), mLet_eq, pX8_items, e, if_neg (by decide), if_neg (by decide), if_neg (by decide), if_neg (by decide), if_pos (by decide), if_pos (by decide)]
  rw [pX2_perform, if_neg (by decide), if_neg (by decide), if_neg (by decide), if_pos (by decide), if_pos (by decide), mLet_eq, pX2_array, pl_74, wd_74, if_neg (by decide), l0, l1]
  generalize qo (Int32.toNatClampNeg 0) = x
  generalize qo (Int32.toNatClampNeg 1) = y
  by_cases c : pX8_isIn (x + y) 1 = 0
  · rw [if_pos c, mLet_eq, pX2_fetch, if_pos ((holds_isIn (by decide)).mpr c)]
    rw [if_neg (by decide)]; exact p_flt H 1 (by decide) pg z key qt qi qy
  · rw [if_neg c, if_neg (by decide), mLet_eq, pX8_gives]
    rw [mLet_eq, if_neg (by decide), pX2_fetch, if_neg (fun q => c ((holds_isIn (by decide)).mp q)), number_eq H.1 ((isIn_iff (by decide)).mp c)]
    exact p_give H pg z key qt qi qy (lw_w (by decide) _)
theorem pl_75 (x y : Int32) : pX2_itemPlace (75 &&& 3) x y = x + (y >>> (3 &&& 31)) := by rw [pX2_itemPlace, if_neg (by decide), if_neg (by decide), if_neg (by decide)]
theorem wd_75 : pX2_itemWidth (75 &&& 3) = 1 := by decide +kernel
theorem do_75 {T0 : Int} {g mem pf qm qs v ld qo : Nat → Int32} (H : PH T0 g mem pf qm qs v) (t pg z key qt qi qy : Nat → Int32) (hL : LD 75 ld qo) (e : v 7 = 75) : pRel T0 g pf v 75 (pX2_perform g mem pf pg (v 0) t z key ld 75) (pX8_does v qm qs qo qt qi qy) := by
  have l0 := (ld_at hL (k := 0) (by decide +kernel) (by decide +kernel) (by decide +kernel)).1
  have l1 := (ld_at hL (k := 1) (by decide +kernel) (by decide +kernel) (by decide +kernel)).1

  rw [pX8_does, e, if_neg (by decide), if_pos (by decide), if_neg (by decide), if_pos (by decide), if_neg (by decide), if_neg (by decide), mLet_eq, pX8_items, e, if_neg (by decide), if_neg (by decide), if_neg (by decide), if_neg (by decide), if_neg (by decide), if_neg (by decide), if_pos (by decide)]
  rw [pX2_perform, if_neg (by decide), if_neg (by decide), if_neg (by decide), if_pos (by decide), if_pos (by decide), mLet_eq, pX2_array, pl_75, wd_75, if_neg (by decide), l0, l1]
  generalize qo (Int32.toNatClampNeg 0) = x
  generalize qo (Int32.toNatClampNeg 1) = y
  by_cases c : pX8_isIn (x + (y >>> (3 &&& 31))) 1 = 0
  · rw [if_pos c, mLet_eq, pX2_fetch, if_pos ((holds_isIn (by decide)).mpr c)]
    rw [if_pos (by decide)]; exact p_flt H 1 (by decide) pg z key qt qi qy
  · rw [if_neg c, mLet_eq, if_pos (by decide), mLet_eq, pX8_gives]
    rw [mLet_eq, if_pos (by decide), pX2_fetch, if_neg (fun q => c ((holds_isIn (by decide)).mp q)), number_eq H.1 ((isIn_iff (by decide)).mp c)]
    exact p_give H pg z key qt qi qy (lw_w (by decide) _)
theorem pl_76 (x y : Int32) : pX2_itemPlace (76 &&& 3) x y = x + (4 * y) := by rw [pX2_itemPlace, if_pos (by decide)]
theorem wd_76 : pX2_itemWidth (76 &&& 3) = 4 := by decide +kernel
theorem do_76 {T0 : Int} {g mem pf qm qs v ld qo : Nat → Int32} (H : PH T0 g mem pf qm qs v) (t pg z key qt qi qy : Nat → Int32) (hL : LD 76 ld qo) (e : v 7 = 76) : pRel T0 g pf v 76 (pX2_perform g mem pf pg (v 0) t z key ld 76) (pX8_does v qm qs qo qt qi qy) := by
  have l0 := (ld_at hL (k := 0) (by decide +kernel) (by decide +kernel) (by decide +kernel)).1
  have l1 := (ld_at hL (k := 1) (by decide +kernel) (by decide +kernel) (by decide +kernel)).1
  have l2 := (ld_at hL (k := 2) (by decide +kernel) (by decide +kernel) (by decide +kernel)).1

  rw [pX8_does, e, if_neg (by decide), if_pos (by decide), if_neg (by decide), if_pos (by decide), if_neg (by decide), if_neg (by decide), mLet_eq, pX8_items, e, if_neg (by decide), if_pos (by decide), if_neg (by decide), if_neg (by decide)]
  rw [pX2_perform, if_neg (by decide), if_neg (by decide), if_neg (by decide), if_pos (by decide), if_pos (by decide), mLet_eq, pX2_array, pl_76, wd_76, if_pos (by decide), if_neg (by decide), l0, l1, l2]
  generalize qo (Int32.toNatClampNeg 0) = x
  generalize qo (Int32.toNatClampNeg 1) = y
  generalize qo (Int32.toNatClampNeg 2) = x3
  rw [mLet_eq, mLet_eq]
  exact st_all H (by decide) pg z key qt qi qy (by decide) (fun _ => rfl)
theorem pl_77 (x y : Int32) : pX2_itemPlace (77 &&& 3) x y = x + (2 * y) := by rw [pX2_itemPlace, if_neg (by decide), if_pos (by decide)]
theorem wd_77 : pX2_itemWidth (77 &&& 3) = 2 := by decide +kernel
theorem do_77 {T0 : Int} {g mem pf qm qs v ld qo : Nat → Int32} (H : PH T0 g mem pf qm qs v) (t pg z key qt qi qy : Nat → Int32) (hL : LD 77 ld qo) (e : v 7 = 77) : pRel T0 g pf v 77 (pX2_perform g mem pf pg (v 0) t z key ld 77) (pX8_does v qm qs qo qt qi qy) := by
  have l0 := (ld_at hL (k := 0) (by decide +kernel) (by decide +kernel) (by decide +kernel)).1
  have l1 := (ld_at hL (k := 1) (by decide +kernel) (by decide +kernel) (by decide +kernel)).1
  have l2 := (ld_at hL (k := 2) (by decide +kernel) (by decide +kernel) (by decide +kernel)).1

  rw [pX8_does, e, if_neg (by decide), if_pos (by decide), if_neg (by decide), if_pos (by decide), if_neg (by decide), if_neg (by decide), mLet_eq, pX8_items, e, if_neg (by decide), if_neg (by decide), if_neg (by decide), if_pos (by decide), if_neg (by decide), if_neg (by decide)]
  rw [pX2_perform, if_neg (by decide), if_neg (by decide), if_neg (by decide), if_pos (by decide), if_pos (by decide), mLet_eq, pX2_array, pl_77, wd_77, if_pos (by decide), if_neg (by decide), l0, l1, l2]
  generalize qo (Int32.toNatClampNeg 0) = x
  generalize qo (Int32.toNatClampNeg 1) = y
  generalize qo (Int32.toNatClampNeg 2) = x3
  rw [mLet_eq, mLet_eq]
  exact st_all H (by decide) pg z key qt qi qy (by decide) (fun _ => rfl)
theorem pl_78 (x y : Int32) : pX2_itemPlace (78 &&& 3) x y = x + y := by rw [pX2_itemPlace, if_neg (by decide), if_neg (by decide), if_pos (by decide)]
theorem wd_78 : pX2_itemWidth (78 &&& 3) = 1 := by decide +kernel
theorem do_78 {T0 : Int} {g mem pf qm qs v ld qo : Nat → Int32} (H : PH T0 g mem pf qm qs v) (t pg z key qt qi qy : Nat → Int32) (hL : LD 78 ld qo) (e : v 7 = 78) : pRel T0 g pf v 78 (pX2_perform g mem pf pg (v 0) t z key ld 78) (pX8_does v qm qs qo qt qi qy) := by
  have l0 := (ld_at hL (k := 0) (by decide +kernel) (by decide +kernel) (by decide +kernel)).1
  have l1 := (ld_at hL (k := 1) (by decide +kernel) (by decide +kernel) (by decide +kernel)).1
  have l2 := (ld_at hL (k := 2) (by decide +kernel) (by decide +kernel) (by decide +kernel)).1

  rw [pX8_does, e, if_neg (by decide), if_pos (by decide), if_neg (by decide), if_pos (by decide), if_neg (by decide), if_neg (by decide), mLet_eq, pX8_items, e, if_neg (by decide), if_neg (by decide), if_neg (by decide), if_neg (by decide), if_neg (by decide), if_pos (by decide), if_neg (by decide), if_neg (by decide)]
  rw [pX2_perform, if_neg (by decide), if_neg (by decide), if_neg (by decide), if_pos (by decide), if_pos (by decide), mLet_eq, pX2_array, pl_78, wd_78, if_pos (by decide), if_neg (by decide), l0, l1, l2]
  generalize qo (Int32.toNatClampNeg 0) = x
  generalize qo (Int32.toNatClampNeg 1) = y
  generalize qo (Int32.toNatClampNeg 2) = x3
  rw [mLet_eq, mLet_eq]
  exact st_all H (by decide) pg z key qt qi qy (by decide) (fun _ => rfl)
theorem pl_79 (x y : Int32) : pX2_itemPlace (79 &&& 3) x y = x + (y >>> (3 &&& 31)) := by rw [pX2_itemPlace, if_neg (by decide), if_neg (by decide), if_neg (by decide)]
theorem wd_79 : pX2_itemWidth (79 &&& 3) = 1 := by decide +kernel
theorem do_79 {T0 : Int} {g mem pf qm qs v ld qo : Nat → Int32} (H : PH T0 g mem pf qm qs v) (t pg z key qt qi qy : Nat → Int32) (hL : LD 79 ld qo) (e : v 7 = 79) : pRel T0 g pf v 79 (pX2_perform g mem pf pg (v 0) t z key ld 79) (pX8_does v qm qs qo qt qi qy) := by
  have l0 := (ld_at hL (k := 0) (by decide +kernel) (by decide +kernel) (by decide +kernel)).1
  have l1 := (ld_at hL (k := 1) (by decide +kernel) (by decide +kernel) (by decide +kernel)).1
  have l2 := (ld_at hL (k := 2) (by decide +kernel) (by decide +kernel) (by decide +kernel)).1

  rw [pX8_does, e, if_neg (by decide), if_pos (by decide), if_neg (by decide), if_pos (by decide), if_neg (by decide), if_neg (by decide), mLet_eq, pX8_items, e, if_neg (by decide), if_neg (by decide), if_neg (by decide), if_neg (by decide), if_neg (by decide), if_neg (by decide), if_neg (by decide), if_pos (by decide)]
  rw [pX2_perform, if_neg (by decide), if_neg (by decide), if_neg (by decide), if_pos (by decide), if_pos (by decide), mLet_eq, pX2_array, pl_79, wd_79, if_pos (by decide), if_pos (by decide), l0, l1, l2]
  generalize qo (Int32.toNatClampNeg 0) = x
  generalize qo (Int32.toNatClampNeg 1) = y
  generalize qo (Int32.toNatClampNeg 2) = x3
  rw [mLet_eq]
  by_cases c : pX8_isIn (x + (y >>> (3 &&& 31))) 1 = 0
  · rw [if_pos c, mLet_eq]
    by_cases d : x3 = 0
    · rw [if_pos d, mLet_eq]; exact st_all H (by decide) pg z key qt qi qy (by decide) (fun q => absurd c q)
    · rw [if_neg d, mLet_eq]; exact st_all H (by decide) pg z key qt qi qy (by decide) (fun q => absurd c q)
  · rw [if_neg c]
    have i := (isIn_iff (by decide)).mp c
    have o1 : Int32.toInt 1 = 1 := rfl
    have b : pX0_byteAt mem 1024 (x + (y >>> (3 &&& 31))) = qm (Int32.toNatClampNeg (x + (y >>> (3 &&& 31)))) := byteAt_eq (by decide) H.1 i.1 (by omega)
    by_cases d : x3 = 0
    · rw [if_pos d, if_pos d, mLet_eq, mLet_eq, b, pX2_withBit, if_pos (by decide)]; dsimp only; exact st_all H (by decide) pg z key qt qi qy (by decide) (fun _ => rfl)
    · rw [if_neg d, if_neg d, mLet_eq, mLet_eq, b, pX2_withBit, if_neg (by decide), or_not]; dsimp only; exact st_all H (by decide) pg z key qt qi qy (by decide) (fun _ => rfl)
theorem do_368 {T0 : Int} {g mem pf qm qs v ld qo : Nat → Int32} (H : PH T0 g mem pf qm qs v) (t pg z key qt qi qy : Nat → Int32) (hL : LD 368 ld qo) (e : v 7 = 368) : pRel T0 g pf v 368 (pX2_perform g mem pf pg (v 0) t z key ld 368) (pX8_does v qm qs qo qt qi qy) := by
  have l0 := (ld_at hL (k := 0) (by decide +kernel) (by decide +kernel) (by decide +kernel)).1
  have l1 := (ld_at hL (k := 1) (by decide +kernel) (by decide +kernel) (by decide +kernel)).1
  rw [pX8_does, e, if_neg (by decide), if_pos (by decide), if_neg (by decide), if_pos (by decide), if_neg (by decide), if_pos (by decide), if_neg (by decide), if_pos (by decide), if_neg (by decide), if_neg (by decide), if_neg (by decide), if_neg (by decide), if_neg (by decide), if_neg (by decide), if_neg (by decide), if_neg (by decide), if_neg (by decide), if_neg (by decide), if_neg (by decide), if_pos (by decide), mLet_eq, pX8_clears]
  rw [pX2_perform, if_neg (by decide), if_neg (by decide), if_neg (by decide), if_neg (by decide), if_neg (by decide), if_neg (by decide), if_neg (by decide), if_neg (by decide), if_pos (by decide), if_pos (by decide), mLet_eq, pX2_zeroBlock, l0, l1]
  generalize qo (Int32.toNatClampNeg 0) = x
  generalize qo (Int32.toNatClampNeg 1) = y
  by_cases c0 : x = 0
  · rw [if_pos c0, if_pos c0]; exact p_mem H (by decide) H.1 pg z key qt qi qy
  rw [if_neg c0, if_neg c0, mLet_eq]
  by_cases c1 : x < 0
  · rw [if_pos c1, may_neg c1, if_pos (nought_eq _)]; exact p_flt H 1 (by decide) pg z key qt qi qy
  have z0 : Int32.toInt 0 = 0 := rfl
  have z1 : Int32.toInt 1024 = 1024 := rfl
  have c1' : 0 ≤ x.toInt := by rw [Int32.lt_iff_toInt_lt] at c1; omega
  rw [if_neg c1, may_eq H.2.2.2.2.2.2.2.1 H.2.1 c1']
  have c2' : 1024 < x → pX8_isIn y x = 0 := by
    intro q
    rw [Int32.lt_iff_toInt_lt] at q
    refine Classical.byContradiction fun h => ?_
    have := (isIn_iff (by omega)).mp h
    omega
  by_cases c3 : pX8_isIn y x = 0
  · rw [if_pos c3, if_pos c3, if_pos (nought_eq _)]
    by_cases c2 : 1024 < x
    · rw [if_pos c2]; exact p_flt H 1 (by decide) pg z key qt qi qy
    · rw [if_neg c2]; exact p_flt H 1 (by decide) pg z key qt qi qy
  · rw [if_neg (fun q => c3 (c2' q)), if_neg c3, if_neg c3]
    by_cases d : v 2 ≤ y
    · have i := (isIn_iff (by omega)).mp c3
      rw [if_pos d, if_pos d, if_neg (one_ne _)]
      have e1 := (clears_lp i.1 i.2 ((Int32.toInt x - Int32.toInt 0).toNat + 1) qm 0 (by decide) (by omega)).1
      have m := p_mem H (o := 368) (by decide) (zero_clears H.1 i.1 c1' i.2) pg z key qt qi qy (a := 0)
      rw [e1]; exact m
    · rw [if_neg d, if_neg d, if_pos (nought_eq _)]; exact p_flt H 8 (by decide) pg z key qt qi qy
theorem do_369 {T0 : Int} {g mem pf qm qs v ld qo : Nat → Int32} (H : PH T0 g mem pf qm qs v) (t pg z key qt qi qy : Nat → Int32) (hL : LD 369 ld qo) (e : v 7 = 369) : pRel T0 g pf v 369 (pX2_perform g mem pf pg (v 0) t z key ld 369) (pX8_does v qm qs qo qt qi qy) := by
  have l0 := (ld_at hL (k := 0) (by decide +kernel) (by decide +kernel) (by decide +kernel)).1
  have l1 := (ld_at hL (k := 1) (by decide +kernel) (by decide +kernel) (by decide +kernel)).1
  have l2 := (ld_at hL (k := 2) (by decide +kernel) (by decide +kernel) (by decide +kernel)).1
  rw [pX8_does, e, if_neg (by decide), if_pos (by decide), if_neg (by decide), if_pos (by decide), if_neg (by decide), if_pos (by decide), if_neg (by decide), if_pos (by decide), if_neg (by decide), if_neg (by decide), if_neg (by decide), if_neg (by decide), if_neg (by decide), if_neg (by decide), if_neg (by decide), if_neg (by decide), if_neg (by decide), if_neg (by decide), if_neg (by decide), if_neg (by decide), if_pos (by decide), mLet_eq, pX8_copies]
  rw [pX2_perform, if_neg (by decide), if_neg (by decide), if_neg (by decide), if_neg (by decide), if_neg (by decide), if_neg (by decide), if_neg (by decide), if_neg (by decide), if_pos (by decide), if_neg (by decide), mLet_eq, pX2_copyBlock, l0, l1, l2]
  generalize qo (Int32.toNatClampNeg 0) = x
  generalize qo (Int32.toNatClampNeg 1) = y
  generalize qo (Int32.toNatClampNeg 2) = a
  by_cases c0 : x = 0
  · rw [if_pos c0, if_pos c0]; exact p_mem H (by decide) H.1 pg z key qt qi qy
  rw [if_neg c0, if_neg c0]
  by_cases c1 : x < 0
  · rw [if_pos c1, if_pos (holds_neg c1)]; exact p_flt H 1 (by decide) pg z key qt qi qy
  have z0 : Int32.toInt 0 = 0 := rfl
  have z1 : Int32.toInt 1024 = 1024 := rfl
  have c1' : 0 ≤ x.toInt := by rw [Int32.lt_iff_toInt_lt] at c1; omega
  rw [if_neg c1]
  have c2' : 1024 < x → pX8_isIn y x = 0 := by
    intro q
    rw [Int32.lt_iff_toInt_lt] at q
    refine Classical.byContradiction fun h => ?_
    have := (isIn_iff (by omega)).mp h
    omega
  by_cases c3 : pX8_isIn y x = 0
  · rw [if_pos c3, if_pos ((holds_isIn c1').mpr c3)]
    by_cases c2 : 1024 < x
    · rw [if_pos c2]; exact p_flt H 1 (by decide) pg z key qt qi qy
    · rw [if_neg c2]; exact p_flt H 1 (by decide) pg z key qt qi qy
  · rw [if_neg (fun q => c3 (c2' q)), if_neg c3, if_neg (fun q => c3 ((holds_isIn c1').mp q)), mLet_eq, may_eq H.2.2.2.2.2.2.2.1 H.2.1 c1']
    by_cases c4 : pX8_isIn a x = 0
    · rw [if_pos c4, if_pos c4, if_pos (nought_eq _)]; exact p_flt H 1 (by decide) pg z key qt qi qy
    rw [if_neg c4, if_neg c4]
    by_cases d : v 2 ≤ a
    · have i := (isIn_iff (by omega)).mp c3
      have i2 := (isIn_iff (by omega)).mp c4
      rw [if_pos d, if_pos d, if_neg (one_ne _)]
      obtain ⟨w, z', ew, hw⟩ := move_copies (qi := qi) H.1 c1' i2.1 i2.2 i.1 i.2
      rw [ew]; exact p_mem H (by decide) hw pg z key qt z' qy
    · rw [if_neg d, if_neg d, if_pos (nought_eq _)]; exact p_flt H 8 (by decide) pg z key qt qi qy
