theorem upd_same (f : Nat → Int32) (k : Nat) (x : Int32) : upd f k x k = x := upd_at.trans (if_pos rfl)
theorem upd_ne (f : Nat → Int32) {k j : Nat} (x : Int32) (h : j ≠ k) : upd f k x j = f j := upd_at.trans (if_neg h)
def lw (w x : Int32) : Prop := pX8_lowest x w = x
def w124 (w : Int32) : Prop := w = 1 ∨ w = 2 ∨ w = 4
theorem lw_four (x : Int32) : lw 4 x := by rw [lw, pX8_lowest, if_pos rfl]
theorem lw_two {x : Int32} (h : x &&& 65535 = x) : lw 2 x := by rw [lw, pX8_lowest, if_neg (by decide), if_pos rfl, h]
theorem lw_one {x : Int32} (h : x &&& 255 = x) : lw 1 x := by rw [lw, pX8_lowest, if_neg (by decide), if_neg (by decide), h]
theorem lw_low {w : Int32} (hw : w124 w) (x : Int32) : lw w (pX8_lowest x w) := by
  rcases hw with e | e | e
  · rw [e, pX8_lowest, if_neg (by decide), if_neg (by decide)]; exact lw_one (by rw [Int32.and_assoc, Int32.and_self])
  · rw [e, pX8_lowest, if_neg (by decide), if_pos rfl]; exact lw_two (by rw [Int32.and_assoc, Int32.and_self])
  · rw [e]; exact lw_four _
theorem by_low {b : Nat} (h : b < 256) : nI b &&& 255 = nI b := (by decide +kernel : ∀ b, b < 256 → nI b &&& 255 = nI b) b h
theorem by_two {x y : Int32} (hx : x &&& 255 = x) (hy : y &&& 255 = y) : ((x <<< ((8 : Int32) &&& 31)) ||| y) &&& 65535 = ((x <<< ((8 : Int32) &&& 31)) ||| y) := by
  refine b_ext fun i hi => ?_
  have e8 : (8 : Int32) = nI 8 := by decide
  have hxi : ∀ i, 8 ≤ i → bt x i = false := by
    intro i hi; rw [← hx, b_and, b_255, decide_eq_false (by omega), Bool.and_false]
  have hyi : ∀ i, 8 ≤ i → bt y i = false := by
    intro i hi; rw [← hy, b_and, b_255, decide_eq_false (by omega), Bool.and_false]
  rw [b_and, b_or, b_65535, e8, b_shl 8 (by decide) x hi]
  rcases Nat.lt_or_ge i 16 with c | c
  · rw [decide_eq_true c, Bool.and_true]
  · rw [decide_eq_false (show ¬ i < 16 by omega), Bool.and_false, hxi (i - 8) (by omega), hyi i (by omega), Bool.and_false, Bool.or_false]
theorem lw_num {mem qm : Nat → Int32} (h : RB 1024 mem qm) {w a : Int32} (hw : w124 w) (hb : 0 ≤ a.toInt ∧ a.toInt + w.toInt ≤ 1024) : lw w (pX8_numberAt qm a w) := by
  have z1 : Int32.toInt 1 = 1 := rfl
  have z2 : Int32.toInt 2 = 2 := rfl
  rcases hw with e | e | e
  · subst e
    have hcl := nat_clamp hb.1
    obtain ⟨b, hb2, eb⟩ := rb_byte h (j := a.toNatClampNeg) (by omega)
    rw [number_one, eb]; exact lw_one (by_low hb2)
  · subst e
    have ea : (a + (0 + 1)).toInt = a.toInt + 1 := by rw [show ((0 : Int32) + 1) = 1 by decide, ti_add (by omega) (by omega), z1]
    have hcl := nat_clamp hb.1
    have hcl2 := nat_clamp (x := a + (0 + 1)) (by omega)
    obtain ⟨b, hb2, eb⟩ := rb_byte h (j := a.toNatClampNeg) (by omega)
    obtain ⟨b', hb3, eb3⟩ := rb_byte h (j := (a + (0 + 1)).toNatClampNeg) (by omega)
    have en : pX8_numberAt qm a 2 = (qm a.toNatClampNeg <<< ((8 : Int32) &&& 31)) ||| qm (a + (0 + 1)).toNatClampNeg := by
      show pX8_numberAt_lp5 qm a 2 3 0 0 = _
      rw [pX8_numberAt_lp5, if_neg (by decide), pX8_numberAt_lp5, if_neg (by decide), pX8_numberAt_lp5, if_pos (by decide), Int32.add_zero, show ((0 : Int32) <<< (8 &&& 31)) = 0 by decide, Int32.zero_or]
    rw [en, eb, eb3]; exact lw_two (by_two (by_low hb2) (by_low hb3))
  · rw [e]; exact lw_four _
theorem loc_num (ql : Nat → Int32) (a w : Int32) : pX8_localAt ql a w = pX8_numberAt ql a w := by
  have key : ∀ (n_ : Nat) (k3 k4 : Int32), pX8_localAt_lp5 ql a w n_ k3 k4 = pX8_numberAt_lp5 ql a w n_ k3 k4 := by
    intro n_
    induction n_ with
    | zero => intro k3 k4; rfl
    | succ n_ ih =>
      intro k3 k4
      rw [pX8_localAt_lp5, pX8_numberAt_lp5, ih]
  exact key _ _ _
theorem lw_loc {mem qm : Nat → Int32} (h : RB 64 mem qm) {w a : Int32} (hw : w124 w) (hb : 0 ≤ a.toInt ∧ a.toInt + w.toInt ≤ 64) : lw w (pX8_localAt qm a w) := by
  rw [loc_num]
  have h' : RB 1024 (fun j => if j < 64 then mem j else 0) (fun j => if j < 64 then qm j else 0) := by
    intro j _
    show (if j < 64 then qm j else 0) = (if j < 64 then mem j else 0) &&& 255
    by_cases c : j < 64
    · rw [if_pos c, if_pos c, h j c]
    · rw [if_neg c, if_neg c]; decide
  have key : ∀ (n_ : Nat) (k3 k4 : Int32), 0 ≤ k4.toInt → (w.toInt - k4.toInt).toNat < n_ → pX8_numberAt_lp5 qm a w n_ k3 k4 = pX8_numberAt_lp5 (fun j => if j < 64 then qm j else 0) a w n_ k3 k4 := by
    intro n_
    induction n_ with
    | zero => intro k3 k4 _ h; exact absurd h (Nat.not_lt_zero _)
    | succ n_ ih =>
      intro k3 k4 h0 h1
      rw [pX8_numberAt_lp5, pX8_numberAt_lp5]
      by_cases c : w ≤ k4
      · rw [if_pos c, if_pos c]
      · have ed := i32_add1 c
        have g3 := ms_up c h1
        rw [if_neg c, if_neg c]
        rw [Int32.le_iff_toInt_le] at c
        have ea : (a + k4).toInt = a.toInt + k4.toInt := ti_add (by omega) (by omega)
        have hcl := nat_clamp (x := a + k4) (by omega)
        rw [if_pos (show (a + k4).toNatClampNeg < 64 by omega)]
        exact ih _ _ (by rw [ed]; omega) g3
  have z0 : Int32.toInt 0 = 0 := rfl
  have e := key ((Int32.toInt w - Int32.toInt 0).toNat + 1) 0 0 (by rw [z0]; omega) (by omega)
  have e' : pX8_numberAt qm a w = pX8_numberAt (fun j => if j < 64 then qm j else 0) a w := e
  rw [e']
  exact lw_num h' hw ⟨hb.1, by omega⟩
def lRel (g v qo : Nat → Int32) (k : Int32) (c : Int32 × (Nat → Int32) × Int32) (r : Int32 × (Nat → Int32) × (Nat → Int32)) : Prop :=
  c.2.1 5 = r.1 ∧ (∀ i : Nat, i ≠ 5 → c.2.1 i = g i) ∧ c.2.2 = r.2.1 0 ∧ (∀ i : Nat, i ≠ 0 → r.2.1 i = v i) ∧ (0 ≤ (r.2.1 0).toInt ∧ (r.2.1 0).toInt ≤ (v 0).toInt) ∧ (r.1 = 0 → r.2.2 = upd qo k.toNatClampNeg c.1 ∧ lw (g 3) c.1)
theorem l_ok {g v qo : Nat → Int32} {k a : Int32} (h5 : g 5 = 0) (hv : Tp v) (ha : lw (g 3) a) : lRel g v qo k (a, g, v 0) (0, v, upd qo k.toNatClampNeg a) := ⟨h5, fun _ _ => rfl, rfl, fun _ _ => rfl, ⟨hv.1, Int.le_refl _⟩, fun _ => ⟨rfl, ha⟩⟩
theorem l_flt {g v qo : Nat → Int32} {k a : Int32} (f : Int32) (hf : ¬ f = 0) (hv : Tp v) : lRel g v qo k (a, upd g 5 f, v 0) (f, v, qo) := ⟨upd_same g 5 f, fun _ hi => upd_ne g f hi, rfl, fun _ _ => rfl, ⟨hv.1, Int.le_refl _⟩, fun h => absurd h hf⟩
theorem lowest_eq (g : Nat → Int32) (x : Int32) : pX2_lowest g x = pX8_lowest x (g 3) := rfl
theorem low_zero (w : Int32) : pX8_lowest 0 w = 0 := by
  rw [pX8_lowest, show (0 : Int32) &&& 65535 = 0 by decide, show (0 : Int32) &&& 255 = 0 by decide]
  by_cases c : w = 4
  · rw [if_pos c]
  · rw [if_neg c]
    by_cases d : w = 2
    · rw [if_pos d]
    · rw [if_neg d]
theorem cell_in {f : Nat → Int32} {k : Int32} (h0 : 0 ≤ k.toInt) (h1 : k.toInt < 40) : pX3_cell f k = f k.toNatClampNeg := by
  have z8 : Int32.toInt 40 = 40 := rfl
  have z0 : Int32.toInt 0 = 0 := rfl
  rw [pX3_cell, if_neg (by rw [Int32.lt_iff_toInt_lt]; omega), if_neg (by rw [Int32.le_iff_toInt_le]; omega)]
theorem fetch_load {mem qm g v qo : Nat → Int32} (h : RB 1024 mem qm) {k a : Int32} (hw : 0 ≤ (g 3).toInt) (hw2 : w124 (g 3)) (h5 : g 5 = 0) (hv : Tp v) : lRel g v qo k (mLet (pX2_fetch g mem a (g 3)) (fun (u : Int32 × (Nat → Int32)) => (u.1, u.2, v 0))) (if pX8_isIn a (g 3) = 0 then (1, v, qo) else mLet (pX8_numberAt qm a (g 3)) (fun (u172 : Int32) => (0, v, upd qo k.toNatClampNeg u172))) := by
  have hi := holds_isIn (a := a) hw
  rw [mLet_eq, pX2_fetch]
  by_cases c : pX8_isIn a (g 3) = 0
  · rw [if_pos (hi.mpr c), if_pos c]; exact l_flt 1 (by decide) hv
  · have hb := (isIn_iff (a := a) (n := g 3) (by omega)).mp c
    rw [if_neg (fun q => c (hi.mp q)), if_neg c, mLet_eq, number_eq h hb]; exact l_ok h5 hv (lw_num h hw2 hb)
theorem local_load {loc ql g v qo : Nat → Int32} (h : RB 64 loc ql) {k a : Int32} (hw : 0 ≤ (g 3).toInt ∧ (g 3).toInt ≤ 4) (hw2 : w124 (g 3)) (h5 : g 5 = 0) (hv : Tp v) : lRel g v qo k (mLet (pX2_loadLocal g loc a) (fun (u : Int32 × (Nat → Int32)) => (u.1, u.2, v 0))) (if a < 0 then (7, v, qo) else if a ≤ 64 - g 3 then mLet (pX8_localAt ql a (g 3)) (fun (u126 : Int32) => (0, v, upd qo k.toNatClampNeg u126)) else (7, v, qo)) := by
  have z0 : Int32.toInt 0 = 0 := rfl
  have z64 : Int32.toInt 64 = 64 := rfl
  have es : (64 - g 3).toInt = 64 - (g 3).toInt := by rw [ti_sub (by omega) (by omega), z64]
  have hi := holds_iff (n := 64) (x1 := a) (x2 := g 3) (by decide)
  rw [mLet_eq, pX2_loadLocal]
  by_cases c : 0 ≤ a.toInt ∧ a.toInt + (g 3).toInt ≤ 64
  · have c1 : ¬ a < 0 := by rw [Int32.lt_iff_toInt_lt, z0]; omega
    have c2 : a ≤ 64 - g 3 := by rw [Int32.le_iff_toInt_le, es]; omega
    rw [if_neg (hi.mpr ⟨c.1, hw.1, c.2⟩), if_neg c1, if_pos c2, mLet_eq, local_eq h c]; exact l_ok h5 hv (lw_loc h hw2 c)
  · have c0 : pX0_holds 64 a (g 3) = 0 := Decidable.byContradiction (fun q => c (by have := hi.mp q; omega))
    rw [if_pos c0]
    by_cases d : a < 0
    · rw [if_pos d]; exact l_flt 7 (by decide) hv
    · have d2 : ¬ a ≤ 64 - g 3 := by rw [Int32.lt_iff_toInt_lt, z0] at d; rw [Int32.le_iff_toInt_le, es]; omega
      rw [if_neg d, if_neg d2]; exact l_flt 7 (by decide) hv
theorem top_load {pf qs g v qo : Nat → Int32} {k : Int32} (hs : ∀ j : Nat, (j : Int) < (v 0).toInt → pf j = qs j) (hw2 : w124 (g 3)) (h5 : g 5 = 0) (hv : Tp v) : lRel g v qo k (mLet (pX2_loadTop g pf (v 0)) (fun (u109 : Int32 × (Nat → Int32) × Int32) => (u109.1, u109.2.1, u109.2.2))) (if v 0 = 0 then (4, v, qo) else mLet (pX8_lowest (qs (v 0 - 1).toNatClampNeg) (g 3)) (fun (u82 : Int32) => (0, upd v 0 (v 0 - 1), upd qo k.toNatClampNeg u82))) := by
  have z0 : Int32.toInt 0 = 0 := rfl
  have z1 : Int32.toInt 1 = 1 := rfl
  rw [mLet_eq, pX2_loadTop]
  by_cases c : v 0 = 0
  · rw [if_pos c, if_pos c]; exact l_flt 4 (by decide) hv
  · have hv0 := hv.1
    have hv1 := hv.2
    have cn : (v 0).toInt ≠ 0 := fun q => c (Int32.toInt_inj.mp q)
    have e1 : (v 0 - 1).toInt = (v 0).toInt - 1 := by rw [ti_sub (by omega) (by omega), z1]
    have hcl := nat_clamp (x := v 0 - 1) (by omega)
    have c1 : (0 : Int32) < v 0 := by rw [Int32.lt_iff_toInt_lt, z0]; omega
    rw [if_neg c, if_neg c, mLet_eq, mLet_eq, pX3_takeOff, if_pos c1, cell_in (by omega) (by omega), hs _ (by omega), lowest_eq]
    refine ⟨h5, fun _ _ => rfl, (upd_same v 0 (v 0 - 1)).symm, fun i hi => upd_ne v (v 0 - 1) hi, ?_, fun _ => ⟨rfl, lw_low hw2 _⟩⟩
    show 0 ≤ (upd v 0 (v 0 - 1) 0).toInt ∧ (upd v 0 (v 0 - 1) 0).toInt ≤ (v 0).toInt
    rw [upd_at, if_pos rfl, e1]
    omega
theorem lo_0 {mem qm loc ql pf qs fm fn g v qd qn qo : Nat → Int32} (h : RB 1024 mem qm) (hl : RB 64 loc ql) {k : Int32} (hk : 0 ≤ k.toInt ∧ k.toInt < 8) (hm : fm k.toNatClampNeg = qd k.toNatClampNeg) (hn : fn k.toNatClampNeg = qn k.toNatClampNeg) (hw : 0 ≤ (g 3).toInt ∧ (g 3).toInt ≤ 4) (hw2 : w124 (g 3)) (h0 : g 0 = v 2) (h5 : g 5 = 0) (hs : ∀ j : Nat, (j : Int) < (v 0).toInt → pf j = qs j) (hv : Tp v) (e : qd k.toNatClampNeg = 0) : lRel g v qo k (pX2_loadOperand g mem loc pf (v 0) fm fn k) (pX8_load v qm ql qs qd qn qo k (g 3)) := by
  rw [pX2_loadOperand, pX8_load, modeOf_in hk.1 hk.2, numberOf_in hk.1 hk.2, hm, hn, e, if_neg (by decide), if_neg (by decide), if_neg (by decide), if_neg (by decide), if_neg (by decide), if_neg (by decide), if_neg (by decide), if_neg (by decide), if_neg (by decide), if_neg (by decide), if_neg (by decide), if_neg (by decide), if_neg (by decide), if_neg (by decide), if_pos rfl]
  rw [low_zero]; exact l_ok h5 hv (low_zero _)
theorem lo_1 {mem qm loc ql pf qs fm fn g v qd qn qo : Nat → Int32} (h : RB 1024 mem qm) (hl : RB 64 loc ql) {k : Int32} (hk : 0 ≤ k.toInt ∧ k.toInt < 8) (hm : fm k.toNatClampNeg = qd k.toNatClampNeg) (hn : fn k.toNatClampNeg = qn k.toNatClampNeg) (hw : 0 ≤ (g 3).toInt ∧ (g 3).toInt ≤ 4) (hw2 : w124 (g 3)) (h0 : g 0 = v 2) (h5 : g 5 = 0) (hs : ∀ j : Nat, (j : Int) < (v 0).toInt → pf j = qs j) (hv : Tp v) (e : qd k.toNatClampNeg = 1) : lRel g v qo k (pX2_loadOperand g mem loc pf (v 0) fm fn k) (pX8_load v qm ql qs qd qn qo k (g 3)) := by
  rw [pX2_loadOperand, pX8_load, modeOf_in hk.1 hk.2, numberOf_in hk.1 hk.2, hm, hn, e, if_pos rfl, if_neg (by decide), if_neg (by decide)]
  rw [mLet_eq, mLet_eq, lowest_eq]; exact l_ok h5 hv (lw_low hw2 _)
theorem lo_2 {mem qm loc ql pf qs fm fn g v qd qn qo : Nat → Int32} (h : RB 1024 mem qm) (hl : RB 64 loc ql) {k : Int32} (hk : 0 ≤ k.toInt ∧ k.toInt < 8) (hm : fm k.toNatClampNeg = qd k.toNatClampNeg) (hn : fn k.toNatClampNeg = qn k.toNatClampNeg) (hw : 0 ≤ (g 3).toInt ∧ (g 3).toInt ≤ 4) (hw2 : w124 (g 3)) (h0 : g 0 = v 2) (h5 : g 5 = 0) (hs : ∀ j : Nat, (j : Int) < (v 0).toInt → pf j = qs j) (hv : Tp v) (e : qd k.toNatClampNeg = 2) : lRel g v qo k (pX2_loadOperand g mem loc pf (v 0) fm fn k) (pX8_load v qm ql qs qd qn qo k (g 3)) := by
  rw [pX2_loadOperand, pX8_load, modeOf_in hk.1 hk.2, numberOf_in hk.1 hk.2, hm, hn, e, if_neg (by decide), if_pos rfl, if_neg (by decide), if_neg (by decide)]
  rw [mLet_eq, mLet_eq, lowest_eq]; exact l_ok h5 hv (lw_low hw2 _)
theorem lo_3 {mem qm loc ql pf qs fm fn g v qd qn qo : Nat → Int32} (h : RB 1024 mem qm) (hl : RB 64 loc ql) {k : Int32} (hk : 0 ≤ k.toInt ∧ k.toInt < 8) (hm : fm k.toNatClampNeg = qd k.toNatClampNeg) (hn : fn k.toNatClampNeg = qn k.toNatClampNeg) (hw : 0 ≤ (g 3).toInt ∧ (g 3).toInt ≤ 4) (hw2 : w124 (g 3)) (h0 : g 0 = v 2) (h5 : g 5 = 0) (hs : ∀ j : Nat, (j : Int) < (v 0).toInt → pf j = qs j) (hv : Tp v) (e : qd k.toNatClampNeg = 3) : lRel g v qo k (pX2_loadOperand g mem loc pf (v 0) fm fn k) (pX8_load v qm ql qs qd qn qo k (g 3)) := by
  rw [pX2_loadOperand, pX8_load, modeOf_in hk.1 hk.2, numberOf_in hk.1 hk.2, hm, hn, e, if_neg (by decide), if_neg (by decide), if_pos rfl, if_neg (by decide), if_neg (by decide)]
  rw [mLet_eq, mLet_eq, lowest_eq]; exact l_ok h5 hv (lw_low hw2 _)
theorem lo_5 {mem qm loc ql pf qs fm fn g v qd qn qo : Nat → Int32} (h : RB 1024 mem qm) (hl : RB 64 loc ql) {k : Int32} (hk : 0 ≤ k.toInt ∧ k.toInt < 8) (hm : fm k.toNatClampNeg = qd k.toNatClampNeg) (hn : fn k.toNatClampNeg = qn k.toNatClampNeg) (hw : 0 ≤ (g 3).toInt ∧ (g 3).toInt ≤ 4) (hw2 : w124 (g 3)) (h0 : g 0 = v 2) (h5 : g 5 = 0) (hs : ∀ j : Nat, (j : Int) < (v 0).toInt → pf j = qs j) (hv : Tp v) (e : qd k.toNatClampNeg = 5) : lRel g v qo k (pX2_loadOperand g mem loc pf (v 0) fm fn k) (pX8_load v qm ql qs qd qn qo k (g 3)) := by
  rw [pX2_loadOperand, pX8_load, modeOf_in hk.1 hk.2, numberOf_in hk.1 hk.2, hm, hn, e, if_neg (by decide), if_neg (by decide), if_neg (by decide), if_pos rfl, if_pos (by decide), if_neg (by decide), if_pos (by decide), if_pos (by decide)]
  exact fetch_load h hw.1 hw2 h5 hv
theorem lo_6 {mem qm loc ql pf qs fm fn g v qd qn qo : Nat → Int32} (h : RB 1024 mem qm) (hl : RB 64 loc ql) {k : Int32} (hk : 0 ≤ k.toInt ∧ k.toInt < 8) (hm : fm k.toNatClampNeg = qd k.toNatClampNeg) (hn : fn k.toNatClampNeg = qn k.toNatClampNeg) (hw : 0 ≤ (g 3).toInt ∧ (g 3).toInt ≤ 4) (hw2 : w124 (g 3)) (h0 : g 0 = v 2) (h5 : g 5 = 0) (hs : ∀ j : Nat, (j : Int) < (v 0).toInt → pf j = qs j) (hv : Tp v) (e : qd k.toNatClampNeg = 6) : lRel g v qo k (pX2_loadOperand g mem loc pf (v 0) fm fn k) (pX8_load v qm ql qs qd qn qo k (g 3)) := by
  rw [pX2_loadOperand, pX8_load, modeOf_in hk.1 hk.2, numberOf_in hk.1 hk.2, hm, hn, e, if_neg (by decide), if_neg (by decide), if_neg (by decide), if_neg (by decide), if_pos rfl, if_pos (by decide), if_neg (by decide), if_pos (by decide), if_pos (by decide)]
  exact fetch_load h hw.1 hw2 h5 hv
theorem lo_7 {mem qm loc ql pf qs fm fn g v qd qn qo : Nat → Int32} (h : RB 1024 mem qm) (hl : RB 64 loc ql) {k : Int32} (hk : 0 ≤ k.toInt ∧ k.toInt < 8) (hm : fm k.toNatClampNeg = qd k.toNatClampNeg) (hn : fn k.toNatClampNeg = qn k.toNatClampNeg) (hw : 0 ≤ (g 3).toInt ∧ (g 3).toInt ≤ 4) (hw2 : w124 (g 3)) (h0 : g 0 = v 2) (h5 : g 5 = 0) (hs : ∀ j : Nat, (j : Int) < (v 0).toInt → pf j = qs j) (hv : Tp v) (e : qd k.toNatClampNeg = 7) : lRel g v qo k (pX2_loadOperand g mem loc pf (v 0) fm fn k) (pX8_load v qm ql qs qd qn qo k (g 3)) := by
  rw [pX2_loadOperand, pX8_load, modeOf_in hk.1 hk.2, numberOf_in hk.1 hk.2, hm, hn, e, if_neg (by decide), if_neg (by decide), if_neg (by decide), if_neg (by decide), if_neg (by decide), if_pos rfl, if_pos (by decide), if_neg (by decide), if_pos (by decide), if_pos (by decide)]
  exact fetch_load h hw.1 hw2 h5 hv
theorem lo_8 {mem qm loc ql pf qs fm fn g v qd qn qo : Nat → Int32} (h : RB 1024 mem qm) (hl : RB 64 loc ql) {k : Int32} (hk : 0 ≤ k.toInt ∧ k.toInt < 8) (hm : fm k.toNatClampNeg = qd k.toNatClampNeg) (hn : fn k.toNatClampNeg = qn k.toNatClampNeg) (hw : 0 ≤ (g 3).toInt ∧ (g 3).toInt ≤ 4) (hw2 : w124 (g 3)) (h0 : g 0 = v 2) (h5 : g 5 = 0) (hs : ∀ j : Nat, (j : Int) < (v 0).toInt → pf j = qs j) (hv : Tp v) (e : qd k.toNatClampNeg = 8) : lRel g v qo k (pX2_loadOperand g mem loc pf (v 0) fm fn k) (pX8_load v qm ql qs qd qn qo k (g 3)) := by
  rw [pX2_loadOperand, pX8_load, modeOf_in hk.1 hk.2, numberOf_in hk.1 hk.2, hm, hn, e, if_neg (by decide), if_neg (by decide), if_neg (by decide), if_neg (by decide), if_neg (by decide), if_neg (by decide), if_pos rfl, if_pos (by decide), if_pos rfl]
  exact top_load hs hw2 h5 hv
theorem lo_9 {mem qm loc ql pf qs fm fn g v qd qn qo : Nat → Int32} (h : RB 1024 mem qm) (hl : RB 64 loc ql) {k : Int32} (hk : 0 ≤ k.toInt ∧ k.toInt < 8) (hm : fm k.toNatClampNeg = qd k.toNatClampNeg) (hn : fn k.toNatClampNeg = qn k.toNatClampNeg) (hw : 0 ≤ (g 3).toInt ∧ (g 3).toInt ≤ 4) (hw2 : w124 (g 3)) (h0 : g 0 = v 2) (h5 : g 5 = 0) (hs : ∀ j : Nat, (j : Int) < (v 0).toInt → pf j = qs j) (hv : Tp v) (e : qd k.toNatClampNeg = 9) : lRel g v qo k (pX2_loadOperand g mem loc pf (v 0) fm fn k) (pX8_load v qm ql qs qd qn qo k (g 3)) := by
  rw [pX2_loadOperand, pX8_load, modeOf_in hk.1 hk.2, numberOf_in hk.1 hk.2, hm, hn, e, if_neg (by decide), if_neg (by decide), if_neg (by decide), if_neg (by decide), if_neg (by decide), if_neg (by decide), if_neg (by decide), if_pos rfl, if_pos (by decide), if_neg (by decide), if_neg (by decide), if_neg (by decide)]
  exact local_load hl hw hw2 h5 hv
theorem lo_10 {mem qm loc ql pf qs fm fn g v qd qn qo : Nat → Int32} (h : RB 1024 mem qm) (hl : RB 64 loc ql) {k : Int32} (hk : 0 ≤ k.toInt ∧ k.toInt < 8) (hm : fm k.toNatClampNeg = qd k.toNatClampNeg) (hn : fn k.toNatClampNeg = qn k.toNatClampNeg) (hw : 0 ≤ (g 3).toInt ∧ (g 3).toInt ≤ 4) (hw2 : w124 (g 3)) (h0 : g 0 = v 2) (h5 : g 5 = 0) (hs : ∀ j : Nat, (j : Int) < (v 0).toInt → pf j = qs j) (hv : Tp v) (e : qd k.toNatClampNeg = 10) : lRel g v qo k (pX2_loadOperand g mem loc pf (v 0) fm fn k) (pX8_load v qm ql qs qd qn qo k (g 3)) := by
  rw [pX2_loadOperand, pX8_load, modeOf_in hk.1 hk.2, numberOf_in hk.1 hk.2, hm, hn, e, if_neg (by decide), if_neg (by decide), if_neg (by decide), if_neg (by decide), if_neg (by decide), if_neg (by decide), if_neg (by decide), if_neg (by decide), if_pos rfl, if_pos (by decide), if_neg (by decide), if_neg (by decide), if_neg (by decide)]
  exact local_load hl hw hw2 h5 hv
theorem lo_11 {mem qm loc ql pf qs fm fn g v qd qn qo : Nat → Int32} (h : RB 1024 mem qm) (hl : RB 64 loc ql) {k : Int32} (hk : 0 ≤ k.toInt ∧ k.toInt < 8) (hm : fm k.toNatClampNeg = qd k.toNatClampNeg) (hn : fn k.toNatClampNeg = qn k.toNatClampNeg) (hw : 0 ≤ (g 3).toInt ∧ (g 3).toInt ≤ 4) (hw2 : w124 (g 3)) (h0 : g 0 = v 2) (h5 : g 5 = 0) (hs : ∀ j : Nat, (j : Int) < (v 0).toInt → pf j = qs j) (hv : Tp v) (e : qd k.toNatClampNeg = 11) : lRel g v qo k (pX2_loadOperand g mem loc pf (v 0) fm fn k) (pX8_load v qm ql qs qd qn qo k (g 3)) := by
  rw [pX2_loadOperand, pX8_load, modeOf_in hk.1 hk.2, numberOf_in hk.1 hk.2, hm, hn, e, if_neg (by decide), if_neg (by decide), if_neg (by decide), if_neg (by decide), if_neg (by decide), if_neg (by decide), if_neg (by decide), if_neg (by decide), if_neg (by decide), if_pos rfl, if_pos (by decide), if_neg (by decide), if_neg (by decide), if_neg (by decide)]
  exact local_load hl hw hw2 h5 hv
theorem lo_13 {mem qm loc ql pf qs fm fn g v qd qn qo : Nat → Int32} (h : RB 1024 mem qm) (hl : RB 64 loc ql) {k : Int32} (hk : 0 ≤ k.toInt ∧ k.toInt < 8) (hm : fm k.toNatClampNeg = qd k.toNatClampNeg) (hn : fn k.toNatClampNeg = qn k.toNatClampNeg) (hw : 0 ≤ (g 3).toInt ∧ (g 3).toInt ≤ 4) (hw2 : w124 (g 3)) (h0 : g 0 = v 2) (h5 : g 5 = 0) (hs : ∀ j : Nat, (j : Int) < (v 0).toInt → pf j = qs j) (hv : Tp v) (e : qd k.toNatClampNeg = 13) : lRel g v qo k (pX2_loadOperand g mem loc pf (v 0) fm fn k) (pX8_load v qm ql qs qd qn qo k (g 3)) := by
  rw [pX2_loadOperand, pX8_load, modeOf_in hk.1 hk.2, numberOf_in hk.1 hk.2, hm, hn, e, if_neg (by decide), if_neg (by decide), if_neg (by decide), if_neg (by decide), if_neg (by decide), if_neg (by decide), if_neg (by decide), if_neg (by decide), if_neg (by decide), if_neg (by decide), if_pos rfl, if_pos (by decide), if_neg (by decide), if_neg (by decide), if_pos (by decide), if_neg (by decide)]
  rw [h0]; exact fetch_load h hw.1 hw2 h5 hv
theorem lo_14 {mem qm loc ql pf qs fm fn g v qd qn qo : Nat → Int32} (h : RB 1024 mem qm) (hl : RB 64 loc ql) {k : Int32} (hk : 0 ≤ k.toInt ∧ k.toInt < 8) (hm : fm k.toNatClampNeg = qd k.toNatClampNeg) (hn : fn k.toNatClampNeg = qn k.toNatClampNeg) (hw : 0 ≤ (g 3).toInt ∧ (g 3).toInt ≤ 4) (hw2 : w124 (g 3)) (h0 : g 0 = v 2) (h5 : g 5 = 0) (hs : ∀ j : Nat, (j : Int) < (v 0).toInt → pf j = qs j) (hv : Tp v) (e : qd k.toNatClampNeg = 14) : lRel g v qo k (pX2_loadOperand g mem loc pf (v 0) fm fn k) (pX8_load v qm ql qs qd qn qo k (g 3)) := by
  rw [pX2_loadOperand, pX8_load, modeOf_in hk.1 hk.2, numberOf_in hk.1 hk.2, hm, hn, e, if_neg (by decide), if_neg (by decide), if_neg (by decide), if_neg (by decide), if_neg (by decide), if_neg (by decide), if_neg (by decide), if_neg (by decide), if_neg (by decide), if_neg (by decide), if_neg (by decide), if_pos rfl, if_pos (by decide), if_neg (by decide), if_neg (by decide), if_pos (by decide), if_neg (by decide)]
  rw [h0]; exact fetch_load h hw.1 hw2 h5 hv
theorem lo_15 {mem qm loc ql pf qs fm fn g v qd qn qo : Nat → Int32} (h : RB 1024 mem qm) (hl : RB 64 loc ql) {k : Int32} (hk : 0 ≤ k.toInt ∧ k.toInt < 8) (hm : fm k.toNatClampNeg = qd k.toNatClampNeg) (hn : fn k.toNatClampNeg = qn k.toNatClampNeg) (hw : 0 ≤ (g 3).toInt ∧ (g 3).toInt ≤ 4) (hw2 : w124 (g 3)) (h0 : g 0 = v 2) (h5 : g 5 = 0) (hs : ∀ j : Nat, (j : Int) < (v 0).toInt → pf j = qs j) (hv : Tp v) (e : qd k.toNatClampNeg = 15) : lRel g v qo k (pX2_loadOperand g mem loc pf (v 0) fm fn k) (pX8_load v qm ql qs qd qn qo k (g 3)) := by
  rw [pX2_loadOperand, pX8_load, modeOf_in hk.1 hk.2, numberOf_in hk.1 hk.2, hm, hn, e, if_neg (by decide), if_neg (by decide), if_neg (by decide), if_neg (by decide), if_neg (by decide), if_neg (by decide), if_neg (by decide), if_neg (by decide), if_neg (by decide), if_neg (by decide), if_neg (by decide), if_neg (by decide), if_pos rfl, if_pos (by decide), if_neg (by decide), if_neg (by decide), if_pos (by decide), if_neg (by decide)]
  rw [h0]; exact fetch_load h hw.1 hw2 h5 hv
theorem lo_all {mem qm loc ql pf qs fm fn g v qd qn qo : Nat → Int32} (h : RB 1024 mem qm) (hl : RB 64 loc ql) {k : Int32} (hk : 0 ≤ k.toInt ∧ k.toInt < 8) (hm : fm k.toNatClampNeg = qd k.toNatClampNeg) (hn : fn k.toNatClampNeg = qn k.toNatClampNeg) (hw : 0 ≤ (g 3).toInt ∧ (g 3).toInt ≤ 4) (hw2 : w124 (g 3)) (h0 : g 0 = v 2) (h5 : g 5 = 0) (hs : ∀ j : Nat, (j : Int) < (v 0).toInt → pf j = qs j) (hv : Tp v) (hb : 0 ≤ (qd k.toNatClampNeg).toInt ∧ (qd k.toNatClampNeg).toInt ≤ 15 ∧ ¬ qd k.toNatClampNeg = 4 ∧ ¬ qd k.toNatClampNeg = 12) : lRel g v qo k (pX2_loadOperand g mem loc pf (v 0) fm fn k) (pX8_load v qm ql qs qd qn qo k (g 3)) := by
  obtain ⟨b0, b1, b2, b3⟩ := hb
  by_cases e0 : qd k.toNatClampNeg = 0
  · exact lo_0 h hl hk hm hn hw hw2 h0 h5 hs hv e0
  by_cases e1 : qd k.toNatClampNeg = 1
  · exact lo_1 h hl hk hm hn hw hw2 h0 h5 hs hv e1
  by_cases e2 : qd k.toNatClampNeg = 2
  · exact lo_2 h hl hk hm hn hw hw2 h0 h5 hs hv e2
  by_cases e3 : qd k.toNatClampNeg = 3
  · exact lo_3 h hl hk hm hn hw hw2 h0 h5 hs hv e3
  by_cases e4 : qd k.toNatClampNeg = 4
  · exact absurd e4 b2
  by_cases e5 : qd k.toNatClampNeg = 5
  · exact lo_5 h hl hk hm hn hw hw2 h0 h5 hs hv e5
  by_cases e6 : qd k.toNatClampNeg = 6
  · exact lo_6 h hl hk hm hn hw hw2 h0 h5 hs hv e6
  by_cases e7 : qd k.toNatClampNeg = 7
  · exact lo_7 h hl hk hm hn hw hw2 h0 h5 hs hv e7
  by_cases e8 : qd k.toNatClampNeg = 8
  · exact lo_8 h hl hk hm hn hw hw2 h0 h5 hs hv e8
  by_cases e9 : qd k.toNatClampNeg = 9
  · exact lo_9 h hl hk hm hn hw hw2 h0 h5 hs hv e9
  by_cases e10 : qd k.toNatClampNeg = 10
  · exact lo_10 h hl hk hm hn hw hw2 h0 h5 hs hv e10
  by_cases e11 : qd k.toNatClampNeg = 11
  · exact lo_11 h hl hk hm hn hw hw2 h0 h5 hs hv e11
  by_cases e12 : qd k.toNatClampNeg = 12
  · exact absurd e12 b3
  by_cases e13 : qd k.toNatClampNeg = 13
  · exact lo_13 h hl hk hm hn hw hw2 h0 h5 hs hv e13
  by_cases e14 : qd k.toNatClampNeg = 14
  · exact lo_14 h hl hk hm hn hw hw2 h0 h5 hs hv e14
  by_cases e15 : qd k.toNatClampNeg = 15
  · exact lo_15 h hl hk hm hn hw hw2 h0 h5 hs hv e15
  have n0 : ¬ (qd k.toNatClampNeg).toInt = 0 := fun q => e0 (Int32.toInt_inj.mp q)
  have n1 : ¬ (qd k.toNatClampNeg).toInt = 1 := fun q => e1 (Int32.toInt_inj.mp q)
  have n2 : ¬ (qd k.toNatClampNeg).toInt = 2 := fun q => e2 (Int32.toInt_inj.mp q)
  have n3 : ¬ (qd k.toNatClampNeg).toInt = 3 := fun q => e3 (Int32.toInt_inj.mp q)
  have n4 : ¬ (qd k.toNatClampNeg).toInt = 4 := fun q => e4 (Int32.toInt_inj.mp q)
  have n5 : ¬ (qd k.toNatClampNeg).toInt = 5 := fun q => e5 (Int32.toInt_inj.mp q)
  have n6 : ¬ (qd k.toNatClampNeg).toInt = 6 := fun q => e6 (Int32.toInt_inj.mp q)
  have n7 : ¬ (qd k.toNatClampNeg).toInt = 7 := fun q => e7 (Int32.toInt_inj.mp q)
  have n8 : ¬ (qd k.toNatClampNeg).toInt = 8 := fun q => e8 (Int32.toInt_inj.mp q)
  have n9 : ¬ (qd k.toNatClampNeg).toInt = 9 := fun q => e9 (Int32.toInt_inj.mp q)
  have n10 : ¬ (qd k.toNatClampNeg).toInt = 10 := fun q => e10 (Int32.toInt_inj.mp q)
  have n11 : ¬ (qd k.toNatClampNeg).toInt = 11 := fun q => e11 (Int32.toInt_inj.mp q)
  have n12 : ¬ (qd k.toNatClampNeg).toInt = 12 := fun q => e12 (Int32.toInt_inj.mp q)
  have n13 : ¬ (qd k.toNatClampNeg).toInt = 13 := fun q => e13 (Int32.toInt_inj.mp q)
  have n14 : ¬ (qd k.toNatClampNeg).toInt = 14 := fun q => e14 (Int32.toInt_inj.mp q)
  have n15 : ¬ (qd k.toNatClampNeg).toInt = 15 := fun q => e15 (Int32.toInt_inj.mp q)
  exact absurd b1 (by omega)
