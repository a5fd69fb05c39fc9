def cT (t f g mem : Nat → Int32) (x w o : Int32) : Int32 × (Nat → Int32) × (Nat → Int32) × (Nat → Int32) :=
  if 0 ≤ pX6_loadsOf o then (if pX6_stores o = 0 then cB (upd (upd (upd t 0 o) 1 (pX6_loadsOf o)) 2 (pX6_loadsOf o)) f g mem x w (pX6_loadsOf o) else cB (upd (upd (upd t 0 o) 1 (pX6_loadsOf o)) 2 (pX6_loadsOf o + 1)) f g mem x w (pX6_loadsOf o + 1)) else (3, upd (upd t 0 o) 1 (pX6_loadsOf o), f, g)
def rT (v qm qd qn : Nat → Int32) (x w o : Int32) : Int32 × (Nat → Int32) × (Nat → Int32) × (Nat → Int32) :=
  mLet (pX8_operands o) (fun (u100 : Int32) => if 0 ≤ u100 then rB (upd (upd v 7 o) 8 u100) qm qd qn x w u100 else (3, upd (upd v 7 o) 8 u100, qd, qn))
theorem upd3 {t : Nat → Int32} {a b c : Int32} : upd (upd (upd t 0 a) 1 b) 2 c 0 = a ∧ upd (upd (upd t 0 a) 1 b) 2 c 1 = b ∧ upd (upd (upd t 0 a) 1 b) 2 c 2 = c := by
  refine ⟨?_, ?_, ?_⟩
  · rw [upd_at, if_neg (by decide), upd_at, if_neg (by decide), upd_at, if_pos rfl]
  · rw [upd_at, if_neg (by decide), upd_at, if_pos rfl]
  · rw [upd_at, if_pos rfl]
theorem upd78 {v : Nat → Int32} {a b : Int32} : upd (upd v 7 a) 8 b 7 = a ∧ upd (upd v 7 a) 8 b 8 = b := by
  refine ⟨?_, ?_⟩
  · rw [upd_at, if_neg (by decide), upd_at, if_pos rfl]
  · rw [upd_at, if_pos rfl]
theorem tail_eq {mem qm : Nat → Int32} (h : RB 1024 mem qm) (t f g v qn : Nat → Int32) {qd : Nat → Int32} {x w : Int32} (o : Int32) (hq : nnQ qd) (hx : 0 ≤ x.toInt) (hw : 1 ≤ w.toInt) (hb : x.toInt + w.toInt ≤ 1024) : dRel x (cT t f g mem x w o) (rT v qm qd qn x w o) := by
  have z0 : Int32.toInt 0 = 0 := rfl
  have z1 : Int32.toInt 1 = 1 := rfl
  rcases op_ok o with ⟨e1, e2⟩ | ⟨h0, h7, ⟨e1, e2, e3⟩ | ⟨e1, e2, e3⟩⟩
  · rw [cT, rT, mLet_eq, e2, if_neg (by rw [e1]; decide), if_neg (by decide)]
    exact dRel_bad (by decide)
  · have c0 : (0 : Int32) ≤ pX6_loadsOf o := by rw [Int32.le_iff_toInt_le, z0]; exact h0
    have u := upd3 (t := t) (a := o) (b := pX6_loadsOf o) (c := pX6_loadsOf o)
    have y := upd78 (v := v) (a := o) (b := pX6_loadsOf o)
    rw [cT, rT, mLet_eq, e2, if_pos c0, if_pos e1, if_pos c0]
    refine body_eq h hq u.2.2 y.2 (by rw [u.1, y.1]) (by rw [u.2.1, y.1]) hx hw hb ⟨h0, by omega⟩ (fun k k0 k1 => ?_)
    rw [u.2.1, y.1, e3]
    have zm : Int32.toInt (-2) = -2 := rfl
    constructor
    · intro q; rw [Int32.lt_iff_toInt_lt] at q; exact absurd k1 q
    · intro q; rw [q, zm] at k0; omega
  · have c0 : (0 : Int32) ≤ pX6_loadsOf o := by rw [Int32.le_iff_toInt_le, z0]; exact h0
    have ed : (pX6_loadsOf o + 1).toInt = (pX6_loadsOf o).toInt + 1 := by rw [ti_add (by omega) (by omega), z1]
    have c1 : (0 : Int32) ≤ pX6_loadsOf o + 1 := by rw [Int32.le_iff_toInt_le, z0, ed]; omega
    have u := upd3 (t := t) (a := o) (b := pX6_loadsOf o) (c := pX6_loadsOf o + 1)
    have y := upd78 (v := v) (a := o) (b := pX6_loadsOf o + 1)
    rw [cT, rT, mLet_eq, e2, if_pos c0, if_neg (by rw [e1]; decide), if_pos c1]
    refine body_eq h hq u.2.2 y.2 (by rw [u.1, y.1]) (by rw [u.2.1, y.1]) hx hw hb ⟨by rw [ed]; omega, by rw [ed]; omega⟩ (fun k k0 k1 => ?_)
    rw [u.2.1, y.1, e3]
    rw [ed] at k1
    constructor
    · intro q; rw [Int32.lt_iff_toInt_lt] at q; exact Int32.toInt_inj.mp (by omega)
    · intro q; rw [q]; exact fun r => Int32.lt_irrefl r
theorem number_one (qm : Nat → Int32) (x : Int32) : pX8_numberAt qm x 1 = qm x.toNatClampNeg := by
  show pX8_numberAt_lp5 qm x 1 2 0 0 = _
  rw [pX8_numberAt_lp5, if_neg (by decide), pX8_numberAt_lp5, if_pos (by decide), Int32.add_zero, show ((0 : Int32) <<< (8 &&& 31)) = 0 by decide, Int32.zero_or]
theorem decode_un (t f g mem : Nat → Int32) (x : Int32) : pX1_decode t f g mem x = mLet (pX1_operationWidth (pX0_byteAt mem 1024 x)) (fun (u5 : Int32) => if pX0_holds 1024 x u5 = 0 then (1, t, f, g) else mLet (pX1_operationOf (pX0_number mem 1024 x u5) u5) (fun (u28 : Int32) => cT t f g mem x u5 u28)) := by
  delta pX1_decode cT cB
  with_reducible rfl
theorem apart_un (v qm qd qn : Nat → Int32) (x : Int32) : pX8_takeApart v qm qd qn x = (if x < 0 then (1, v, qd, qn) else (if x ≤ 1023 then (if 128 ≤ (qm (Int32.toNatClampNeg x)) then (if 192 ≤ (qm (Int32.toNatClampNeg x)) then (if (x + 4) ≤ 1024 then rT v qm qd qn x 4 ((pX8_numberAt qm x 4) &&& 268435455) else (1, v, qd, qn)) else (if (x + 2) ≤ 1024 then rT v qm qd qn x 2 ((pX8_numberAt qm x 2) &&& 16383) else (1, v, qd, qn))) else (if (x + 1) ≤ 1024 then rT v qm qd qn x 1 (qm (Int32.toNatClampNeg x)) else (1, v, qd, qn))) else (1, v, qd, qn))) := by
  delta pX8_takeApart rT rB
  with_reducible rfl
theorem decode_eq {mem qm : Nat → Int32} (h : RB 1024 mem qm) (t f g v qn : Nat → Int32) {qd : Nat → Int32} (x : Int32) (hq : nnQ qd) : dRel x (pX1_decode t f g mem x) (pX8_takeApart v qm qd qn x) := by
  have z0 : Int32.toInt 0 = 0 := rfl
  have z1 : Int32.toInt 1 = 1 := rfl
  have z2 : Int32.toInt 2 = 2 := rfl
  have z4 : Int32.toInt 4 = 4 := rfl
  have zk : Int32.toInt 1024 = 1024 := rfl
  have z3 : Int32.toInt 1023 = 1023 := rfl
  rw [decode_un, apart_un, mLet_eq]
  by_cases c : 0 ≤ x.toInt ∧ x.toInt ≤ 1023
  · have k1 : ¬ x < 0 := by rw [Int32.lt_iff_toInt_lt]; omega
    have k2 : x ≤ 1023 := by rw [Int32.le_iff_toInt_le]; omega
    rw [byteAt_eq (by decide) h c.1 (by omega), if_neg k1, if_pos k2]
    have key : ∀ w : Int32, 1 ≤ w.toInt → w.toInt ≤ 4 → ∀ o : Int32, (x.toInt + w.toInt ≤ 1024 → pX1_operationOf (pX8_numberAt qm x w) w = o) → dRel x (if pX0_holds 1024 x w = 0 then (1, t, f, g) else mLet (pX1_operationOf (pX0_number mem 1024 x w) w) (fun (u28 : Int32) => cT t f g mem x w u28)) (if (x + w) ≤ 1024 then rT v qm qd qn x w o else (1, v, qd, qn)) := by
      intro w w1 w4 o ho
      have hh := holds_iff (n := 1024) (x1 := x) (x2 := w) (by decide)
      have ea : (x + w).toInt = x.toInt + w.toInt := ti_add (by omega) (by omega)
      by_cases d : x.toInt + w.toInt ≤ 1024
      · rw [if_neg (hh.mpr ⟨c.1, by omega, d⟩), if_pos (by rw [Int32.le_iff_toInt_le, ea, zk]; exact d), mLet_eq, number_eq h ⟨c.1, d⟩, ho d]
        exact tail_eq h t f g v qn o hq c.1 w1 d
      · have c1 : pX0_holds 1024 x w = 0 := Decidable.byContradiction (fun q => d (by have := hh.mp q; omega))
        rw [if_pos c1, if_neg (by rw [Int32.le_iff_toInt_le, ea, zk]; exact d)]
        exact dRel_bad (by decide)
    by_cases d1 : 128 ≤ qm x.toNatClampNeg
    · rw [if_pos d1]
      by_cases d2 : 192 ≤ qm x.toNatClampNeg
      · rw [if_pos d2, pX1_operationWidth, if_pos d1, if_pos d2]
        exact key 4 (by rw [z4]; decide) (by rw [z4]; decide) _ (fun _ => by rw [pX1_operationOf, if_neg (by decide), if_neg (by decide)])
      · rw [if_neg d2, pX1_operationWidth, if_pos d1, if_neg d2]
        exact key 2 (by rw [z2]; decide) (by rw [z2]; decide) _ (fun _ => by rw [pX1_operationOf, if_neg (by decide), if_pos rfl])
    · rw [if_neg d1, pX1_operationWidth, if_neg d1]
      exact key 1 (by rw [z1]; decide) (by rw [z1]; decide) _ (fun _ => by rw [pX1_operationOf, if_pos rfl, number_one])
  · have e0 : pX0_byteAt mem 1024 x = 0 := byteAt_out (by decide) mem (by omega)
    have c1 : pX0_holds 1024 x 1 = 0 := Decidable.byContradiction (fun q => by have := (holds_iff (n := 1024) (x1 := x) (x2 := 1) (by decide)).mp q; omega)
    rw [e0, show pX1_operationWidth 0 = 1 by decide, if_pos c1]
    by_cases d : x < 0
    · rw [if_pos d]; exact dRel_bad (by decide)
    · have k2 : ¬ x ≤ 1023 := by rw [Int32.lt_iff_toInt_lt] at d; rw [Int32.le_iff_toInt_le]; omega
      rw [if_neg d, if_neg k2]; exact dRel_bad (by decide)
