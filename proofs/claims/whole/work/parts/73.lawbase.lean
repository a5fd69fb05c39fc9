theorem at_left {α : Type} (u w : List α) (n : Nat) (h : u.length = n) : (List.range n).map (fun i => (u ++ w)[i]?) = u.map some := by
  subst h
  apply List.ext_getElem?
  intro k
  rw [List.getElem?_map, List.getElem?_map]
  by_cases c : k < u.length
  · rw [List.getElem?_range c, Option.map_some, List.getElem?_append_left c, List.getElem?_eq_getElem c]; rfl
  · rw [List.getElem?_eq_none (by rw [List.length_range]; omega), List.getElem?_eq_none (l := u) (by omega)]; rfl
theorem at_right {α : Type} (u w : List α) (n m : Nat) (h : u.length = n) (hw : w.length = m) : (List.range' n m).map (fun i => (u ++ w)[i]?) = w.map some := by
  subst h
  subst hw
  apply List.ext_getElem?
  intro k
  rw [List.getElem?_map, List.getElem?_map]
  by_cases c : k < w.length
  · rw [List.getElem?_range' c, Option.map_some, Nat.one_mul, List.getElem?_append_right (by omega), Nat.add_sub_cancel_left, List.getElem?_eq_getElem c]; rfl
  · rw [List.getElem?_eq_none (by rw [List.length_range']; omega), List.getElem?_eq_none (l := w) (by omega)]; rfl
theorem put_from : ∀ (x pre u w : va_W) (n : Nat), pre.length = n → u.length = x.length → mPut (pre ++ (u ++ w)) (List.range' n x.length) x = pre ++ (x ++ w) := by
  intro x
  induction x with
  | nil => intro pre u w n h1 h2; cases u with | nil => rfl | cons _ _ => simp at h2
  | cons y x ih =>
    intro pre u w n h1 h2
    cases u with
    | nil => simp at h2
    | cons z u =>
      have e : (pre ++ (z :: u ++ w)).set n y = (pre ++ [y]) ++ (u ++ w) := by
        subst h1
        rw [List.set_append_right _ _ (by omega), Nat.sub_self, List.append_assoc]; rfl
      show mPut ((pre ++ (z :: u ++ w)).set n y) (List.range' (n + 1) x.length) x = _
      rw [e, ih (pre ++ [y]) u w (n + 1) (by rw [List.length_append, h1]; rfl) (by simpa using h2), List.append_assoc]; rfl
theorem put_left (u w x : va_W) (n : Nat) (h : u.length = n) (hx : x.length = n) : mPut (u ++ w) (List.range n) x = x ++ w := by
  have := put_from x [] u w 0 rfl (h.trans hx.symm)
  rw [hx] at this
  rw [List.range_eq_range']
  exact this
theorem put_right (u w x : va_W) (n m : Nat) (h : u.length = n) (hw : w.length = m) (hx : x.length = m) : mPut (u ++ w) (List.range' n m) x = u ++ x := by
  have := put_from x u w [] n h (hw.trans hx.symm)
  rw [hx, List.append_nil, List.append_nil] at this
  exact this
section LB
variable {p : Program} {l : Launch} {e : Env} {R : Room} {s : State} {m : MethodId} {args : Array Value} {below : List Frame} {meth : Method} {c : Code} {H : Heap} {locs : List Loc} {cells slots : Nat} {Q : State → Prop}
variable {cc : ByteArray} {pc nL : Nat} {ls : Array Slot} {rest : List Value} {D : va_G} {A : Nat → Prop} {cB cI : ClassId} {own : String}
theorem m_VL {y : MethodName} {cb : ByteArray} {k n idx b : Nat} {rt : Option FieldType} {rm : Room} {As : List Value} {wc w1 wr : va_W} {r : Option Int32} {ci N : Nat} {T : u_T} {fs st0 st1 : List Value} (X : mCx p s m args c cc nL own D cB cI) (V : mWd D A s (wc ++ wr) H locs)
    (hM : mM l D cB cI y cb k rt rm (.ref b :: As) wc r w1) (hO : mOk y cb k rt n) (hI : Cond.instanceMethod y ∈ gW) (hE : Cond.selects y.cls y y ∈ gW) (hN : Cond.methodLink own idx y ∈ gW)
    (hl0 : wc.length = 22) (hl1 : w1.length = 22) (hR : (rm.cells = 0 ∧ rm.slots = 0) ∧ (rm.frames + 1 ≤ R.frames ∧ 8 + (k + 11) + rm.locals ≤ R.locals) ∧ cells ≤ R.cells ∧ slots ≤ R.slots) (hci : vwCl[ci]? = some (y.cls, T, N)) (hrec : wc[0]? = some (b, .inr (ci, fs)))
    {L : List Nat} (hw1 : w1.map Prod.fst = L) (hw0 : wc.map Prod.fst = L) (hlen : As.length = n) (hls : ls.size = nL) (hroom : (rest.map fun v => v.category).sum ≤ 8) (hdg : decode cc pc = .ok (.invokevirtual idx, 3)) (hs0 : As.reverse ++ .ref b :: rest = st0) (hst : (r.map Value.int).toList ++ rest = st1)
    (kk : ∀ (H1 : Heap) (locs1 : List Loc), mWd D A s (w1 ++ wr) H1 locs1 → W p l e R s m args below meth c H1 locs1 cells slots Q (F0 m (pc + 3) ls st1)) : W p l e R s m args below meth c H locs cells slots Q (F0 m pc ls st0) :=
  m_V X V hM hO hI hE hN (List.range 22) hR hci hrec (at_left wc wr 22 hl0) (by decide) hw1 hw0 (put_left wc wr w1 22 hl0 hl1) hlen hls hroom hdg hs0 hst kk
theorem m_VR {y : MethodName} {cb : ByteArray} {k n idx b : Nat} {rt : Option FieldType} {rm : Room} {As : List Value} {wc w1 wl : va_W} {r : Option Int32} {ci N : Nat} {T : u_T} {fs st0 st1 : List Value} (X : mCx p s m args c cc nL own D cB cI) (V : mWd D A s (wl ++ wc) H locs)
    (hM : mM l D cB cI y cb k rt rm (.ref b :: As) wc r w1) (hO : mOk y cb k rt n) (hI : Cond.instanceMethod y ∈ gW) (hE : Cond.selects y.cls y y ∈ gW) (hN : Cond.methodLink own idx y ∈ gW)
    (hl0 : wl.length = 22) (hlc : wc.length = 13) (hl1 : w1.length = 13) (hR : (rm.cells = 0 ∧ rm.slots = 0) ∧ (rm.frames + 1 ≤ R.frames ∧ 8 + (k + 11) + rm.locals ≤ R.locals) ∧ cells ≤ R.cells ∧ slots ≤ R.slots) (hci : vwCl[ci]? = some (y.cls, T, N)) (hrec : wc[0]? = some (b, .inr (ci, fs)))
    {L : List Nat} (hw1 : w1.map Prod.fst = L) (hw0 : wc.map Prod.fst = L) (hlen : As.length = n) (hls : ls.size = nL) (hroom : (rest.map fun v => v.category).sum ≤ 8) (hdg : decode cc pc = .ok (.invokevirtual idx, 3)) (hs0 : As.reverse ++ .ref b :: rest = st0) (hst : (r.map Value.int).toList ++ rest = st1)
    (kk : ∀ (H1 : Heap) (locs1 : List Loc), mWd D A s (wl ++ w1) H1 locs1 → W p l e R s m args below meth c H1 locs1 cells slots Q (F0 m (pc + 3) ls st1)) : W p l e R s m args below meth c H locs cells slots Q (F0 m pc ls st0) :=
  m_V X V hM hO hI hE hN (List.range' 22 13) hR hci hrec (at_right wl wc 22 13 hl0 hlc) (by decide) hw1 hw0 (put_right wl wc w1 22 13 hl0 hlc hl1) hlen hls hroom hdg hs0 hst kk
end LB
theorem row_10 (wr : Int32) (tt tf tg : Nat → Int32) (x : Int32) : pX7_row_1 wr tt tf tg x = pX7_row_0 wr tt tf tg x := by
  rw [pX7_row_1, pX7_row_0]
/-- the two machines beside each other, as the law holds them -/
def LW (cB cI : ClassId) (a b2 : Nat) (ws : va_W) : Prop := ∃ (ad : Nat → Nat) (i j o q q2 q3 x y : Nat) (wr : Int32) (g mem loc pf pg : Nat → Int32) (pn : Int32) (t fm fn z key ld lt lf lg tt tf tg : Nat → Int32) (bd : Nat → Nat) (v qm ql qs qk qd qn qe qf qo qt qi qy : Nat → Int32), ws = wG cB cI a ad i j o q q2 q3 x y wr g mem loc pf pg pn t fm fn z key ld lt lf lg tt tf tg ++ wR cB cI bd v qm ql qs qk qd qn qe qf qo qt qi qy ∧ bd 0 = b2 ∧ ((i = x ∧ q = y ∧ FR wr g mem loc pf pn lt lf lg v qm ql qs qd qe qf) ∨ (q = x ∧ i = y ∧ FR wr g mem loc pf pn tt tf tg v qm ql qs qd qe qf))
