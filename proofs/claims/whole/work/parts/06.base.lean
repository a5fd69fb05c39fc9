/-! the shape of a contract: no cell comes; the answer and the cells behind it are functions of what was before -/
abbrev tyBI (cB cI : ClassId) : List (ClassId × FieldType) := [(cB, .byte), (cI, .int)]
def mCx (p : Program) (s : State) (m : MethodId) (args : Array Value) (c : Code) (cc : ByteArray) (nL : Nat) (own : String) (D : va_G) (cB cI : ClassId) : Prop :=
  CallFix p m c cc nL s args gW own ∧ (∀ w ∈ nW, va_Nw w s) ∧ va_K D vwCl (tyBI cB cI) s
def mWd (D : va_G) (A : Nat → Prop) (s : State) (ws : va_W) (H : Heap) (locs : List Loc) : Prop :=
  va_P D vwCl ws H ∧ va_D A ws ∧ va_S A s.heap H locs ∧ ∀ q, s.heap.size ≤ q → A q
def mQ (D : va_G) (A : Nat → Prop) (w1 : va_W) (r : Option Int32) : Array Value → State → Outcome → State → Prop :=
  fun _ st oc t => (oc = .returned (r.map Value.int) ∧ va_P D vwCl w1 t.heap) ∧ va_F A st t
def mPre (D : va_G) (cB cI : ClassId) (wc : va_W) (sz : Nat) (U : State) : Prop :=
  U.heap.size = sz ∧ va_P D vwCl wc U.heap ∧ va_K D vwCl (tyBI cB cI) U ∧ va_D (fun _ => True) wc ∧ ∀ w ∈ nW, va_Nw w U
def mM (l : Launch) (D : va_G) (cB cI : ClassId) (y : MethodName) (cb : ByteArray) (k : Nat) (rt : Option FieldType) (rm : Room) (As : List Value) (wc : va_W) (r : Option Int32) (w1 : va_W) : Prop :=
  ∀ sz : Nat, Met l y (Cond.code y cb k rt :: gW) rm (va_Pc As (mPre D cB cI wc sz)) (mQ D (va_A wc sz) w1 r) 0 0 (va_A wc sz)
def mOk (y : MethodName) (cb : ByteArray) (k : Nat) (rt : Option FieldType) (n : Nat) : Prop :=
  Cond.code y cb k rt ∈ gW ∧ Cond.initialized y.cls ∈ gW ∧ (y.cls ≠ "java/lang/invoke/MethodHandle" ∧ y.cls ≠ "java/lang/invoke/VarHandle" ∧ (parseMethodDescriptor y.desc).map (fun d => d.parameters.length) = some n)
theorem nW_on : ∀ w ∈ nW, w.onTables = true := by
  intro w h
  rcases List.mem_append.mp h with h | h
  · obtain ⟨q, -, rfl⟩ := List.mem_map.mp h
    rfl
  · obtain ⟨q, -, rfl⟩ := List.mem_map.mp h
    rfl
theorem nW_warm {s U : State} (hW : s.WarmedH U.vm) : (∀ w ∈ nW, va_Nw w s) → ∀ w ∈ nW, va_Nw w U := by
  intro hs w h
  have h0 := hs w h
  rcases List.mem_append.mp h with h | h
  · obtain ⟨q, -, rfl⟩ := List.mem_map.mp h
    exact va_Nw.warmF hW h0
  · obtain ⟨q, -, rfl⟩ := List.mem_map.mp h
    exact va_Nw.warmM hW h0
theorem gW_in {y : MethodName} {cb : ByteArray} {k : Nat} {rt : Option FieldType} (h : Cond.code y cb k rt ∈ gW) : GoodIn gW (Cond.code y cb k rt :: gW) := by
  intro w hw
  rcases List.mem_cons.mp hw with rfl | hw
  · exact ⟨h, good_of_word (gW_good _ h)⟩
  · exact ⟨hw, good_of_word (gW_good _ hw)⟩
theorem mPre_blind (As : List Value) (D : va_G) (cB cI : ClassId) (wc : va_W) (sz : Nat) : FrameBlind (va_Pc As (mPre D cB cI wc sz)) := by
  intro a U g mk q
  obtain ⟨q0, q1, qP, qK, qD, qN⟩ := q
  exact ⟨q0, q1, qP, va_K.moved (u := U) (U := U.calling g mk a) (Vm.Alike.refl U.vm) qK, qD, fun w h => va_Nw.same (u := U) (U := U.calling g mk a) (nW_on w h) rfl (qN w h)⟩
/-- cells put at places -/
def mPut : va_W → List Nat → va_W → va_W
  | ws, i :: is, x :: xs => mPut (ws.set i x) is xs
  | ws, _, _ => ws
theorem mPut_at : ∀ (is : List Nat) (xs ws : va_W) (k : Nat) (q : Nat × va_E), is.length = xs.length → (mPut ws is xs)[k]? = some q → (∃ j : Nat, is[j]? = some k ∧ xs[j]? = some q) ∨ (k ∉ is ∧ ws[k]? = some q) := by
  intro is
  induction is with
  | nil =>
    intro xs ws k q hl h
    right
    refine ⟨List.not_mem_nil, ?_⟩
    cases xs <;> exact h
  | cons i is ih =>
    intro xs ws k q hl h
    cases xs with
    | nil => simp at hl
    | cons x xs =>
      have h : (mPut (ws.set i x) is xs)[k]? = some q := h
      rcases ih xs (ws.set i x) k q (by simpa using hl) h with ⟨j, h1, h2⟩ | ⟨h1, h2⟩
      · exact Or.inl ⟨j + 1, by simpa using h1, by simpa using h2⟩
      · by_cases hk : i = k
        · subst hk
          have hlt : i < ws.length := by
            have := (List.getElem?_eq_some_iff.mp h2).1
            simpa using this
          rw [List.getElem?_set_self hlt] at h2
          exact Or.inl ⟨0, rfl, h2⟩
        · rw [List.getElem?_set_ne hk] at h2
          exact Or.inr ⟨by simp only [List.mem_cons, not_or]; exact ⟨fun e => hk e.symm, h1⟩, h2⟩
theorem mPut_fst : ∀ (is : List Nat) (xs ws : va_W), (∀ (j : Nat) (i : Nat) (x : Nat × va_E), is[j]? = some i → xs[j]? = some x → (ws.map Prod.fst)[i]? = some x.1) → (mPut ws is xs).map Prod.fst = ws.map Prod.fst := by
  intro is
  induction is with
  | nil =>
    intro xs ws _
    cases xs <;> rfl
  | cons i is ih =>
    intro xs ws h
    cases xs with
    | nil => rfl
    | cons x xs =>
      have h0 := h 0 i x rfl rfl
      have e : (ws.set i x).map Prod.fst = ws.map Prod.fst := by
        apply List.ext_getElem?
        intro k
        rw [List.map_set]
        by_cases hk : i = k
        · subst hk
          have hlt : i < (ws.map Prod.fst).length := (List.getElem?_eq_some_iff.mp h0).1
          rw [List.getElem?_set_self hlt, h0]
        · rw [List.getElem?_set_ne hk]
      show (mPut (ws.set i x) is xs).map Prod.fst = _
      rw [ih xs (ws.set i x) (fun j i' x' h1 h2 => by rw [e]; exact h (j + 1) i' x' (by simpa using h1) (by simpa using h2)), e]
theorem va_D_fst {A : Nat → Prop} {ws ws' : va_W} (h : ws'.map Prod.fst = ws.map Prod.fst) (hD : va_D A ws) : va_D A ws' := by
  have at' : ∀ (k : Nat) (q : Nat × va_E), ws'[k]? = some q → ∃ e, ws[k]? = some (q.1, e) := by
    intro k q hq
    have h1 : (ws'.map Prod.fst)[k]? = some q.1 := by rw [List.getElem?_map, hq]; rfl
    rw [h, List.getElem?_map] at h1
    cases hw : ws[k]? with
    | none => rw [hw] at h1; cases h1
    | some z =>
      rw [hw] at h1
      obtain ⟨z1, z2⟩ := z
      cases Option.some.inj h1
      exact ⟨z2, rfl⟩
  refine ⟨fun i j x y hx hy hxy => ?_, fun k q hq => ?_⟩
  · obtain ⟨e1, h1⟩ := at' i x hx
    obtain ⟨e2, h2⟩ := at' j y hy
    exact hD.1 i j _ _ h1 h2 hxy
  · obtain ⟨e1, h1⟩ := at' k q hq
    exact hD.2 k (q.1, e1) h1
section MB
variable {p : Program} {l : Launch} {e : Env} {R : Room} {s : State} {m : MethodId} {args : Array Value} {below : List Frame} {meth : Method} {c : Code} {H : Heap} {locs : List Loc} {cells slots : Nat} {Q : State → Prop}
variable {cc : ByteArray} {pc nL : Nat} {ls : Array Slot} {rest : List Value} {D : va_G} {A : Nat → Prop} {ws : va_W} {cB cI : ClassId} {own : String}
theorem m_get (X : mCx p s m args c cc nL own D cB cI) (V : mWd D A s ws H locs) (ci q0 k : Nat) {a : Nat} {fs : List Value} {C : String} {T : u_T} {N index : Nat} {v : Value} (hc : vwCl[ci]? = some (C, T, N)) (hin : ∀ w ∈ u_ws C T N, w ∈ gW) (he : ws[q0]? = some (a, .inr (ci, fs))) (hk : k < N) (hT : (T k).1 = C) (hw : Cond.fieldLink own index C (T k).2.1 (T k).2.2.1 ∈ gW) (hv : fs[k]? = some v) (hdg : decode cc pc = .ok (.getfield index, 3))
    (kk : W p l e R s m args below meth c H locs cells slots Q (F0 m (pc + 3) ls (v :: rest))) : W p l e R s m args below meth c H locs cells slots Q (F0 m pc ls (.ref a :: rest)) :=
  va_get X.1.1 X.1.2.1 X.1.2.2.2.2 hin X.1.2.2.2.1 X.2.2 V.1 q0 he hc k hk (X.1.2.2.2.2 _ hw) (fun x h => by rw [hT] at h; exact h) hv hdg kk
theorem m_getN (X : mCx p s m args c cc nL own D cB cI) (V : mWd D A s ws H locs) (ci q0 k : Nat) {a : Nat} {fs : List Value} {C host : String} {T : u_T} {N index : Nat} {v : Value} (hc : vwCl[ci]? = some (C, T, N)) (hin : ∀ w ∈ u_ws C T N, w ∈ gW) (he : ws[q0]? = some (a, .inr (ci, fs))) (hk : k < N) (hT : (T k).1 = C) (hw : Cond.fieldLinkNest own index C (T k).2.1 (T k).2.2.1 host ∈ nW) (hv : fs[k]? = some v) (hdg : decode cc pc = .ok (.getfield index, 3))
    (kk : W p l e R s m args below meth c H locs cells slots Q (F0 m (pc + 3) ls (v :: rest))) : W p l e R s m args below meth c H locs cells slots Q (F0 m pc ls (.ref a :: rest)) :=
  va_getN X.1.1 X.1.2.1 X.1.2.2.2.2 hin X.1.2.2.2.1 X.2.2 V.1 q0 he hc k hk (va_Nw.use rfl (X.2.1 _ hw)) (fun x h => by rw [hT] at h; exact h) hv hdg kk
theorem m_put (X : mCx p s m args c cc nL own D cB cI) (V : mWd D A s ws H locs) (ci q0 k : Nat) {a : Nat} {fs : List Value} {C : String} {T : u_T} {N index : Nat} {v : Value} {ws' : va_W} (hc : vwCl[ci]? = some (C, T, N)) (hin : ∀ w ∈ u_ws C T N, w ∈ gW) {ty : Nat → FieldType} (hty : ∀ k, k < N → parseFieldDescriptor (T k).2.2.1 = some (ty k)) (hnm : ∀ a, a < N → ∀ b, b < N → a ≠ b → (T a).2.1 ≠ (T b).2.1) (he : ws[q0]? = some (a, .inr (ci, fs))) (hk : k < N) (hT : (T k).1 = C) (hw : Cond.fieldLink own index C (T k).2.1 (T k).2.2.1 ∈ gW) (hfin : (T k).2.2.2 = false) (hn : narrow (ty k) v = v) (hfit : fits (ty k) v = true) (hl : k < fs.length) (hdg : decode cc pc = .ok (.putfield index, 3)) (hws : ws.set q0 (a, .inr (ci, fs.set k v)) = ws')
    (kk : ∀ (H1 : Heap) (locs1 : List Loc), mWd D A s ws' H1 locs1 → W p l e R s m args below meth c H1 locs1 cells slots Q (F0 m (pc + 3) ls rest)) : W p l e R s m args below meth c H locs cells slots Q (F0 m pc ls (v :: .ref a :: rest)) := by
  subst hws
  exact va_put X.1.1 X.1.2.1 X.1.2.2.2.2 hin ty hty hnm X.1.2.2.2.1 X.2.2 V.1 V.2.1 V.2.2.1 q0 he hc k hk (X.1.2.2.2.2 _ hw) (fun x h => by rw [hT] at h; exact h) hfin (hty k hk) hn hfit hl hdg (fun H1 locs1 h1 h2 h3 => kk H1 locs1 ⟨h1, h2, h3, V.2.2.2⟩)
theorem m_putN (X : mCx p s m args c cc nL own D cB cI) (V : mWd D A s ws H locs) (ci q0 k : Nat) {a : Nat} {fs : List Value} {C host : String} {T : u_T} {N index : Nat} {v : Value} {ws' : va_W} (hc : vwCl[ci]? = some (C, T, N)) (hin : ∀ w ∈ u_ws C T N, w ∈ gW) {ty : Nat → FieldType} (hty : ∀ k, k < N → parseFieldDescriptor (T k).2.2.1 = some (ty k)) (hnm : ∀ a, a < N → ∀ b, b < N → a ≠ b → (T a).2.1 ≠ (T b).2.1) (he : ws[q0]? = some (a, .inr (ci, fs))) (hk : k < N) (hT : (T k).1 = C) (hw : Cond.fieldLinkNest own index C (T k).2.1 (T k).2.2.1 host ∈ nW) (hfin : (T k).2.2.2 = false) (hn : narrow (ty k) v = v) (hfit : fits (ty k) v = true) (hl : k < fs.length) (hdg : decode cc pc = .ok (.putfield index, 3)) (hws : ws.set q0 (a, .inr (ci, fs.set k v)) = ws')
    (kk : ∀ (H1 : Heap) (locs1 : List Loc), mWd D A s ws' H1 locs1 → W p l e R s m args below meth c H1 locs1 cells slots Q (F0 m (pc + 3) ls rest)) : W p l e R s m args below meth c H locs cells slots Q (F0 m pc ls (v :: .ref a :: rest)) := by
  subst hws
  exact va_putN X.1.1 X.1.2.1 X.1.2.2.2.2 hin ty hty hnm X.1.2.2.2.1 X.2.2 V.1 V.2.1 V.2.2.1 q0 he hc k hk (va_Nw.use rfl (X.2.1 _ hw)) (fun x h => by rw [hT] at h; exact h) hfin (hty k hk) hn hfit hl hdg (fun H1 locs1 h1 h2 h3 => kk H1 locs1 ⟨h1, h2, h3, V.2.2.2⟩)
theorem m_bald (X : mCx p s m args c cc nL own D cB cI) (V : mWd D A s ws H locs) (q0 : Nat) {a n : Nat} {f : Nat → Int32} {i : Int32} (he : ws[q0]? = some (a, .inl (cB, n, .inl f))) (hi : vp_in i n) (hdg : decode cc pc = .ok (.baload, 1))
    (kk : W p l e R s m args below meth c H locs cells slots Q (F0 m (pc + 1) ls (.int (f i.toNatClampNeg) :: rest))) : W p l e R s m args below meth c H locs cells slots Q (F0 m pc ls (.int i :: .ref a :: rest)) :=
  va_bald X.1.1 X.1.2.1 X.2.2 V.1 q0 0 he rfl hi hdg kk
theorem m_iald (X : mCx p s m args c cc nL own D cB cI) (V : mWd D A s ws H locs) (q0 : Nat) {a n : Nat} {f : Nat → Int32} {i : Int32} (he : ws[q0]? = some (a, .inl (cI, n, .inl f))) (hi : vp_in i n) (hdg : decode cc pc = .ok (.iaload, 1))
    (kk : W p l e R s m args below meth c H locs cells slots Q (F0 m (pc + 1) ls (.int (f i.toNatClampNeg) :: rest))) : W p l e R s m args below meth c H locs cells slots Q (F0 m pc ls (.int i :: .ref a :: rest)) :=
  va_iald X.1.1 X.1.2.1 X.2.2 V.1 q0 1 he rfl hi hdg kk
theorem m_bast (X : mCx p s m args c cc nL own D cB cI) (V : mWd D A s ws H locs) (q0 : Nat) {a n : Nat} {f : Nat → Int32} {i x : Int32} {ws' : va_W} (he : ws[q0]? = some (a, .inl (cB, n, .inl f))) (hi : vp_in i n) (hdg : decode cc pc = .ok (.bastore, 1)) (hws : ws.set q0 (a, .inl (cB, n, .inl (upd f i.toNatClampNeg (vp_nar .byte x)))) = ws')
    (kk : ∀ (H1 : Heap) (locs1 : List Loc), mWd D A s ws' H1 locs1 → W p l e R s m args below meth c H1 locs1 cells slots Q (F0 m (pc + 1) ls rest)) : W p l e R s m args below meth c H locs cells slots Q (F0 m pc ls (.int x :: .int i :: .ref a :: rest)) := by
  subst hws
  exact va_bast X.1.1 X.1.2.1 X.2.2 V.1 V.2.1 V.2.2.1 q0 0 he rfl hi hdg (fun H1 locs1 h1 h2 h3 => kk H1 locs1 ⟨h1, h2, h3, V.2.2.2⟩)
theorem m_iast (X : mCx p s m args c cc nL own D cB cI) (V : mWd D A s ws H locs) (q0 : Nat) {a n : Nat} {f : Nat → Int32} {i x : Int32} {ws' : va_W} (he : ws[q0]? = some (a, .inl (cI, n, .inl f))) (hi : vp_in i n) (hdg : decode cc pc = .ok (.iastore, 1)) (hws : ws.set q0 (a, .inl (cI, n, .inl (upd f i.toNatClampNeg x))) = ws')
    (kk : ∀ (H1 : Heap) (locs1 : List Loc), mWd D A s ws' H1 locs1 → W p l e R s m args below meth c H1 locs1 cells slots Q (F0 m (pc + 1) ls rest)) : W p l e R s m args below meth c H locs cells slots Q (F0 m pc ls (.int x :: .int i :: .ref a :: rest)) := by
  subst hws
  exact va_iast X.1.1 X.1.2.1 X.2.2 V.1 V.2.1 V.2.2.1 q0 1 he rfl hi hdg (fun H1 locs1 h1 h2 h3 => kk H1 locs1 ⟨h1, h2, h3, V.2.2.2⟩)
theorem m_blen (X : mCx p s m args c cc nL own D cB cI) (V : mWd D A s ws H locs) (q0 : Nat) {a n : Nat} {f : Nat → Int32} {v : Int32} (he : ws[q0]? = some (a, .inl (cB, n, .inl f))) (hv : Int32.ofNat n = v) (hdg : decode cc pc = .ok (.arraylength, 1))
    (kk : W p l e R s m args below meth c H locs cells slots Q (F0 m (pc + 1) ls (.int v :: rest))) : W p l e R s m args below meth c H locs cells slots Q (F0 m pc ls (.ref a :: rest)) :=
  va_alen X.1.1 X.1.2.1 X.2.2 V.1 q0 0 he (ty := .byte) rfl hv hdg kk
theorem m_ilen (X : mCx p s m args c cc nL own D cB cI) (V : mWd D A s ws H locs) (q0 : Nat) {a n : Nat} {f : Nat → Int32} {v : Int32} (he : ws[q0]? = some (a, .inl (cI, n, .inl f))) (hv : Int32.ofNat n = v) (hdg : decode cc pc = .ok (.arraylength, 1))
    (kk : W p l e R s m args below meth c H locs cells slots Q (F0 m (pc + 1) ls (.int v :: rest))) : W p l e R s m args below meth c H locs cells slots Q (F0 m pc ls (.ref a :: rest)) :=
  va_alen X.1.1 X.1.2.1 X.2.2 V.1 q0 1 he (ty := .int) rfl hv hdg kk
/-- a call: what the callee's contract says, put back at its places -/
theorem m_call {wc w1 : va_W} {r : Option Int32} {a : Array Value} {st0 st1 : List Value} (V : mWd D A s ws H locs)
    (hr : va_Run p l e R s m args below meth c H locs cells slots 0 0 (F0 m pc ls st0) rest (mQ D (va_A wc H.size) w1 r a) (va_A wc H.size))
    (isC : List Nat) (hC : isC.map (fun i => ws[i]?) = wc.map some) (hw : w1.map Prod.fst = wc.map Prod.fst) {ws' : va_W} (hws : mPut ws isC w1 = ws') (hst : (r.map Value.int).toList ++ rest = st1)
    (kk : ∀ (H1 : Heap) (locs1 : List Loc), mWd D A s ws' H1 locs1 → W p l e R s m args below meth c H1 locs1 cells slots Q (F0 m (pc + 3) ls st1)) : W p l e R s m args below meth c H locs cells slots Q (F0 m pc ls st0) := by
  subst hws
  subst hst
  obtain ⟨hP, hD, hS, hA⟩ := V
  have hF : ∀ q, va_A wc H.size q → A q := va_free hD hS hA isC hC
  have hll : isC.length = wc.length := by simpa using congrArg List.length hC
  have hlw : w1.length = wc.length := by simpa using congrArg List.length hw
  have atC : ∀ (j i : Nat), isC[j]? = some i → ∃ z, wc[j]? = some z ∧ ws[i]? = some z := by
    intro j i hj
    have h1 : (isC.map (fun i => ws[i]?))[j]? = some (ws[i]?) := by rw [List.getElem?_map, hj]; rfl
    rw [hC, List.getElem?_map] at h1
    cases hz : wc[j]? with
    | none => rw [hz] at h1; cases h1
    | some z =>
      rw [hz] at h1
      exact ⟨z, rfl, (Option.some.inj h1).symm⟩
  intro T hT X
  obtain ⟨v, st₀, t, T', L, h0, X', hL, e1, e2, ⟨⟨hv, hp⟩, hz, hk⟩, st⟩ := hr T hT X
  cases hv
  rw [h0] at hz hk
  have hS' : va_S A s.heap T'.heap (locs ++ L) := ⟨Nat.le_trans hS.1 (by rw [e1]; exact hz), fun q h1 h2 => by rw [e1, hk q (Nat.lt_of_lt_of_le h1 hS.1) (fun z => h2 (hF q z))]; exact hS.2.1 q h1 h2, fun q hq => by
      rcases List.mem_append.mp hq with h | h
      · exact hS.2.2 q h
      · exact hF _ (hL q h)⟩
  have hP' : va_P D vwCl (mPut ws isC w1) T'.heap := by
    intro k q hq
    rw [e1]
    rcases mPut_at isC w1 ws k q (hll.trans hlw.symm) hq with ⟨j, h1, h2⟩ | ⟨h1, h2⟩
    · exact hp j q h2
    · refine (hP k q h2).kept (hk q.1 ((hP k q h2).lt) (fun h => ?_))
      rcases h with ⟨j, ee, h⟩ | h
      · have hj : j < isC.length := by rw [hll]; exact (List.getElem?_eq_some_iff.mp h).1
        obtain ⟨z, hz1, hz2⟩ := atC j isC[j] (List.getElem?_eq_getElem hj)
        rw [h] at hz1
        cases hz1
        have := hD.1 k isC[j] q _ h2 hz2 rfl
        exact h1 (this ▸ List.getElem_mem hj)
      · exact absurd ((hP k q h2).lt) (Nat.not_lt.mpr h)
  have hD' : va_D A (mPut ws isC w1) := by
    refine va_D_fst (mPut_fst isC w1 ws fun j i x hj hx => ?_) hD
    obtain ⟨z, hz1, hz2⟩ := atC j i hj
    have h1 : (w1.map Prod.fst)[j]? = some x.1 := by rw [List.getElem?_map, hx]; rfl
    rw [hw, List.getElem?_map, hz1] at h1
    rw [List.getElem?_map, hz2]
    exact h1
  obtain ⟨t2, a1, b1⟩ := kk T'.heap (locs ++ L) ⟨hP', hD', hS', hA⟩ T' rfl X'
  exact ⟨t2, st t2 a1, b1⟩
theorem m_pre {wc : va_W} (X : mCx p s m args c cc nL own D cB cI) (V : mWd D A s ws H locs) (isC : List Nat) (hC : isC.map (fun i => ws[i]?) = wc.map some) (hn : va_nd isC = true) (As : List Value) : ∀ U : State, U.heap = H → s.WarmedH U.vm → va_Pc As (mPre D cB cI wc H.size) As.toArray U := by
  intro U hU hW
  refine ⟨rfl, by rw [hU], ?_, va_K.moved hW.alike X.2.2, (V.2.1.sub isC hn hC).weaken (fun _ _ _ _ => trivial), nW_warm hW X.2.1⟩
  rw [hU]
  refine V.1.sub isC ?_
  have h : isC.filterMap (fun i => ws[i]?) = (isC.map (fun i => ws[i]?)).filterMap id := by rw [List.filterMap_map]; rfl
  rw [h, hC, List.filterMap_map]
  simp
theorem m_VN {y : MethodName} {cb : ByteArray} {k n idx b : Nat} {rt : Option FieldType} {rm : Room} {As : List Value} {wc w1 : va_W} {r : Option Int32} {host : String} {ci N : Nat} {T : u_T} {fs st0 st1 : List Value} {ws' : va_W} (X : mCx p s m args c cc nL own D cB cI) (V : mWd D A s ws H locs)
    (hM : mM l D cB cI y cb k rt rm (.ref b :: As) wc r w1) (hO : mOk y cb k rt n) (hI : Cond.instanceMethod y ∈ gW) (hE : Cond.selects y.cls y y ∈ gW) (hN : Cond.methodLinkNest own idx y host ∈ nW)
    (isC : List Nat) (hR : (rm.cells = 0 ∧ rm.slots = 0) ∧ (rm.frames + 1 ≤ R.frames ∧ 8 + (k + 11) + rm.locals ≤ R.locals) ∧ cells ≤ R.cells ∧ slots ≤ R.slots) (hci : vwCl[ci]? = some (y.cls, T, N)) (hrec : wc[0]? = some (b, .inr (ci, fs)))
    (hC : isC.map (fun i => ws[i]?) = wc.map some) (hnd : va_nd isC = true) {L : List Nat} (hw1 : w1.map Prod.fst = L) (hw0 : wc.map Prod.fst = L) (hws : mPut ws isC w1 = ws') (hlen : As.length = n) (hls : ls.size = nL) (hroom : (rest.map fun v => v.category).sum ≤ 8) (hdg : decode cc pc = .ok (.invokevirtual idx, 3)) (hs0 : As.reverse ++ .ref b :: rest = st0) (hst : (r.map Value.int).toList ++ rest = st1)
    (kk : ∀ (H1 : Heap) (locs1 : List Loc), mWd D A s ws' H1 locs1 → W p l e R s m args below meth c H1 locs1 cells slots Q (F0 m (pc + 3) ls st1)) : W p l e R s m args below meth c H locs cells slots Q (F0 m pc ls st0) := by
  subst hs0
  refine m_call (a := (Value.ref b :: As).toArray) V ?_ isC hC (hw1.trans hw0.symm) hws hst kk
  refine va_runVN (Ts := gW) (n := n) X.1 (hM H.size) ⟨va_cnB n X.1.2.2.2.2 (gW_in hO.1) rfl hR.1.1 hR.1.2 (X.2.1 _ hN) (X.1.2.2.2.2 _ hO.2.1) hO.2.2 hR.2.1, X.1.2.2.2.2 _ hI, X.1.2.2.2.2 _ hE⟩ ⟨mPre_blind _ _ _ _ _ _, ?_, m_pre X V isC hC hnd _⟩ rfl hlen hls rfl (lv_room hroom) hdg ⟨hR.2.2.1, hR.2.2.2⟩
  have hPc : va_P D vwCl wc H := by
    refine V.1.sub isC ?_
    have h : isC.filterMap (fun i => ws[i]?) = (isC.map (fun i => ws[i]?)).filterMap id := by rw [List.filterMap_map]; rfl
    rw [h, hC, List.filterMap_map]
    simp
  exact va_recv X.2.2 hPc hci hrec
theorem m_V {y : MethodName} {cb : ByteArray} {k n idx b : Nat} {rt : Option FieldType} {rm : Room} {As : List Value} {wc w1 : va_W} {r : Option Int32} {ci N : Nat} {T : u_T} {fs st0 st1 : List Value} {ws' : va_W} (X : mCx p s m args c cc nL own D cB cI) (V : mWd D A s ws H locs)
    (hM : mM l D cB cI y cb k rt rm (.ref b :: As) wc r w1) (hO : mOk y cb k rt n) (hI : Cond.instanceMethod y ∈ gW) (hE : Cond.selects y.cls y y ∈ gW) (hN : Cond.methodLink own idx y ∈ gW)
    (isC : List Nat) (hR : (rm.cells = 0 ∧ rm.slots = 0) ∧ (rm.frames + 1 ≤ R.frames ∧ 8 + (k + 11) + rm.locals ≤ R.locals) ∧ cells ≤ R.cells ∧ slots ≤ R.slots) (hci : vwCl[ci]? = some (y.cls, T, N)) (hrec : wc[0]? = some (b, .inr (ci, fs)))
    (hC : isC.map (fun i => ws[i]?) = wc.map some) (hnd : va_nd isC = true) {L : List Nat} (hw1 : w1.map Prod.fst = L) (hw0 : wc.map Prod.fst = L) (hws : mPut ws isC w1 = ws') (hlen : As.length = n) (hls : ls.size = nL) (hroom : (rest.map fun v => v.category).sum ≤ 8) (hdg : decode cc pc = .ok (.invokevirtual idx, 3)) (hs0 : As.reverse ++ .ref b :: rest = st0) (hst : (r.map Value.int).toList ++ rest = st1)
    (kk : ∀ (H1 : Heap) (locs1 : List Loc), mWd D A s ws' H1 locs1 → W p l e R s m args below meth c H1 locs1 cells slots Q (F0 m (pc + 3) ls st1)) : W p l e R s m args below meth c H locs cells slots Q (F0 m pc ls st0) := by
  subst hs0
  refine m_call (a := (Value.ref b :: As).toArray) V ?_ isC hC (hw1.trans hw0.symm) hws hst kk
  refine va_runV (Ts := gW) (n := n) X.1 (hM H.size) ⟨callB_of n X.1.2.2.2.2 (gW_in hO.1) rfl hR.1.1 hR.1.2 (X.1.2.2.2.2 _ hO.2.1) (X.1.2.2.2.2 _ hN) hO.2.2 hR.2.1, X.1.2.2.2.2 _ hI, X.1.2.2.2.2 _ hE⟩ ⟨mPre_blind _ _ _ _ _ _, ?_, m_pre X V isC hC hnd _⟩ rfl hlen hls rfl (lv_room hroom) hdg ⟨hR.2.2.1, hR.2.2.2⟩
  have hPc : va_P D vwCl wc H := by
    refine V.1.sub isC ?_
    have h : isC.filterMap (fun i => ws[i]?) = (isC.map (fun i => ws[i]?)).filterMap id := by rw [List.filterMap_map]; rfl
    rw [h, hC, List.filterMap_map]
    simp
  exact va_recv X.2.2 hPc hci hrec
theorem m_S {y : MethodName} {cb : ByteArray} {k n idx : Nat} {rt : Option FieldType} {rm : Room} {As : List Value} {r : Option Int32} {st0 st1 : List Value} (X : mCx p s m args c cc nL own D cB cI) (V : mWd D A s ws H locs)
    (hM : mM l D cB cI y cb k rt rm As [] r []) (hO : mOk y cb k rt n) (hI : Cond.static y ∈ gW) (hN : Cond.methodLink own idx y ∈ gW)
    (hR : (rm.cells = 0 ∧ rm.slots = 0) ∧ (rm.frames + 1 ≤ R.frames ∧ 8 + (k + 11) + rm.locals ≤ R.locals) ∧ cells ≤ R.cells ∧ slots ≤ R.slots)
    (hlen : As.length = n) (hls : ls.size = nL) (hroom : (rest.map fun v => v.category).sum ≤ 8) (hdg : decode cc pc = .ok (.invokestatic idx, 3)) (hs0 : As.reverse ++ rest = st0) (hst : (r.map Value.int).toList ++ rest = st1)
    (kk : ∀ (H1 : Heap) (locs1 : List Loc), mWd D A s ws H1 locs1 → W p l e R s m args below meth c H1 locs1 cells slots Q (F0 m (pc + 3) ls st1)) : W p l e R s m args below meth c H locs cells slots Q (F0 m pc ls st0) := by
  subst hs0
  refine m_call (wc := []) (w1 := []) (a := As.toArray) V ?_ [] rfl rfl (ws' := ws) rfl hst kk
  exact va_runS (Ts := gW) (n := n) X.1 (hM H.size) ⟨callB_of n X.1.2.2.2.2 (gW_in hO.1) rfl hR.1.1 hR.1.2 (X.1.2.2.2.2 _ hO.2.1) (X.1.2.2.2.2 _ hN) hO.2.2 hR.2.1, X.1.2.2.2.2 _ hI⟩ ⟨mPre_blind _ _ _ _ _ _, m_pre X V [] rfl rfl _⟩ rfl hlen hls rfl (lv_room hroom) hdg ⟨hR.2.2.1, hR.2.2.2⟩
theorem m_SN {y : MethodName} {cb : ByteArray} {k n idx : Nat} {rt : Option FieldType} {rm : Room} {As : List Value} {r : Option Int32} {host : String} {st0 st1 : List Value} (X : mCx p s m args c cc nL own D cB cI) (V : mWd D A s ws H locs)
    (hM : mM l D cB cI y cb k rt rm As [] r []) (hO : mOk y cb k rt n) (hI : Cond.static y ∈ gW) (hN : Cond.methodLinkNest own idx y host ∈ nW)
    (hR : (rm.cells = 0 ∧ rm.slots = 0) ∧ (rm.frames + 1 ≤ R.frames ∧ 8 + (k + 11) + rm.locals ≤ R.locals) ∧ cells ≤ R.cells ∧ slots ≤ R.slots)
    (hlen : As.length = n) (hls : ls.size = nL) (hroom : (rest.map fun v => v.category).sum ≤ 8) (hdg : decode cc pc = .ok (.invokestatic idx, 3)) (hs0 : As.reverse ++ rest = st0) (hst : (r.map Value.int).toList ++ rest = st1)
    (kk : ∀ (H1 : Heap) (locs1 : List Loc), mWd D A s ws H1 locs1 → W p l e R s m args below meth c H1 locs1 cells slots Q (F0 m (pc + 3) ls st1)) : W p l e R s m args below meth c H locs cells slots Q (F0 m pc ls st0) := by
  subst hs0
  refine m_call (wc := []) (w1 := []) (a := As.toArray) V ?_ [] rfl rfl (ws' := ws) rfl hst kk
  exact va_runSN (Ts := gW) (n := n) X.1 (hM H.size) ⟨va_cnB n X.1.2.2.2.2 (gW_in hO.1) rfl hR.1.1 hR.1.2 (X.2.1 _ hN) (X.1.2.2.2.2 _ hO.2.1) hO.2.2 hR.2.1, X.1.2.2.2.2 _ hI, trivial⟩ ⟨mPre_blind _ _ _ _ _ _, m_pre X V [] rfl rfl _⟩ rfl hlen hls rfl (lv_room hroom) hdg ⟨hR.2.2.1, hR.2.2.2⟩
/-- a call whose cells are all of the caller's -/
theorem m_callA {w1 : va_W} {r : Option Int32} {a : Array Value} {st0 st1 : List Value} (V : mWd D A s ws H locs)
    (hr : va_Run p l e R s m args below meth c H locs cells slots 0 0 (F0 m pc ls st0) rest (mQ D (va_A ws H.size) w1 r a) (va_A ws H.size))
    (hw : w1.map Prod.fst = ws.map Prod.fst) (hst : (r.map Value.int).toList ++ rest = st1)
    (kk : ∀ (H1 : Heap) (locs1 : List Loc), mWd D A s w1 H1 locs1 → W p l e R s m args below meth c H1 locs1 cells slots Q (F0 m (pc + 3) ls st1)) : W p l e R s m args below meth c H locs cells slots Q (F0 m pc ls st0) := by
  subst hst
  obtain ⟨hP, hD, hS, hA⟩ := V
  have hF : ∀ q, va_A ws H.size q → A q := by
    intro q h
    rcases h with ⟨k, ee, h⟩ | h
    · exact hD.2 k (q, ee) h
    · exact hA q (Nat.le_trans hS.1 h)
  intro T hT X
  obtain ⟨v, st₀, t, T', L, h0, X', hL, e1, e2, ⟨⟨hv, hp⟩, hz, hk⟩, st⟩ := hr T hT X
  cases hv
  rw [h0] at hz hk
  have hS' : va_S A s.heap T'.heap (locs ++ L) := ⟨Nat.le_trans hS.1 (by rw [e1]; exact hz), fun q h1 h2 => by rw [e1, hk q (Nat.lt_of_lt_of_le h1 hS.1) (fun z => h2 (hF q z))]; exact hS.2.1 q h1 h2, fun q hq => by
      rcases List.mem_append.mp hq with h | h
      · exact hS.2.2 q h
      · exact hF _ (hL q h)⟩
  obtain ⟨t2, a1, b1⟩ := kk T'.heap (locs ++ L) ⟨by rw [e1]; exact hp, va_D_fst hw hD, hS', hA⟩ T' rfl X'
  exact ⟨t2, st t2 a1, b1⟩
theorem m_preA (X : mCx p s m args c cc nL own D cB cI) (V : mWd D A s ws H locs) (As : List Value) : ∀ U : State, U.heap = H → s.WarmedH U.vm → va_Pc As (mPre D cB cI ws H.size) As.toArray U := by
  intro U hU hW
  exact ⟨rfl, by rw [hU], by rw [hU]; exact V.1, va_K.moved hW.alike X.2.2, V.2.1.weaken (fun _ _ _ _ => trivial), nW_warm hW X.2.1⟩
theorem m_VNA {y : MethodName} {cb : ByteArray} {k n idx b : Nat} {rt : Option FieldType} {rm : Room} {As : List Value} {w1 : va_W} {r : Option Int32} {host : String} {ci N : Nat} {T : u_T} {fs st0 st1 : List Value} (X : mCx p s m args c cc nL own D cB cI) (V : mWd D A s ws H locs)
    (hM : mM l D cB cI y cb k rt rm (.ref b :: As) ws r w1) (hO : mOk y cb k rt n) (hI : Cond.instanceMethod y ∈ gW) (hE : Cond.selects y.cls y y ∈ gW) (hN : Cond.methodLinkNest own idx y host ∈ nW)
    (hR : (rm.cells = 0 ∧ rm.slots = 0) ∧ (rm.frames + 1 ≤ R.frames ∧ 8 + (k + 11) + rm.locals ≤ R.locals) ∧ cells ≤ R.cells ∧ slots ≤ R.slots) (hci : vwCl[ci]? = some (y.cls, T, N)) (hrec : ws[0]? = some (b, .inr (ci, fs)))
    {L : List Nat} (hw1 : w1.map Prod.fst = L) (hw0 : ws.map Prod.fst = L) (hlen : As.length = n) (hls : ls.size = nL) (hroom : (rest.map fun v => v.category).sum ≤ 8) (hdg : decode cc pc = .ok (.invokevirtual idx, 3)) (hs0 : As.reverse ++ .ref b :: rest = st0) (hst : (r.map Value.int).toList ++ rest = st1)
    (kk : ∀ (H1 : Heap) (locs1 : List Loc), mWd D A s w1 H1 locs1 → W p l e R s m args below meth c H1 locs1 cells slots Q (F0 m (pc + 3) ls st1)) : W p l e R s m args below meth c H locs cells slots Q (F0 m pc ls st0) := by
  subst hs0
  refine m_callA (a := (Value.ref b :: As).toArray) V ?_ (hw1.trans hw0.symm) hst kk
  exact va_runVN (Ts := gW) (n := n) X.1 (hM H.size) ⟨va_cnB n X.1.2.2.2.2 (gW_in hO.1) rfl hR.1.1 hR.1.2 (X.2.1 _ hN) (X.1.2.2.2.2 _ hO.2.1) hO.2.2 hR.2.1, X.1.2.2.2.2 _ hI, X.1.2.2.2.2 _ hE⟩ ⟨mPre_blind _ _ _ _ _ _, va_recv X.2.2 V.1 hci hrec, m_preA X V _⟩ rfl hlen hls rfl (lv_room hroom) hdg ⟨hR.2.2.1, hR.2.2.2⟩
theorem m_VA {y : MethodName} {cb : ByteArray} {k n idx b : Nat} {rt : Option FieldType} {rm : Room} {As : List Value} {w1 : va_W} {r : Option Int32} {ci N : Nat} {T : u_T} {fs st0 st1 : List Value} (X : mCx p s m args c cc nL own D cB cI) (V : mWd D A s ws H locs)
    (hM : mM l D cB cI y cb k rt rm (.ref b :: As) ws r w1) (hO : mOk y cb k rt n) (hI : Cond.instanceMethod y ∈ gW) (hE : Cond.selects y.cls y y ∈ gW) (hN : Cond.methodLink own idx y ∈ gW)
    (hR : (rm.cells = 0 ∧ rm.slots = 0) ∧ (rm.frames + 1 ≤ R.frames ∧ 8 + (k + 11) + rm.locals ≤ R.locals) ∧ cells ≤ R.cells ∧ slots ≤ R.slots) (hci : vwCl[ci]? = some (y.cls, T, N)) (hrec : ws[0]? = some (b, .inr (ci, fs)))
    {L : List Nat} (hw1 : w1.map Prod.fst = L) (hw0 : ws.map Prod.fst = L) (hlen : As.length = n) (hls : ls.size = nL) (hroom : (rest.map fun v => v.category).sum ≤ 8) (hdg : decode cc pc = .ok (.invokevirtual idx, 3)) (hs0 : As.reverse ++ .ref b :: rest = st0) (hst : (r.map Value.int).toList ++ rest = st1)
    (kk : ∀ (H1 : Heap) (locs1 : List Loc), mWd D A s w1 H1 locs1 → W p l e R s m args below meth c H1 locs1 cells slots Q (F0 m (pc + 3) ls st1)) : W p l e R s m args below meth c H locs cells slots Q (F0 m pc ls st0) := by
  subst hs0
  refine m_callA (a := (Value.ref b :: As).toArray) V ?_ (hw1.trans hw0.symm) hst kk
  exact va_runV (Ts := gW) (n := n) X.1 (hM H.size) ⟨callB_of n X.1.2.2.2.2 (gW_in hO.1) rfl hR.1.1 hR.1.2 (X.1.2.2.2.2 _ hO.2.1) (X.1.2.2.2.2 _ hN) hO.2.2 hR.2.1, X.1.2.2.2.2 _ hI, X.1.2.2.2.2 _ hE⟩ ⟨mPre_blind _ _ _ _ _ _, va_recv X.2.2 V.1 hci hrec, m_preA X V _⟩ rfl hlen hls rfl (lv_room hroom) hdg ⟨hR.2.2.1, hR.2.2.2⟩
theorem m_iret (X : mCx p s m args c cc nL own D cB cI) (hr : meth.sig.returnType = some .int) (hk : meth.locks = false) (V : mWd D A s ws H locs) {r : Option Int32} {w1 : va_W} {v : Int32} (hv : r = some v) (hw : ws = w1) (hdg : decode cc pc = .ok (.ireturn, 1)) : W p l e R s m args below meth c H locs cells slots (MQ below (mQ D A w1 r) args s cells slots A) (F0 m pc ls [.int v]) := by
  subst hv
  subst hw
  exact W.iret (v := v) X.1.1 X.1.2.1 hr (fun t ht _ => ⟨⟨rfl, by rw [ht]; exact V.1⟩, V.2.2.1.F ht⟩) V.2.2.1.2.2 hdg hk
theorem m_zret (X : mCx p s m args c cc nL own D cB cI) (hr : meth.sig.returnType = some .boolean) (hk : meth.locks = false) (V : mWd D A s ws H locs) {r : Option Int32} {w1 : va_W} {v : Int32} (hn : narrow .boolean (.int v) = .int v) (hv : r = some v) (hw : ws = w1) (hdg : decode cc pc = .ok (.ireturn, 1)) : W p l e R s m args below meth c H locs cells slots (MQ below (mQ D A w1 r) args s cells slots A) (F0 m pc ls [.int v]) := by
  subst hv
  subst hw
  exact W.zret (v := v) X.1.1 X.1.2.1 hr hn (fun t ht _ => ⟨⟨rfl, by rw [ht]; exact V.1⟩, V.2.2.1.F ht⟩) V.2.2.1.2.2 hdg hk
theorem m_vret (X : mCx p s m args c cc nL own D cB cI) (hr : meth.sig.returnType = none) (hk : meth.locks = false) (V : mWd D A s ws H locs) {r : Option Int32} {w1 : va_W} (hv : r = none) (hw : ws = w1) (hdg : decode cc pc = .ok (.return_, 1)) : W p l e R s m args below meth c H locs cells slots (MQ below (mQ D A w1 r) args s cells slots A) (F0 m pc ls []) := by
  subst hv
  subst hw
  exact W.vret X.1.1 X.1.2.1 hr (fun t ht _ => ⟨⟨rfl, by rw [ht]; exact V.1⟩, V.2.2.1.F ht⟩) V.2.2.1.2.2 hdg hk
end MB
theorem m_ofW {l : Launch} {y : MethodName} {ws ws' : List Cond} {rm : Room} {Pc : Array Value → State → Prop} {Qc : Array Value → State → Outcome → State → Prop} {mc ms : Nat} {free : Addr → Prop} {cc : ByteArray} {maxL : Nat} {ret : Option FieldType}
    (hy : plainFor y = true) (hw : ws = Cond.code y cc maxL ret :: ws')
    (body : ∀ p e s m args below meth c s₁, BodyLoose p l y (headSpec ws rm) cc maxL ret e s m args below meth c s₁ → c.maxLocals = maxL → Pc args s →
      W p l e (headSpec ws rm).room s m args below meth c s.heap [] 0 0 (MQ below Qc args s mc ms free) (entryFrame m args maxL)) : Met l y ws rm Pc Qc mc ms free := by
  refine MetFree.of_bodySF (code := cc) (maxLocals := maxL) (ret := ret) hy ?_ ?_
  · intro args s m h hn
    obtain ⟨meth, c, h1, h2, h3, h4, h5, h6, -, -⟩ := Cond.code_spec hn (atoms_spec (ws := ws) h _ (by rw [hw]; exact List.mem_cons_self))
    exact ⟨meth, c, h1, h2, h3, h4, h5, h6⟩
  · intro p e s m args below meth c s₁ B hml hP _
    have hh0 : s₁.heap = s.heap := by rw [B.state]; rfl
    obtain ⟨t, a1, o, b1, b2, b3⟩ := body p e s m args below meth c s₁ B hml hP s₁ hh0 (Stand.of_body B)
    exact ⟨t, o, a1, b1, b2, ⟨b3.1, b3.2⟩⟩
theorem m_start {l : Launch} {D : va_G} {cB cI : ClassId} {y : MethodName} {cb : ByteArray} {k : Nat} {rt : Option FieldType} {rm : Room} {As : List Value} {wc w1 : va_W} {r : Option Int32} (hy : plainFor y = true) (hlen : (lg_sl As).length ≤ k)
    (body : ∀ (p : Program) (e : Env) (s : State) (m : MethodId) (below : List Frame) (meth : Method) (c : Code) (A : Nat → Prop) (ls : Array Slot), mCx p s m As.toArray c cb k y.cls D cB cI → meth.sig.returnType = rt → meth.locks = false → mWd D A s wc s.heap [] → lv_has ls k (lv_args 0 As) →
      W p l e rm s m As.toArray below meth c s.heap [] 0 0 (MQ below (mQ D A w1 r) As.toArray s 0 0 A) (F0 m 0 ls [])) : mM l D cB cI y cb k rt rm As wc r w1 := by
  intro sz
  refine m_ofW (cc := cb) (maxL := k) (ret := rt) hy rfl ?_
  intro p e s m args below meth c s₁ B hml hv
  obtain ⟨rfl, hsz, hP, hK, hD0, hN⟩ := hv
  have hts := atoms_spec (ws := Cond.code y cb k rt :: gW) B.pre
  have hown : s.vm.findClass y.cls = some m.cls := findClass_of_methodNamed B.named
  subst hsz
  have hl := lv_entry As (n := k) hlen
  rw [lg_entry_eq]
  exact body p e s m below meth c _ _ ⟨⟨B.exec, B.bytes, hml, hown, fun w h => hts w (List.mem_cons_of_mem _ h)⟩, hN, hK⟩ B.returns B.notSynchronized ⟨hP, hD0.self, va_S.rf, fun q h => Or.inr h⟩ hl
theorem vi_a {i : Int32} {n : Nat} (hn : n < 2 ^ 31) (h0 : ¬ i < 0) (h1 : ¬ Int32.ofNat n ≤ i) : vp_in i n := by
  rw [vp_in_iff]
  have e : (Int32.ofNat n).toInt = (n : Int) := nI_toInt hn
  rw [Int32.lt_iff_toInt_lt] at h0
  rw [Int32.le_iff_toInt_le, e] at h1
  have z : (0 : Int32).toInt = 0 := rfl
  omega
theorem vi_b {i : Int32} {n : Nat} (hn : n < 2 ^ 31) (h0 : ¬ i < 0) (h1 : i < Int32.ofNat n) : vp_in i n := by
  rw [vp_in_iff]
  have e : (Int32.ofNat n).toInt = (n : Int) := nI_toInt hn
  rw [Int32.lt_iff_toInt_lt] at h0 h1
  rw [e] at h1
  have z : (0 : Int32).toInt = 0 := rfl
  omega
