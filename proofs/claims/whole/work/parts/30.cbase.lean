/-! constructors: cells come; the addresses of the new ones are told by a function u -/
def mQn (D : va_G) (A : Nat → Prop) (W1 : (Nat → Nat) → va_W) : Array Value → State → Outcome → State → Prop :=
  fun _ st oc t => (∃ u : Nat → Nat, oc = .returned none ∧ va_P D vwCl (W1 u) t.heap ∧ va_D A (W1 u)) ∧ va_F A st t
def mN (l : Launch) (D : va_G) (cB cI : ClassId) (y : MethodName) (cb : ByteArray) (k : Nat) (rm : Room) (As : List Value) (wc : va_W) (mc ms : Nat) (W1 : (Nat → Nat) → va_W) : Prop :=
  ∀ sz : Nat, Met l y (Cond.code y cb k none :: gW) rm (va_Pc As (mPre D cB cI wc sz)) (mQn D (va_A wc sz) W1) mc ms (va_A wc sz)
theorem m_startN {l : Launch} {D : va_G} {cB cI : ClassId} {y : MethodName} {cb : ByteArray} {k mc ms : Nat} {rm : Room} {As : List Value} {wc : va_W} {W1 : (Nat → Nat) → va_W} (hy : plainFor y = true) (hlen : (lg_sl As).length ≤ k)
    (body : ∀ (p : Program) (e : Env) (s : State) (m : MethodId) (below : List Frame) (meth : Method) (c : Code) (A : Nat → Prop) (ls : Array Slot), mCx p s m As.toArray c cb k y.cls D cB cI → meth.sig.returnType = none → meth.locks = false → meth.name = y.name → mWd D A s wc s.heap [] → lv_has ls k (lv_args 0 As) →
      W p l e rm s m As.toArray below meth c s.heap [] 0 0 (MQ below (mQn D A W1) As.toArray s mc ms A) (F0 m 0 ls [])) : mN l D cB cI y cb k rm As wc mc ms W1 := by
  intro sz
  refine m_ofW (cc := cb) (maxL := k) (ret := none) hy rfl ?_
  intro p e s m args below meth c s₁ B hml hv
  obtain ⟨rfl, hsz, hP, hK, hD0, hN⟩ := hv
  have hts := atoms_spec (ws := Cond.code y cb k none :: gW) B.pre
  have hown : s.vm.findClass y.cls = some m.cls := findClass_of_methodNamed B.named
  subst hsz
  have hl := lv_entry As (n := k) hlen
  rw [lg_entry_eq]
  exact body p e s m below meth c _ _ ⟨⟨B.exec, B.bytes, hml, hown, fun w h => hts w (List.mem_cons_of_mem _ h)⟩, hN, hK⟩ B.returns B.notSynchronized (name_of_methodNamed B.named B.method).1 ⟨hP, hD0.self, va_S.rf, fun q h => Or.inr h⟩ hl
section CB
variable {p : Program} {l : Launch} {e : Env} {R : Room} {s : State} {m : MethodId} {args : Array Value} {below : List Frame} {meth : Method} {c : Code} {H : Heap} {locs : List Loc} {cells slots : Nat} {Q : State → Prop}
variable {cc : ByteArray} {pc nL : Nat} {ls : Array Slot} {rest : List Value} {D : va_G} {A : Nat → Prop} {ws : va_W} {cB cI : ClassId} {own : String}
theorem m_perm {ws' : va_W} (V : mWd D A s ws H locs) (is : List Nat) (hn : va_nd is = true) (hs : is.map (fun i => ws[i]?) = ws'.map some) : mWd D A s ws' H locs := by
  refine ⟨V.1.sub is ?_, V.2.1.sub is hn hs, V.2.2.1, V.2.2.2⟩
  have h : is.filterMap (fun i => ws[i]?) = (is.map (fun i => ws[i]?)).filterMap id := by rw [List.filterMap_map]; rfl
  rw [h, hs, List.filterMap_map]
  simp
theorem m_new (X : mCx p s m args c cc nL own D cB cI) (V : mWd D A s ws H locs) (ci : Nat) {C : String} {T : u_T} {N index : Nat} {fs : List Value} (hc : vwCl[ci]? = some (C, T, N)) (hin : ∀ w ∈ u_ws C T N, w ∈ gW) {ty : Nat → FieldType} (hty : ∀ k, k < N → parseFieldDescriptor (T k).2.2.1 = some (ty k)) (h1 : Cond.classLink own index C ∈ gW) (h2 : Cond.instantiable C N ∈ gW) (h3 : Cond.initialized C ∈ gW) (hfs : ∀ j, j < N → defaultValue (ty j) = vp_V fs j) (hcells : cells + 1 ≤ R.cells) (hslots : slots + N ≤ R.slots) (hdg : decode cc pc = .ok (.new index, 3))
    (kk : ∀ (q : Nat) (H1 : Heap), mWd D A s (ws ++ [(q, .inr (ci, fs))]) H1 locs → W p l e R s m args below meth c H1 locs (cells + 1) (slots + N) Q (F0 m (pc + 3) ls (.ref q :: rest))) : W p l e R s m args below meth c H locs cells slots Q (F0 m pc ls rest) :=
  va_new X.1.1 X.1.2.1 X.1.2.2.2.2 hin ty hty X.1.2.2.2.1 (X.1.2.2.2.2 _ h1) (X.1.2.2.2.2 _ h2) (X.1.2.2.2.2 _ h3) X.2.2 V.1 V.2.1 V.2.2.1 V.2.2.2 hc hfs hcells hslots hdg (fun q H1 a b d => kk q H1 ⟨a, b, d, V.2.2.2⟩)
theorem m_newI (X : mCx p s m args c cc nL own D cB cI) (V : mWd D A s ws H locs) {n : Int32} {N : Nat} (hw : Cond.arrayClass .int ∈ gW) (hn : ¬ n < 0) (hN : n.toNatClampNeg = N) (hb : N * componentBytes .int ≤ 536870912) (hcells : cells + 1 ≤ R.cells) (hslots : slots + N ≤ R.slots) (hdg : decode cc pc = .ok (.newarray .int, 2))
    (kk : ∀ (q : Nat) (H1 : Heap), mWd D A s (ws ++ [(q, .inl (cI, N, .inl (fun _ => 0)))]) H1 locs → W p l e R s m args below meth c H1 locs (cells + 1) (slots + N) Q (F0 m (pc + 2) ls (.ref q :: rest))) : W p l e R s m args below meth c H locs cells slots Q (F0 m pc ls (.int n :: rest)) := by
  refine va_newa X.1.1 X.1.2.1 (atype := .int) (X.1.2.2.2.2 _ hw) (ty := .int) rfl X.2.2 V.1 V.2.1 V.2.2.1 V.2.2.2 (a0 := (N, .inl (fun _ => 0))) (fun _ => rfl) hn hN hb hcells hslots hdg (fun q cA H1 hK hP hD hS => ?_)
  have e1 : s.vm.findClass ("[" ++ FieldType.int.toString) = some cA := (hK.2 2 (cA, .int) rfl).2
  have e2 : s.vm.findClass ("[" ++ FieldType.int.toString) = some cI := (X.2.2.2 1 (cI, .int) rfl).2
  cases Option.some.inj (e1.symm.trans e2)
  exact kk q H1 ⟨hP, hD, hS, V.2.2.2⟩
theorem m_newB (X : mCx p s m args c cc nL own D cB cI) (V : mWd D A s ws H locs) {n : Int32} {N : Nat} (hw : Cond.arrayClass .byte ∈ gW) (hn : ¬ n < 0) (hN : n.toNatClampNeg = N) (hb : N * componentBytes .byte ≤ 536870912) (hcells : cells + 1 ≤ R.cells) (hslots : slots + N ≤ R.slots) (hdg : decode cc pc = .ok (.newarray .byte, 2))
    (kk : ∀ (q : Nat) (H1 : Heap), mWd D A s (ws ++ [(q, .inl (cB, N, .inl (fun _ => 0)))]) H1 locs → W p l e R s m args below meth c H1 locs (cells + 1) (slots + N) Q (F0 m (pc + 2) ls (.ref q :: rest))) : W p l e R s m args below meth c H locs cells slots Q (F0 m pc ls (.int n :: rest)) := by
  refine va_newa X.1.1 X.1.2.1 (atype := .byte) (X.1.2.2.2.2 _ hw) (ty := .byte) rfl X.2.2 V.1 V.2.1 V.2.2.1 V.2.2.2 (a0 := (N, .inl (fun _ => 0))) (fun _ => rfl) hn hN hb hcells hslots hdg (fun q cA H1 hK hP hD hS => ?_)
  have e1 : s.vm.findClass ("[" ++ FieldType.byte.toString) = some cA := (hK.2 2 (cA, .byte) rfl).2
  have e2 : s.vm.findClass ("[" ++ FieldType.byte.toString) = some cB := (X.2.2.2 0 (cB, .byte) rfl).2
  cases Option.some.inj (e1.symm.trans e2)
  exact kk q H1 ⟨hP, hD, hS, V.2.2.2⟩
theorem m_putF (X : mCx p s m args c cc nL own D cB cI) (V : mWd D A s ws H locs) (hi : meth.name = "<init>") (ci q0 k : Nat) {a : Nat} {fs : List Value} {T : u_T} {N index : Nat} {v : Value} {ws' : va_W} (hc : vwCl[ci]? = some (own, T, N)) (hin : ∀ w ∈ u_ws own T N, w ∈ gW) {ty : Nat → FieldType} (hty : ∀ k, k < N → parseFieldDescriptor (T k).2.2.1 = some (ty k)) (hnm : ∀ a, a < N → ∀ b, b < N → a ≠ b → (T a).2.1 ≠ (T b).2.1) (he : ws[q0]? = some (a, .inr (ci, fs))) (hk : k < N) (hT : (T k).1 = own) (hw : Cond.fieldLink own index own (T k).2.1 (T k).2.2.1 ∈ gW) (hfin : (T k).2.2.2 = true) (hn : narrow (ty k) v = v) (hfit : fits (ty k) v = true) (hl : k < fs.length) (hdg : decode cc pc = .ok (.putfield index, 3)) (hws : ws.set q0 (a, .inr (ci, fs.set k v)) = ws')
    (kk : ∀ (H1 : Heap) (locs1 : List Loc), mWd D A s ws' H1 locs1 → W p l e R s m args below meth c H1 locs1 cells slots Q (F0 m (pc + 3) ls rest)) : W p l e R s m args below meth c H locs cells slots Q (F0 m pc ls (v :: .ref a :: rest)) := by
  subst hws
  exact va_putF X.1.1 X.1.2.1 X.1.2.2.2.2 hin ty hty hnm X.1.2.2.2.1 X.2.2 V.1 V.2.1 V.2.2.1 q0 he hc k hk (X.1.2.2.2.2 _ hw) (fun x h => by rw [hT] at h; exact h) hfin hi hT (hty k hk) hn hfit hl hdg (fun H1 locs1 h1 h2 h3 => kk H1 locs1 ⟨h1, h2, h3, V.2.2.2⟩)
theorem m_callN {wc wr : va_W} {W1 : (Nat → Nat) → va_W} {a : Array Value} {st0 : List Value} {mc ms : Nat} (V : mWd D A s ws H locs)
    (hr : va_Run p l e R s m args below meth c H locs cells slots mc ms (F0 m pc ls st0) rest (mQn D (va_A wc H.size) W1 a) (va_A wc H.size))
    (isC isR : List Nat) (hC : isC.map (fun i => ws[i]?) = wc.map some) (hR : isR.map (fun i => ws[i]?) = wr.map some) (hn : va_nd isR = true) (hdis : ∀ i ∈ isR, i ∉ isC)
    (kk : ∀ (u : Nat → Nat) (H1 : Heap) (locs1 : List Loc), mWd D A s (wr ++ W1 u) H1 locs1 → W p l e R s m args below meth c H1 locs1 (cells + mc) (slots + ms) Q (F0 m (pc + 3) ls rest)) : W p l e R s m args below meth c H locs cells slots Q (F0 m pc ls st0) := by
  obtain ⟨hP, hD, hS, hA⟩ := V
  have hF : ∀ q, va_A wc H.size q → A q := va_free hD hS hA isC hC
  intro T hT X
  obtain ⟨v, st₀, t, T', L, h0, X', hL, e1, e2, ⟨⟨u, hv, hp, hd⟩, hz, hk⟩, st⟩ := hr T hT X
  cases hv
  rw [h0] at hz hk
  have hS' : va_S A s.heap T'.heap (locs ++ L) := ⟨Nat.le_trans hS.1 (by rw [e1]; exact hz), fun q h1 h2 => by rw [e1, hk q (Nat.lt_of_lt_of_le h1 hS.1) (fun z => h2 (hF q z))]; exact hS.2.1 q h1 h2, fun q hq => by
      rcases List.mem_append.mp hq with h | h
      · exact hS.2.2 q h
      · exact hF _ (hL q h)⟩
  obtain ⟨hP', hD'⟩ := va_join (H1 := T'.heap) hP hD isC isR hC hR hn hdis (fun q h1 h2 => by rw [e1]; exact hk q h1 h2) hF (by rw [e1]; exact hp) hd
  obtain ⟨t2, a1, b1⟩ := kk u T'.heap (locs ++ L) ⟨hP', hD', hS', hA⟩ T' rfl X'
  exact ⟨t2, st t2 a1, b1⟩
theorem m_IN {y : MethodName} {cb : ByteArray} {k n idx b mc ms : Nat} {rm : Room} {As : List Value} {wc wr : va_W} {W1 : (Nat → Nat) → va_W} {host : String} {st0 : List Value} (X : mCx p s m args c cc nL own D cB cI) (V : mWd D A s ws H locs)
    (hM : mN l D cB cI y cb k rm (.ref b :: As) wc mc ms W1) (hO : mOk y cb k none n) (hy : y.name = "<init>") (hI : Cond.instanceMethod y ∈ gW) (hN : Cond.methodLinkNest own idx y host ∈ nW)
    (isC isR : List Nat) (hR : (rm.cells = mc ∧ rm.slots = ms) ∧ (rm.frames + 1 ≤ R.frames ∧ 8 + (k + 11) + rm.locals ≤ R.locals) ∧ cells + mc ≤ R.cells ∧ slots + ms ≤ R.slots)
    (hC : isC.map (fun i => ws[i]?) = wc.map some) (hRr : isR.map (fun i => ws[i]?) = wr.map some) (hnc : va_nd isC = true) (hn : va_nd isR = true) (hdis : ∀ i ∈ isR, i ∉ isC) (hlen : As.length = n) (hls : ls.size = nL) (hroom : (rest.map fun v => v.category).sum ≤ 8) (hdg : decode cc pc = .ok (.invokespecial idx, 3)) (hs0 : As.reverse ++ .ref b :: rest = st0)
    (kk : ∀ (u : Nat → Nat) (H1 : Heap) (locs1 : List Loc), mWd D A s (wr ++ W1 u) H1 locs1 → W p l e R s m args below meth c H1 locs1 (cells + mc) (slots + ms) Q (F0 m (pc + 3) ls rest)) : W p l e R s m args below meth c H locs cells slots Q (F0 m pc ls st0) := by
  subst hs0
  refine m_callN (a := (Value.ref b :: As).toArray) V ?_ isC isR hC hRr hn hdis kk
  exact va_runIN (Ts := gW) (n := n) X.1 (hM H.size) ⟨va_cnB n X.1.2.2.2.2 (gW_in hO.1) rfl hR.1.1 hR.1.2 (X.2.1 _ hN) (X.1.2.2.2.2 _ hO.2.1) hO.2.2 hR.2.1, hy, X.1.2.2.2.2 _ hI⟩ ⟨mPre_blind _ _ _ _ _ _, m_pre X V isC hC hnc _⟩ rfl hlen hls rfl (lv_room hroom) hdg ⟨hR.2.2.1, hR.2.2.2⟩
theorem m_I {y : MethodName} {cb : ByteArray} {k n idx b mc ms : Nat} {rm : Room} {As : List Value} {wc wr : va_W} {W1 : (Nat → Nat) → va_W} {st0 : List Value} (X : mCx p s m args c cc nL own D cB cI) (V : mWd D A s ws H locs)
    (hM : mN l D cB cI y cb k rm (.ref b :: As) wc mc ms W1) (hO : mOk y cb k none n) (hy : y.name = "<init>") (hI : Cond.instanceMethod y ∈ gW) (hN : Cond.methodLink own idx y ∈ gW)
    (isC isR : List Nat) (hR : (rm.cells = mc ∧ rm.slots = ms) ∧ (rm.frames + 1 ≤ R.frames ∧ 8 + (k + 11) + rm.locals ≤ R.locals) ∧ cells + mc ≤ R.cells ∧ slots + ms ≤ R.slots)
    (hC : isC.map (fun i => ws[i]?) = wc.map some) (hRr : isR.map (fun i => ws[i]?) = wr.map some) (hnc : va_nd isC = true) (hn : va_nd isR = true) (hdis : ∀ i ∈ isR, i ∉ isC) (hlen : As.length = n) (hls : ls.size = nL) (hroom : (rest.map fun v => v.category).sum ≤ 8) (hdg : decode cc pc = .ok (.invokespecial idx, 3)) (hs0 : As.reverse ++ .ref b :: rest = st0)
    (kk : ∀ (u : Nat → Nat) (H1 : Heap) (locs1 : List Loc), mWd D A s (wr ++ W1 u) H1 locs1 → W p l e R s m args below meth c H1 locs1 (cells + mc) (slots + ms) Q (F0 m (pc + 3) ls rest)) : W p l e R s m args below meth c H locs cells slots Q (F0 m pc ls st0) := by
  subst hs0
  refine m_callN (a := (Value.ref b :: As).toArray) V ?_ isC isR hC hRr hn hdis kk
  exact va_runI (Ts := gW) (n := n) X.1 (hM H.size) ⟨callB_of n X.1.2.2.2.2 (gW_in hO.1) rfl hR.1.1 hR.1.2 (X.1.2.2.2.2 _ hO.2.1) (X.1.2.2.2.2 _ hN) hO.2.2 hR.2.1, hy, X.1.2.2.2.2 _ hI⟩ ⟨mPre_blind _ _ _ _ _ _, m_pre X V isC hC hnc _⟩ rfl hlen hls rfl (lv_room hroom) hdg ⟨hR.2.2.1, hR.2.2.2⟩
theorem m_vretN (X : mCx p s m args c cc nL own D cB cI) (hr : meth.sig.returnType = none) (hk : meth.locks = false) (V : mWd D A s ws H locs) {W1 : (Nat → Nat) → va_W} (u : Nat → Nat) (hw : ws = W1 u) (hdg : decode cc pc = .ok (.return_, 1)) : W p l e R s m args below meth c H locs cells slots (MQ below (mQn D A W1) args s cells slots A) (F0 m pc ls []) := by
  subst hw
  exact W.vret X.1.1 X.1.2.1 hr (fun t ht _ => ⟨⟨u, rfl, by rw [ht]; exact V.1, V.2.1⟩, V.2.2.1.F ht⟩) V.2.2.1.2.2 hdg hk
theorem m_obj (X : mCx p s m args c cc nL own D cB cI) {idx a : Nat} (h1 : Cond.methodLink own idx Lib.objectInit ∈ gW) (h2 : Cond.instanceMethod Lib.objectInit ∈ gW) (h3 : Cond.code Lib.objectInit ⟨#[0xb1]⟩ 1 none ∈ gW) (hls : ls.size = nL) (hdg : decode cc pc = .ok (.invokespecial idx, 3)) (hf : 1 ≤ R.frames) (hlo : (rest.map fun v => v.category).sum + 12 ≤ R.locals)
    (kk : W p l e R s m args below meth c H locs cells slots Q (F0 m (pc + 3) ls rest)) : W p l e R s m args below meth c H locs cells slots Q (F0 m pc ls (.ref a :: rest)) := by
  refine W.objInit X.1.1 X.1.2.1 X.1.2.2.2.1 (X.1.2.2.2.2 _ h1) (X.1.2.2.2.2 _ h2) (X.1.2.2.2.2 _ h3) rfl (by rw [X.1.2.2.1]; exact hls) rfl hdg hf ?_ ?_
  · first | exact hlo | (show 2 * 0 + _ + 12 ≤ _; omega) | omega
  · exact kk
end CB
