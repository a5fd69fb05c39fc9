/-! THE CLAIM OUT OF ONE WALK OF THE LAW'S BODY. Your part is whole_start (and what it stands on); all else here is the same for every law, but numbers. -/
def R_law : String := "GlulxModesLaw"
def lw_P (b : Addr) (xs : List Int32) (args : Array Value) (s : State) : Prop := args = #[.ref b] ∧ s.IntsAt b xs ∧ xs.length ≤ 2560 ∧ (Jvm.Cond.and given_1 narrow_1).before args s = true
def lw_Q (_ : Array Value) (s : State) (o : Outcome) (t : State) : Prop := o = .returned (some (.int 1)) ∧ Framed s o t [] 600000 7302250
def lw_Z (below : List Frame) (a : Array Value) (s : State) : State → Prop := fun t => ∃ o, t.status = .running ∧ Ended t below o ∧ lw_Q a s o t
/-- the law's own end, with 1 on the stack, nothing written that was there before, its room as the claim has it -/
theorem lw_ret {p : Program} {l : Launch} {e : Env} {s : State} {m : MethodId} {below : List Frame} {meth : Method} {c : Code} {b : Nat} (hx : p.tables.exec = Jvm.exec) (hb : c.code = code) (hr : meth.sig.returnType = ret) (hlocks : meth.locks = false) {pc : Nat} {H : Heap} {ls : Array Slot} (hdg : decode code pc = .ok (.ireturn, 1)) : W p l e room_1 s m #[Value.ref b] below meth c H [] 600000 7302250 (lw_Z below #[Value.ref b] s) (F0 m pc ls [.int 1]) := by
  intro T hT X
  obtain ⟨fs, hret, hrun, hended, hW, hframe⟩ := X.leave (v := some (.int 1)) (hlocks := hlocks) (fun h => by rw [hr] at h; cases h)
  have hmeth' : T.vm.method? m = some meth := X.method'
  refine ⟨T.setFrames fs, ?_, .returned (some (.int 1)), hrun, hended, rfl, ⟨_, rfl⟩, hW, hframe⟩
  jvm_step X.here [X.here.top, hx, hb, hdg, hmeth', hr, ret, narrow_b1]
  (try refine ⟨rfl, ?_⟩); (try refine ⟨rfl, ?_⟩)
  first | (intro acts; rw [hret _ acts rfl rfl rfl]) | rw [hret _ _ rfl rfl rfl]
  exact Steps.refl _
/-- what holds at the law's entry: the machine, the code, the tables' words (any of lw_tbl by 'hts w (by decide +kernel)'), the script of L ints xs at the cell b, what the Statement gives of the start (any of its parts by flat_of_before) -/
def lw_At (p : Program) (s : State) (m : MethodId) (meth : Method) (c : Code) (b L : Nat) (xs : Nat → Int32) : Prop :=
  p.tables.exec = Jvm.exec ∧ c.code = code ∧ meth.sig.returnType = ret ∧ c.maxLocals = 4 ∧ s.vm.findClass R_law = some m.cls ∧ (∀ w ∈ lw_tbl, w.before #[Value.ref b] s = true) ∧ va_X b L xs s s.heap ∧ b < s.heap.size ∧ meth.locks = false ∧ (Jvm.Cond.and given_1 narrow_1).before #[Value.ref b] s = true
theorem and_15 (x : Int32) : 0 ≤ (x &&& 15).toInt ∧ (x &&& 15).toInt ≤ 15 := by
  have n : ((x &&& 15).toBitVec).toNat ≤ 15 := by rw [Int32.toBitVec_and, BitVec.toNat_and]; exact Nat.and_le_right
  have e : (x &&& 15).toInt = ((x &&& 15).toBitVec.toNat : Int) := BitVec.toInt_eq_toNat_of_lt (by omega)
  omega
set_option maxHeartbeats 4000000 in
set_option maxRecDepth 100000 in
/-- the law's loop -/
theorem law_loop {p : Program} {l : Launch} {e : Env} {s : State} {m : MethodId} {below : List Frame} {meth : Method} {c : Code} {D : va_G} {cB cI : ClassId} {b L a b2 : Nat} {xs : Nat → Int32} (hL : L ≤ 2560) (C0 : lw_At p s m meth c b L xs) (X : mCx p s m #[Value.ref b] c cL_law 4 RL D cB cI) : ∀ (n : Nat) (x3 : Int32), 0 ≤ x3.toInt → x3.toInt ≤ 2565 → (2565 - x3.toInt).toNat < n → ∀ (ws : va_W) (H : Heap) (locs : List Loc), LW cB cI a b2 ws → mWd D (fun q : Nat => s.heap.size ≤ q) s ws H locs → ∀ ls : Array Slot, lv_has ls 4 [(0, .ref b), (1, .ref a), (2, .ref b2), (3, .int x3)] → W p l e room_1 s m #[Value.ref b] below meth c H locs 35 3703 (lw_Z below #[Value.ref b] s) (F0 m 18 ls []) := by
  obtain ⟨hx, hb, hr, hml, hown, hts, hX, hbl, hlocks, hgv⟩ := C0
  have hbA : ¬ (fun q : Nat => s.heap.size ≤ q) b := Nat.not_le.mpr hbl
  have z1 : Int32.toInt 1 = 1 := rfl
  have z2 : Int32.toInt 2 = 2 := rfl
  have z3 : Int32.toInt 3 = 3 := rfl
  have z4 : Int32.toInt 4 = 4 := rfl
  have z5 : Int32.toInt 5 = 5 := rfl
  intro n
  induction n with
  | zero => intro x3 _ _ h; exact absurd h (Nat.not_lt_zero _)
  | succ n ih =>
    intro x3 h0 h2565 hn ws H locs hW V ls hl
    refine lv_iload_n hx hb dL_law_18 rfl (lv_at hl 3 rfl) ?_
    refine lv_aload_n hx hb dL_law_19 rfl (lv_at hl 0 rfl) ?_
    refine va_slen hx hb hX hbl hbA V.2.2.1 dL_law_20 ?_
    refine lv_iconst (v := 5) hx hb dL_law_21 (by decide) ?_
    refine lv_isub hx hb dL_law_22 ?_
    refine lv_icmp_gt (tgt := 435) hx hb dL_law_23 (by decide) (fun c1 => ?_) (fun c1 => ?_)
    · refine lv_iconst (v := 1) hx hb dL_law_435 (by decide) ?_
      refine va_forget (fun q hq => V.2.2.1.2.2 q hq) ?_
      refine W.widen (k := 600000) (n := 7302250) (by decide) (by decide) ?_
      exact lw_ret hx hb hr hlocks dL_law_436
    · have eL : (Int32.ofNat L).toInt = (L : Int) := nI_toInt (by omega)
      have e5 : (Int32.ofNat L - 5).toInt = (L : Int) - 5 := by rw [ti_sub (by omega) (by omega), eL, z5]
      rw [Int32.lt_iff_toInt_lt, e5] at c1
      have i0 : vp_in x3 L := vp_in_iff.mpr ⟨h0, by omega⟩
      have i1 : vp_in (x3 + 1) L := vp_in_iff.mpr (by rw [ti_add (by omega) (by omega), z1]; omega)
      have i2 : vp_in (x3 + 2) L := vp_in_iff.mpr (by rw [ti_add (by omega) (by omega), z2]; omega)
      have i3 : vp_in (x3 + 3) L := vp_in_iff.mpr (by rw [ti_add (by omega) (by omega), z3]; omega)
      have i4 : vp_in (x3 + 4) L := vp_in_iff.mpr (by rw [ti_add (by omega) (by omega), z4]; omega)
      have ea : (x3 + 5).toInt = x3.toInt + 5 := by rw [ti_add (by omega) (by omega), z5]
      have kk : ∀ (ws1 : va_W) (H1 : Heap) (locs1 : List Loc), LW cB cI a b2 ws1 → mWd D (fun q : Nat => s.heap.size ≤ q) s ws1 H1 locs1 → W p l e room_1 s m #[Value.ref b] below meth c H1 locs1 35 3703 (lw_Z below #[Value.ref b] s) (F0 m 429 ls []) := by
        intro ws1 H1 locs1 hW1 V1
        refine lv_iinc (v := x3 + 5) (lv' := [(3, .int (x3 + 5)), (0, .ref b), (1, .ref a), (2, .ref b2)]) hx hb dL_law_429 hl (k := 3) rfl (by rw [show Int32.ofInt 5 = 5 by decide]) (by decide) rfl (fun ls hl => ?_)
        refine lv_goto (tgt := 18) hx hb dL_law_432 (by decide) ?_
        exact ih (x3 + 5) (by rw [ea]; omega) (by rw [ea]; omega) (by rw [ea]; omega) ws1 H1 locs1 hW1 V1 ls (lv_sub hl [1, 2, 3, 0] rfl)
      refine lv_aload_n hx hb dL_law_26 rfl (lv_at hl 0 rfl) ?_
      refine lv_iload_n hx hb dL_law_27 rfl (lv_at hl 3 rfl) ?_
      refine va_sld hx hb hX hbl hbA V.2.2.1 i0 dL_law_28 ?_
      refine lv_bipush (v := 15) hx hb dL_law_29 (by decide) ?_
      refine lv_iand hx hb dL_law_31 ?_
      refine lv_topi (fun u eu => ?_)
      have hu : 0 ≤ u.toInt ∧ u.toInt ≤ 15 := by rw [eu]; exact and_15 _
      by_cases k0 : u.toInt = 0
      · refine lv_tableIn (off := 68) (tgt := 100) hx hb dL_law_32 (by omega) (by omega) (by rw [k0]; rfl) (by decide) ?_
        exact cs_lay X hX hbl hbA hW V hl i1 i2 i3 i4 kk
      by_cases k1 : u.toInt = 1
      · refine lv_tableIn (off := 141) (tgt := 173) hx hb dL_law_32 (by omega) (by omega) (by rw [k1]; rfl) (by decide) ?_
        exact cs_ram X hX hbl hbA hW V hl i1 kk
      by_cases k2 : u.toInt = 2
      · refine lv_tableIn (off := 164) (tgt := 196) hx hb dL_law_32 (by omega) (by omega) (by rw [k2]; rfl) (by decide) ?_
        exact cs_go X hX hbl hbA hW V hl i1 kk
      by_cases k3 : u.toInt = 3
      · refine lv_tableIn (off := 187) (tgt := 219) hx hb dL_law_32 (by omega) (by omega) (by rw [k3]; rfl) (by decide) ?_
        exact cs_push X hX hbl hbA hW V hl i1 kk
      by_cases k4 : u.toInt = 4
      · refine lv_tableIn (off := 210) (tgt := 242) hx hb dL_law_32 (by omega) (by omega) (by rw [k4]; rfl) (by decide) ?_
        exact cs_clear X hX hbl hbA hW V hl kk
      by_cases k5 : u.toInt = 5
      · refine lv_tableIn (off := 223) (tgt := 255) hx hb dL_law_32 (by omega) (by omega) (by rw [k5]; rfl) (by decide) ?_
        exact cs_read X hX hbl hbA hW V hl i1 kk
      by_cases k6 : u.toInt = 6
      · refine lv_tableIn (off := 246) (tgt := 278) hx hb dL_law_32 (by omega) (by omega) (by rw [k6]; rfl) (by decide) ?_
        exact cs_row X hX hbl hbA hW V hl i1 kk
      by_cases k7 : u.toInt = 7
      · refine lv_tableIn (off := 269) (tgt := 301) hx hb dL_law_32 (by omega) (by omega) (by rw [k7]; rfl) (by decide) ?_
        exact cs_step X hX hbl hbA hW V hl kk
      by_cases k8 : u.toInt = 8
      · refine lv_tableIn (off := 282) (tgt := 314) hx hb dL_law_32 (by omega) (by omega) (by rw [k8]; rfl) (by decide) ?_
        exact cs_run X hX hbl hbA hW V hl i1 kk
      by_cases k9 : u.toInt = 9
      · refine lv_tableIn (off := 305) (tgt := 337) hx hb dL_law_32 (by omega) (by omega) (by rw [k9]; rfl) (by decide) ?_
        exact cs_told X hX hbl hbA hW V hl i1 kk
      by_cases k10 : u.toInt = 10
      · refine lv_tableIn (off := 328) (tgt := 360) hx hb dL_law_32 (by omega) (by omega) (by rw [k10]; rfl) (by decide) ?_
        exact cs_octet X hX hbl hbA hW V hl i1 kk
      by_cases k11 : u.toInt = 11
      · refine lv_tableIn (off := 351) (tgt := 383) hx hb dL_law_32 (by omega) (by omega) (by rw [k11]; rfl) (by decide) ?_
        exact cs_local X hX hbl hbA hW V hl i1 kk
      by_cases k12 : u.toInt = 12
      · refine lv_tableIn (off := 374) (tgt := 406) hx hb dL_law_32 (by omega) (by omega) (by rw [k12]; rfl) (by decide) ?_
        exact cs_stack X hX hbl hbA hW V hl i1 kk
      refine lv_tableOut (tgt := 429) hx hb dL_law_32 (Or.inr (by omega)) (by decide) ?_
      exact kk ws H locs hW V
