theorem fit_nar (x : Int32) : fits .byte (.int (vp_nar .byte x)) = true := by rw [vp_nar_byte]; exact pk_fb _
theorem fit_putByte {f : Nat → Int32} (n : Nat) (x1 x2 : Int32) (h : sb_Fit f) : sb_Fit (pX0_putByte f n x1 x2) := by
  unfold pX0_putByte
  (repeat' split) <;> first | with_reducible exact h | with_reducible exact sb_fitU h (fit_nar _)
theorem fit_put_lp (n : Nat) (x1 : Int32) : ∀ (n_ : Nat) (f : Nat → Int32) (j5 : Int64) (k7 : Int32), sb_Fit f → sb_Fit (pX0_put_lp8 n x1 n_ f j5 k7) := by
  intro n_
  induction n_ with
  | zero => intro f j5 k7 h; exact h
  | succ n_ ih =>
    intro f j5 k7 h
    rw [pX0_put_lp8]
    (repeat' split) <;> first | with_reducible exact h | with_reducible exact ih _ _ _ h | with_reducible exact ih _ _ _ (sb_fitU h (fit_nar _))
theorem fit_put {f : Nat → Int32} (n : Nat) (x1 x2 : Int32) (x3 : Int64) (h : sb_Fit f) : sb_Fit (pX0_put f n x1 x2 x3) := fit_put_lp _ _ _ _ _ _ h
theorem fit_zero_lp (n : Nat) (x1 x2 : Int32) : ∀ (n_ : Nat) (f : Nat → Int32) (k3 : Int32), sb_Fit f → sb_Fit (pX0_zero_lp11 n x1 x2 n_ f k3) := by
  intro n_
  induction n_ with
  | zero => intro f k3 h; exact h
  | succ n_ ih =>
    intro f k3 h
    rw [pX0_zero_lp11]
    split
    · exact h
    · exact ih _ _ (fit_putByte _ _ _ h)
theorem fit_zero {f : Nat → Int32} (n : Nat) (x1 x2 : Int32) (h : sb_Fit f) : sb_Fit (pX0_zero f n x1 x2) := by
  unfold pX0_zero
  split
  · exact h
  · exact fit_zero_lp _ _ _ _ _ _ h
theorem fit_move {f : Nat → Int32} (n : Nat) (x1 x2 x3 : Int32) (h : sb_Fit f) : sb_Fit (pX0_move f n x1 x2 x3) := by
  unfold pX0_move
  (repeat' split) <;> first | with_reducible exact h | with_reducible exact sb_fitC h h
theorem fit_ite {α : Type} (π : α → Nat → Int32) {c : Prop} [Decidable c] {a b : α} (ha : sb_Fit (π a)) (hb : sb_Fit (π b)) : sb_Fit (π (if c then a else b)) := by
  by_cases h : c
  · rw [if_pos h]; exact ha
  · rw [if_neg h]; exact hb
theorem fit_let {α β : Type} (π : β → Nat → Int32) {x : α} {f : α → β} (h : sb_Fit (π (f x))) : sb_Fit (π (mLet x f)) := h
theorem fit_storeMemory {mem : Nat → Int32} (g : Nat → Int32) (x1 x2 x3 : Int32) (h : sb_Fit mem) : sb_Fit (pX2_storeMemory g mem x1 x2 x3).2 := by
  unfold pX2_storeMemory
  repeat' (first | with_reducible refine fit_ite (fun (u : (Nat → Int32) × (Nat → Int32)) => u.2) ?_ ?_ | with_reducible refine fit_let (fun (u : (Nat → Int32) × (Nat → Int32)) => u.2) ?_)
  all_goals first | with_reducible exact h | with_reducible exact fit_put _ _ _ _ h
theorem fit_array {mem : Nat → Int32} (g ld : Nat → Int32) (x1 x2 x3 : Int32) (h : sb_Fit mem) : sb_Fit (pX2_array g mem ld x1 x2 x3).2.2 := by
  unfold pX2_array
  repeat' (first | with_reducible refine fit_ite (fun (u : Int32 × (Nat → Int32) × (Nat → Int32)) => u.2.2) ?_ ?_ | with_reducible refine fit_let (fun (u : Int32 × (Nat → Int32) × (Nat → Int32)) => u.2.2) ?_)
  all_goals first | with_reducible exact h | with_reducible exact fit_storeMemory _ _ _ _ h
theorem fit_zeroBlock {mem : Nat → Int32} (g : Nat → Int32) (x1 x2 : Int32) (h : sb_Fit mem) : sb_Fit (pX2_zeroBlock g mem x1 x2).2.2 := by
  unfold pX2_zeroBlock
  repeat' (first | with_reducible refine fit_ite (fun (u : Int32 × (Nat → Int32) × (Nat → Int32)) => u.2.2) ?_ ?_ | with_reducible refine fit_let (fun (u : Int32 × (Nat → Int32) × (Nat → Int32)) => u.2.2) ?_)
  all_goals first | with_reducible exact h | with_reducible exact fit_zero _ _ _ h
theorem fit_copyBlock {mem : Nat → Int32} (g : Nat → Int32) (x1 x2 x3 : Int32) (h : sb_Fit mem) : sb_Fit (pX2_copyBlock g mem x1 x2 x3).2.2 := by
  unfold pX2_copyBlock
  repeat' (first | with_reducible refine fit_ite (fun (u : Int32 × (Nat → Int32) × (Nat → Int32)) => u.2.2) ?_ ?_ | with_reducible refine fit_let (fun (u : Int32 × (Nat → Int32) × (Nat → Int32)) => u.2.2) ?_)
  all_goals first | with_reducible exact h | with_reducible exact fit_move _ _ _ _ h
theorem fit_perform {mem : Nat → Int32} (g pf pg : Nat → Int32) (pn : Int32) (t z key ld : Nat → Int32) (x1 : Int32) (h : sb_Fit mem) : sb_Fit (pX2_perform g mem pf pg pn t z key ld x1).2.2.1 := by
  unfold pX2_perform
  repeat' (first | with_reducible refine fit_ite (fun (u : Int32 × (Nat → Int32) × (Nat → Int32) × (Nat → Int32) × (Nat → Int32) × Int32 × (Nat → Int32) × (Nat → Int32)) => u.2.2.1) ?_ ?_ | with_reducible refine fit_let (fun (u : Int32 × (Nat → Int32) × (Nat → Int32) × (Nat → Int32) × (Nat → Int32) × Int32 × (Nat → Int32) × (Nat → Int32)) => u.2.2.1) ?_)
  all_goals first | with_reducible exact h | with_reducible exact fit_array _ _ _ _ _ h | with_reducible exact fit_zeroBlock _ _ _ h | with_reducible exact fit_copyBlock _ _ _ _ h
theorem fit_storeOperand {mem : Nat → Int32} (g loc pf : Nat → Int32) (pn : Int32) (fm fn : Nat → Int32) (x1 x2 : Int32) (h : sb_Fit mem) : sb_Fit (pX2_storeOperand g mem loc pf pn fm fn x1 x2).2.1 := by
  unfold pX2_storeOperand
  repeat' (first | with_reducible refine fit_ite (fun (u : (Nat → Int32) × (Nat → Int32) × (Nat → Int32) × (Nat → Int32) × Int32) => u.2.1) ?_ ?_ | with_reducible refine fit_let (fun (u : (Nat → Int32) × (Nat → Int32) × (Nat → Int32) × (Nat → Int32) × Int32) => u.2.1) ?_)
  all_goals first | with_reducible exact h | with_reducible exact fit_storeMemory _ _ _ _ h
theorem fit_doOne {mem : Nat → Int32} (g loc pf pg : Nat → Int32) (pn : Int32) (t fm fn z key ld : Nat → Int32) (h : sb_Fit mem) : sb_Fit (pX2_doOne g mem loc pf pg pn t fm fn z key ld).2.1 := by
  unfold pX2_doOne
  repeat' (first | with_reducible refine fit_ite (fun (u : (Nat → Int32) × (Nat → Int32) × (Nat → Int32) × (Nat → Int32) × (Nat → Int32) × Int32 × (Nat → Int32) × (Nat → Int32) × (Nat → Int32) × (Nat → Int32) × (Nat → Int32) × (Nat → Int32)) => u.2.1) ?_ ?_ | with_reducible refine fit_let (fun (u : (Nat → Int32) × (Nat → Int32) × (Nat → Int32) × (Nat → Int32) × (Nat → Int32) × Int32 × (Nat → Int32) × (Nat → Int32) × (Nat → Int32) × (Nat → Int32) × (Nat → Int32) × (Nat → Int32)) => u.2.1) ?_)
  all_goals first | with_reducible exact h | with_reducible exact fit_perform _ _ _ _ _ _ _ _ _ h | with_reducible exact fit_storeOperand _ _ _ _ _ _ _ _ (fit_perform _ _ _ _ _ _ _ _ _ h)
