theorem fit_step {mem : Nat → Int32} (g loc pf pg : Nat → Int32) (pn : Int32) (t fm fn z key ld : Nat → Int32) (h : sb_Fit mem) : sb_Fit (pX7_step g mem loc pf pg pn t fm fn z key ld).2.2.1 := by
  have d := fit_doOne (upd g 5 0) loc pf pg pn t fm fn z key ld h
  rw [pX7_step]
  by_cases c : g 7 = 0
  · rw [if_pos c, mLet_eq]
    generalize pX2_doOne (upd g 5 0) mem loc pf pg pn t fm fn z key ld = C at d ⊢
    by_cases c5 : C.1 5 = 0
    · rw [if_pos c5]
      by_cases c7 : C.1 7 = 0
      · rw [if_pos c7]; exact d
      · rw [if_neg c7]; exact d
    · rw [if_neg c5]; exact d
  · rw [if_neg c]; exact h
theorem fit_run_lp (x1 k2 : Int32) : ∀ (n_ : Nat) (g mem loc pf pg : Nat → Int32) (pn : Int32) (t fm fn z key ld : Nat → Int32) (k3 : Int32), sb_Fit mem → sb_Fit (pX7_run_lp31 x1 n_ g mem loc pf pg pn t fm fn z key ld k2 k3).2.2.1 := by
  intro n_
  induction n_ with
  | zero => intro g mem loc pf pg pn t fm fn z key ld k3 h; exact h
  | succ n_ ih =>
    intro g mem loc pf pg pn t fm fn z key ld k3 h
    rw [pX7_run_lp31]
    by_cases c : x1 ≤ k3
    · rw [if_pos c]; exact h
    · rw [if_neg c]
      by_cases c7 : g 7 = 0
      · rw [if_pos c7]
        by_cases c5 : g 5 = 0
        · rw [if_pos c5, mLet_eq]
          exact ih _ _ _ _ _ _ _ _ _ _ _ _ _ (fit_doOne g loc pf pg pn t fm fn z key ld h)
        · rw [if_neg c5]; exact h
      · rw [if_neg c7]; exact h
theorem fit_run {mem : Nat → Int32} (g loc pf pg : Nat → Int32) (pn : Int32) (t fm fn z key ld : Nat → Int32) (x : Int32) (h : sb_Fit mem) : sb_Fit (pX7_run g mem loc pf pg pn t fm fn z key ld x).2.2.1 := by
  rw [pX7_run]
  by_cases c : x < 0
  · rw [if_pos c]; exact h
  · rw [if_neg c]
    by_cases d : x ≤ 2000
    · rw [if_pos d]; exact fit_run_lp _ _ _ _ _ _ _ _ _ _ _ _ _ _ _ _ h
    · rw [if_neg d]; exact h
theorem fit_lay {mem : Nat → Int32} (x1 x2 : Int32) (x3 : Int64) (h : sb_Fit mem) : sb_Fit (pX7_lay mem x1 x2 x3).2 := by
  rw [pX7_lay]
  by_cases c : x2 < 1
  · rw [if_pos c]; exact h
  rw [if_neg c]
  by_cases d : 8 < x2
  · rw [if_pos d]; exact h
  rw [if_neg d]
  by_cases f : pX0_holds 1024 x1 x2 = 0
  · rw [if_pos f]; exact h
  · rw [if_neg f]; exact fit_put 1024 x1 x2 x3 h
/-- all that stands on both sides between two calls -/
def FR (wr : Int32) (g mem loc pf : Nat → Int32) (pn : Int32) (T F N v qm ql qs qd qe qf : Nat → Int32) : Prop := Rl g mem loc pf pn v qm ql qs ∧ g 5 = v 5 ∧ nnQ qd ∧ rdRel wr T F N v qe qf ∧ (v 12).toInt ≤ 8 ∧ sb_Fit mem
theorem FR_lay {wr : Int32} {g mem loc pf : Nat → Int32} {pn : Int32} {T F N v qm ql qs qd qe qf : Nat → Int32} (h : FR wr g mem loc pf pn T F N v qm ql qs qd qe qf) (x1 x2 : Int32) (x3 : Int64) : (pX7_lay mem x1 x2 x3).1 = (pX8_lay qm x1 x2 x3).1 ∧ FR wr g (pX7_lay mem x1 x2 x3).2 loc pf pn T F N v (pX8_lay qm x1 x2 x3).2 ql qs qd qe qf := by
  obtain ⟨⟨r1, r⟩, h5, hq, hr, h12, hf⟩ := h
  have e := lay_eq r1 x1 x2 x3
  exact ⟨e.1, ⟨e.2, r⟩, h5, hq, hr, h12, fit_lay x1 x2 x3 hf⟩
theorem FR_ram {wr : Int32} {g mem loc pf : Nat → Int32} {pn : Int32} {T F N v qm ql qs qd qe qf : Nat → Int32} (h : FR wr g mem loc pf pn T F N v qm ql qs qd qe qf) (x : Int32) : (pX7_ram g x).1 = (pX8_ram v x).1 ∧ FR wr (pX7_ram g x).2 mem loc pf pn T F N (pX8_ram v x).2 qm ql qs qd qe qf := by
  obtain ⟨R, h5, hq, hr, h12, hf⟩ := h
  obtain ⟨e1, e2, e3, e4⟩ := ram_eq R x
  exact ⟨e1, e2, by rw [e3 5 (by decide), e4 5 (by decide)]; exact h5, hq, rd_keep hr (fun i hi => e4 i (by omega)), by rw [e4 12 (by decide)]; exact h12, hf⟩
theorem FR_go {wr : Int32} {g mem loc pf : Nat → Int32} {pn : Int32} {T F N v qm ql qs qd qe qf : Nat → Int32} (h : FR wr g mem loc pf pn T F N v qm ql qs qd qe qf) (x : Int32) : (pX7_go g x).1 = (pX8_go v x).1 ∧ FR wr (pX7_go g x).2 mem loc pf pn T F N (pX8_go v x).2 qm ql qs qd qe qf := by
  obtain ⟨R, h5, hq, hr, h12, hf⟩ := h
  obtain ⟨e1, e2, e3, e4⟩ := go_eq R x
  exact ⟨e1, e2, by rw [e3 5 (by decide) (by decide), e4 5 (by decide) (by decide)]; exact h5, hq, rd_keep hr (fun i hi => e4 i (by omega) (by omega)), by rw [e4 12 (by decide) (by decide)]; exact h12, hf⟩
theorem FR_push {wr : Int32} {g mem loc pf : Nat → Int32} {pn : Int32} {T F N v qm ql qs qd qe qf : Nat → Int32} (h : FR wr g mem loc pf pn T F N v qm ql qs qd qe qf) (x : Int32) : (pX7_push pf pn x).1 = (pX8_push v qs x).1 ∧ FR wr g mem loc (pX7_push pf pn x).2.1 (pX7_push pf pn x).2.2 T F N (pX8_push v qs x).2.1 qm ql (pX8_push v qs x).2.2 qd qe qf := by
  obtain ⟨R, h5, hq, hr, h12, hf⟩ := h
  obtain ⟨e1, e2, e4⟩ := push_eq R x
  exact ⟨e1, e2, by rw [e4 5 (by decide)]; exact h5, hq, rd_keep hr (fun i hi => e4 i (by omega)), by rw [e4 12 (by decide)]; exact h12, hf⟩
theorem FR_clear {wr : Int32} {g mem loc pf : Nat → Int32} {pn : Int32} {T F N v qm ql qs qd qe qf : Nat → Int32} (h : FR wr g mem loc pf pn T F N v qm ql qs qd qe qf) : (pX7_clear loc pn).1 = (pX8_clear v ql).1 ∧ FR wr g mem (pX7_clear loc pn).2.1 pf (pX7_clear loc pn).2.2 T F N (pX8_clear v ql).2.1 qm (pX8_clear v ql).2.2 qs qd qe qf := by
  obtain ⟨R, h5, hq, hr, h12, hf⟩ := h
  obtain ⟨e1, e2, e4⟩ := clear_eq R
  exact ⟨e1, e2, by rw [e4 5 (by decide)]; exact h5, hq, rd_keep hr (fun i hi => e4 i (by omega)), by rw [e4 12 (by decide)]; exact h12, hf⟩
theorem FR_told {wr : Int32} {g mem loc pf : Nat → Int32} {pn : Int32} {T F N v qm ql qs qd qe qf : Nat → Int32} (h : FR wr g mem loc pf pn T F N v qm ql qs qd qe qf) (x : Int32) : pX7_told g pn x = pX8_told v x := by
  obtain ⟨⟨r1, r2, r3, r4, r5, r6, r7, r8, r9, r10⟩, h5, hq, hr, h12, hf⟩ := h
  exact told_eq r3 r6 r7 r8 h5 r9 r10 x
theorem FR_stack {wr : Int32} {g mem loc pf : Nat → Int32} {pn : Int32} {T F N v qm ql qs qd qe qf : Nat → Int32} (h : FR wr g mem loc pf pn T F N v qm ql qs qd qe qf) (x : Int32) : pX7_stack pf pn x = pX8_stack v qs x := by
  obtain ⟨⟨r1, r2, r3, r4, r5, _⟩, _⟩ := h
  rw [r3]
  exact stack_eq r4 r5 x
theorem FR_step {wr : Int32} {g mem loc pf : Nat → Int32} {pn : Int32} {T F N v qm ql qs qd qe qf : Nat → Int32} (h : FR wr g mem loc pf pn T F N v qm ql qs qd qe qf) (pg t fm fn z key ld qk qn qo qt qi qy : Nat → Int32) {C : Int32 × (Nat → Int32) × (Nat → Int32) × (Nat → Int32) × (Nat → Int32) × (Nat → Int32) × Int32 × (Nat → Int32) × (Nat → Int32) × (Nat → Int32) × (Nat → Int32) × (Nat → Int32) × (Nat → Int32)} {X : Int32 × (Nat → Int32) × (Nat → Int32) × (Nat → Int32) × (Nat → Int32) × (Nat → Int32) × (Nat → Int32) × (Nat → Int32) × (Nat → Int32) × (Nat → Int32) × (Nat → Int32) × (Nat → Int32)} (hC : pX7_step g mem loc pf pg pn t fm fn z key ld = C) (hX : pX8_step v qm ql qs qk qd qn qo qt qi qy = X) : C.1 = X.1 ∧ FR wr C.2.1 C.2.2.1 C.2.2.2.1 C.2.2.2.2.1 C.2.2.2.2.2.2.1 T F N X.2.1 X.2.2.1 X.2.2.2.1 X.2.2.2.2.1 X.2.2.2.2.2.2.1 qe qf := by
  obtain ⟨R, h5, hq, hr, h12, hf⟩ := h
  have e := step_eq R hq pg t fm fn z key ld qk qn qo qt qi qy
  have ff := fit_step g loc pf pg pn t fm fn z key ld hf
  rw [hC, hX] at e
  rw [hC] at ff
  obtain ⟨e1, e2, e3, e4, e5⟩ := e
  exact ⟨e1, e2, e3, e4, rd_keep hr e5, by rw [e5 12 (by decide)]; exact h12, ff⟩
theorem FR_run {wr : Int32} {g mem loc pf : Nat → Int32} {pn : Int32} {T F N v qm ql qs qd qe qf : Nat → Int32} (h : FR wr g mem loc pf pn T F N v qm ql qs qd qe qf) (pg t fm fn z key ld qk qn qo qt qi qy : Nat → Int32) (x : Int32) {C : Int32 × (Nat → Int32) × (Nat → Int32) × (Nat → Int32) × (Nat → Int32) × (Nat → Int32) × Int32 × (Nat → Int32) × (Nat → Int32) × (Nat → Int32) × (Nat → Int32) × (Nat → Int32) × (Nat → Int32)} {X : Int32 × (Nat → Int32) × (Nat → Int32) × (Nat → Int32) × (Nat → Int32) × (Nat → Int32) × (Nat → Int32) × (Nat → Int32) × (Nat → Int32) × (Nat → Int32) × (Nat → Int32) × (Nat → Int32)} (hC : pX7_run g mem loc pf pg pn t fm fn z key ld x = C) (hX : pX8_run v qm ql qs qk qd qn qo qt qi qy x = X) : C.1 = X.1 ∧ FR wr C.2.1 C.2.2.1 C.2.2.2.1 C.2.2.2.2.1 C.2.2.2.2.2.2.1 T F N X.2.1 X.2.2.1 X.2.2.2.1 X.2.2.2.2.1 X.2.2.2.2.2.2.1 qe qf := by
  obtain ⟨R, h5, hq, hr, h12, hf⟩ := h
  have e := run_eq R h5 hq pg t fm fn z key ld qk qn qo qt qi qy x
  have ff := fit_run g loc pf pg pn t fm fn z key ld x hf
  rw [hC, hX] at e
  rw [hC] at ff
  obtain ⟨e1, e2, e3, e4, e5⟩ := e
  exact ⟨e1, e2, e3, e4, rd_keep hr e5, by rw [e5 12 (by decide)]; exact h12, ff⟩
theorem Rl_keep {g mem loc pf v w qm ql qs : Nat → Int32} {pn : Int32} (R : Rl g mem loc pf pn v qm ql qs) (hw : ∀ i : Nat, i = 0 ∨ i = 1 ∨ i = 2 ∨ i = 3 ∨ i = 4 ∨ i = 6 → w i = v i) : Rl g mem loc pf pn w qm ql qs := by
  obtain ⟨r1, r2, r3, r4, r5, r6, r7, r8, r9, r10⟩ := R
  have w0 := hw 0 (by decide)
  refine ⟨r1, r2, r3.trans w0.symm, by rw [Tp, w0]; exact r4, fun j hj => ?_, r6.trans (hw 2 (by decide)).symm, r7.trans (hw 1 (by decide)).symm, r8.trans (hw 4 (by decide)).symm, r9.trans (hw 6 (by decide)).symm, r10.trans (hw 3 (by decide)).symm⟩
  rw [w0] at hj
  exact r5 j hj
/-- a read: T F N the latest form, t f n the other one, which the row is taken apart into -/
theorem FR_read {wr : Int32} {g mem loc pf : Nat → Int32} {pn : Int32} {T F N v qm ql qs qd qe qf : Nat → Int32} (h : FR wr g mem loc pf pn T F N v qm ql qs qd qe qf) (t f n qn : Nat → Int32) (x : Int32) {C : Int32 × (Nat → Int32) × (Nat → Int32) × (Nat → Int32)} {X : Int32 × (Nat → Int32) × (Nat → Int32) × (Nat → Int32) × (Nat → Int32) × (Nat → Int32)} (hC : pX1_decode t f n mem x = C) (hX : pX8_read v qm qd qn qe qf x = X) : (C.1 = 0 ∧ C.2.1 3 = X.1 ∧ FR 1 g mem loc pf pn C.2.1 C.2.2.1 C.2.2.2 X.2.1 qm ql qs X.2.2.1 X.2.2.2.2.1 X.2.2.2.2.2) ∨ (¬ C.1 = 0 ∧ -10 - C.1 = X.1 ∧ FR wr g mem loc pf pn T F N X.2.1 qm ql qs X.2.2.1 X.2.2.2.2.1 X.2.2.2.2.2) := by
  obtain ⟨R, h5, hq, hr, h12, hf⟩ := h
  have e := read_eq (v := v) R.1 hq t f n qn qe qf x
  rw [hC] at e
  rcases e with ⟨c, V, QD, QN, QE, QF, e1, e2, e3, e4⟩ | ⟨c, V, QD, QN, e1, e2, e3⟩
  · have hX' : X = (C.2.1 3, V, QD, QN, QE, QF) := hX.symm.trans e1
    subst hX'
    refine Or.inl ⟨c, rfl, Rl_keep R (fun i hi => e3 i (by omega) (by omega) (by omega) (by omega) (by omega) (by omega)), ?_, e2, e4, ?_, hf⟩
    · dsimp only; rw [e3 5 (by decide) (by decide) (by decide) (by decide) (by decide) (by decide)]; exact h5
    · exact (e4.2 (by rw [← e4.1]; decide)).2.2.1
  · have hX' : X = (-10 - C.1, V, QD, QN, qe, qf) := hX.symm.trans e1
    subst hX'
    refine Or.inr ⟨c, rfl, Rl_keep R (fun i hi => e3 i (by omega) (by omega) (by omega)), ?_, e2, rd_keep hr (fun i hi => e3 i (by omega) (by omega) (by omega)), ?_, hf⟩
    · dsimp only; rw [e3 5 (by decide) (by decide) (by decide)]; exact h5
    · dsimp only; rw [e3 12 (by decide) (by decide) (by decide)]; exact h12
