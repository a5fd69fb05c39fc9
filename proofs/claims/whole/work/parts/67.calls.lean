theorem Rl_5 {g mem loc pf v qm ql qs : Nat → Int32} {pn : Int32} (R : Rl g mem loc pf pn v qm ql qs) (a b : Int32) : Rl (upd g 5 a) mem loc pf pn (upd v 5 b) qm ql qs := by
  obtain ⟨r1, r2, r3, r4, r5, r6, r7, r8, r9, r10⟩ := R
  have u : ∀ i : Nat, i ≠ 5 → upd g 5 a i = g i := fun i hi => upd_ne g a hi
  have w : ∀ i : Nat, i ≠ 5 → upd v 5 b i = v i := fun i hi => upd_ne v b hi
  have w0 := w 0 (by decide)
  refine ⟨r1, r2, by rw [w0]; exact r3, by rw [Tp, w0]; exact r4, fun j hj => ?_, ?_, ?_, ?_, ?_, ?_⟩
  · rw [w0] at hj; exact r5 j hj
  · rw [u 0 (by decide), w 2 (by decide)]; exact r6
  · rw [u 1 (by decide), w 1 (by decide)]; exact r7
  · rw [u 4 (by decide), w 4 (by decide)]; exact r8
  · rw [u 6 (by decide), w 6 (by decide)]; exact r9
  · rw [u 7 (by decide), w 3 (by decide)]; exact r10
theorem upd_id (f : Nat → Int32) (k : Nat) : upd f k (f k) = f := by
  funext j
  rw [upd_at]
  by_cases c : j = k
  · rw [if_pos c, c]
  · rw [if_neg c]
theorem Rl_v5 {g mem loc pf v qm ql qs : Nat → Int32} {pn : Int32} (R : Rl g mem loc pf pn v qm ql qs) (b : Int32) : Rl g mem loc pf pn (upd v 5 b) qm ql qs := by
  have := Rl_5 R (g 5) b
  rw [upd_id] at this
  exact this
/-- what a call leaves: the answers alike, all alike -/
def callRel (v : Nat → Int32) (c : Int32 × (Nat → Int32) × (Nat → Int32) × (Nat → Int32) × (Nat → Int32) × (Nat → Int32) × Int32 × (Nat → Int32) × (Nat → Int32) × (Nat → Int32) × (Nat → Int32) × (Nat → Int32) × (Nat → Int32)) (r : Int32 × (Nat → Int32) × (Nat → Int32) × (Nat → Int32) × (Nat → Int32) × (Nat → Int32) × (Nat → Int32) × (Nat → Int32) × (Nat → Int32) × (Nat → Int32) × (Nat → Int32) × (Nat → Int32)) : Prop :=
  c.1 = r.1 ∧ Rl c.2.1 c.2.2.1 c.2.2.2.1 c.2.2.2.2.1 c.2.2.2.2.2.2.1 r.2.1 r.2.2.1 r.2.2.2.1 r.2.2.2.2.1 ∧ c.2.1 5 = r.2.1 5 ∧ nnQ r.2.2.2.2.2.2.1 ∧ (∀ i : Nat, i = 10 ∨ i = 11 ∨ i = 12 → r.2.1 i = v i)
theorem step_eq {g mem loc pf qm ql qs qd v : Nat → Int32} {pn : Int32} (R : Rl g mem loc pf pn v qm ql qs) (hq : nnQ qd) (pg t fm fn z key ld qk qn qo qt qi qy : Nat → Int32) : callRel v (pX7_step g mem loc pf pg pn t fm fn z key ld) (pX8_step v qm ql qs qk qd qn qo qt qi qy) := by
  have r10 : g 7 = v 3 := R.2.2.2.2.2.2.2.2.2
  rw [pX7_step, pX8_step, r10]
  by_cases c : v 3 = 0
  · rw [if_pos c, if_pos c, mLet_eq, mLet_eq]
    have R' := Rl_5 R 0 0
    have h := row_eq R' (by rw [upd_ne _ _ (by decide)]; exact c) hq pg t fm fn z key ld qk qn qo qt qi qy
    generalize pX2_doOne (upd g 5 0) mem loc pf pg pn t fm fn z key ld = C at h ⊢
    generalize pX8_doesRow (upd v 5 0) qm ql qs qk qd qn qo qt qi qy = X at h ⊢
    obtain ⟨h1, h2, h3, h4, _, _⟩ := h
    have h7 : C.1 7 = X.2.1 3 := h2.2.2.2.2.2.2.2.2.2
    have vk : ∀ i : Nat, i = 10 ∨ i = 11 ∨ i = 12 → upd X.2.1 5 X.1 i = v i := fun i hi => by rw [upd_ne _ _ (by omega), h4 i (by omega), upd_ne _ _ (by omega)]
    have RR := Rl_v5 h2 X.1
    have e5 : C.1 5 = upd X.2.1 5 X.1 5 := by rw [upd_same]; exact h1
    rw [h1, h7]
    by_cases d : X.1 = 0
    · rw [if_pos d, if_pos d]
      by_cases f : X.2.1 3 = 0
      · rw [if_pos f, if_pos f]; exact ⟨rfl, RR, e5, h3, vk⟩
      · rw [if_neg f, if_neg f]; exact ⟨rfl, RR, e5, h3, vk⟩
    · rw [if_neg d, if_neg d]; exact ⟨rfl, RR, e5, h3, vk⟩
  · rw [if_neg c, if_neg c]
    exact ⟨rfl, Rl_5 R 0 0, (upd_same g 5 0).trans (upd_same v 5 0).symm, hq, fun i hi => upd_ne _ _ (by omega)⟩
theorem run_lp {x1 k2 : Int32} : ∀ (n_ m_ : Nat) (g mem loc pf qm ql qs qd v pg t fm fn z key ld qk qn qo qt qi qy : Nat → Int32) (pn k3 kr : Int32), Rl g mem loc pf pn v qm ql qs → nnQ qd → g 5 = v 5 → 0 ≤ kr.toInt → (v 5 = 0 → k3 = kr) → (x1.toInt - k3.toInt).toNat < n_ → (x1.toInt - kr.toInt).toNat * 2 + (if v 5 = 0 then 1 else 0) < m_ → g 6 = k2 + kr → (∀ i : Nat, i = 10 ∨ i = 11 ∨ i = 12 → v i = v i) → callRel v (pX7_run_lp31 x1 n_ g mem loc pf pg pn t fm fn z key ld k2 k3) (pX8_run_lp20 x1 m_ v qm ql qs qk qd qn qo qt qi qy kr) := by
  intro n_
  induction n_ with
  | zero => intro m_ g mem loc pf qm ql qs qd v pg t fm fn z key ld qk qn qo qt qi qy pn k3 kr _ _ _ _ _ h; exact absurd h (Nat.not_lt_zero _)
  | succ n_ ih =>
    intro m_ g mem loc pf qm ql qs qd v pg t fm fn z key ld qk qn qo qt qi qy pn k3 kr R hq h5 hk0 hk hn hm h6 _
    cases m_ with
    | zero => exact absurd hm (Nat.not_lt_zero _)
    | succ m_ =>
    have r10 : g 7 = v 3 := R.2.2.2.2.2.2.2.2.2
    have ee : g 6 - k2 = kr := by rw [h6, Int32.add_comm, Int32.add_sub_cancel]
    have done : callRel v (g 6 - k2, g, mem, loc, pf, pg, pn, t, fm, fn, z, key, ld) (kr, v, qm, ql, qs, qk, qd, qn, qo, qt, qi, qy) := ⟨ee, R, h5, hq, fun _ _ => rfl⟩
    rw [pX7_run_lp31, pX8_run_lp20, r10, h5]
    by_cases f : v 5 = 0
    · have ek := hk f
      subst ek
      by_cases c : x1 ≤ k3
      · rw [if_pos c, if_pos c]; exact done
      · rw [if_neg c, if_neg c]
        by_cases d : v 3 = 0
        · rw [if_pos d, if_pos d, if_pos f, if_pos f, mLet_eq, mLet_eq]
          have ed := i32_add1 c
          have g3 := ms_up c hn
          have c' := c
          rw [Int32.le_iff_toInt_le] at c'
          have h := row_eq R d hq pg t fm fn z key ld qk qn qo qt qi qy
          generalize pX2_doOne g mem loc pf pg pn t fm fn z key ld = C at h ⊢
          generalize pX8_doesRow v qm ql qs qk qd qn qo qt qi qy = X at h ⊢
          obtain ⟨h1, h2, hx, h4, y1, y2⟩ := h
          have RR := Rl_v5 h2 X.1
          have e5 : C.1 5 = upd X.2.1 5 X.1 5 := by rw [upd_same]; exact h1
          have vk : ∀ i : Nat, i = 10 ∨ i = 11 ∨ i = 12 → upd X.2.1 5 X.1 i = v i := fun i hi => by rw [upd_ne _ _ (by omega), h4 i (by omega)]
          rw [if_pos f] at hm
          by_cases b : X.1 = 0
          · rw [if_pos b]
            have := ih m_ C.1 C.2.1 C.2.2.1 C.2.2.2.1 X.2.2.1 X.2.2.2.1 X.2.2.2.2.1 X.2.2.2.2.2.2.1 (upd X.2.1 5 X.1) C.2.2.2.2.1 C.2.2.2.2.2.2.1 C.2.2.2.2.2.2.2.1 C.2.2.2.2.2.2.2.2.1 C.2.2.2.2.2.2.2.2.2.1 C.2.2.2.2.2.2.2.2.2.2.1 C.2.2.2.2.2.2.2.2.2.2.2 X.2.2.2.2.2.1 X.2.2.2.2.2.2.2.1 X.2.2.2.2.2.2.2.2.1 X.2.2.2.2.2.2.2.2.2.1 X.2.2.2.2.2.2.2.2.2.2.1 X.2.2.2.2.2.2.2.2.2.2.2 C.2.2.2.2.2.1 (k3 + 1) (k3 + 1) RR hx e5 (by rw [ed]; omega) (fun _ => rfl) g3 (by rw [ed, upd_same, if_pos b]; omega) (by rw [y1 b, h6, Int32.add_assoc]) (fun _ _ => rfl)
            exact ⟨this.1, this.2.1, this.2.2.1, this.2.2.2.1, fun i hi => (this.2.2.2.2 i hi).trans (vk i hi)⟩
          · rw [if_neg b, Int32.add_zero]
            have := ih m_ C.1 C.2.1 C.2.2.1 C.2.2.2.1 X.2.2.1 X.2.2.2.1 X.2.2.2.2.1 X.2.2.2.2.2.2.1 (upd X.2.1 5 X.1) C.2.2.2.2.1 C.2.2.2.2.2.2.1 C.2.2.2.2.2.2.2.1 C.2.2.2.2.2.2.2.2.1 C.2.2.2.2.2.2.2.2.2.1 C.2.2.2.2.2.2.2.2.2.2.1 C.2.2.2.2.2.2.2.2.2.2.2 X.2.2.2.2.2.1 X.2.2.2.2.2.2.2.1 X.2.2.2.2.2.2.2.2.1 X.2.2.2.2.2.2.2.2.2.1 X.2.2.2.2.2.2.2.2.2.2.1 X.2.2.2.2.2.2.2.2.2.2.2 C.2.2.2.2.2.1 (k3 + 1) k3 RR hx e5 (by omega) (fun q => by rw [upd_same] at q; exact absurd q b) g3 (by rw [upd_same, if_neg b]; omega) (by rw [y2 b, h6]) (fun _ _ => rfl)
            exact ⟨this.1, this.2.1, this.2.2.1, this.2.2.2.1, fun i hi => (this.2.2.2.2 i hi).trans (vk i hi)⟩
        · rw [if_neg d, if_neg d]; exact done
    · have dn1 : (if x1 ≤ k3 then (g 6 - k2, g, mem, loc, pf, pg, pn, t, fm, fn, z, key, ld) else (if v 3 = 0 then (g 6 - k2, g, mem, loc, pf, pg, pn, t, fm, fn, z, key, ld) else (g 6 - k2, g, mem, loc, pf, pg, pn, t, fm, fn, z, key, ld))) = (g 6 - k2, g, mem, loc, pf, pg, pn, t, fm, fn, z, key, ld) := by
        by_cases c : x1 ≤ k3
        · rw [if_pos c]
        · rw [if_neg c]
          by_cases d : v 3 = 0
          · rw [if_pos d]
          · rw [if_neg d]
      have dn2 : (if x1 ≤ kr then (kr, v, qm, ql, qs, qk, qd, qn, qo, qt, qi, qy) else (if v 3 = 0 then (kr, v, qm, ql, qs, qk, qd, qn, qo, qt, qi, qy) else (kr, v, qm, ql, qs, qk, qd, qn, qo, qt, qi, qy))) = (kr, v, qm, ql, qs, qk, qd, qn, qo, qt, qi, qy) := by
        by_cases c : x1 ≤ kr
        · rw [if_pos c]
        · rw [if_neg c]
          by_cases d : v 3 = 0
          · rw [if_pos d]
          · rw [if_neg d]
      rw [if_neg f, if_neg f, dn1, dn2]; exact done
theorem run_eq {g mem loc pf qm ql qs qd v : Nat → Int32} {pn : Int32} (R : Rl g mem loc pf pn v qm ql qs) (h5 : g 5 = v 5) (hq : nnQ qd) (pg t fm fn z key ld qk qn qo qt qi qy : Nat → Int32) (x : Int32) : callRel v (pX7_run g mem loc pf pg pn t fm fn z key ld x) (pX8_run v qm ql qs qk qd qn qo qt qi qy x) := by
  have z0 : Int32.toInt 0 = 0 := rfl
  rw [pX7_run, pX8_run]
  by_cases c : x < 0
  · rw [if_pos c, if_pos c]; exact ⟨rfl, R, h5, hq, fun _ _ => rfl⟩
  · rw [if_neg c, if_neg c]
    by_cases d : x ≤ 2000
    · rw [if_pos d, if_pos d]
      have h6 : upd g 5 0 6 = g 6 + 0 := by rw [upd_ne _ _ (by decide), Int32.add_zero]
      have := run_lp (x1 := x) (k2 := g 6) ((Int32.toInt x - Int32.toInt 0).toNat + 1) ((Int32.toInt x - Int32.toInt 0).toNat * 2 + (if 0 = 0 then 1 else 0) + 1) (upd g 5 0) mem loc pf qm ql qs qd (upd v 5 0) pg t fm fn z key ld qk qn qo qt qi qy pn 0 0 (Rl_5 R 0 0) hq (by rw [upd_same, upd_same]) (by decide) (fun _ => rfl) (by omega) (by rw [upd_same, if_pos rfl, if_pos rfl]; omega) h6 (fun _ _ => rfl)
      exact ⟨this.1, this.2.1, this.2.2.1, this.2.2.2.1, fun i hi => (this.2.2.2.2 i hi).trans (upd_ne _ _ (by omega))⟩
    · rw [if_neg d, if_neg d]; exact ⟨rfl, R, h5, hq, fun _ _ => rfl⟩
