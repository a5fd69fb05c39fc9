/-- what stands on both sides between two calls: registers, memory, locals, stack -/
def Rl (g mem loc pf : Nat → Int32) (pn : Int32) (v qm ql qs : Nat → Int32) : Prop := RB 1024 mem qm ∧ RB 64 loc ql ∧ pn = v 0 ∧ Tp v ∧ (∀ j : Nat, (j : Int) < (v 0).toInt → pf j = qs j) ∧ g 0 = v 2 ∧ g 1 = v 1 ∧ g 4 = v 4 ∧ g 6 = v 6 ∧ g 7 = v 3
/-- what a row done leaves -/
def rowRel (g v : Nat → Int32) (c : (Nat → Int32) × (Nat → Int32) × (Nat → Int32) × (Nat → Int32) × (Nat → Int32) × Int32 × (Nat → Int32) × (Nat → Int32) × (Nat → Int32) × (Nat → Int32) × (Nat → Int32) × (Nat → Int32)) (r : Int32 × (Nat → Int32) × (Nat → Int32) × (Nat → Int32) × (Nat → Int32) × (Nat → Int32) × (Nat → Int32) × (Nat → Int32) × (Nat → Int32) × (Nat → Int32) × (Nat → Int32) × (Nat → Int32)) : Prop :=
  c.1 5 = r.1 ∧ Rl c.1 c.2.1 c.2.2.1 c.2.2.2.1 c.2.2.2.2.2.1 r.2.1 r.2.2.1 r.2.2.2.1 r.2.2.2.2.1 ∧ nnQ r.2.2.2.2.2.2.1 ∧ (∀ i : Nat, i = 5 ∨ i = 10 ∨ i = 11 ∨ i = 12 → r.2.1 i = v i) ∧ (r.1 = 0 → c.1 6 = g 6 + 1) ∧ (¬ r.1 = 0 → c.1 6 = g 6)
theorem row_mk {g v g' mem' loc' pf' pg' t' fm' fn' z' key' ld' v' qm' ql' qs' qk' qd' qn' qo' qt' qi' qy' : Nat → Int32} {pn' f : Int32} (h1 : g' 5 = f) (h2 : Rl g' mem' loc' pf' pn' v' qm' ql' qs') (h3 : nnQ qd') (h4 : ∀ i : Nat, i = 5 ∨ i = 10 ∨ i = 11 ∨ i = 12 → v' i = v i) (h5 : f = 0 → g' 6 = g 6 + 1) (h6 : ¬ f = 0 → g' 6 = g 6) : rowRel g v (g', mem', loc', pf', pg', pn', t', fm', fn', z', key', ld') (f, v', qm', ql', qs', qk', qd', qn', qo', qt', qi', qy') := ⟨h1, h2, h3, h4, h5, h6⟩
theorem lp22_eq {v qs : Nat → Int32} (qm ql qd qn qo qt qi qy : Nat → Int32) (k1 k2 : Int32) : ∀ (n_ : Nat) (qk : Nat → Int32) (k3 : Int32), 0 ≤ k3.toInt → ((v 0).toInt - k3.toInt).toNat < n_ → (∀ j : Nat, (j : Int) < k3.toInt → qk j = qs j) → ∃ K : Nat → Int32, pX8_doesRow_lp22 n_ v qm ql qs qk qd qn qo qt qi qy k1 k2 k3 = pX8_doesRow_lp96 ((Int32.toInt ((upd v 14 (v 9)) 8) - Int32.toInt 0).toNat + 1) (upd v 14 (v 9)) qm ql qs K qd qn qo qt qi qy k1 k2 (pX8_storeOf (v 7)) (pX6_widthOf (v 7)) 0 ∧ ∀ j : Nat, (j : Int) < (v 0).toInt → K j = qs j := by
  intro n_
  induction n_ with
  | zero => intro qk k3 _ h; exact absurd h (Nat.not_lt_zero _)
  | succ n_ ih =>
    intro qk k3 h0 h1 h2
    rw [pX8_doesRow_lp22]
    by_cases c : v 0 ≤ k3
    · rw [if_pos c]
      rw [Int32.le_iff_toInt_le] at c
      refine ⟨qk, ?_, fun j hj => h2 j (by omega)⟩
      rw [pX6_widthOf]
      by_cases d : v 7 = 65
      · rw [if_pos d, if_pos d]
      · rw [if_neg d, if_neg d]
        by_cases f : v 7 = 66
        · rw [if_pos f, if_pos f]
        · rw [if_neg f, if_neg f]
    · have ed := i32_add1 c
      have g3 := ms_up c h1
      have hc := nat_clamp h0
      rw [if_neg c]
      refine ih _ (k3 + 1) (by rw [ed]; omega) g3 (fun j hj => ?_)
      rw [ed] at hj
      rw [upd_at]
      by_cases q : j = k3.toNatClampNeg
      · rw [if_pos q, q]
      · rw [if_neg q]; exact h2 j (by omega)
theorem lp183_eq (v qm ql qk qd qn qo qt qi qy : Nat → Int32) (k1 : Int32) {k2 : Int32} : ∀ (n_ : Nat) (qs : Nat → Int32) (k5 : Int32), 0 ≤ k5.toInt → (k2.toInt - k5.toInt).toNat < n_ → ∃ Q : Nat → Int32, pX8_doesRow_lp183 n_ v qm ql qs qk qd qn qo qt qi qy k1 k2 k5 = (k1, v, qm, ql, Q, qk, qd, qn, qo, qt, qi, qy) ∧ ∀ j : Nat, k5.toInt ≤ j → (j : Int) < k2.toInt → Q j = qk j := by
  have key : ∀ (n_ : Nat) (qs : Nat → Int32) (k5 : Int32), 0 ≤ k5.toInt → (k2.toInt - k5.toInt).toNat < n_ → ∃ Q : Nat → Int32, pX8_doesRow_lp183 n_ v qm ql qs qk qd qn qo qt qi qy k1 k2 k5 = (k1, v, qm, ql, Q, qk, qd, qn, qo, qt, qi, qy) ∧ (∀ j : Nat, k5.toInt ≤ j → (j : Int) < k2.toInt → Q j = qk j) ∧ ∀ j : Nat, (j : Int) < k5.toInt → Q j = qs j := by
    intro n_
    induction n_ with
    | zero => intro qs k5 _ h; exact absurd h (Nat.not_lt_zero _)
    | succ n_ ih =>
      intro qs k5 h0 h1
      rw [pX8_doesRow_lp183]
      by_cases c : k2 ≤ k5
      · rw [if_pos c]
        rw [Int32.le_iff_toInt_le] at c
        exact ⟨qs, rfl, fun j hj hj2 => by omega, fun _ _ => rfl⟩
      · have ed := i32_add1 c
        have g3 := ms_up c h1
        have hc := nat_clamp h0
        rw [if_neg c]
        obtain ⟨Q, q1, q2, q3⟩ := ih (upd qs k5.toNatClampNeg (qk k5.toNatClampNeg)) (k5 + 1) (by rw [ed]; omega) g3
        refine ⟨Q, q1, fun j hj hj2 => ?_, fun j hj => ?_⟩
        · by_cases q : (j : Int) = k5.toInt
          · rw [q3 j (by rw [ed]; omega), upd_at, if_pos (by omega), show j = k5.toNatClampNeg by omega]
          · exact q2 j (by rw [ed]; omega) hj2
        · rw [q3 j (by rw [ed]; omega), upd_at, if_neg (by omega)]
  intro n_ qs k5 h0 h1
  obtain ⟨Q, q1, q2, _⟩ := key n_ qs k5 h0 h1
  exact ⟨Q, q1, q2⟩
theorem grow_back {n x : Int32} (h : n.toInt ≤ x.toInt) (h40 : x.toInt ≤ 40) : pX3_growBack n x = x := by
  have z40 : Int32.toInt 40 = 40 := rfl
  rw [pX3_growBack, if_neg (show ¬ x < n by rw [Int32.lt_iff_toInt_lt]; omega), if_neg (show ¬ 40 < x by rw [Int32.lt_iff_toInt_lt]; omega)]
/-- a fault puts the stack back -/
theorem row_bad {g v g' mem' loc' pf pf' pg' t' fm' fn' z' key' ld' v' qm' ql' qs qs' qk' qd' qn' qo' qt' qi' qy' : Nat → Int32} {f : Int32} (hv : Tp v) (hs : ∀ j : Nat, (j : Int) < (v 0).toInt → pf j = qs j) (hk : ∀ j : Nat, (j : Int) < (v 0).toInt → qk' j = qs j) (hp : ∀ j : Nat, (j : Int) < (v 0).toInt → pf' j = pf j) (h1 : g' 5 = f) (hf : ¬ f = 0) (hq : nnQ qd') (hm : RB 1024 mem' qm') (hl : RB 64 loc' ql') (e0 : g' 0 = v' 2) (e1 : g' 1 = v' 1) (e4 : g' 4 = v' 4) (e6 : g' 6 = v' 6) (e7 : g' 7 = v' 3) (h4 : ∀ i : Nat, i = 5 ∨ i = 10 ∨ i = 11 ∨ i = 12 → v' i = v i) (h6 : g' 6 = g 6) : rowRel g v (g', mem', loc', pf', pg', v 0, t', fm', fn', z', key', ld') (pX8_doesRow_lp183 ((Int32.toInt (v 0) - Int32.toInt 0).toNat + 1) (upd v' 0 (v 0)) qm' ql' qs' qk' qd' qn' qo' qt' qi' qy' f (v 0) 0) := by
  have z0 : Int32.toInt 0 = 0 := rfl
  have hv1 := hv.1
  obtain ⟨Q, q1, q2⟩ := lp183_eq (upd v' 0 (v 0)) qm' ql' qk' qd' qn' qo' qt' qi' qy' f (k2 := v 0) ((Int32.toInt (v 0) - Int32.toInt 0).toNat + 1) qs' 0 (by decide) (by omega)
  have u : ∀ i : Nat, i ≠ 0 → upd v' 0 (v 0) i = v' i := fun i hi => upd_ne _ _ hi
  have u0 : upd v' 0 (v 0) 0 = v 0 := upd_same _ _ _
  rw [q1]
  refine row_mk h1 ⟨hm, hl, u0.symm, ?_, fun j hj => ?_, by rw [u 2 (by decide)]; exact e0, by rw [u 1 (by decide)]; exact e1, by rw [u 4 (by decide)]; exact e4, by rw [u 6 (by decide)]; exact e6, by rw [u 3 (by decide)]; exact e7⟩ hq (fun i hi => ?_) (fun q => absurd q hf) (fun _ => h6)
  · rw [Tp, u0]; exact hv
  · rw [u0] at hj
    rw [q2 j (by omega) hj, hp j hj, hk j hj]; exact hs j hj
  · rw [u i (by omega)]; exact h4 i hi
/-- a row well done -/
theorem row_good {g v g' mem' loc' pf' pg' t' fm' fn' z' key' ld' v' qm' ql' qs' qk' qd' qn' qo' qt' qi' qy' : Nat → Int32} {pn' : Int32} (h5 : g' 5 = 0) (hq : nnQ qd') (hm : RB 1024 mem' qm') (hl : RB 64 loc' ql') (hn : pn' = v' 0) (ht : Tp v') (hs : ∀ j : Nat, (j : Int) < (v' 0).toInt → pf' j = qs' j) (e0 : g' 0 = v' 2) (e2 : g' 2 = v' 14) (e7 : g' 7 = v' 3) (e4 : v' 3 = 0 → g' 4 = v' 4) (e15 : ¬ v' 3 = 0 → g' 4 = v' 15) (e6 : g' 6 = v' 6) (h4 : ∀ i : Nat, i = 5 ∨ i = 10 ∨ i = 11 ∨ i = 12 → v' i = v i) (h6 : g' 6 = g 6) : rowRel g v (upd (upd g' 1 (g' 2)) 6 (g' 6 + 1), mem', loc', pf', pg', pn', t', fm', fn', z', key', ld') (if v' 3 = 0 then (0, upd (upd (upd v' 1 (v' 14)) 4 (v' 4)) 6 (v' 6 + 1), qm', ql', qs', qk', qd', qn', qo', qt', qi', qy') else (0, upd (upd (upd v' 1 (v' 14)) 4 (v' 15)) 6 (v' 6 + 1), qm', ql', qs', qk', qd', qn', qo', qt', qi', qy')) := by
  have ug : ∀ i : Nat, i ≠ 1 → i ≠ 6 → upd (upd g' 1 (g' 2)) 6 (g' 6 + 1) i = g' i := fun i q1 q6 => (upd_ne _ _ q6).trans (upd_ne _ _ q1)
  have ug6 : upd (upd g' 1 (g' 2)) 6 (g' 6 + 1) 6 = g' 6 + 1 := upd_same _ _ _
  have ug1 : upd (upd g' 1 (g' 2)) 6 (g' 6 + 1) 1 = g' 2 := (upd_ne _ _ (by decide)).trans (upd_same _ _ _)
  have go : ∀ x : Int32, g' 4 = x → rowRel g v (upd (upd g' 1 (g' 2)) 6 (g' 6 + 1), mem', loc', pf', pg', pn', t', fm', fn', z', key', ld') (0, upd (upd (upd v' 1 (v' 14)) 4 x) 6 (v' 6 + 1), qm', ql', qs', qk', qd', qn', qo', qt', qi', qy') := by
    intro x hx
    have uv : ∀ i : Nat, i ≠ 1 → i ≠ 4 → i ≠ 6 → upd (upd (upd v' 1 (v' 14)) 4 x) 6 (v' 6 + 1) i = v' i := fun i q1 q4 q6 => (upd_ne _ _ q6).trans ((upd_ne _ _ q4).trans (upd_ne _ _ q1))
    have uv6 : upd (upd (upd v' 1 (v' 14)) 4 x) 6 (v' 6 + 1) 6 = v' 6 + 1 := upd_same _ _ _
    have uv4 : upd (upd (upd v' 1 (v' 14)) 4 x) 6 (v' 6 + 1) 4 = x := (upd_ne _ _ (by decide)).trans (upd_same _ _ _)
    have uv1 : upd (upd (upd v' 1 (v' 14)) 4 x) 6 (v' 6 + 1) 1 = v' 14 := (upd_ne _ _ (by decide)).trans ((upd_ne _ _ (by decide)).trans (upd_same _ _ _))
    have uv0 := uv 0 (by decide) (by decide) (by decide)
    refine row_mk (by rw [ug 5 (by decide) (by decide)]; exact h5) ⟨hm, hl, by rw [uv0]; exact hn, ?_, fun j hj => ?_, ?_, ?_, ?_, ?_, ?_⟩ hq (fun i hi => ?_) (fun _ => by rw [ug6, h6]) (fun q => absurd rfl q)
    · rw [Tp, uv0]; exact ht
    · rw [uv0] at hj; exact hs j hj
    · rw [ug 0 (by decide) (by decide), uv 2 (by decide) (by decide) (by decide)]; exact e0
    · rw [ug1, uv1]; exact e2
    · rw [ug 4 (by decide) (by decide), uv4]; exact hx
    · rw [ug6, uv6, e6]
    · rw [ug 7 (by decide) (by decide), uv 3 (by decide) (by decide) (by decide)]; exact e7
    · rw [uv i (by omega) (by omega) (by omega)]; exact h4 i hi
  by_cases c : v' 3 = 0
  · rw [if_pos c]; exact go _ (e4 c)
  · rw [if_neg c]; exact go _ (e15 c)
theorem width_ok (o : Int32) : (0 ≤ (pX6_widthOf o).toInt ∧ (pX6_widthOf o).toInt ≤ 4) ∧ w124 (pX6_widthOf o) := by
  rw [pX6_widthOf]
  by_cases c : o = 65
  · rw [if_pos c]; exact ⟨by decide, Or.inr (Or.inl rfl)⟩
  · rw [if_neg c]
    by_cases d : o = 66
    · rw [if_pos d]; exact ⟨by decide, Or.inl rfl⟩
    · rw [if_neg d]; exact ⟨by decide, Or.inr (Or.inr rfl)⟩
