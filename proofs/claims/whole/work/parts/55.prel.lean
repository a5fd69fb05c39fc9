/-- what stands on both sides when an operation begins, its loads taken -/
def PH (T0 : Int) (g mem pf qm qs v : Nat → Int32) : Prop := RB 1024 mem qm ∧ g 5 = 0 ∧ g 7 = 0 ∧ v 3 = 0 ∧ g 4 = v 4 ∧ g 2 = v 14 ∧ v 9 = v 14 ∧ g 0 = v 2 ∧ Tp v ∧ (v 0).toInt ≤ T0 ∧ (∀ j : Nat, (j : Int) < T0 → pf j = qs j)
/-- what an operation leaves on both sides -/
def pRel (T0 : Int) (g pf v : Nat → Int32) (o : Int32) (c : Int32 × (Nat → Int32) × (Nat → Int32) × (Nat → Int32) × (Nat → Int32) × Int32 × (Nat → Int32) × (Nat → Int32)) (r : Int32 × (Nat → Int32) × (Nat → Int32) × (Nat → Int32) × (Nat → Int32) × (Nat → Int32) × (Nat → Int32)) : Prop :=
  c.2.1 5 = r.1 ∧ (∀ i : Nat, i ≠ 2 → i ≠ 4 → i ≠ 5 → i ≠ 7 → c.2.1 i = g i) ∧ c.2.1 2 = r.2.1 14 ∧ c.2.1 7 = r.2.1 3 ∧ (r.2.1 3 = 0 → c.2.1 4 = v 4) ∧ (¬ r.2.1 3 = 0 → c.2.1 4 = r.2.1 15) ∧ (∀ i : Nat, i ≠ 0 → i ≠ 3 → i ≠ 13 → i ≠ 14 → i ≠ 15 → i ≠ 16 → r.2.1 i = v i) ∧ RB 1024 c.2.2.1 r.2.2.1 ∧ (¬ r.1 = 0 ∨ pX6_stores o = 1 → (∀ j : Nat, (j : Int) < T0 → c.2.2.2.1 j = pf j) ∧ c.2.2.2.2.2.1.toInt ≤ T0 ∧ r.2.1 3 = 0) ∧ (r.1 = 0 → c.2.2.2.2.2.1 = r.2.1 0 ∧ Tp r.2.1 ∧ (∀ j : Nat, (j : Int) < (r.2.1 0).toInt → c.2.2.2.1 j = r.2.2.2.1 j)) ∧ (r.1 = 0 → pX6_stores o = 1 → c.1 = r.2.1 13 ∧ lw (pX6_widthOf o) c.1)
theorem pRel_mk {T0 : Int} {g pf v : Nat → Int32} {o : Int32} {a : Int32} {g' mem' pf' pg' : Nat → Int32} {pn' : Int32} {z' key' : Nat → Int32} {f : Int32} {v' qm' qs' qt' qi' qy' : Nat → Int32} (h1 : g' 5 = f) (h2 : ∀ i : Nat, i ≠ 2 → i ≠ 4 → i ≠ 5 → i ≠ 7 → g' i = g i) (h3 : g' 2 = v' 14) (h4 : g' 7 = v' 3) (h5 : v' 3 = 0 → g' 4 = v 4) (h6 : ¬ v' 3 = 0 → g' 4 = v' 15) (h7 : ∀ i : Nat, i ≠ 0 → i ≠ 3 → i ≠ 13 → i ≠ 14 → i ≠ 15 → i ≠ 16 → v' i = v i) (h8 : RB 1024 mem' qm') (h9 : ¬ f = 0 ∨ pX6_stores o = 1 → (∀ j : Nat, (j : Int) < T0 → pf' j = pf j) ∧ pn'.toInt ≤ T0 ∧ v' 3 = 0) (h10 : f = 0 → pn' = v' 0 ∧ Tp v' ∧ (∀ j : Nat, (j : Int) < (v' 0).toInt → pf' j = qs' j)) (h11 : f = 0 → pX6_stores o = 1 → a = v' 13 ∧ lw (pX6_widthOf o) a) : pRel T0 g pf v o (a, g', mem', pf', pg', pn', z', key') (f, v', qm', qs', qt', qi', qy') := ⟨h1, h2, h3, h4, h5, h6, h7, h8, h9, h10, h11⟩
theorem p_give {T0 : Int} {g mem pf qm qs v : Nat → Int32} (H : PH T0 g mem pf qm qs v) {o a : Int32} (pg z key qt qi qy : Nat → Int32) (hlw : lw (pX6_widthOf o) a) : pRel T0 g pf v o (a, g, mem, pf, pg, v 0, z, key) (0, upd v 13 a, qm, qs, qt, qi, qy) := by
  obtain ⟨h1, h2, h3, h4, h5, h6, h7, h8, h9, h10, h11⟩ := H
  have e3 : upd v 13 a 3 = 0 := by rw [upd_ne _ _ (by decide), h4]
  have e0 : upd v 13 a 0 = v 0 := by rw [upd_ne _ _ (by decide)]
  refine pRel_mk h2 (fun _ _ _ _ _ => rfl) (by rw [upd_ne _ _ (by decide), h6]) (by rw [e3, h3]) (fun _ => h5) (fun q => absurd e3 q) (fun i _ _ q _ _ _ => upd_ne v a q) h1 (fun _ => ⟨fun _ _ => rfl, h10, e3⟩) (fun _ => ⟨e0.symm, ?_, fun j hj => h11 j ?_⟩) (fun _ _ => ⟨(upd_same v 13 a).symm, hlw⟩)
  · rw [Tp, e0]; exact h9
  · rw [e0] at hj; omega
theorem p_give16 {T0 : Int} {g mem pf qm qs v : Nat → Int32} (H : PH T0 g mem pf qm qs v) {o a : Int32} (n : Int32) (pg z key qt qi qy : Nat → Int32) (hlw : lw (pX6_widthOf o) a) : pRel T0 g pf v o (a, upd g 5 0, mem, pf, pg, v 0, z, key) (0, upd (upd v 16 n) 13 a, qm, qs, qt, qi, qy) := by
  obtain ⟨h1, h2, h3, h4, h5, h6, h7, h8, h9, h10, h11⟩ := H
  have ei : ∀ i : Nat, i ≠ 13 → i ≠ 16 → upd (upd v 16 n) 13 a i = v i := fun i q1 q2 => (upd_ne _ a q1).trans (upd_ne v n q2)
  have e3 : upd (upd v 16 n) 13 a 3 = 0 := by rw [ei 3 (by decide) (by decide), h4]
  have e0 : upd (upd v 16 n) 13 a 0 = v 0 := ei 0 (by decide) (by decide)
  have g5 : ∀ i : Nat, i ≠ 5 → upd g 5 0 i = g i := fun i q => upd_ne g 0 q
  refine pRel_mk (upd_same g 5 0) (fun i _ _ q _ => g5 i q) (by rw [g5 2 (by decide), ei 14 (by decide) (by decide), h6]) (by rw [e3, g5 7 (by decide), h3]) (fun _ => by rw [g5 4 (by decide), h5]) (fun q => absurd e3 q) (fun i _ _ q1 _ _ q2 => ei i q1 q2) h1 (fun _ => ⟨fun _ _ => rfl, h10, e3⟩) (fun _ => ⟨e0.symm, ?_, fun j hj => h11 j ?_⟩) (fun _ _ => ⟨(upd_same _ 13 a).symm, hlw⟩)
  · rw [Tp, e0]; exact h9
  · rw [e0] at hj; omega
theorem p_flt {T0 : Int} {g mem pf qm qs v : Nat → Int32} (H : PH T0 g mem pf qm qs v) {o a : Int32} (f : Int32) (hf : ¬ f = 0) (pg z key qt qi qy : Nat → Int32) : pRel T0 g pf v o (a, upd g 5 f, mem, pf, pg, v 0, z, key) (f, v, qm, qs, qt, qi, qy) := by
  obtain ⟨h1, h2, h3, h4, h5, h6, h7, h8, h9, h10, h11⟩ := H
  have g5 : ∀ i : Nat, i ≠ 5 → upd g 5 f i = g i := fun i q => upd_ne g f q
  exact pRel_mk (upd_same g 5 f) (fun i _ _ q _ => g5 i q) (by rw [g5 2 (by decide), h6]) (by rw [g5 7 (by decide), h3, h4]) (fun _ => by rw [g5 4 (by decide), h5]) (fun q => absurd h4 q) (fun _ _ _ _ _ _ _ => rfl) h1 (fun _ => ⟨fun _ _ => rfl, h10, h4⟩) (fun q => absurd q hf) (fun q => absurd q hf)
theorem p_flt16 {T0 : Int} {g mem pf qm qs v : Nat → Int32} (H : PH T0 g mem pf qm qs v) {o a : Int32} (n f : Int32) (hf : ¬ f = 0) (pg z key qt qi qy : Nat → Int32) : pRel T0 g pf v o (a, upd g 5 f, mem, pf, pg, v 0, z, key) (f, upd v 16 n, qm, qs, qt, qi, qy) := by
  obtain ⟨h1, h2, h3, h4, h5, h6, h7, h8, h9, h10, h11⟩ := H
  have g5 : ∀ i : Nat, i ≠ 5 → upd g 5 f i = g i := fun i q => upd_ne g f q
  have ei : ∀ i : Nat, i ≠ 16 → upd v 16 n i = v i := fun i q => upd_ne v n q
  have e3 : upd v 16 n 3 = 0 := by rw [ei 3 (by decide), h4]
  exact pRel_mk (upd_same g 5 f) (fun i _ _ q _ => g5 i q) (by rw [g5 2 (by decide), ei 14 (by decide), h6]) (by rw [g5 7 (by decide), e3, h3]) (fun _ => by rw [g5 4 (by decide), h5]) (fun q => absurd e3 q) (fun i _ _ _ _ _ q => ei i q) h1 (fun _ => ⟨fun _ _ => rfl, h10, e3⟩) (fun q => absurd q hf) (fun q => absurd q hf)
theorem p_mem {T0 : Int} {g mem pf qm qs v : Nat → Int32} (H : PH T0 g mem pf qm qs v) {o a : Int32} (ho : ¬ pX6_stores o = 1) {mem' qm' : Nat → Int32} (hm : RB 1024 mem' qm') (pg z key qt qi qy : Nat → Int32) : pRel T0 g pf v o (a, g, mem', pf, pg, v 0, z, key) (0, v, qm', qs, qt, qi, qy) := by
  obtain ⟨h1, h2, h3, h4, h5, h6, h7, h8, h9, h10, h11⟩ := H
  exact pRel_mk h2 (fun _ _ _ _ _ => rfl) h6 (h3.trans h4.symm) (fun _ => h5) (fun q => absurd h4 q) (fun _ _ _ _ _ _ _ => rfl) hm (fun q => q.elim (fun q => absurd rfl q) (fun q => absurd q ho)) (fun _ => ⟨rfl, h9, fun j hj => h11 j (Int.lt_of_lt_of_le hj h10)⟩) (fun _ q => absurd q ho)
theorem p_stk {T0 : Int} {g mem pf qm qs v : Nat → Int32} (H : PH T0 g mem pf qm qs v) {o a : Int32} (ho : ¬ pX6_stores o = 1) {pf' qs' v' : Nat → Int32} {pn' : Int32} (hv : ∀ i : Nat, i ≠ 0 → v' i = v i) (hn : pn' = v' 0) (ht : Tp v') (hs : ∀ j : Nat, (j : Int) < (v' 0).toInt → pf' j = qs' j) (pg z key qt qi qy : Nat → Int32) : pRel T0 g pf v o (a, g, mem, pf', pg, pn', z, key) (0, v', qm, qs', qt, qi, qy) := by
  obtain ⟨h1, h2, h3, h4, h5, h6, h7, h8, h9, h10, h11⟩ := H
  have e3 : v' 3 = 0 := (hv 3 (by decide)).trans h4
  exact pRel_mk h2 (fun _ _ _ _ _ => rfl) (h6.trans (hv 14 (by decide)).symm) (h3.trans e3.symm) (fun _ => h5) (fun q => absurd e3 q) (fun i q _ _ _ _ _ => hv i q) h1 (fun q => q.elim (fun q => absurd rfl q) (fun q => absurd q ho)) (fun _ => ⟨hn, ht, hs⟩) (fun _ q => absurd q ho)
theorem p_end {T0 : Int} {g mem pf qm qs v : Nat → Int32} (H : PH T0 g mem pf qm qs v) {o a : Int32} (ho : ¬ pX6_stores o = 1) (x : Int32) (pg z key qt qi qy : Nat → Int32) : pRel T0 g pf v o (a, upd (upd g 4 x) 7 1, mem, pf, pg, v 0, z, key) (0, upd (upd v 3 1) 15 x, qm, qs, qt, qi, qy) := by
  obtain ⟨h1, h2, h3, h4, h5, h6, h7, h8, h9, h10, h11⟩ := H
  have ei : ∀ i : Nat, i ≠ 3 → i ≠ 15 → upd (upd v 3 1) 15 x i = v i := fun i q1 q2 => (upd_ne _ x q2).trans (upd_ne v 1 q1)
  have ec : ∀ i : Nat, i ≠ 4 → i ≠ 7 → upd (upd g 4 x) 7 1 i = g i := fun i q1 q2 => (upd_ne _ 1 q2).trans (upd_ne g x q1)
  have e3 : upd (upd v 3 1) 15 x 3 = 1 := by rw [upd_ne _ _ (by decide), upd_same]
  have n3 : ¬ upd (upd v 3 1) 15 x 3 = 0 := by rw [e3]; decide
  have e0 : upd (upd v 3 1) 15 x 0 = v 0 := ei 0 (by decide) (by decide)
  refine pRel_mk (by rw [ec 5 (by decide) (by decide), h2]) (fun i _ q _ q2 => ec i q q2) (by rw [ec 2 (by decide) (by decide), ei 14 (by decide) (by decide), h6]) (by rw [upd_same, e3]) (fun q => absurd q n3) (fun _ => by rw [upd_same, upd_ne _ _ (by decide), upd_same]) (fun i _ q _ _ q2 _ => ei i q q2) h1 (fun q => q.elim (fun q => absurd rfl q) (fun q => absurd q ho)) (fun _ => ⟨e0.symm, ?_, fun j hj => h11 j ?_⟩) (fun _ q => absurd q ho)
  · rw [Tp, e0]; exact h9
  · rw [e0] at hj; omega
theorem p_jump {T0 : Int} {g mem pf qm qs v : Nat → Int32} (H : PH T0 g mem pf qm qs v) {o a : Int32} (ho : ¬ pX6_stores o = 1) (x : Int32) (pg z key qt qi qy : Nat → Int32) : pRel T0 g pf v o (a, upd g 2 x, mem, pf, pg, v 0, z, key) (0, upd v 14 x, qm, qs, qt, qi, qy) := by
  obtain ⟨h1, h2, h3, h4, h5, h6, h7, h8, h9, h10, h11⟩ := H
  have ei : ∀ i : Nat, i ≠ 14 → upd v 14 x i = v i := fun i q => upd_ne v x q
  have ec : ∀ i : Nat, i ≠ 2 → upd g 2 x i = g i := fun i q => upd_ne g x q
  have e3 : upd v 14 x 3 = 0 := (ei 3 (by decide)).trans h4
  have e0 : upd v 14 x 0 = v 0 := ei 0 (by decide)
  refine pRel_mk (by rw [ec 5 (by decide), h2]) (fun i q _ _ _ => ec i q) (by rw [upd_same, upd_same]) (by rw [ec 7 (by decide), e3, h3]) (fun _ => by rw [ec 4 (by decide), h5]) (fun q => absurd e3 q) (fun i _ _ _ q _ _ => ei i q) h1 (fun q => q.elim (fun q => absurd rfl q) (fun q => absurd q ho)) (fun _ => ⟨e0.symm, ?_, fun j hj => h11 j ?_⟩) (fun _ q => absurd q ho)
  · rw [Tp, e0]; exact h9
  · rw [e0] at hj; omega
def LD (o : Int32) (ld qo : Nat → Int32) : Prop := ∀ j : Nat, (j : Int) < (pX6_loadsOf o).toInt → ld j = qo j ∧ lw (pX6_widthOf o) (ld j)
theorem load_in {ld : Nat → Int32} {k : Int32} (h0 : 0 ≤ k.toInt) (h1 : k.toInt < 7) : pX2_load ld k = ld k.toNatClampNeg := by
  have z8 : Int32.toInt 7 = 7 := rfl
  have z0 : Int32.toInt 0 = 0 := rfl
  rw [pX2_load, if_neg (by rw [Int32.lt_iff_toInt_lt]; omega), if_neg (by rw [Int32.le_iff_toInt_le]; omega)]
theorem ld_at {o : Int32} {ld qo : Nat → Int32} (h : LD o ld qo) {k : Int32} (h0 : 0 ≤ k.toInt) (h1 : k.toInt < (pX6_loadsOf o).toInt) (h7 : (pX6_loadsOf o).toInt ≤ 7) : pX2_load ld k = qo k.toNatClampNeg ∧ lw (pX6_widthOf o) (qo k.toNatClampNeg) := by
  have hc := nat_clamp h0
  have q := h k.toNatClampNeg (by omega)
  rw [load_in h0 (by omega)]
  exact ⟨q.1, by rw [← q.1]; exact q.2⟩
