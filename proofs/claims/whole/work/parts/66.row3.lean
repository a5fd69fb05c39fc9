/-- the class's row once taken apart: its loads, then the rest -/
def cRow (G mem loc pf pg : Nat → Int32) (pn : Int32) (T F N z key ld : Nat → Int32) : (Nat → Int32) × (Nat → Int32) × (Nat → Int32) × (Nat → Int32) × (Nat → Int32) × Int32 × (Nat → Int32) × (Nat → Int32) × (Nat → Int32) × (Nat → Int32) × (Nat → Int32) × (Nat → Int32) :=
  (mLet (pX2_loadAll G mem loc pf pn T F N ld) (fun (u66 : (Nat → Int32) × Int32 × (Nat → Int32)) => (if (u66.1 5) = 0 then (mLet (pX2_perform u66.1 mem pf pg u66.2.1 T z key u66.2.2 (T 0)) (fun (u84 : Int32 × (Nat → Int32) × (Nat → Int32) × (Nat → Int32) × (Nat → Int32) × Int32 × (Nat → Int32) × (Nat → Int32)) => (if (u84.2.1 5) = 0 then (if (T 2) ≤ (T 1) then ((upd (upd u84.2.1 1 (u84.2.1 2)) 6 ((u84.2.1 6) + 1)), u84.2.2.1, loc, u84.2.2.2.1, u84.2.2.2.2.1, u84.2.2.2.2.2.1, T, F, N, u84.2.2.2.2.2.2.1, u84.2.2.2.2.2.2.2, u66.2.2) else (mLet (pX2_storeOperand u84.2.1 u84.2.2.1 loc u84.2.2.2.1 u84.2.2.2.2.2.1 F N (T 1) u84.1) (fun (u125 : (Nat → Int32) × (Nat → Int32) × (Nat → Int32) × (Nat → Int32) × Int32) => (if (u125.1 5) = 0 then ((upd (upd u125.1 1 (u125.1 2)) 6 ((u125.1 6) + 1)), u125.2.1, u125.2.2.1, u125.2.2.2.1, u84.2.2.2.2.1, u125.2.2.2.2, T, F, N, u84.2.2.2.2.2.2.1, u84.2.2.2.2.2.2.2, u66.2.2) else (u125.1, u125.2.1, u125.2.2.1, u125.2.2.2.1, u84.2.2.2.2.1, (pX3_growBack u125.2.2.2.2 pn), T, F, N, u84.2.2.2.2.2.2.1, u84.2.2.2.2.2.2.2, u66.2.2))))) else (mLet (pX3_growBack u84.2.2.2.2.2.1 pn) (fun (u140 : Int32) => (u84.2.1, u84.2.2.1, loc, u84.2.2.2.1, u84.2.2.2.2.1, u140, T, F, N, u84.2.2.2.2.2.2.1, u84.2.2.2.2.2.2.2, u66.2.2)))))) else (u66.1, mem, loc, pf, pg, (pX3_growBack u66.2.1 pn), T, F, N, z, key, u66.2.2))))
theorem doOne_un (g mem loc pf pg : Nat → Int32) (pn : Int32) (t fm fn z key ld : Nat → Int32) : pX2_doOne g mem loc pf pg pn t fm fn z key ld = (mLet (pX1_decode t fm fn mem (g 1)) (fun (u13 : Int32 × (Nat → Int32) × (Nat → Int32) × (Nat → Int32)) => (if u13.1 = 0 then cRow (upd (upd (upd g 2 ((g 1) + (u13.2.1 3))) 3 (pX6_widthOf (u13.2.1 0))) 5 u13.1) mem loc pf pg pn u13.2.1 u13.2.2.1 u13.2.2.2 z key ld else ((upd g 5 u13.1), mem, loc, pf, pg, pn, u13.2.1, u13.2.2.1, u13.2.2.2, z, key, ld)))) := by
  rw [pX2_doOne]
  delta cRow
  with_reducible rfl
/-- a row well taken apart, done -/
theorem row_in {g mem loc pf qm ql qs qk v V QD QN T F N : Nat → Int32} {pn : Int32} (R : Rl g mem loc pf pn v qm ql qs) (h3 : v 3 = 0) (pg z key ld qo qt qi qy : Nat → Int32) (hVk : ∀ k : Nat, k ≠ 7 → k ≠ 8 → k ≠ 9 → V k = v k) (hq : nnQ QD) (h8n : 0 ≤ (V 8).toInt) (h8 : V 8 = pX8_operands (V 7)) (t0 : T 0 = V 7) (t2 : T 2 = V 8) (t1 : T 1 = pX6_loadsOf (V 7)) (t3 : T 3 = V 9 - v 1) (hmd : ∀ j : Nat, (j : Int) < (V 8).toInt → F j = QD j ∧ N j = QN j ∧ 0 ≤ (QD j).toInt ∧ (QD j).toInt ≤ 15 ∧ ¬ QD j = 4 ∧ ¬ QD j = 12) (hfs : ∀ j : Nat, (T 1).toInt ≤ j → (j : Int) < (T 2).toInt → ¬ (1 ≤ (F j).toInt ∧ (F j).toInt ≤ 3)) : rowRel g v (cRow (upd (upd (upd g 2 ((g 1) + (T 3))) 3 (pX6_widthOf (T 0))) 5 0) mem loc pf pg pn T F N z key ld) (pX8_doesRow_lp22 ((Int32.toInt (V 0) - Int32.toInt 0).toNat + 1) V qm ql qs qk QD QN qo qt qi qy 0 (V 0) 0) := by
  obtain ⟨r1, r2, r3, r4, r5, r6, r7, r8, r9, r10⟩ := R
  have z0 : Int32.toInt 0 = 0 := rfl
  have z1 : Int32.toInt 1 = 1 := rfl
  have hr1 := r4.1
  have V0 : V 0 = v 0 := hVk 0 (by decide) (by decide) (by decide)
  obtain ⟨K, q1, q2⟩ := lp22_eq (v := V) (qs := qs) qm ql QD QN qo qt qi qy 0 (V 0) ((Int32.toInt (V 0) - Int32.toInt 0).toNat + 1) qk 0 (by decide) (by omega) (fun j hj => by omega)
  rw [q1]
  have hw := width_ok (V 7)
  have ok : 0 ≤ (pX6_loadsOf (V 7)).toInt ∧ (pX6_loadsOf (V 7)).toInt ≤ 7 ∧ ((pX6_stores (V 7) = 0 ∧ pX8_operands (V 7) = pX6_loadsOf (V 7) ∧ pX8_storeOf (V 7) = -2) ∨ (pX6_stores (V 7) = 1 ∧ pX8_operands (V 7) = pX6_loadsOf (V 7) + 1 ∧ pX8_storeOf (V 7) = pX6_loadsOf (V 7))) := by
    rcases op_ok (V 7) with ⟨_, e2⟩ | q
    · rw [h8, e2] at h8n; exact absurd h8n (by decide)
    · exact q
  obtain ⟨o0, o7, oc⟩ := ok
  have m8 : (pX6_loadsOf (V 7)).toInt ≤ (V 8).toInt ∧ (V 8).toInt ≤ (pX6_loadsOf (V 7)).toInt + 1 := by
    rcases oc with ⟨_, s2, _⟩ | ⟨_, s2, _⟩
    · rw [h8, s2]; omega
    · rw [h8, s2, ti_add (by omega) (by omega), z1]; omega
  have rel : ∀ k : Int32, 0 ≤ k.toInt → k.toInt < (V 8).toInt → (¬ k < T 1 ↔ k = pX8_storeOf (V 7)) := by
    intro k k0 k1
    rw [t1]
    rcases oc with ⟨_, s2, s3⟩ | ⟨_, s2, s3⟩
    · rw [h8, s2] at k1
      have zm : Int32.toInt (-2) = -2 := rfl
      rw [s3]
      constructor
      · intro q; rw [Int32.lt_iff_toInt_lt] at q; exact absurd k1 q
      · intro q; rw [q, zm] at k0; omega
    · rw [h8, s2, ti_add (by omega) (by omega), z1] at k1
      rw [s3]
      constructor
      · intro q; rw [Int32.lt_iff_toInt_lt] at q; exact Int32.toInt_inj.mp (by omega)
      · intro q; rw [q]; exact fun r => Int32.lt_irrefl r
  have W : ∀ i : Nat, i ≠ 14 → upd V 14 (V 9) i = V i := fun i hi => upd_ne _ _ hi
  have W14 : upd V 14 (V 9) 14 = V 9 := upd_same _ _ _
  have D : ∀ i : Nat, i ≠ 2 → i ≠ 3 → i ≠ 5 → upd (upd (upd g 2 ((g 1) + (T 3))) 3 (pX6_widthOf (T 0))) 5 0 i = g i := fun i q2 q3 q5 => (upd_ne _ _ q5).trans ((upd_ne _ _ q3).trans (upd_ne _ _ q2))
  have D5 : upd (upd (upd g 2 ((g 1) + (T 3))) 3 (pX6_widthOf (T 0))) 5 0 5 = 0 := upd_same _ _ _
  have D3 : upd (upd (upd g 2 ((g 1) + (T 3))) 3 (pX6_widthOf (T 0))) 5 0 3 = pX6_widthOf (V 7) := by rw [upd_ne _ _ (by decide), upd_same, t0]
  have D2 : upd (upd (upd g 2 ((g 1) + (T 3))) 3 (pX6_widthOf (T 0))) 5 0 2 = V 9 := by rw [upd_ne _ _ (by decide), upd_ne _ _ (by decide), upd_same, t3, r7, Int32.add_comm, Int32.sub_add_cancel]
  have W0 : upd V 14 (V 9) 0 = v 0 := (W 0 (by decide)).trans V0
  have L := loads_eq (t := T) (fm := F) (fn := N) r1 r2 (qd := QD) (qn := QN) K qt qi qy (w := pX6_widthOf (V 7)) (m := V 8) (s := pX8_storeOf (V 7)) (V 0) (T0 := (v 0).toInt) hw.1 hw.2 (by rw [t1]; exact ⟨o0, o7⟩) (by rw [t1]; exact m8) rel hmd r5 ((Int32.toInt (T 1) - Int32.toInt 0).toNat + 1) ((Int32.toInt ((upd V 14 (V 9)) 8) - Int32.toInt 0).toNat + 1) (upd (upd (upd g 2 ((g 1) + (T 3))) 3 (pX6_widthOf (T 0))) 5 0) (upd V 14 (V 9)) ld qo 0 (by decide) (by rw [t1]; omega) (by omega) (by rw [W 8 (by decide)]; omega) D5 D3 (by rw [D 0 (by decide) (by decide) (by decide), W 2 (by decide), hVk 2 (by decide) (by decide) (by decide)]; exact r6) (W 8 (by decide)) (by rw [Tp, W0]; exact r4) (by rw [W0]; exact Int.le_refl _) (fun j hj => by omega)
  obtain ⟨v1, qo1, l1, l2, l3, l4, l5, l6⟩ := L
  rw [l5, cRow, pX2_loadAll, r3, ← W0]
  rw [W0] at l4 ⊢
  rw [W0] at l1 l2 l5 l6
  generalize hX : pX2_loadAll_lp2 mem loc pf T F N ((Int32.toInt (T 1) - Int32.toInt 0).toNat + 1) (upd (upd (upd g 2 ((g 1) + (T 3))) 3 (pX6_widthOf (T 0))) 5 0) (v 0) ld 0 = X at l1 l2 l6 ⊢
  obtain ⟨G1, P1, LD1⟩ := X
  dsimp only at l1 l2 l6
  have B1 : ∀ i : Nat, i ≠ 0 → i ≠ 14 → i ≠ 7 → i ≠ 8 → i ≠ 9 → v1 i = v i := fun i q0 q14 q7 q8 q9 => (l3 i q0).trans ((W i q14).trans (hVk i q7 q8 q9))
  have vk : ∀ i : Nat, i = 5 ∨ i = 10 ∨ i = 11 ∨ i = 12 → v1 i = v i := fun i hi => B1 i (by omega) (by omega) (by omega) (by omega) (by omega)
  have g6 : G1 6 = g 6 := by rw [l1 6 (by decide), D 6 (by decide) (by decide) (by decide)]
  have E0 : G1 0 = v1 2 := by rw [l1 0 (by decide), D 0 (by decide) (by decide) (by decide), B1 2 (by decide) (by decide) (by decide) (by decide) (by decide)]; exact r6
  have E1 : G1 1 = v1 1 := by rw [l1 1 (by decide), D 1 (by decide) (by decide) (by decide), B1 1 (by decide) (by decide) (by decide) (by decide) (by decide)]; exact r7
  have E4 : G1 4 = v1 4 := by rw [l1 4 (by decide), D 4 (by decide) (by decide) (by decide), B1 4 (by decide) (by decide) (by decide) (by decide) (by decide)]; exact r8
  have E6 : G1 6 = v1 6 := by rw [g6, B1 6 (by decide) (by decide) (by decide) (by decide) (by decide)]; exact r9
  have E7 : G1 7 = v1 3 := by rw [l1 7 (by decide), D 7 (by decide) (by decide) (by decide), B1 3 (by decide) (by decide) (by decide) (by decide) (by decide)]; exact r10
  have v3 : v1 3 = 0 := (B1 3 (by decide) (by decide) (by decide) (by decide) (by decide)).trans h3
  rw [V0, mLet_eq]
  have KK : ∀ j : Nat, (j : Int) < (v 0).toInt → K j = qs j := fun j hj => q2 j (by rw [V0]; exact hj)
  by_cases c : G1 5 = 0
  · rw [if_pos c, if_pos (show (G1, P1, LD1).1 5 = 0 from c)]
    have H : PH (v 0).toInt G1 mem pf qm qs v1 := ⟨r1, c, E7.trans v3, v3, E4, by rw [l1 2 (by decide), D2, l3 14 (by decide), W14], by rw [l3 9 (by decide), W 9 (by decide), l3 14 (by decide), W14], E0, ⟨l4.1, by have := r4.2; omega⟩, l4.2, r5⟩
    have e7 : v1 7 = V 7 := (l3 7 (by decide)).trans (W 7 (by decide))
    have e8 : v1 8 = V 8 := (l3 8 (by decide)).trans (W 8 (by decide))
    have lds : LD (V 7) LD1 qo1 := fun j hj => l6 c j (by rw [t1]; exact hj)
    have fe := fin_eq (g0 := g) (v0 := v) (T := T) (F := F) (N := N) (qk := K) (qd := QD) (qn := QN) H r2 r4 KK pg z key qt qi qy lds e7 t0 t1 (t2.trans e8.symm) (e8.trans h8) (by rw [e8]; exact h8n) (by rw [e8]; exact hmd) hfs hq (by rw [l1 3 (by decide), D3]) E1 E6 g6 vk
    rw [← l2] at fe
    exact fe
  · rw [if_neg c, if_neg (show ¬ (G1, P1, LD1).1 5 = 0 from c)]
    have P1v : P1.toInt ≤ (v 0).toInt := by rw [l2]; exact l4.2
    dsimp only
    rw [grow_back P1v r4.2, dFlt]
    exact row_bad r4 r5 KK (fun _ _ => rfl) rfl c hq r1 r2 E0 E1 E4 E6 E7 vk g6
/-- a row: both sides do alike -/
theorem row_eq {g mem loc pf qm ql qs qd v : Nat → Int32} {pn : Int32} (R : Rl g mem loc pf pn v qm ql qs) (h3 : v 3 = 0) (hq : nnQ qd) (pg t fm fn z key ld qk qn qo qt qi qy : Nat → Int32) : rowRel g v (pX2_doOne g mem loc pf pg pn t fm fn z key ld) (pX8_doesRow v qm ql qs qk qd qn qo qt qi qy) := by
  have d := decode_eq R.1 t fm fn v qn (v 1) hq
  have f := decode_fit t fm fn mem (v 1)
  have k := ta_ok v qm qd qn (v 1)
  have r7 : g 1 = v 1 := R.2.2.2.2.2.2.1
  rw [doOne_un, pX8_doesRow, mLet_eq, mLet_eq, r7]
  generalize pX1_decode t fm fn mem (v 1) = C at d f ⊢
  generalize pX8_takeApart v qm qd qn (v 1) = X at d k ⊢
  obtain ⟨a, T, F, N⟩ := C
  obtain ⟨b, V, QD, QN⟩ := X
  obtain ⟨d1, d2⟩ := d
  obtain ⟨k1, k2, k3⟩ := k
  dsimp only at d1 d2 f k1 k2 k3 ⊢
  subst d1
  by_cases c : a = 0
  · rw [if_pos c, if_pos c]
    obtain ⟨t0, t2, t1, t3, hmd⟩ := d2 c
    subst c
    have := row_in (qk := qk) R h3 pg z key ld qo qt qi qy k1 (k2 hq) (k3 rfl).1 (k3 rfl).2 t0 t2 t1 t3 hmd (f rfl)
    rw [r7] at this
    exact this
  · rw [if_neg c, if_neg c]
    have u : ∀ i : Nat, i ≠ 5 → upd g 5 a i = g i := fun i hi => upd_ne g a hi
    have w : ∀ i : Nat, i = 0 ∨ i = 1 ∨ i = 2 ∨ i = 3 ∨ i = 4 ∨ i = 5 ∨ i = 6 ∨ i = 10 ∨ i = 11 ∨ i = 12 → V i = v i := fun i hi => k1 i (by omega) (by omega) (by omega)
    obtain ⟨r1, r2, r3, r4, r5, r6, _, r8, r9, r10⟩ := R
    have w0 := w 0 (by decide)
    refine row_mk (upd_same g 5 a) ⟨r1, r2, by rw [w0]; exact r3, ?_, fun j hj => ?_, ?_, ?_, ?_, ?_, ?_⟩ (k2 hq) (fun i hi => w i (by omega)) (fun q => absurd q c) (fun _ => u 6 (by decide))
    · rw [Tp, w0]; exact r4
    · rw [w0] at hj; exact r5 j hj
    · rw [u 0 (by decide), w 2 (by decide)]; exact r6
    · rw [u 1 (by decide), w 1 (by decide)]; exact r7
    · rw [u 4 (by decide), w 4 (by decide)]; exact r8
    · rw [u 6 (by decide), w 6 (by decide)]; exact r9
    · rw [u 7 (by decide), w 3 (by decide)]; exact r10
