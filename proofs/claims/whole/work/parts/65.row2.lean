theorem does_st {T0 : Int} {g mem pf v : Nat → Int32} {o : Int32} {c : Int32 × (Nat → Int32) × (Nat → Int32) × (Nat → Int32) × (Nat → Int32) × Int32 × (Nat → Int32) × (Nat → Int32)} {r : Int32 × (Nat → Int32) × (Nat → Int32) × (Nat → Int32) × (Nat → Int32) × (Nat → Int32) × (Nat → Int32)} (h : pRel T0 g pf v o c r) (i : Nat) (hi : i = 1 ∨ i = 2 ∨ i = 4 ∨ i = 5 ∨ i = 6 ∨ i = 7 ∨ i = 8 ∨ i = 9 ∨ i = 10 ∨ i = 11 ∨ i = 12) : r.2.1 i = v i := h.2.2.2.2.2.2.1 i (by omega) (by omega) (by omega) (by omega) (by omega) (by omega)
/-- a row after its store -/
theorem fin3 {g0 v0 G pf qs qk qd V PF G' M' L' PF' V' QM' QL' QS' : Nat → Int32} (qn qo QT QI QY PG T F N Z KY ld : Nat → Int32) {PN' f' : Int32} (hv0 : Tp v0) (S : ∀ j : Nat, (j : Int) < (v0 0).toInt → pf j = qs j) (hk : ∀ j : Nat, (j : Int) < (v0 0).toInt → qk j = qs j) (hq : nnQ qd) (b1 : ∀ j : Nat, (j : Int) < (v0 0).toInt → PF j = pf j) (b2 : (V 0).toInt ≤ (v0 0).toInt) (b3 : V 3 = 0) (G0 : G 0 = V 2) (G1 : G 1 = V 1) (G2 : G 2 = V 14) (G4 : G 4 = V 4) (G6 : G 6 = V 6) (G7 : G 7 = V 3) (G6' : G 6 = g0 6) (VK : ∀ i : Nat, i = 5 ∨ i = 10 ∨ i = 11 ∨ i = 12 → V i = v0 i) (sa : sRel G PF (V 0) V (G', M', L', PF', PN') (f', V', QM', QL', QS')) : rowRel g0 v0 (if (G' 5) = 0 then ((upd (upd G' 1 (G' 2)) 6 ((G' 6) + 1)), M', L', PF', PG, PN', T, F, N, Z, KY, ld) else (G', M', L', PF', PG, (pX3_growBack PN' (v0 0)), T, F, N, Z, KY, ld)) (if f' = 0 then (if (V' 3) = 0 then (0, (upd (upd (upd V' 1 (V' 14)) 4 (V' 4)) 6 ((V' 6) + 1)), QM', QL', QS', qk, qd, qn, qo, QT, QI, QY) else (0, (upd (upd (upd V' 1 (V' 14)) 4 (V' 15)) 6 ((V' 6) + 1)), QM', QL', QS', qk, qd, qn, qo, QT, QI, QY)) else (pX8_doesRow_lp183 ((Int32.toInt (v0 0) - Int32.toInt 0).toNat + 1) (upd V' 0 (v0 0)) QM' QL' QS' qk qd qn qo QT QI QY f' (v0 0) 0)) := by
  obtain ⟨w1, w2, w3, w4, w5, w6, w7⟩ := sa
  dsimp only at w1 w2 w3 w4 w5 w6 w7
  have K0 : G' 0 = V' 2 := by rw [w2 0 (by decide), w3 2 (by decide)]; exact G0
  have K1 : G' 1 = V' 1 := by rw [w2 1 (by decide), w3 1 (by decide)]; exact G1
  have K6 : G' 6 = V' 6 := by rw [w2 6 (by decide), w3 6 (by decide)]; exact G6
  have K6' : G' 6 = g0 6 := by rw [w2 6 (by decide)]; exact G6'
  have K2 : G' 2 = V' 14 := by rw [w2 2 (by decide), w3 14 (by decide)]; exact G2
  have K7 : G' 7 = V' 3 := by rw [w2 7 (by decide), w3 3 (by decide)]; exact G7
  have V3 : V' 3 = 0 := (w3 3 (by decide)).trans b3
  have K4 : G' 4 = V' 4 := by rw [w2 4 (by decide), w3 4 (by decide)]; exact G4
  have VK' : ∀ i : Nat, i = 5 ∨ i = 10 ∨ i = 11 ∨ i = 12 → V' i = v0 i := fun i hi => (w3 i (by omega)).trans (VK i hi)
  by_cases d : f' = 0
  · obtain ⟨x1, x2, x3⟩ := w6 d
    rw [if_pos (show G' 5 = 0 from w1.trans d), if_pos d]
    exact row_good (w1.trans d) hq w4 w5 x1 x2 x3 K0 K2 K7 (fun _ => K4) (fun q => absurd V3 q) K6 VK' K6'
  · obtain ⟨x1, x2⟩ := w7 d
    rw [if_neg (show ¬ G' 5 = 0 from fun q => d (w1.symm.trans q)), if_neg d, x1, x2, grow_back b2 hv0.2]
    exact row_bad hv0 S hk b1 w1 d hq w4 w5 K0 K1 K4 K6 K7 VK' K6'
/-- a row after its operation -/
theorem fin2 {g0 v0 g mem loc pf qm ql qs qk qd qn v ld T F N G M PF V QM QS : Nat → Int32} (qo PG Z KY QT QI QY : Nat → Int32) {a PN f o : Int32} (H : PH (v0 0).toInt g mem pf qm qs v) (P : pRel (v0 0).toInt g pf v o (a, G, M, PF, PG, PN, Z, KY) (f, V, QM, QS, QT, QI, QY)) (hl : RB 64 loc ql) (hv0 : Tp v0) (hk : ∀ j : Nat, (j : Int) < (v0 0).toInt → qk j = qs j) (hT1 : T 1 = pX6_loadsOf o) (hT2 : T 2 = v 8) (h8 : v 8 = pX8_operands o) (h8n : 0 ≤ (v 8).toInt) (hmd : ∀ j : Nat, (j : Int) < (v 8).toInt → F j = qd j ∧ N j = qn j ∧ 0 ≤ (qd j).toInt ∧ (qd j).toInt ≤ 15 ∧ ¬ qd j = 4 ∧ ¬ qd j = 12) (hfs : ∀ j : Nat, (T 1).toInt ≤ j → (j : Int) < (T 2).toInt → ¬ (1 ≤ (F j).toInt ∧ (F j).toInt ≤ 3)) (hq : nnQ qd) (h3 : g 3 = pX6_widthOf o) (h1 : g 1 = v 1) (h6 : g 6 = v 6) (hg6 : g 6 = g0 6) (hv : ∀ i : Nat, i = 5 ∨ i = 10 ∨ i = 11 ∨ i = 12 → v i = v0 i) : rowRel g0 v0 (if (G 5) = 0 then (if (T 2) ≤ (T 1) then ((upd (upd G 1 (G 2)) 6 ((G 6) + 1)), M, loc, PF, PG, PN, T, F, N, Z, KY, ld) else (mLet (pX2_storeOperand G M loc PF PN F N (T 1) a) (fun (u125 : (Nat → Int32) × (Nat → Int32) × (Nat → Int32) × (Nat → Int32) × Int32) => (if (u125.1 5) = 0 then ((upd (upd u125.1 1 (u125.1 2)) 6 ((u125.1 6) + 1)), u125.2.1, u125.2.2.1, u125.2.2.2.1, PG, u125.2.2.2.2, T, F, N, Z, KY, ld) else (u125.1, u125.2.1, u125.2.2.1, u125.2.2.2.1, PG, (pX3_growBack u125.2.2.2.2 (v0 0)), T, F, N, Z, KY, ld))))) else (mLet (pX3_growBack PN (v0 0)) (fun (u140 : Int32) => (G, M, loc, PF, PG, u140, T, F, N, Z, KY, ld)))) (if f = 0 then (if 0 ≤ (pX8_storeOf o) then (mLet (pX8_store V QM ql QS qd qn (pX8_storeOf o) (pX6_widthOf o) (V 13)) (fun (u167 : Int32 × (Nat → Int32) × (Nat → Int32) × (Nat → Int32) × (Nat → Int32)) => (if u167.1 = 0 then (if (u167.2.1 3) = 0 then (0, (upd (upd (upd u167.2.1 1 (u167.2.1 14)) 4 (u167.2.1 4)) 6 ((u167.2.1 6) + 1)), u167.2.2.1, u167.2.2.2.1, u167.2.2.2.2, qk, qd, qn, qo, QT, QI, QY) else (0, (upd (upd (upd u167.2.1 1 (u167.2.1 14)) 4 (u167.2.1 15)) 6 ((u167.2.1 6) + 1)), u167.2.2.1, u167.2.2.2.1, u167.2.2.2.2, qk, qd, qn, qo, QT, QI, QY)) else (pX8_doesRow_lp183 ((Int32.toInt (v0 0) - Int32.toInt 0).toNat + 1) (upd u167.2.1 0 (v0 0)) u167.2.2.1 u167.2.2.2.1 u167.2.2.2.2 qk qd qn qo QT QI QY u167.1 (v0 0) 0)))) else (if (V 3) = 0 then (0, (upd (upd (upd V 1 (V 14)) 4 (V 4)) 6 ((V 6) + 1)), QM, ql, QS, qk, qd, qn, qo, QT, QI, QY) else (0, (upd (upd (upd V 1 (V 14)) 4 (V 15)) 6 ((V 6) + 1)), QM, ql, QS, qk, qd, qn, qo, QT, QI, QY))) else (pX8_doesRow_lp183 ((Int32.toInt (v0 0) - Int32.toInt 0).toNat + 1) (upd V 0 (v0 0)) QM ql QS qk qd qn qo QT QI QY f (v0 0) 0)) := by
  have z0 : Int32.toInt 0 = 0 := rfl
  have z1 : Int32.toInt 1 = 1 := rfl
  have hw := width_ok o
  have ok : 0 ≤ (pX6_loadsOf o).toInt ∧ (pX6_loadsOf o).toInt ≤ 7 ∧ ((pX6_stores o = 0 ∧ pX8_operands o = pX6_loadsOf o ∧ pX8_storeOf o = -2) ∨ (pX6_stores o = 1 ∧ pX8_operands o = pX6_loadsOf o + 1 ∧ pX8_storeOf o = pX6_loadsOf o)) := by
    rcases op_ok o with ⟨_, e2⟩ | q
    · rw [h8, e2] at h8n; exact absurd h8n (by decide)
    · exact q
  obtain ⟨o0, o7, oc⟩ := ok
  have S := H.2.2.2.2.2.2.2.2.2.2
  have stay := does_st (mem := mem) P
  obtain ⟨p1, p2, p3, p4, p5, p6, p7, p8, p9, p10, p11⟩ := P
  dsimp only at p1 p2 p3 p4 p5 p6 p7 p8 p9 p10 p11 stay
  have G0 : G 0 = V 2 := by rw [p2 0 (by decide) (by decide) (by decide) (by decide), stay 2 (by decide)]; exact H.2.2.2.2.2.2.2.1
  have G1 : G 1 = V 1 := by rw [p2 1 (by decide) (by decide) (by decide) (by decide), stay 1 (by decide)]; exact h1
  have G6 : G 6 = V 6 := by rw [p2 6 (by decide) (by decide) (by decide) (by decide), stay 6 (by decide)]; exact h6
  have G6' : G 6 = g0 6 := by rw [p2 6 (by decide) (by decide) (by decide) (by decide)]; exact hg6
  have G3 : G 3 = pX6_widthOf o := by rw [p2 3 (by decide) (by decide) (by decide) (by decide)]; exact h3
  have G4 : V 3 = 0 → G 4 = V 4 := fun q => by rw [p5 q, stay 4 (by decide)]
  have VK : ∀ i : Nat, i = 5 ∨ i = 10 ∨ i = 11 ∨ i = 12 → V i = v0 i := fun i hi => (stay i (by omega)).trans (hv i hi)
  by_cases c : f = 0
  · have G5 : G 5 = 0 := p1.trans c
    obtain ⟨n1, n2, n3⟩ := p10 c
    rw [if_pos G5, if_pos c]
    rcases oc with ⟨s1, s2, s3⟩ | ⟨s1, s2, s3⟩
    · rw [if_pos (show T 2 ≤ T 1 by rw [hT1, hT2, h8, s2]; exact Int32.le_refl _), s3, if_neg (show ¬ (0 : Int32) ≤ -2 by decide)]
      exact row_good G5 hq p8 hl n1 n2 n3 G0 p3 p4 G4 p6 G6 VK G6'
    · have e8 : (v 8).toInt = (pX6_loadsOf o).toInt + 1 := by rw [h8, s2, ti_add (by omega) (by omega), z1]
      have hT1' : (T 1).toInt = (pX6_loadsOf o).toInt := by rw [hT1]
      have hT2' : (T 2).toInt = (v 8).toInt := by rw [hT2]
      have hc := nat_clamp o0
      rw [if_neg (show ¬ T 2 ≤ T 1 by rw [Int32.le_iff_toInt_le]; omega), s3, if_pos (show (0 : Int32) ≤ pX6_loadsOf o by rw [Int32.le_iff_toInt_le]; omega), mLet_eq, mLet_eq, hT1]
      obtain ⟨a1, a2⟩ := p11 c s1
      obtain ⟨b1, b2, b3⟩ := p9 (Or.inr s1)
      obtain ⟨m1, m2, m3, m4, m5, m6⟩ := hmd (pX6_loadsOf o).toNatClampNeg (by omega)
      have fs := hfs (pX6_loadsOf o).toNatClampNeg (by omega) (by omega)
      rw [m1] at fs
      have sa := s_all (g := G) (mem := M) (qm := QM) (loc := loc) (ql := ql) (pf := PF) (qs := QS) (fm := F) (fn := N) (qd := qd) (qn := qn) (v := V) p8 hl (k := pX6_loadsOf o) (w := pX6_widthOf o) a ⟨o0, by omega⟩ m1 m2 hw.1 G3 G0 G5 n2 n3 a2 ⟨m3, m4⟩ m5 m6 fs
      rw [n1] at b2
      rw [← a1, n1]
      generalize pX2_storeOperand G M loc PF (V 0) F N (pX6_loadsOf o) a = X at sa ⊢
      generalize pX8_store V QM ql QS qd qn (pX6_loadsOf o) (pX6_widthOf o) a = Y at sa ⊢
      obtain ⟨G', M', L', PF', PN'⟩ := X
      obtain ⟨f', V', QM', QL', QS'⟩ := Y
      exact fin3 qn qo QT QI QY PG T F N Z KY ld hv0 S hk hq b1 b2 b3 G0 G1 p3 (G4 b3) G6 p4 G6' VK sa
  · obtain ⟨b1, b2, b3⟩ := p9 (Or.inl c)
    rw [if_neg (show ¬ G 5 = 0 from fun q => c (p1.symm.trans q)), if_neg c, mLet_eq, grow_back b2 hv0.2]
    exact row_bad hv0 S hk b1 p1 c hq p8 hl G0 G1 (G4 b3) G6 p4 VK G6'

/-- the row once its loads are taken -/
theorem fin_eq {g0 v0 g mem loc pf qm ql qs qk qd qn v ld qo T F N : Nat → Int32} (H : PH (v0 0).toInt g mem pf qm qs v) (hl : RB 64 loc ql) (hv0 : Tp v0) (hk : ∀ j : Nat, (j : Int) < (v0 0).toInt → qk j = qs j) (pg z key qt qi qy : Nat → Int32) {o : Int32} (hL : LD o ld qo) (e : v 7 = o) (hT0 : T 0 = o) (hT1 : T 1 = pX6_loadsOf o) (hT2 : T 2 = v 8) (h8 : v 8 = pX8_operands o) (h8n : 0 ≤ (v 8).toInt) (hmd : ∀ j : Nat, (j : Int) < (v 8).toInt → F j = qd j ∧ N j = qn j ∧ 0 ≤ (qd j).toInt ∧ (qd j).toInt ≤ 15 ∧ ¬ qd j = 4 ∧ ¬ qd j = 12) (hfs : ∀ j : Nat, (T 1).toInt ≤ j → (j : Int) < (T 2).toInt → ¬ (1 ≤ (F j).toInt ∧ (F j).toInt ≤ 3)) (hq : nnQ qd) (h3 : g 3 = pX6_widthOf o) (h1 : g 1 = v 1) (h6 : g 6 = v 6) (hg6 : g 6 = g0 6) (hv : ∀ i : Nat, i = 5 ∨ i = 10 ∨ i = 11 ∨ i = 12 → v i = v0 i) : rowRel g0 v0
    (mLet (pX2_perform g mem pf pg (v 0) T z key ld (T 0)) (fun (u84 : Int32 × (Nat → Int32) × (Nat → Int32) × (Nat → Int32) × (Nat → Int32) × Int32 × (Nat → Int32) × (Nat → Int32)) => (if (u84.2.1 5) = 0 then (if (T 2) ≤ (T 1) then ((upd (upd u84.2.1 1 (u84.2.1 2)) 6 ((u84.2.1 6) + 1)), u84.2.2.1, loc, u84.2.2.2.1, u84.2.2.2.2.1, u84.2.2.2.2.2.1, T, F, N, u84.2.2.2.2.2.2.1, u84.2.2.2.2.2.2.2, ld) else (mLet (pX2_storeOperand u84.2.1 u84.2.2.1 loc u84.2.2.2.1 u84.2.2.2.2.2.1 F N (T 1) u84.1) (fun (u125 : (Nat → Int32) × (Nat → Int32) × (Nat → Int32) × (Nat → Int32) × Int32) => (if (u125.1 5) = 0 then ((upd (upd u125.1 1 (u125.1 2)) 6 ((u125.1 6) + 1)), u125.2.1, u125.2.2.1, u125.2.2.2.1, u84.2.2.2.2.1, u125.2.2.2.2, T, F, N, u84.2.2.2.2.2.2.1, u84.2.2.2.2.2.2.2, ld) else (u125.1, u125.2.1, u125.2.2.1, u125.2.2.2.1, u84.2.2.2.2.1, (pX3_growBack u125.2.2.2.2 (v0 0)), T, F, N, u84.2.2.2.2.2.2.1, u84.2.2.2.2.2.2.2, ld))))) else (mLet (pX3_growBack u84.2.2.2.2.2.1 (v0 0)) (fun (u140 : Int32) => (u84.2.1, u84.2.2.1, loc, u84.2.2.2.1, u84.2.2.2.2.1, u140, T, F, N, u84.2.2.2.2.2.2.1, u84.2.2.2.2.2.2.2, ld))))))
    (dFin v qm ql qs qk qd qn qo qt qi qy (v0 0) (pX8_storeOf o) (pX6_widthOf o)) := by
  have o0 : 0 ≤ (pX6_loadsOf o).toInt := by
    rcases op_ok o with ⟨_, e2⟩ | q
    · rw [h8, e2] at h8n; exact absurd h8n (by decide)
    · exact q.1
  have P := perf_eq H T pg z key qt qi qy hL e o0 hT1 h8
  rw [hT0, dFin, mLet_eq (pX2_perform g mem pf pg (v 0) T z key ld o), mLet_eq (pX8_does v qm qs qo qt qi qy)]
  generalize pX2_perform g mem pf pg (v 0) T z key ld o = C at P ⊢
  generalize pX8_does v qm qs qo qt qi qy = R at P ⊢
  obtain ⟨a, G, M, PF, PG, PN, Z, KY⟩ := C
  obtain ⟨f, V, QM, QS, QT, QI, QY⟩ := R
  exact fin2 qo PG Z KY QT QI QY H P hl hv0 hk hT1 hT2 h8 h8n hmd hfs hq h3 h1 h6 hg6 hv
