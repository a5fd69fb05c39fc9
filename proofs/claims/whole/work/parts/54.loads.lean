def dFin (v qm ql qs qk qd qn qo qt qi qy : Nat → Int32) (k2 k3 k4 : Int32) : Int32 × (Nat → Int32) × (Nat → Int32) × (Nat → Int32) × (Nat → Int32) × (Nat → Int32) × (Nat → Int32) × (Nat → Int32) × (Nat → Int32) × (Nat → Int32) × (Nat → Int32) × (Nat → Int32) := (mLet (pX8_does v qm qs qo qt qi qy) (fun (u143 : Int32 × (Nat → Int32) × (Nat → Int32) × (Nat → Int32) × (Nat → Int32) × (Nat → Int32) × (Nat → Int32)) => (if u143.1 = 0 then (if 0 ≤ k3 then (mLet (pX8_store u143.2.1 u143.2.2.1 ql u143.2.2.2.1 qd qn k3 k4 (u143.2.1 13)) (fun (u167 : Int32 × (Nat → Int32) × (Nat → Int32) × (Nat → Int32) × (Nat → Int32)) => (if u167.1 = 0 then (if (u167.2.1 3) = 0 then (0, (upd (upd (upd u167.2.1 1 (u167.2.1 14)) 4 (u167.2.1 4)) 6 ((u167.2.1 6) + 1)), u167.2.2.1, u167.2.2.2.1, u167.2.2.2.2, qk, qd, qn, qo, u143.2.2.2.2.1, u143.2.2.2.2.2.1, u143.2.2.2.2.2.2) else (0, (upd (upd (upd u167.2.1 1 (u167.2.1 14)) 4 (u167.2.1 15)) 6 ((u167.2.1 6) + 1)), u167.2.2.1, u167.2.2.2.1, u167.2.2.2.2, qk, qd, qn, qo, u143.2.2.2.2.1, u143.2.2.2.2.2.1, u143.2.2.2.2.2.2)) else (pX8_doesRow_lp183 ((Int32.toInt k2 - Int32.toInt 0).toNat + 1) (upd u167.2.1 0 k2) u167.2.2.1 u167.2.2.2.1 u167.2.2.2.2 qk qd qn qo u143.2.2.2.2.1 u143.2.2.2.2.2.1 u143.2.2.2.2.2.2 u167.1 k2 0)))) else (if (u143.2.1 3) = 0 then (0, (upd (upd (upd u143.2.1 1 (u143.2.1 14)) 4 (u143.2.1 4)) 6 ((u143.2.1 6) + 1)), u143.2.2.1, ql, u143.2.2.2.1, qk, qd, qn, qo, u143.2.2.2.2.1, u143.2.2.2.2.2.1, u143.2.2.2.2.2.2) else (0, (upd (upd (upd u143.2.1 1 (u143.2.1 14)) 4 (u143.2.1 15)) 6 ((u143.2.1 6) + 1)), u143.2.2.1, ql, u143.2.2.2.1, qk, qd, qn, qo, u143.2.2.2.2.1, u143.2.2.2.2.2.1, u143.2.2.2.2.2.2))) else (pX8_doesRow_lp183 ((Int32.toInt k2 - Int32.toInt 0).toNat + 1) (upd u143.2.1 0 k2) u143.2.2.1 ql u143.2.2.2.1 qk qd qn qo u143.2.2.2.2.1 u143.2.2.2.2.2.1 u143.2.2.2.2.2.2 u143.1 k2 0))))
def dFlt (v qm ql qs qk qd qn qo qt qi qy : Nat → Int32) (k1 k2 : Int32) : Int32 × (Nat → Int32) × (Nat → Int32) × (Nat → Int32) × (Nat → Int32) × (Nat → Int32) × (Nat → Int32) × (Nat → Int32) × (Nat → Int32) × (Nat → Int32) × (Nat → Int32) × (Nat → Int32) := pX8_doesRow_lp183 ((Int32.toInt k2 - Int32.toInt 0).toNat + 1) (upd v 0 k2) qm ql qs qk qd qn qo qt qi qy k1 k2 0
theorem lp96_un (n_ : Nat) (v qm ql qs qk qd qn qo qt qi qy : Nat → Int32) (k1 k2 k3 k4 k5 : Int32) : pX8_doesRow_lp96 (n_ + 1) v qm ql qs qk qd qn qo qt qi qy k1 k2 k3 k4 k5 = (if (v 8) ≤ k5 then (if k1 = 0 then dFin v qm ql qs qk qd qn qo qt qi qy k2 k3 k4 else dFlt v qm ql qs qk qd qn qo qt qi qy k1 k2) else (if k1 = 0 then (if k5 = k3 then (pX8_doesRow_lp96 n_ v qm ql qs qk qd qn qo qt qi qy 0 k2 k3 k4 (k5 + 1)) else (mLet (pX8_load v qm ql qs qd qn qo k5 k4) (fun (u124 : Int32 × (Nat → Int32) × (Nat → Int32)) => (pX8_doesRow_lp96 n_ u124.2.1 qm ql qs qk qd qn u124.2.2 qt qi qy u124.1 k2 k3 k4 (k5 + 1))))) else dFlt v qm ql qs qk qd qn qo qt qi qy k1 k2)) := by
  rw [pX8_doesRow_lp96]
  delta dFin dFlt
  with_reducible rfl
theorem loads_eq {mem qm loc ql pf qs fm fn t : Nat → Int32} (h : RB 1024 mem qm) (hl : RB 64 loc ql) {qd qn : Nat → Int32} (qk qt qi qy : Nat → Int32) {w m s : Int32} (k2 : Int32) {T0 : Int} (hw : 0 ≤ w.toInt ∧ w.toInt ≤ 4) (hw2 : w124 w) (hL : 0 ≤ (t 1).toInt ∧ (t 1).toInt ≤ 7) (hms : (t 1).toInt ≤ m.toInt ∧ m.toInt ≤ (t 1).toInt + 1) (hrel : ∀ k : Int32, 0 ≤ k.toInt → k.toInt < m.toInt → (¬ k < t 1 ↔ k = s)) (hmd : ∀ j : Nat, (j : Int) < m.toInt → fm j = qd j ∧ fn j = qn j ∧ 0 ≤ (qd j).toInt ∧ (qd j).toInt ≤ 15 ∧ ¬ qd j = 4 ∧ ¬ qd j = 12) (hs : ∀ j : Nat, (j : Int) < T0 → pf j = qs j) : ∀ (n_ m_ : Nat) (g v ld qo : Nat → Int32) (k : Int32), 0 ≤ k.toInt → k.toInt ≤ (t 1).toInt → ((t 1).toInt - k.toInt).toNat < n_ → (m.toInt - k.toInt).toNat < m_ → g 5 = 0 → g 3 = w → g 0 = v 2 → v 8 = m → Tp v → (v 0).toInt ≤ T0 → (∀ j : Nat, (j : Int) < k.toInt → ld j = qo j ∧ lw w (ld j)) →
    ∃ v' qo' : Nat → Int32, (∀ i : Nat, i ≠ 5 → (pX2_loadAll_lp2 mem loc pf t fm fn n_ g (v 0) ld k).1 i = g i) ∧ (pX2_loadAll_lp2 mem loc pf t fm fn n_ g (v 0) ld k).2.1 = v' 0 ∧ (∀ i : Nat, i ≠ 0 → v' i = v i) ∧ (0 ≤ (v' 0).toInt ∧ (v' 0).toInt ≤ (v 0).toInt) ∧ pX8_doesRow_lp96 m_ v qm ql qs qk qd qn qo qt qi qy 0 k2 s w k = (if (pX2_loadAll_lp2 mem loc pf t fm fn n_ g (v 0) ld k).1 5 = 0 then dFin v' qm ql qs qk qd qn qo' qt qi qy k2 s w else dFlt v' qm ql qs qk qd qn qo' qt qi qy ((pX2_loadAll_lp2 mem loc pf t fm fn n_ g (v 0) ld k).1 5) k2) ∧ ((pX2_loadAll_lp2 mem loc pf t fm fn n_ g (v 0) ld k).1 5 = 0 → ∀ j : Nat, (j : Int) < (t 1).toInt → (pX2_loadAll_lp2 mem loc pf t fm fn n_ g (v 0) ld k).2.2 j = qo' j ∧ lw w ((pX2_loadAll_lp2 mem loc pf t fm fn n_ g (v 0) ld k).2.2 j)) := by
  intro n_
  have z7 : Int32.toInt 7 = 7 := rfl
  induction n_ with
  | zero => intro m_ g v ld qo k _ _ h; exact absurd h (Nat.not_lt_zero _)
  | succ n_ ih =>
    intro m_ g v ld qo k k0 k1 f1 f2 g5 g3 g0 v8 hv hT hj
    cases m_ with
    | zero => exact absurd f2 (Nat.not_lt_zero _)
    | succ m_ =>
      rw [pX2_loadAll_lp2, lp96_un, v8]
      by_cases c : t 1 ≤ k
      · rw [if_pos c]
        rw [Int32.le_iff_toInt_le] at c
        refine ⟨v, qo, fun _ _ => rfl, rfl, fun _ _ => rfl, ⟨hv.1, Int.le_refl _⟩, ?_, fun _ j hj2 => hj j (by omega)⟩
        rw [if_pos g5]
        by_cases d : m ≤ k
        · rw [if_pos d, if_pos rfl]
        · have ed := i32_add1 d
          rw [Int32.le_iff_toInt_le] at d
          have ks : k = s := (hrel k k0 (by omega)).mp (by rw [Int32.lt_iff_toInt_lt]; omega)
          have d2 : m ≤ k + 1 := by rw [Int32.le_iff_toInt_le, ed]; omega
          rw [if_neg (by rw [Int32.le_iff_toInt_le]; omega), if_pos rfl, if_pos ks]
          cases m_ with
          | zero => exact absurd f2 (by omega)
          | succ m_ => rw [lp96_un, v8, if_pos d2, if_pos rfl]
      · have ed := i32_add1 c
        have g4 := ms_up c f1
        have c' := c
        rw [Int32.le_iff_toInt_le] at c
        have hcl := nat_clamp k0
        have c7 : ¬ (7 : Int32) ≤ k := by rw [Int32.le_iff_toInt_le]; omega
        have dm : ¬ m ≤ k := by rw [Int32.le_iff_toInt_le]; omega
        have f3 := ms_up dm f2
        have ks : ¬ k = s := fun q => (hrel k k0 (by omega)).mpr q (by rw [Int32.lt_iff_toInt_lt]; omega)
        rw [if_neg c', if_neg c7, if_pos g5, mLet_eq, if_neg dm, if_pos rfl, if_neg ks, mLet_eq]
        have hmk := hmd k.toNatClampNeg (by omega)
        have hlo := lo_all (qo := qo) h hl (pf := pf) (qs := qs) (fm := fm) (fn := fn) (g := g) (v := v) (qd := qd) (qn := qn) (k := k) ⟨k0, by omega⟩ hmk.1 hmk.2.1 (by rw [g3]; exact hw) (by rw [g3]; exact hw2) g0 g5 (fun j hj2 => hs j (by omega)) hv hmk.2.2
        rw [g3] at hlo
        generalize pX2_loadOperand g mem loc pf (v 0) fm fn k = C at *
        generalize pX8_load v qm ql qs qd qn qo k w = R at *
        obtain ⟨h1, h2, h3, h4, h5, h6⟩ := hlo
        rw [g3] at h6
        have w8 : R.2.1 8 = m := by rw [h4 8 (by decide), v8]
        by_cases f : R.1 = 0
        · obtain ⟨e6, e7⟩ := h6 f
          rw [h3, f]
          obtain ⟨v', qo', a1, a2, a3, a4, a5, a6⟩ := ih m_ C.2.1 R.2.1 (upd ld k.toNatClampNeg C.1) R.2.2 (k + 1) (by rw [ed]; omega) (by rw [ed]; omega) g4 f3 (by rw [h1, f]) (by rw [h2 3 (by decide), g3]) (by rw [h2 0 (by decide), h4 2 (by decide), g0]) w8 ⟨h5.1, by have := hv.2; omega⟩ (by omega) (fun j hj2 => by
            rw [ed] at hj2
            rw [e6]
            by_cases q : j = k.toNatClampNeg
            · rw [q, upd_same, upd_same]; exact ⟨rfl, e7⟩
            · rw [upd_ne _ _ q, upd_ne _ _ q]; exact hj j (by omega))
          refine ⟨v', qo', fun i hi => by rw [a1 i hi, h2 i hi], a2, fun i hi => by rw [a3 i hi, h4 i hi], ⟨a4.1, by omega⟩, a5, a6⟩
        · have hC : ¬ C.2.1 5 = 0 := by rw [h1]; exact f
          have eC : pX2_loadAll_lp2 mem loc pf t fm fn n_ C.2.1 C.2.2 (upd ld k.toNatClampNeg C.1) (k + 1) = (C.2.1, C.2.2, upd ld k.toNatClampNeg C.1) := by
            cases n_ with
            | zero => exact absurd g4 (Nat.not_lt_zero _)
            | succ n_ =>
              rw [pX2_loadAll_lp2, if_neg hC]
              by_cases d : t 1 ≤ k + 1
              · rw [if_pos d]
              · rw [if_neg d]
                by_cases d2 : (7 : Int32) ≤ k + 1
                · rw [if_pos d2]
                · rw [if_neg d2]
          have eR : pX8_doesRow_lp96 m_ R.2.1 qm ql qs qk qd qn R.2.2 qt qi qy R.1 k2 s w (k + 1) = dFlt R.2.1 qm ql qs qk qd qn R.2.2 qt qi qy R.1 k2 := by
            cases m_ with
            | zero => exact absurd f3 (Nat.not_lt_zero _)
            | succ m_ =>
              rw [lp96_un, w8]
              by_cases d : m ≤ k + 1
              · rw [if_pos d, if_neg f]
              · rw [if_neg d, if_neg f]
          rw [eC, eR]
          refine ⟨R.2.1, R.2.2, h2, h3, h4, h5, ?_, fun q => absurd q hC⟩
          show _ = if C.2.1 5 = 0 then _ else dFlt R.2.1 qm ql qs qk qd qn R.2.2 qt qi qy (C.2.1 5) k2
          rw [if_neg hC, h1]
