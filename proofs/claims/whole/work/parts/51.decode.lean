def cB (T f g mem : Nat → Int32) (x w m : Int32) : Int32 × (Nat → Int32) × (Nat → Int32) × (Nat → Int32) :=
  mLet (pX0_holds 1024 (x + w) ((m + 1) / 2)) (fun (u97 : Int32) => if u97 = 0 then (1, T, f, g) else mLet (pX1_decodeModes T f mem (x + w)) (fun (u110 : Nat → Int32) => mLet (pX1_decodeNumbers T u110 g mem ((x + w) + ((m + 1) / 2))) (fun (u121 : Int32 × (Nat → Int32)) => if 0 ≤ u121.1 then mLet (pX1_modesAreFit (upd T 3 (u121.1 - x)) u110) (fun (u142 : Int32) => if u142 = 0 then (2, upd T 3 (u121.1 - x), u110, u121.2) else (0, upd T 3 (u121.1 - x), u110, u121.2)) else (1, T, u110, u121.2))))
def rB (V qm qd qn : Nat → Int32) (x w m : Int32) : Int32 × (Nat → Int32) × (Nat → Int32) × (Nat → Int32) :=
  if ((x + w) + ((m + 1) / 2)) ≤ 1024 then pX8_takeApart_lp153 qm ((Int32.toInt m - Int32.toInt 0).toNat + 1) V qd qn (x + w) ((m + 1) / 2) ((x + w) + ((m + 1) / 2)) 0 else (1, V, qd, qn)
theorem dRel_bad {x a : Int32} {p q : (Nat → Int32) × (Nat → Int32) × (Nat → Int32)} (ha : ¬ a = 0) : dRel x (a, p) (a, q) := ⟨rfl, fun h => absurd h ha⟩
theorem body_eq {mem qm : Nat → Int32} (h : RB 1024 mem qm) {T f g V qd qn : Nat → Int32} {x w m : Int32} (hq : nnQ qd) (hT2 : T 2 = m) (hV8 : V 8 = m) (hT0 : T 0 = V 7) (hT1 : T 1 = pX6_loadsOf (V 7)) (hx : 0 ≤ x.toInt) (hw : 1 ≤ w.toInt) (hb : x.toInt + w.toInt ≤ 1024) (hm : 0 ≤ m.toInt ∧ m.toInt ≤ 8) (hrel : ∀ k : Int32, 0 ≤ k.toInt → k.toInt < m.toInt → (¬ k < T 1 ↔ k = pX8_storeOf (V 7))) : dRel x (cB T f g mem x w m) (rB V qm qd qn x w m) := by
  have z1 : Int32.toInt 1 = 1 := rfl
  have z2 : Int32.toInt 2 = 2 := rfl
  have z0 : Int32.toInt 0 = 0 := rfl
  have zk : Int32.toInt 1024 = 1024 := rfl
  have ea : (x + w).toInt = x.toInt + w.toInt := ti_add (by omega) (by omega)
  have em : (m + 1).toInt = m.toInt + 1 := by rw [ti_add (by omega) (by omega), z1]
  have ed : ((m + 1) / 2).toInt = (m.toInt + 1) / 2 := by rw [ti_div (by omega) z2 (by decide), em]
  generalize hP : x + w = P at *
  generalize hD : (m + 1) / 2 = D at *
  have eb : (P + D).toInt = P.toInt + D.toInt := ti_add (by omega) (by omega)
  have hh := holds_iff (n := 1024) (x1 := P) (x2 := D) (by decide)
  rw [cB, rB, hP, hD, mLet_eq]
  by_cases c : P.toInt + D.toInt ≤ 1024
  · have c1 : ¬ pX0_holds 1024 P D = 0 := hh.mpr ⟨by omega, by omega, by omega⟩
    have c2 : P + D ≤ 1024 := by rw [Int32.le_iff_toInt_le, zk, eb]; exact c
    rw [if_neg c1, if_pos c2, mLet_eq]
    subst hV8
    have hfm : ∀ j : Nat, pX1_decodeModes T f mem P j = if 0 ≤ (j : Int) ∧ (j : Int) < (V 8).toInt then moAt qm P j else f j := by
      intro j
      have q := modes_lp h (t := T) (x2 := P) (by omega) (by rw [hT2]; exact hm) (by rw [hT2]; omega) ((Int32.toInt (T 2) - Int32.toInt 0).toNat + 1) f 0 (by rw [z0]; omega) (by omega) j
      rw [z0, hT2] at q
      rw [pX1_decodeModes, hT2]
      exact q
    generalize pX1_decodeModes T f mem P = F at *
    obtain ⟨qq, hq1, hq2, e153⟩ := ta153_run h (v := V) (qn := qn) (k4 := P) (k5 := D) (by omega) hm ed c ((Int32.toInt (V 8) - Int32.toInt 0).toNat + 1) qd (P + D) 0 (by rw [z0]; omega) (by rw [z0]; omega) (by omega) hq (fun j hj => by rw [z0] at hj; omega) (by rw [z0, eb]; show _ = _ + wsum qd 0; show _ = _ + (0 : Int); omega)
    have hFq : ∀ j : Nat, (j : Int) < (V 8).toInt → F j = qq j ∧ (qq j).toInt ≤ 15 := by
      intro j hj
      have e1 := hfm j
      have e2 := hq1 j
      rw [if_pos ⟨by omega, hj⟩] at e1
      rw [if_pos hj] at e2
      rw [e1, e2]
      exact ⟨rfl, (moAt_bd h (x := P) (j := j) (by omega)).2⟩
    obtain ⟨qg, eg, en, hn1, hn2⟩ := nums_cls h (t := T) (f := F) (qd := qq) (base := P.toInt + D.toInt) hq2 (by rw [hT2]; exact hm) (by rw [hT2]; exact hFq) (by omega) (by omega) ((Int32.toInt (T 2) - Int32.toInt 0).toNat + 1) g (P + D) 0 (by rw [z0]; omega) (by rw [z0, hT2]; omega) (by omega) (by rw [z0, eb]; show _ = _ + (0 : Int); omega) (by rw [eb]; exact c)
    rw [hT2] at hn1 hn2
    have en' : pX1_decodeNumbers T F g mem (P + D) = (eg, qg) := en
    rw [en', mLet_eq, e153]
    by_cases d : P.toInt + D.toInt + wsum qq (V 8).toInt.toNat ≤ 1024
    · obtain ⟨he, hg⟩ := hn1 d
      rw [z0] at hg
      obtain ⟨qr, er, her, hr, e232⟩ := nums_ref (qm := qm) (v := V) (qd := qq) (base := P.toInt + D.toInt) hq2 hm (by omega) d ((Int32.toInt (V 8) - Int32.toInt 0).toNat + 1) qn (P + D) 0 (by rw [z0]; omega) (by rw [z0]; omega) (by omega) (by rw [z0, eb]; show _ = _ + (0 : Int); omega)
      rw [z0] at hr
      have hee : eg = er := Int32.toInt_inj.mp (by rw [he, her])
      have hws := (wsum_bd hq2 (V 8).toInt.toNat).1
      have c3 : (0 : Int32) ≤ eg := by rw [Int32.le_iff_toInt_le, z0, he]; omega
      rw [if_pos d, e232]
      show dRel x (if 0 ≤ eg then mLet (pX1_modesAreFit (upd T 3 (eg - x)) F) (fun (u142 : Int32) => if u142 = 0 then (2, upd T 3 (eg - x), F, qg) else (0, upd T 3 (eg - x), F, qg)) else (1, T, F, qg)) _
      rw [if_pos c3, mLet_eq]
      have u2 : upd T 3 (eg - x) 2 = V 8 := by rw [upd_at, if_neg (by decide), hT2]
      have u1 : upd T 3 (eg - x) 1 = T 1 := by rw [upd_at, if_neg (by decide)]
      have u0 : upd T 3 (eg - x) 0 = V 7 := by rw [upd_at, if_neg (by decide), hT0]
      have u3 : upd T 3 (eg - x) 3 = eg - x := by rw [upd_at, if_pos rfl]
      generalize upd T 3 (eg - x) = W at *
      have hfit := fit_eq (v := V) (qd := qq) (q := qr) (t := W) (f := F) (e := er) (s := pX8_storeOf (V 7)) hm u2 (fun j hj => (hFq j hj).1) (by rw [u1]; exact hrel) ((Int32.toInt (V 8) - Int32.toInt 0).toNat + 1) 0 (by rw [z0]; omega) (by omega)
      have emf : pX1_modesAreFit W F = pX1_modesAreFit_lp2 W F ((Int32.toInt (V 8) - Int32.toInt 0).toNat + 1) 0 := by rw [pX1_modesAreFit, u2]
      rw [emf]
      rcases hfit with ⟨e1, e2⟩ | ⟨e1, e2⟩
      · rw [e1, e2, if_pos rfl]; exact dRel_bad (by decide)
      · have hfm2 := fit_modes (t := W) (f := F) (by rw [u2]; exact hm.2) ((Int32.toInt (V 8) - Int32.toInt 0).toNat + 1) 0 (by rw [z0]; omega) (by rw [u2]; omega) e1
        rw [e1, e2, if_neg (by decide)]
        refine ⟨rfl, fun _ => ?_⟩
        have v9 : upd V 9 er 9 = er := by rw [upd_at, if_pos rfl]
        have v8 : upd V 9 er 8 = V 8 := by rw [upd_at, if_neg (by decide)]
        have v7 : upd V 9 er 7 = V 7 := by rw [upd_at, if_neg (by decide)]
        show W 0 = upd V 9 er 7 ∧ W 2 = upd V 9 er 8 ∧ W 1 = pX6_loadsOf (upd V 9 er 7) ∧ W 3 = upd V 9 er 9 - x ∧ (∀ j : Nat, (j : Int) < (upd V 9 er 8).toInt → F j = qq j ∧ qg j = qr j ∧ 0 ≤ (qq j).toInt ∧ (qq j).toInt ≤ 15 ∧ ¬ qq j = 4 ∧ ¬ qq j = 12)
        rw [v9, v8, v7, u0, u1, u2, u3, hT1, hee]
        refine ⟨rfl, rfl, rfl, rfl, fun j hj => ?_⟩
        have e3 := hFq j hj
        have e4 := hfm2 j (by rw [z0]; omega) (by rw [u2]; exact hj)
        rw [e3.1] at e4
        refine ⟨e3.1, ?_, hq2 j, e3.2, e4.1, e4.2⟩
        rw [hg j, hr j, if_pos ⟨by omega, hj⟩, if_pos ⟨by omega, hj⟩]
    · have he := hn2 d
      rw [if_neg d]
      show dRel x (if 0 ≤ eg then mLet (pX1_modesAreFit (upd T 3 (eg - x)) F) (fun (u142 : Int32) => if u142 = 0 then (2, upd T 3 (eg - x), F, qg) else (0, upd T 3 (eg - x), F, qg)) else (1, T, F, qg)) _
      rw [he, if_neg (by decide)]
      exact dRel_bad (by decide)
  · have c1 : pX0_holds 1024 P D = 0 := Decidable.byContradiction (fun q => c (by have := hh.mp q; omega))
    have c2 : ¬ P + D ≤ 1024 := by rw [Int32.le_iff_toInt_le, zk, eb]; exact c
    rw [if_pos c1, if_neg c2]
    exact dRel_bad (by decide)
