theorem perf_eq {T0 : Int} {g mem pf qm qs v ld qo : Nat → Int32} (H : PH T0 g mem pf qm qs v) (t pg z key qt qi qy : Nat → Int32) {o : Int32} (hL : LD o ld qo) (e : v 7 = o) (ho : 0 ≤ (pX6_loadsOf o).toInt) (ht : t 1 = pX6_loadsOf o) (h8 : v 8 = pX8_operands o) : pRel T0 g pf v o (pX2_perform g mem pf pg (v 0) t z key ld o) (pX8_does v qm qs qo qt qi qy) := by
  by_cases h0 : o = 0
  · subst h0; exact do_0 H t pg z key qt qi qy hL e
  by_cases h16 : o = 16
  · subst h16; exact do_16 H t pg z key qt qi qy hL e
  by_cases h17 : o = 17
  · subst h17; exact do_17 H t pg z key qt qi qy hL e
  by_cases h18 : o = 18
  · subst h18; exact do_18 H t pg z key qt qi qy hL e
  by_cases h19 : o = 19
  · subst h19; exact do_19 H t pg z key qt qi qy hL e
  by_cases h20 : o = 20
  · subst h20; exact do_20 H t pg z key qt qi qy hL e
  by_cases h21 : o = 21
  · subst h21; exact do_21 H t pg z key qt qi qy hL e
  by_cases h24 : o = 24
  · subst h24; exact do_24 H t pg z key qt qi qy hL e
  by_cases h25 : o = 25
  · subst h25; exact do_25 H t pg z key qt qi qy hL e
  by_cases h26 : o = 26
  · subst h26; exact do_26 H t pg z key qt qi qy hL e
  by_cases h27 : o = 27
  · subst h27; exact do_27 H t pg z key qt qi qy hL e
  by_cases h28 : o = 28
  · subst h28; exact do_28 H t pg z key qt qi qy hL e
  by_cases h29 : o = 29
  · subst h29; exact do_29 H t pg z key qt qi qy hL e
  by_cases h30 : o = 30
  · subst h30; exact do_30 H t pg z key qt qi qy hL e
  by_cases h32 : o = 32
  · subst h32; exact do_32 H t pg z key qt qi qy hL e (ht.trans (by decide +kernel)) (h8.trans (by decide +kernel))
  by_cases h34 : o = 34
  · subst h34; exact do_34 H t pg z key qt qi qy hL e (ht.trans (by decide +kernel)) (h8.trans (by decide +kernel))
  by_cases h35 : o = 35
  · subst h35; exact do_35 H t pg z key qt qi qy hL e (ht.trans (by decide +kernel)) (h8.trans (by decide +kernel))
  by_cases h36 : o = 36
  · subst h36; exact do_36 H t pg z key qt qi qy hL e (ht.trans (by decide +kernel)) (h8.trans (by decide +kernel))
  by_cases h37 : o = 37
  · subst h37; exact do_37 H t pg z key qt qi qy hL e (ht.trans (by decide +kernel)) (h8.trans (by decide +kernel))
  by_cases h38 : o = 38
  · subst h38; exact do_38 H t pg z key qt qi qy hL e (ht.trans (by decide +kernel)) (h8.trans (by decide +kernel))
  by_cases h39 : o = 39
  · subst h39; exact do_39 H t pg z key qt qi qy hL e (ht.trans (by decide +kernel)) (h8.trans (by decide +kernel))
  by_cases h40 : o = 40
  · subst h40; exact do_40 H t pg z key qt qi qy hL e (ht.trans (by decide +kernel)) (h8.trans (by decide +kernel))
  by_cases h41 : o = 41
  · subst h41; exact do_41 H t pg z key qt qi qy hL e (ht.trans (by decide +kernel)) (h8.trans (by decide +kernel))
  by_cases h42 : o = 42
  · subst h42; exact do_42 H t pg z key qt qi qy hL e (ht.trans (by decide +kernel)) (h8.trans (by decide +kernel))
  by_cases h43 : o = 43
  · subst h43; exact do_43 H t pg z key qt qi qy hL e (ht.trans (by decide +kernel)) (h8.trans (by decide +kernel))
  by_cases h44 : o = 44
  · subst h44; exact do_44 H t pg z key qt qi qy hL e (ht.trans (by decide +kernel)) (h8.trans (by decide +kernel))
  by_cases h45 : o = 45
  · subst h45; exact do_45 H t pg z key qt qi qy hL e (ht.trans (by decide +kernel)) (h8.trans (by decide +kernel))
  by_cases h49 : o = 49
  · subst h49; exact do_49 H t pg z key qt qi qy hL e
  by_cases h64 : o = 64
  · subst h64; exact do_64 H t pg z key qt qi qy hL e
  by_cases h65 : o = 65
  · subst h65; exact do_65 H t pg z key qt qi qy hL e
  by_cases h66 : o = 66
  · subst h66; exact do_66 H t pg z key qt qi qy hL e
  by_cases h68 : o = 68
  · subst h68; exact do_68 H t pg z key qt qi qy hL e
  by_cases h69 : o = 69
  · subst h69; exact do_69 H t pg z key qt qi qy hL e
  by_cases h72 : o = 72
  · subst h72; exact do_72 H t pg z key qt qi qy hL e
  by_cases h73 : o = 73
  · subst h73; exact do_73 H t pg z key qt qi qy hL e
  by_cases h74 : o = 74
  · subst h74; exact do_74 H t pg z key qt qi qy hL e
  by_cases h75 : o = 75
  · subst h75; exact do_75 H t pg z key qt qi qy hL e
  by_cases h76 : o = 76
  · subst h76; exact do_76 H t pg z key qt qi qy hL e
  by_cases h77 : o = 77
  · subst h77; exact do_77 H t pg z key qt qi qy hL e
  by_cases h78 : o = 78
  · subst h78; exact do_78 H t pg z key qt qi qy hL e
  by_cases h79 : o = 79
  · subst h79; exact do_79 H t pg z key qt qi qy hL e
  by_cases h80 : o = 80
  · subst h80; exact do_80 H t pg z key qt qi qy hL e
  by_cases h81 : o = 81
  · subst h81; exact do_81 H t pg z key qt qi qy hL e
  by_cases h82 : o = 82
  · subst h82; exact do_82 H t pg z key qt qi qy hL e
  by_cases h83 : o = 83
  · subst h83; exact do_83 H t pg z key qt qi qy hL e
  by_cases h84 : o = 84
  · subst h84; exact do_84 H t pg z key qt qi qy hL e
  by_cases h256 : o = 256
  · subst h256; exact do_256 H t pg z key qt qi qy hL e
  by_cases h260 : o = 260
  · subst h260; exact do_260 H t pg z key qt qi qy hL e
  by_cases h288 : o = 288
  · subst h288; exact do_288 H t pg z key qt qi qy hL e
  by_cases h336 : o = 336
  · subst h336; exact do_336 H t pg z key qt qi qy hL e
  by_cases h337 : o = 337
  · subst h337; exact do_337 H t pg z key qt qi qy hL e
  by_cases h368 : o = 368
  · subst h368; exact do_368 H t pg z key qt qi qy hL e
  by_cases h369 : o = 369
  · subst h369; exact do_369 H t pg z key qt qi qy hL e
  rcases op_ok o with ⟨e1, _⟩ | ⟨q0, q7, q⟩
  · rw [e1] at ho; exact absurd ho (by decide)
  · have n := ops_none h0 h16 h17 h18 h19 h20 h21 h24 h25 h26 h27 h28 h29 h30 h32 h34 h35 h36 h37 h38 h39 h40 h41 h42 h43 h44 h45 h49 h64 h65 h66 h68 h69 h72 h73 h74 h75 h76 h77 h78 h79 h80 h81 h82 h83 h84 h256 h260 h288 h336 h337 h368 h369
    have zm : Int32.toInt (-2) = -2 := rfl
    have z1 : Int32.toInt 1 = 1 := rfl
    rcases q with ⟨_, e2, _⟩ | ⟨_, e2, _⟩
    · rw [n] at e2
      have := congrArg Int32.toInt e2
      omega
    · rw [n] at e2
      have := congrArg Int32.toInt e2
      rw [ti_add (by omega) (by omega)] at this
      omega
theorem store_fit {t f : Nat → Int32} (hm : (t 2).toInt ≤ 8) : ∀ (n_ : Nat) (k : Int32), 0 ≤ k.toInt → ((t 2).toInt - k.toInt).toNat < n_ → ¬ pX1_modesAreFit_lp2 t f n_ k = 0 → ∀ j : Nat, k.toInt ≤ j → (t 1).toInt ≤ j → (j : Int) < (t 2).toInt → ¬ (1 ≤ (f j).toInt ∧ (f j).toInt ≤ 3) := by
  have z1 : Int32.toInt 1 = 1 := rfl
  have z3 : Int32.toInt 3 = 3 := rfl
  intro n_
  induction n_ with
  | zero => intro k _ h; exact absurd h (Nat.not_lt_zero _)
  | succ n_ ih =>
    intro k h0 h1 h2 j hj hj1 hj2
    rw [pX1_modesAreFit_lp2] at h2
    by_cases c : t 2 ≤ k
    · rw [Int32.le_iff_toInt_le] at c; omega
    · rw [if_neg c] at h2
      have ed := i32_add1 c
      have g3 := ms_up c h1
      rw [Int32.le_iff_toInt_le] at c
      have hcl := nat_clamp h0
      rw [modeOf_in h0 (by omega)] at h2
      have hn := ih (k + 1) (by rw [ed]; omega) g3
      have z00 : ¬ ¬ (0 : Int32) = 0 := fun q => q rfl
      by_cases c1 : k < t 1
      · rw [if_pos c1] at h2
        rw [Int32.lt_iff_toInt_lt] at c1
        refine hn (fun q => ?_) j (by rw [ed]; omega) hj1 hj2
        rw [q] at h2
        by_cases c4 : f k.toNatClampNeg = 4
        · rw [if_pos c4] at h2; exact z00 h2
        rw [if_neg c4] at h2
        by_cases c5 : f k.toNatClampNeg = 12
        · rw [if_pos c5] at h2; exact z00 h2
        rw [if_neg c5] at h2; exact z00 h2
      · rw [if_neg c1] at h2
        by_cases c4 : f k.toNatClampNeg = 4
        · rw [if_pos c4] at h2; exact absurd h2 z00
        rw [if_neg c4] at h2
        by_cases c5 : f k.toNatClampNeg = 12
        · rw [if_pos c5] at h2; exact absurd h2 z00
        rw [if_neg c5] at h2
        by_cases c6 : f k.toNatClampNeg < 1
        · rw [if_pos c6] at h2
          rw [Int32.lt_iff_toInt_lt] at c6
          by_cases q : (j : Int) = k.toInt
          · rw [show j = k.toNatClampNeg by omega]; omega
          · exact hn h2 j (by rw [ed]; omega) hj1 hj2
        rw [if_neg c6] at h2
        by_cases c7 : 3 < f k.toNatClampNeg
        · rw [if_pos c7] at h2
          rw [Int32.lt_iff_toInt_lt] at c7
          by_cases q : (j : Int) = k.toInt
          · rw [show j = k.toNatClampNeg by omega]; omega
          · exact hn h2 j (by rw [ed]; omega) hj1 hj2
        · rw [if_neg c7] at h2; exact absurd h2 z00
/-- a row taken apart well has no store into a number -/
def fitS (r : Int32 × (Nat → Int32) × (Nat → Int32) × (Nat → Int32)) : Prop := r.1 = 0 → ∀ j : Nat, (r.2.1 1).toInt ≤ j → (j : Int) < (r.2.1 2).toInt → ¬ (1 ≤ (r.2.2.1 j).toInt ∧ (r.2.2.1 j).toInt ≤ 3)
theorem fitS_bad {a : Int32} {p : (Nat → Int32) × (Nat → Int32) × (Nat → Int32)} (ha : ¬ a = 0) : fitS (a, p) := fun h => absurd h ha
theorem cB_fit {T f g mem : Nat → Int32} {x w m : Int32} (hm : (T 2).toInt ≤ 8) : fitS (cB T f g mem x w m) := by
  have z0 : Int32.toInt 0 = 0 := rfl
  rw [cB, mLet_eq]
  by_cases c : pX0_holds 1024 (x + w) ((m + 1) / 2) = 0
  · rw [if_pos c]; exact fitS_bad (by decide)
  · rw [if_neg c, mLet_eq, mLet_eq]
    generalize pX1_decodeModes T f mem (x + w) = F
    generalize pX1_decodeNumbers T F g mem ((x + w) + ((m + 1) / 2)) = U
    by_cases d : 0 ≤ U.1
    · rw [if_pos d, mLet_eq]
      have u2 : upd T 3 (U.1 - x) 2 = T 2 := upd_ne _ _ (by decide)
      by_cases k : pX1_modesAreFit (upd T 3 (U.1 - x)) F = 0
      · rw [if_pos k]; exact fitS_bad (by decide)
      · rw [if_neg k]
        intro _ j h1 h2
        rw [pX1_modesAreFit] at k
        exact store_fit (t := upd T 3 (U.1 - x)) (by rw [u2]; exact hm) _ 0 (by decide) (by omega) k j (by omega) h1 h2
    · rw [if_neg d]; exact fitS_bad (by decide)
theorem decode_fit (t f g mem : Nat → Int32) (x : Int32) : fitS (pX1_decode t f g mem x) := by
  have z1 : Int32.toInt 1 = 1 := rfl
  rw [decode_un, mLet_eq]
  by_cases c : pX0_holds 1024 x (pX1_operationWidth (pX0_byteAt mem 1024 x)) = 0
  · rw [if_pos c]; exact fitS_bad (by decide)
  · rw [if_neg c, mLet_eq, cT]
    generalize pX1_operationOf (pX0_number mem 1024 x (pX1_operationWidth (pX0_byteAt mem 1024 x))) (pX1_operationWidth (pX0_byteAt mem 1024 x)) = o
    by_cases d : 0 ≤ pX6_loadsOf o
    · rw [if_pos d]
      rcases op_ok o with ⟨e1, _⟩ | ⟨q0, q7, _⟩
      · rw [e1] at d; exact absurd d (by decide)
      · by_cases e : pX6_stores o = 0
        · rw [if_pos e]; exact cB_fit (by rw [upd_same]; omega)
        · rw [if_neg e]; exact cB_fit (by rw [upd_same, ti_add (by omega) (by omega)]; omega)
    · rw [if_neg d]; exact fitS_bad (by decide)
