theorem pi_le {α : Type} (P : α → Prop) {x y : Int32} {a b : α} (ha : x.toInt ≤ y.toInt → P a) (hb : ¬ x.toInt ≤ y.toInt → P b) : P (if x ≤ y then a else b) := pi_iteH P (fun h => ha (Int32.le_iff_toInt_le.mp h)) (fun h => hb (fun q => h (Int32.le_iff_toInt_le.mpr q)))
theorem pi_lt {α : Type} (P : α → Prop) {x y : Int32} {a b : α} (ha : x.toInt < y.toInt → P a) (hb : ¬ x.toInt < y.toInt → P b) : P (if x < y then a else b) := pi_iteH P (fun h => ha (Int32.lt_iff_toInt_lt.mp h)) (fun h => hb (fun q => h (Int32.lt_iff_toInt_lt.mpr q)))
theorem pi_eq {α : Type} (P : α → Prop) {x y : Int32} {a b : α} (ha : x.toInt = y.toInt → P a) (hb : ¬ x.toInt = y.toInt → P b) : P (if x = y then a else b) := pi_iteH P (fun h => ha (congrArg Int32.toInt h)) (fun h => hb (fun q => h (Int32.toInt_inj.mp q)))
def opOK (o : Int32) : Prop := (pX6_loadsOf o = -1 ∧ pX8_operands o = -2) ∨ (0 ≤ (pX6_loadsOf o).toInt ∧ (pX6_loadsOf o).toInt ≤ 7 ∧ ((pX6_stores o = 0 ∧ pX8_operands o = pX6_loadsOf o ∧ pX8_storeOf o = -2) ∨ (pX6_stores o = 1 ∧ pX8_operands o = pX6_loadsOf o + 1 ∧ pX8_storeOf o = pX6_loadsOf o)))
theorem opOK_0 : opOK 0 := by unfold opOK; decide +kernel
theorem opOK_16 : opOK 16 := by unfold opOK; decide +kernel
theorem opOK_17 : opOK 17 := by unfold opOK; decide +kernel
theorem opOK_18 : opOK 18 := by unfold opOK; decide +kernel
theorem opOK_19 : opOK 19 := by unfold opOK; decide +kernel
theorem opOK_20 : opOK 20 := by unfold opOK; decide +kernel
theorem opOK_21 : opOK 21 := by unfold opOK; decide +kernel
theorem opOK_24 : opOK 24 := by unfold opOK; decide +kernel
theorem opOK_25 : opOK 25 := by unfold opOK; decide +kernel
theorem opOK_26 : opOK 26 := by unfold opOK; decide +kernel
theorem opOK_27 : opOK 27 := by unfold opOK; decide +kernel
theorem opOK_28 : opOK 28 := by unfold opOK; decide +kernel
theorem opOK_29 : opOK 29 := by unfold opOK; decide +kernel
theorem opOK_30 : opOK 30 := by unfold opOK; decide +kernel
theorem opOK_32 : opOK 32 := by unfold opOK; decide +kernel
theorem opOK_34 : opOK 34 := by unfold opOK; decide +kernel
theorem opOK_35 : opOK 35 := by unfold opOK; decide +kernel
theorem opOK_36 : opOK 36 := by unfold opOK; decide +kernel
theorem opOK_37 : opOK 37 := by unfold opOK; decide +kernel
theorem opOK_38 : opOK 38 := by unfold opOK; decide +kernel
theorem opOK_39 : opOK 39 := by unfold opOK; decide +kernel
theorem opOK_40 : opOK 40 := by unfold opOK; decide +kernel
theorem opOK_41 : opOK 41 := by unfold opOK; decide +kernel
theorem opOK_42 : opOK 42 := by unfold opOK; decide +kernel
theorem opOK_43 : opOK 43 := by unfold opOK; decide +kernel
theorem opOK_44 : opOK 44 := by unfold opOK; decide +kernel
theorem opOK_45 : opOK 45 := by unfold opOK; decide +kernel
theorem opOK_49 : opOK 49 := by unfold opOK; decide +kernel
theorem opOK_64 : opOK 64 := by unfold opOK; decide +kernel
theorem opOK_65 : opOK 65 := by unfold opOK; decide +kernel
theorem opOK_66 : opOK 66 := by unfold opOK; decide +kernel
theorem opOK_68 : opOK 68 := by unfold opOK; decide +kernel
theorem opOK_69 : opOK 69 := by unfold opOK; decide +kernel
theorem opOK_72 : opOK 72 := by unfold opOK; decide +kernel
theorem opOK_73 : opOK 73 := by unfold opOK; decide +kernel
theorem opOK_74 : opOK 74 := by unfold opOK; decide +kernel
theorem opOK_75 : opOK 75 := by unfold opOK; decide +kernel
theorem opOK_76 : opOK 76 := by unfold opOK; decide +kernel
theorem opOK_77 : opOK 77 := by unfold opOK; decide +kernel
theorem opOK_78 : opOK 78 := by unfold opOK; decide +kernel
theorem opOK_79 : opOK 79 := by unfold opOK; decide +kernel
theorem opOK_80 : opOK 80 := by unfold opOK; decide +kernel
theorem opOK_81 : opOK 81 := by unfold opOK; decide +kernel
theorem opOK_82 : opOK 82 := by unfold opOK; decide +kernel
theorem opOK_83 : opOK 83 := by unfold opOK; decide +kernel
theorem opOK_84 : opOK 84 := by unfold opOK; decide +kernel
theorem opOK_256 : opOK 256 := by unfold opOK; decide +kernel
theorem opOK_260 : opOK 260 := by unfold opOK; decide +kernel
theorem opOK_288 : opOK 288 := by unfold opOK; decide +kernel
theorem opOK_336 : opOK 336 := by unfold opOK; decide +kernel
theorem opOK_337 : opOK 337 := by unfold opOK; decide +kernel
theorem opOK_368 : opOK 368 := by unfold opOK; decide +kernel
theorem opOK_369 : opOK 369 := by unfold opOK; decide +kernel
set_option maxRecDepth 20000 in
theorem ops_none {o : Int32} (h0 : ¬ o = 0) (h16 : ¬ o = 16) (h17 : ¬ o = 17) (h18 : ¬ o = 18) (h19 : ¬ o = 19) (h20 : ¬ o = 20) (h21 : ¬ o = 21) (h24 : ¬ o = 24) (h25 : ¬ o = 25) (h26 : ¬ o = 26) (h27 : ¬ o = 27) (h28 : ¬ o = 28) (h29 : ¬ o = 29) (h30 : ¬ o = 30) (h32 : ¬ o = 32) (h34 : ¬ o = 34) (h35 : ¬ o = 35) (h36 : ¬ o = 36) (h37 : ¬ o = 37) (h38 : ¬ o = 38) (h39 : ¬ o = 39) (h40 : ¬ o = 40) (h41 : ¬ o = 41) (h42 : ¬ o = 42) (h43 : ¬ o = 43) (h44 : ¬ o = 44) (h45 : ¬ o = 45) (h49 : ¬ o = 49) (h64 : ¬ o = 64) (h65 : ¬ o = 65) (h66 : ¬ o = 66) (h68 : ¬ o = 68) (h69 : ¬ o = 69) (h72 : ¬ o = 72) (h73 : ¬ o = 73) (h74 : ¬ o = 74) (h75 : ¬ o = 75) (h76 : ¬ o = 76) (h77 : ¬ o = 77) (h78 : ¬ o = 78) (h79 : ¬ o = 79) (h80 : ¬ o = 80) (h81 : ¬ o = 81) (h82 : ¬ o = 82) (h83 : ¬ o = 83) (h84 : ¬ o = 84) (h256 : ¬ o = 256) (h260 : ¬ o = 260) (h288 : ¬ o = 288) (h336 : ¬ o = 336) (h337 : ¬ o = 337) (h368 : ¬ o = 368) (h369 : ¬ o = 369) : pX8_operands o = -2 := by
  have n0 : ¬ o.toInt = 0 := fun q => h0 (Int32.toInt_inj.mp q)
  have n16 : ¬ o.toInt = 16 := fun q => h16 (Int32.toInt_inj.mp q)
  have n17 : ¬ o.toInt = 17 := fun q => h17 (Int32.toInt_inj.mp q)
  have n18 : ¬ o.toInt = 18 := fun q => h18 (Int32.toInt_inj.mp q)
  have n19 : ¬ o.toInt = 19 := fun q => h19 (Int32.toInt_inj.mp q)
  have n20 : ¬ o.toInt = 20 := fun q => h20 (Int32.toInt_inj.mp q)
  have n21 : ¬ o.toInt = 21 := fun q => h21 (Int32.toInt_inj.mp q)
  have n24 : ¬ o.toInt = 24 := fun q => h24 (Int32.toInt_inj.mp q)
  have n25 : ¬ o.toInt = 25 := fun q => h25 (Int32.toInt_inj.mp q)
  have n26 : ¬ o.toInt = 26 := fun q => h26 (Int32.toInt_inj.mp q)
  have n27 : ¬ o.toInt = 27 := fun q => h27 (Int32.toInt_inj.mp q)
  have n28 : ¬ o.toInt = 28 := fun q => h28 (Int32.toInt_inj.mp q)
  have n29 : ¬ o.toInt = 29 := fun q => h29 (Int32.toInt_inj.mp q)
  have n30 : ¬ o.toInt = 30 := fun q => h30 (Int32.toInt_inj.mp q)
  have n32 : ¬ o.toInt = 32 := fun q => h32 (Int32.toInt_inj.mp q)
  have n34 : ¬ o.toInt = 34 := fun q => h34 (Int32.toInt_inj.mp q)
  have n35 : ¬ o.toInt = 35 := fun q => h35 (Int32.toInt_inj.mp q)
  have n36 : ¬ o.toInt = 36 := fun q => h36 (Int32.toInt_inj.mp q)
  have n37 : ¬ o.toInt = 37 := fun q => h37 (Int32.toInt_inj.mp q)
  have n38 : ¬ o.toInt = 38 := fun q => h38 (Int32.toInt_inj.mp q)
  have n39 : ¬ o.toInt = 39 := fun q => h39 (Int32.toInt_inj.mp q)
  have n40 : ¬ o.toInt = 40 := fun q => h40 (Int32.toInt_inj.mp q)
  have n41 : ¬ o.toInt = 41 := fun q => h41 (Int32.toInt_inj.mp q)
  have n42 : ¬ o.toInt = 42 := fun q => h42 (Int32.toInt_inj.mp q)
  have n43 : ¬ o.toInt = 43 := fun q => h43 (Int32.toInt_inj.mp q)
  have n44 : ¬ o.toInt = 44 := fun q => h44 (Int32.toInt_inj.mp q)
  have n45 : ¬ o.toInt = 45 := fun q => h45 (Int32.toInt_inj.mp q)
  have n49 : ¬ o.toInt = 49 := fun q => h49 (Int32.toInt_inj.mp q)
  have n64 : ¬ o.toInt = 64 := fun q => h64 (Int32.toInt_inj.mp q)
  have n65 : ¬ o.toInt = 65 := fun q => h65 (Int32.toInt_inj.mp q)
  have n66 : ¬ o.toInt = 66 := fun q => h66 (Int32.toInt_inj.mp q)
  have n68 : ¬ o.toInt = 68 := fun q => h68 (Int32.toInt_inj.mp q)
  have n69 : ¬ o.toInt = 69 := fun q => h69 (Int32.toInt_inj.mp q)
  have n72 : ¬ o.toInt = 72 := fun q => h72 (Int32.toInt_inj.mp q)
  have n73 : ¬ o.toInt = 73 := fun q => h73 (Int32.toInt_inj.mp q)
  have n74 : ¬ o.toInt = 74 := fun q => h74 (Int32.toInt_inj.mp q)
  have n75 : ¬ o.toInt = 75 := fun q => h75 (Int32.toInt_inj.mp q)
  have n76 : ¬ o.toInt = 76 := fun q => h76 (Int32.toInt_inj.mp q)
  have n77 : ¬ o.toInt = 77 := fun q => h77 (Int32.toInt_inj.mp q)
  have n78 : ¬ o.toInt = 78 := fun q => h78 (Int32.toInt_inj.mp q)
  have n79 : ¬ o.toInt = 79 := fun q => h79 (Int32.toInt_inj.mp q)
  have n80 : ¬ o.toInt = 80 := fun q => h80 (Int32.toInt_inj.mp q)
  have n81 : ¬ o.toInt = 81 := fun q => h81 (Int32.toInt_inj.mp q)
  have n82 : ¬ o.toInt = 82 := fun q => h82 (Int32.toInt_inj.mp q)
  have n83 : ¬ o.toInt = 83 := fun q => h83 (Int32.toInt_inj.mp q)
  have n84 : ¬ o.toInt = 84 := fun q => h84 (Int32.toInt_inj.mp q)
  have n256 : ¬ o.toInt = 256 := fun q => h256 (Int32.toInt_inj.mp q)
  have n260 : ¬ o.toInt = 260 := fun q => h260 (Int32.toInt_inj.mp q)
  have n288 : ¬ o.toInt = 288 := fun q => h288 (Int32.toInt_inj.mp q)
  have n336 : ¬ o.toInt = 336 := fun q => h336 (Int32.toInt_inj.mp q)
  have n337 : ¬ o.toInt = 337 := fun q => h337 (Int32.toInt_inj.mp q)
  have n368 : ¬ o.toInt = 368 := fun q => h368 (Int32.toInt_inj.mp q)
  have n369 : ¬ o.toInt = 369 := fun q => h369 (Int32.toInt_inj.mp q)
  have z0 : Int32.toInt 0 = 0 := rfl
  have z1 : Int32.toInt 1 = 1 := rfl
  have z2 : Int32.toInt 2 = 2 := rfl
  have z3 : Int32.toInt 3 = 3 := rfl
  have z8 : Int32.toInt 8 = 8 := rfl
  have z16 : Int32.toInt 16 = 16 := rfl
  have z20 : Int32.toInt 20 = 20 := rfl
  have z21 : Int32.toInt 21 = 21 := rfl
  have z24 : Int32.toInt 24 = 24 := rfl
  have z26 : Int32.toInt 26 = 26 := rfl
  have z27 : Int32.toInt 27 = 27 := rfl
  have z28 : Int32.toInt 28 = 28 := rfl
  have z30 : Int32.toInt 30 = 30 := rfl
  have z32 : Int32.toInt 32 = 32 := rfl
  have z34 : Int32.toInt 34 = 34 := rfl
  have z35 : Int32.toInt 35 = 35 := rfl
  have z36 : Int32.toInt 36 = 36 := rfl
  have z45 : Int32.toInt 45 = 45 := rfl
  have z49 : Int32.toInt 49 = 49 := rfl
  have z64 : Int32.toInt 64 = 64 := rfl
  have z65 : Int32.toInt 65 = 65 := rfl
  have z66 : Int32.toInt 66 = 66 := rfl
  have z68 : Int32.toInt 68 = 68 := rfl
  have z69 : Int32.toInt 69 = 69 := rfl
  have z72 : Int32.toInt 72 = 72 := rfl
  have z79 : Int32.toInt 79 = 79 := rfl
  have z80 : Int32.toInt 80 = 80 := rfl
  have z81 : Int32.toInt 81 = 81 := rfl
  have z82 : Int32.toInt 82 = 82 := rfl
  have z83 : Int32.toInt 83 = 83 := rfl
  have z84 : Int32.toInt 84 = 84 := rfl
  have z256 : Int32.toInt 256 = 256 := rfl
  have z260 : Int32.toInt 260 = 260 := rfl
  have z288 : Int32.toInt 288 = 288 := rfl
  have z336 : Int32.toInt 336 = 336 := rfl
  have z337 : Int32.toInt 337 = 337 := rfl
  have z368 : Int32.toInt 368 = 368 := rfl
  have z369 : Int32.toInt 369 = 369 := rfl
  clear h0 h16 h17 h18 h19 h20 h21 h24 h25 h26 h27 h28 h29 h30 h32 h34 h35 h36 h37 h38 h39 h40 h41 h42 h43 h44 h45 h49 h64 h65 h66 h68 h69 h72 h73 h74 h75 h76 h77 h78 h79 h80 h81 h82 h83 h84 h256 h260 h288 h336 h337 h368 h369
  show (fun (r : Int32) => r = -2) (pX8_operands o)
  unfold pX8_operands
  repeat' (first | with_reducible refine pi_le (fun (r : Int32) => r = -2) (fun hh => ?_) (fun hh => ?_) | with_reducible refine pi_lt (fun (r : Int32) => r = -2) (fun hh => ?_) (fun hh => ?_) | with_reducible refine pi_eq (fun (r : Int32) => r = -2) (fun hh => ?_) (fun hh => ?_))
  all_goals first | with_reducible rfl | (exfalso; omega)
theorem op_ok (o : Int32) : opOK o := by
  by_cases h0 : o = 0
  · rw [h0]; exact opOK_0
  by_cases h16 : o = 16
  · rw [h16]; exact opOK_16
  by_cases h17 : o = 17
  · rw [h17]; exact opOK_17
  by_cases h18 : o = 18
  · rw [h18]; exact opOK_18
  by_cases h19 : o = 19
  · rw [h19]; exact opOK_19
  by_cases h20 : o = 20
  · rw [h20]; exact opOK_20
  by_cases h21 : o = 21
  · rw [h21]; exact opOK_21
  by_cases h24 : o = 24
  · rw [h24]; exact opOK_24
  by_cases h25 : o = 25
  · rw [h25]; exact opOK_25
  by_cases h26 : o = 26
  · rw [h26]; exact opOK_26
  by_cases h27 : o = 27
  · rw [h27]; exact opOK_27
  by_cases h28 : o = 28
  · rw [h28]; exact opOK_28
  by_cases h29 : o = 29
  · rw [h29]; exact opOK_29
  by_cases h30 : o = 30
  · rw [h30]; exact opOK_30
  by_cases h32 : o = 32
  · rw [h32]; exact opOK_32
  by_cases h34 : o = 34
  · rw [h34]; exact opOK_34
  by_cases h35 : o = 35
  · rw [h35]; exact opOK_35
  by_cases h36 : o = 36
  · rw [h36]; exact opOK_36
  by_cases h37 : o = 37
  · rw [h37]; exact opOK_37
  by_cases h38 : o = 38
  · rw [h38]; exact opOK_38
  by_cases h39 : o = 39
  · rw [h39]; exact opOK_39
  by_cases h40 : o = 40
  · rw [h40]; exact opOK_40
  by_cases h41 : o = 41
  · rw [h41]; exact opOK_41
  by_cases h42 : o = 42
  · rw [h42]; exact opOK_42
  by_cases h43 : o = 43
  · rw [h43]; exact opOK_43
  by_cases h44 : o = 44
  · rw [h44]; exact opOK_44
  by_cases h45 : o = 45
  · rw [h45]; exact opOK_45
  by_cases h49 : o = 49
  · rw [h49]; exact opOK_49
  by_cases h64 : o = 64
  · rw [h64]; exact opOK_64
  by_cases h65 : o = 65
  · rw [h65]; exact opOK_65
  by_cases h66 : o = 66
  · rw [h66]; exact opOK_66
  by_cases h68 : o = 68
  · rw [h68]; exact opOK_68
  by_cases h69 : o = 69
  · rw [h69]; exact opOK_69
  by_cases h72 : o = 72
  · rw [h72]; exact opOK_72
  by_cases h73 : o = 73
  · rw [h73]; exact opOK_73
  by_cases h74 : o = 74
  · rw [h74]; exact opOK_74
  by_cases h75 : o = 75
  · rw [h75]; exact opOK_75
  by_cases h76 : o = 76
  · rw [h76]; exact opOK_76
  by_cases h77 : o = 77
  · rw [h77]; exact opOK_77
  by_cases h78 : o = 78
  · rw [h78]; exact opOK_78
  by_cases h79 : o = 79
  · rw [h79]; exact opOK_79
  by_cases h80 : o = 80
  · rw [h80]; exact opOK_80
  by_cases h81 : o = 81
  · rw [h81]; exact opOK_81
  by_cases h82 : o = 82
  · rw [h82]; exact opOK_82
  by_cases h83 : o = 83
  · rw [h83]; exact opOK_83
  by_cases h84 : o = 84
  · rw [h84]; exact opOK_84
  by_cases h256 : o = 256
  · rw [h256]; exact opOK_256
  by_cases h260 : o = 260
  · rw [h260]; exact opOK_260
  by_cases h288 : o = 288
  · rw [h288]; exact opOK_288
  by_cases h336 : o = 336
  · rw [h336]; exact opOK_336
  by_cases h337 : o = 337
  · rw [h337]; exact opOK_337
  by_cases h368 : o = 368
  · rw [h368]; exact opOK_368
  by_cases h369 : o = 369
  · rw [h369]; exact opOK_369
  refine Or.inl ⟨?_, ops_none h0 h16 h17 h18 h19 h20 h21 h24 h25 h26 h27 h28 h29 h30 h32 h34 h35 h36 h37 h38 h39 h40 h41 h42 h43 h44 h45 h49 h64 h65 h66 h68 h69 h72 h73 h74 h75 h76 h77 h78 h79 h80 h81 h82 h83 h84 h256 h260 h288 h336 h337 h368 h369⟩
  rw [pX6_loadsOf, if_neg h0, if_neg h16, if_neg h17, if_neg h18, if_neg h19, if_neg h20, if_neg h21, if_neg h24, if_neg h25, if_neg h26, if_neg h27, if_neg h28, if_neg h29, if_neg h30, if_neg h32, if_neg h34, if_neg h35, if_neg h36, if_neg h37, if_neg h38, if_neg h39, if_neg h40, if_neg h41, if_neg h42, if_neg h43, if_neg h44, if_neg h45, if_neg h49, if_neg h64, if_neg h65, if_neg h66, if_neg h68, if_neg h69, if_neg h72, if_neg h73, if_neg h74, if_neg h75, if_neg h76, if_neg h77, if_neg h78, if_neg h79, if_neg h80, if_neg h81, if_neg h82, if_neg h83, if_neg h84, if_neg h256, if_neg h260, if_neg h288, if_neg h336, if_neg h337, if_neg h368, if_neg h369]
