theorem bt_1 : ∀ i, i < 32 → bt 1 i = decide (i = 0) := by decide +kernel
theorem bt_2 : ∀ i, i < 32 → bt 2 i = decide (i = 1) := by decide +kernel
theorem bt_4 : ∀ i, i < 32 → bt 4 i = decide (i = 2) := by decide +kernel
theorem one_bit {c : Int32} {n : Nat} (hc : ∀ i, i < 32 → bt c i = decide (i = n)) (x : Int32) : x &&& c = 0 ∨ x &&& c = c := by
  cases h : bt x n with
  | false =>
    refine Or.inl (b_ext fun i hi => ?_)
    rw [b_and, hc i hi, b_0]
    by_cases q : i = n
    · rw [q, h, Bool.false_and]
    · rw [decide_eq_false q, Bool.and_false]
  | true =>
    refine Or.inr (b_ext fun i hi => ?_)
    rw [b_and, hc i hi]
    by_cases q : i = n
    · rw [q, h, Bool.true_and]
    · rw [decide_eq_false q, Bool.and_false]
theorem bit_iff {c : Int32} {n : Nat} (hc : ∀ i, i < 32 → bt c i = decide (i = n)) (h0 : ¬ c = 0) (x : Int32) : x &&& c = 0 ↔ ¬ x &&& c = c := by
  obtain q | q := one_bit hc x
  · exact ⟨fun _ r => h0 (r.symm.trans q), fun _ => q⟩
  · exact ⟨fun r => absurd (q.symm.trans r) h0, fun r => absurd q r⟩
/-- how many rows a search may look at -/
def sN (qo : Nat → Int32) : Int32 := if (qo (Int32.toNatClampNeg 4)) < 0 then 1024 else if (qo (Int32.toNatClampNeg 4)) ≤ 1024 then (qo (Int32.toNatClampNeg 4)) else 1024
def sU (w qm qo qy : Nat → Int32) (n : Int32) : Int32 := if w 7 = 336 then pX8_oneByOne w qm qo qy (qo (Int32.toNatClampNeg 2)) (qo (Int32.toNatClampNeg 3)) n (if (qo (Int32.toNatClampNeg 6)) &&& 2 = 2 then 1 else 0) else pX8_byHalves w qm qo qy (qo (Int32.toNatClampNeg 2)) (qo (Int32.toNatClampNeg 3)) n
def sE (w qo qy : Nat → Int32) (u : Int32) : Int32 × (Nat → Int32) × (Nat → Int32) := if u = (-9) then (1, w, qy) else if 0 ≤ u then (0, upd w 13 (if (qo (Int32.toNatClampNeg 6)) &&& 4 = 4 then u else (qo (Int32.toNatClampNeg 2)) + u * (qo (Int32.toNatClampNeg 3))), qy) else (0, upd w 13 (if (qo (Int32.toNatClampNeg 6)) &&& 4 = 4 then -1 else 0), qy)
def sK (v qm qo qy : Nat → Int32) : Int32 × (Nat → Int32) × (Nat → Int32) := pX8_keys v qm qy (qo (Int32.toNatClampNeg 0)) (qo (Int32.toNatClampNeg 1)) (if (qo (Int32.toNatClampNeg 6)) &&& 1 = 1 then 1 else 0)
theorem sE_un (w qo qy : Nat → Int32) (u : Int32) (a b : Int32) (ha : a = if (qo (Int32.toNatClampNeg 6)) &&& 4 = 4 then u else (qo (Int32.toNatClampNeg 2)) + u * (qo (Int32.toNatClampNeg 3))) (hb : b = if (qo (Int32.toNatClampNeg 6)) &&& 4 = 4 then -1 else 0) : (if u = (-9) then (1, w, qy) else (if 0 ≤ u then (mLet (pX8_gives w a) (fun (u197 : Int32 × (Nat → Int32)) => (u197.1, u197.2, qy))) else (mLet (pX8_gives w b) (fun (u197 : Int32 × (Nat → Int32)) => (u197.1, u197.2, qy))))) = sE w qo qy u := by
  rw [sE, ← ha, ← hb, mLet_eq, mLet_eq, pX8_gives, pX8_gives]
theorem searches_un (v qm qo qy : Nat → Int32) : pX8_searches v qm qo qy = if (sK v qm qo qy).1 = 0 then sE (sK v qm qo qy).2.1 qo (sK v qm qo qy).2.2 (sU (sK v qm qo qy).2.1 qm qo (sK v qm qo qy).2.2 (sN qo)) else ((sK v qm qo qy).1, (sK v qm qo qy).2.1, (sK v qm qo qy).2.2) := by
  have go : ∀ (k : Int32 × (Nat → Int32) × (Nat → Int32)) (n : Int32), (if ((qo (Int32.toNatClampNeg 6)) &&& 4) = 4 then (if (k.2.1 7) = 336 then (if ((qo (Int32.toNatClampNeg 6)) &&& 2) = 2 then (mLet (pX8_oneByOne k.2.1 qm qo k.2.2 (qo (Int32.toNatClampNeg 2)) (qo (Int32.toNatClampNeg 3)) n 1) (fun (u135 : Int32) => (if u135 = (-9) then (1, k.2.1, k.2.2) else (if 0 ≤ u135 then (mLet (pX8_gives k.2.1 u135) (fun (u197 : Int32 × (Nat → Int32)) => (u197.1, u197.2, k.2.2))) else (mLet (pX8_gives k.2.1 (-1)) (fun (u197 : Int32 × (Nat → Int32)) => (u197.1, u197.2, k.2.2))))))) else (mLet (pX8_oneByOne k.2.1 qm qo k.2.2 (qo (Int32.toNatClampNeg 2)) (qo (Int32.toNatClampNeg 3)) n 0) (fun (u135 : Int32) => (if u135 = (-9) then (1, k.2.1, k.2.2) else (if 0 ≤ u135 then (mLet (pX8_gives k.2.1 u135) (fun (u197 : Int32 × (Nat → Int32)) => (u197.1, u197.2, k.2.2))) else (mLet (pX8_gives k.2.1 (-1)) (fun (u197 : Int32 × (Nat → Int32)) => (u197.1, u197.2, k.2.2)))))))) else (mLet (pX8_byHalves k.2.1 qm qo k.2.2 (qo (Int32.toNatClampNeg 2)) (qo (Int32.toNatClampNeg 3)) n) (fun (u147 : Int32) => (if u147 = (-9) then (1, k.2.1, k.2.2) else (if 0 ≤ u147 then (mLet (pX8_gives k.2.1 u147) (fun (u197 : Int32 × (Nat → Int32)) => (u197.1, u197.2, k.2.2))) else (mLet (pX8_gives k.2.1 (-1)) (fun (u197 : Int32 × (Nat → Int32)) => (u197.1, u197.2, k.2.2)))))))) else (if (k.2.1 7) = 336 then (if ((qo (Int32.toNatClampNeg 6)) &&& 2) = 2 then (mLet (pX8_oneByOne k.2.1 qm qo k.2.2 (qo (Int32.toNatClampNeg 2)) (qo (Int32.toNatClampNeg 3)) n 1) (fun (u135 : Int32) => (if u135 = (-9) then (1, k.2.1, k.2.2) else (if 0 ≤ u135 then (mLet (pX8_gives k.2.1 ((qo (Int32.toNatClampNeg 2)) + (u135 * (qo (Int32.toNatClampNeg 3))))) (fun (u197 : Int32 × (Nat → Int32)) => (u197.1, u197.2, k.2.2))) else (mLet (pX8_gives k.2.1 0) (fun (u197 : Int32 × (Nat → Int32)) => (u197.1, u197.2, k.2.2))))))) else (mLet (pX8_oneByOne k.2.1 qm qo k.2.2 (qo (Int32.toNatClampNeg 2)) (qo (Int32.toNatClampNeg 3)) n 0) (fun (u135 : Int32) => (if u135 = (-9) then (1, k.2.1, k.2.2) else (if 0 ≤ u135 then (mLet (pX8_gives k.2.1 ((qo (Int32.toNatClampNeg 2)) + (u135 * (qo (Int32.toNatClampNeg 3))))) (fun (u197 : Int32 × (Nat → Int32)) => (u197.1, u197.2, k.2.2))) else (mLet (pX8_gives k.2.1 0) (fun (u197 : Int32 × (Nat → Int32)) => (u197.1, u197.2, k.2.2)))))))) else (mLet (pX8_byHalves k.2.1 qm qo k.2.2 (qo (Int32.toNatClampNeg 2)) (qo (Int32.toNatClampNeg 3)) n) (fun (u147 : Int32) => (if u147 = (-9) then (1, k.2.1, k.2.2) else (if 0 ≤ u147 then (mLet (pX8_gives k.2.1 ((qo (Int32.toNatClampNeg 2)) + (u147 * (qo (Int32.toNatClampNeg 3))))) (fun (u197 : Int32 × (Nat → Int32)) => (u197.1, u197.2, k.2.2))) else (mLet (pX8_gives k.2.1 0) (fun (u197 : Int32 × (Nat → Int32)) => (u197.1, u197.2, k.2.2))))))))) = sE k.2.1 qo k.2.2 (sU k.2.1 qm qo k.2.2 n) := by
    intro k n
    rw [sU]
    by_cases c4 : (qo (Int32.toNatClampNeg 6)) &&& 4 = 4
    · rw [if_pos c4]
      by_cases c7 : k.2.1 7 = 336
      · rw [if_pos c7, if_pos c7]
        by_cases c2 : (qo (Int32.toNatClampNeg 6)) &&& 2 = 2
        · rw [if_pos c2, if_pos c2, mLet_eq]; exact sE_un _ _ _ _ _ _ (if_pos c4).symm (if_pos c4).symm
        · rw [if_neg c2, if_neg c2, mLet_eq]; exact sE_un _ _ _ _ _ _ (if_pos c4).symm (if_pos c4).symm
      · rw [if_neg c7, if_neg c7, mLet_eq]; exact sE_un _ _ _ _ _ _ (if_pos c4).symm (if_pos c4).symm
    · rw [if_neg c4]
      by_cases c7 : k.2.1 7 = 336
      · rw [if_pos c7, if_pos c7]
        by_cases c2 : (qo (Int32.toNatClampNeg 6)) &&& 2 = 2
        · rw [if_pos c2, if_pos c2, mLet_eq]; exact sE_un _ _ _ _ _ _ (if_neg c4).symm (if_neg c4).symm
        · rw [if_neg c2, if_neg c2, mLet_eq]; exact sE_un _ _ _ _ _ _ (if_neg c4).symm (if_neg c4).symm
      · rw [if_neg c7, if_neg c7, mLet_eq]; exact sE_un _ _ _ _ _ _ (if_neg c4).symm (if_neg c4).symm
  rw [pX8_searches, sK, sN]
  by_cases c1 : (qo (Int32.toNatClampNeg 6)) &&& 1 = 1
  · rw [if_pos c1, if_pos c1, mLet_eq]
    generalize pX8_keys v qm qy (qo (Int32.toNatClampNeg 0)) (qo (Int32.toNatClampNeg 1)) 1 = k
    by_cases c0 : k.1 = 0
    · rw [if_pos c0, if_pos c0]
      by_cases d : (qo (Int32.toNatClampNeg 4)) < 0
      · rw [if_pos d, if_pos d, go]
      · rw [if_neg d, if_neg d]
        by_cases d1 : (qo (Int32.toNatClampNeg 4)) ≤ 1024
        · rw [if_pos d1, if_pos d1, go]
        · rw [if_neg d1, if_neg d1, go]
    · rw [if_neg c0, if_neg c0]
  · rw [if_neg c1, if_neg c1, mLet_eq]
    generalize pX8_keys v qm qy (qo (Int32.toNatClampNeg 0)) (qo (Int32.toNatClampNeg 1)) 0 = k
    by_cases c0 : k.1 = 0
    · rw [if_pos c0, if_pos c0]
      by_cases d : (qo (Int32.toNatClampNeg 4)) < 0
      · rw [if_pos d, if_pos d, go]
      · rw [if_neg d, if_neg d]
        by_cases d1 : (qo (Int32.toNatClampNeg 4)) ≤ 1024
        · rw [if_pos d1, if_pos d1, go]
        · rw [if_neg d1, if_neg d1, go]
    · rw [if_neg c0, if_neg c0]
theorem cnt_eq (x : Int32) : (if pJ6_compareUnsigned_7cf53 x 1024 ≤ 0 then x else 1024) = if x < 0 then 1024 else if x ≤ 1024 then x else 1024 := by
  have s : (if pJ6_compareUnsigned_7cf53 x 1024 ≤ 0 then (0 : Int32) else 1) = if (x ^^^ (-2147483648)) ≤ (1024 ^^^ (-2147483648)) then 0 else 1 := so_44 x 1024
  have z0 : Int32.toInt 0 = 0 := rfl
  have zk : Int32.toInt 1024 = 1024 := rfl
  have zm : Int32.toInt (-2147483648) = -2147483648 := rfl
  have ek : ((1024 : Int32) ^^^ (-2147483648)).toInt = -2147482624 := by decide +kernel
  have key : (x ^^^ (-2147483648)) ≤ (1024 ^^^ (-2147483648)) ↔ ¬ x < 0 ∧ x ≤ 1024 := by
    have h1 := Int32.toInt_lt x
    have h2 := Int32.le_toInt x
    rw [Int32.le_iff_toInt_le, ek, Int32.lt_iff_toInt_lt, Int32.le_iff_toInt_le, z0, zk, ← xor_min]
    by_cases c : x.toInt < 0
    · have e : (x + (-2147483648)).toInt = x.toInt + 2147483648 := by
        rw [show (-2147483648 : Int32) = 2147483647 + 1 by decide, ← Int32.add_assoc, ti_add, ti_add]
        · rw [show Int32.toInt 2147483647 = 2147483647 from rfl, show Int32.toInt 1 = 1 from rfl]; omega
        · rw [show Int32.toInt 2147483647 = 2147483647 from rfl]; omega
        · rw [show Int32.toInt 2147483647 = 2147483647 from rfl]; omega
        · rw [ti_add (by rw [show Int32.toInt 2147483647 = 2147483647 from rfl]; omega) (by rw [show Int32.toInt 2147483647 = 2147483647 from rfl]; omega), show Int32.toInt 2147483647 = 2147483647 from rfl, show Int32.toInt 1 = 1 from rfl]; omega
        · rw [ti_add (by rw [show Int32.toInt 2147483647 = 2147483647 from rfl]; omega) (by rw [show Int32.toInt 2147483647 = 2147483647 from rfl]; omega), show Int32.toInt 2147483647 = 2147483647 from rfl, show Int32.toInt 1 = 1 from rfl]; omega
      omega
    · have e : (x + (-2147483648)).toInt = x.toInt + (-2147483648) := by rw [ti_add (by omega) (by omega), zm]
      omega
  by_cases c : pJ6_compareUnsigned_7cf53 x 1024 ≤ 0
  · rw [if_pos c] at s
    by_cases d : (x ^^^ (-2147483648)) ≤ (1024 ^^^ (-2147483648))
    · have k := key.mp d
      rw [if_pos c, if_neg k.1, if_pos k.2]
    · rw [if_neg d] at s; exact absurd s (by decide)
  · rw [if_neg c] at s
    by_cases d : (x ^^^ (-2147483648)) ≤ (1024 ^^^ (-2147483648))
    · rw [if_pos d] at s; exact absurd s (by decide)
    · rw [if_neg c]
      by_cases f : x < 0
      · rw [if_pos f]
      · rw [if_neg f, if_neg (fun q => d (key.mpr ⟨f, q⟩))]
theorem sN_rng (qo : Nat → Int32) : 0 ≤ (sN qo).toInt ∧ (sN qo).toInt ≤ 1024 := by
  have z0 : Int32.toInt 0 = 0 := rfl
  have zk : Int32.toInt 1024 = 1024 := rfl
  rw [sN]
  by_cases c : (qo (Int32.toNatClampNeg 4)) < 0
  · rw [if_pos c]; decide
  · rw [if_neg c]
    by_cases d : (qo (Int32.toNatClampNeg 4)) ≤ 1024
    · rw [if_pos d]
      rw [Int32.lt_iff_toInt_lt] at c
      rw [Int32.le_iff_toInt_le] at d
      omega
    · rw [if_neg d]; decide
theorem look_in (z : Nat → Int32) (x1 x2 x3 x4 n : Int32) (hn : n = if x3 < 0 then 1024 else if x3 ≤ 1024 then x3 else 1024) : pX5_lookIn z x1 x2 x3 x4 = upd (upd (upd (upd z 1 x1) 2 x2) 3 n) 4 x4 := by
  rw [pX5_lookIn, mLet_eq, hn, ← cnt_eq]
  by_cases c : pJ6_compareUnsigned_7cf53 x3 1024 ≤ 0
  · rw [if_pos c, if_pos c]
  · rw [if_neg c, if_neg c]
/-- the class's fields when a search begins -/
def zF (qo Z : Nat → Int32) : Prop := Z 0 = (qo (Int32.toNatClampNeg 1)) ∧ Z 1 = (qo (Int32.toNatClampNeg 2)) ∧ Z 2 = (qo (Int32.toNatClampNeg 3)) ∧ Z 3 = sN qo ∧ Z 4 = (qo (Int32.toNatClampNeg 5)) ∧ Z 5 = (qo (Int32.toNatClampNeg 6))
theorem look_all {mem qm : Nat → Int32} (h : RB 1024 mem qm) (v qy key z qo : Nat → Int32) : ∃ Z K : Nat → Int32, pX5_lookFor (pX5_lookIn z (qo (Int32.toNatClampNeg 2)) (qo (Int32.toNatClampNeg 3)) (qo (Int32.toNatClampNeg 4)) (qo (Int32.toNatClampNeg 5))) mem key (qo (Int32.toNatClampNeg 0)) (qo (Int32.toNatClampNeg 1)) (qo (Int32.toNatClampNeg 6)) = (Z, K) ∧ zF qo Z ∧ kRel v (qo (Int32.toNatClampNeg 1)) (Z 6, K) (sK v qm qo qy) := by
  rw [look_in z _ _ _ _ (sN qo) rfl, pX5_lookFor, mLet_eq, pX5_isIndirect, sK]
  generalize hZ : upd (upd (upd (upd (upd (upd z 1 (qo (Int32.toNatClampNeg 2))) 2 (qo (Int32.toNatClampNeg 3))) 3 (sN qo)) 4 (qo (Int32.toNatClampNeg 5))) 0 (qo (Int32.toNatClampNeg 1))) 5 (qo (Int32.toNatClampNeg 6)) = Z
  have f0 : Z 0 = (qo (Int32.toNatClampNeg 1)) := by rw [← hZ, upd_ne _ _ (by decide), upd_same]
  have f5 : Z 5 = (qo (Int32.toNatClampNeg 6)) := by rw [← hZ, upd_same]
  have fz : ∀ x : Int32, zF qo (upd Z 6 x) := by
    intro x
    refine ⟨?_, ?_, ?_, ?_, ?_, ?_⟩
    · rw [upd_ne _ _ (by decide), f0]
    · rw [upd_ne _ _ (by decide), ← hZ, upd_ne _ _ (by decide), upd_ne _ _ (by decide), upd_ne _ _ (by decide), upd_ne _ _ (by decide), upd_ne _ _ (by decide), upd_same]
    · rw [upd_ne _ _ (by decide), ← hZ, upd_ne _ _ (by decide), upd_ne _ _ (by decide), upd_ne _ _ (by decide), upd_ne _ _ (by decide), upd_same]
    · rw [upd_ne _ _ (by decide), ← hZ, upd_ne _ _ (by decide), upd_ne _ _ (by decide), upd_ne _ _ (by decide), upd_same]
    · rw [upd_ne _ _ (by decide), ← hZ, upd_ne _ _ (by decide), upd_ne _ _ (by decide), upd_same]
    · rw [upd_ne _ _ (by decide), f5]
  rw [f5]
  by_cases c : (qo (Int32.toNatClampNeg 6)) &&& 1 = 0
  · rw [if_pos c, if_pos (show (0 : Int32) = 0 from rfl), mLet_eq, if_neg ((bit_iff bt_1 (by decide) _).mp c)]
    refine ⟨_, _, rfl, fz _, ?_⟩
    rw [upd_same]
    exact key_of (mem := mem) v qy key Z f0
  · have c' : (qo (Int32.toNatClampNeg 6)) &&& 1 = 1 := (one_bit bt_1 _).resolve_left c
    rw [if_neg c, if_neg (show ¬ (1 : Int32) = 0 by decide), mLet_eq, if_pos c']
    refine ⟨_, _, rfl, fz _, ?_⟩
    rw [upd_same]
    exact key_at h v qy key Z f0
theorem miss_eq {qo Z : Nat → Int32} (h5 : Z 5 = (qo (Int32.toNatClampNeg 6))) : pX5_missing Z = if (qo (Int32.toNatClampNeg 6)) &&& 4 = 4 then -1 else 0 := by
  rw [pX5_missing, pX5_wantsPlace, h5]
  by_cases c : (qo (Int32.toNatClampNeg 6)) &&& 4 = 0
  · rw [if_pos c, if_pos (show (0 : Int32) = 0 from rfl), if_neg ((bit_iff bt_4 (by decide) _).mp c)]
  · rw [if_neg c, if_neg (show ¬ (1 : Int32) = 0 by decide), if_pos ((one_bit bt_4 _).resolve_left c)]
theorem found_eq {qo Z : Nat → Int32} (h : zF qo Z) (u : Int32) : pX5_found Z u = if (qo (Int32.toNatClampNeg 6)) &&& 4 = 4 then u else (qo (Int32.toNatClampNeg 2)) + u * (qo (Int32.toNatClampNeg 3)) := by
  rw [pX5_found, pX5_wantsPlace, h.2.2.2.2.2, h.2.1, h.2.2.1]
  by_cases c : (qo (Int32.toNatClampNeg 6)) &&& 4 = 0
  · rw [if_pos c, if_pos (show (0 : Int32) = 0 from rfl), if_neg ((bit_iff bt_4 (by decide) _).mp c)]
  · rw [if_neg c, if_neg (show ¬ (1 : Int32) = 0 by decide), if_pos ((one_bit bt_4 _).resolve_left c)]
theorem end_iff {qo Z : Nat → Int32} (h5 : Z 5 = (qo (Int32.toNatClampNeg 6))) : pX5_isEnded Z = 0 ↔ (if (qo (Int32.toNatClampNeg 6)) &&& 2 = 2 then (1 : Int32) else 0) = 0 := by
  rw [pX5_isEnded, h5]
  by_cases c : (qo (Int32.toNatClampNeg 6)) &&& 2 = 0
  · rw [if_pos c, if_neg ((bit_iff bt_2 (by decide) _).mp c)]
  · rw [if_neg c, if_pos ((one_bit bt_2 _).resolve_left c)]
theorem srch_end {T0 : Int} {g mem pf qm qs v qo Z : Nat → Int32} (H : PH T0 g mem pf qm qs v) {o : Int32} (ho : pX6_widthOf o = 4) (pg K Y qt qi : Nat → Int32) (hZ : zF qo Z) (h6 : Z 6 = 0) {c : Int32 × (Nat → Int32)} {u : Int32} (hu : uRel Z c u) (s : Int32) : pRel T0 g pf v o (c.1, upd g 5 (c.2 6), mem, pf, pg, v 0, c.2, K) ((sE (upd v 16 s) qo Y u).1, (sE (upd v 16 s) qo Y u).2.1, qm, qs, qt, qi, (sE (upd v 16 s) qo Y u).2.2) := by
  have z0 : Int32.toInt 0 = 0 := rfl
  rw [sE]
  obtain ⟨q1, q2⟩ | ⟨q1, q2⟩ | ⟨q1, q2⟩ := hu
  · rw [if_pos q1, q2, upd_same]; exact p_flt16 H s 1 (by decide) pg _ K qt qi Y
  · rw [if_neg (show ¬ u = -9 by rw [q1]; decide), if_neg (show ¬ 0 ≤ u by rw [q1]; decide), q2]
    dsimp only
    rw [h6, miss_eq hZ.2.2.2.2.2]; exact p_give16 H s pg Z K qt qi Y (lw_w ho _)
  · rw [if_neg (show ¬ u = -9 by intro r; rw [r] at q1; exact absurd q1 (by decide)), if_pos (show 0 ≤ u by rw [Int32.le_iff_toInt_le]; omega), q2]
    dsimp only
    rw [h6, found_eq hZ]; exact p_give16 H s pg Z K qt qi Y (lw_w ho _)
theorem one_bad {mem K Z : Nat → Int32} (h6 : ¬ Z 6 = 0) : ∀ n_ k, pX5_oneByOne_lp2 mem K (n_ + 1) Z k = (pX5_missing Z, Z) := by
  intro n_ k
  rw [pX5_oneByOne_lp2, if_neg h6]
  by_cases c : Z 3 ≤ k
  · rw [if_pos c]
  · rw [if_neg c]
theorem half_bad {mem K Z : Nat → Int32} (h6 : ¬ Z 6 = 0) : ∀ n_ k1 k2 k3, pX5_byHalves_lp9 mem K (n_ + 1) Z k1 k2 k3 = (pX5_missing Z, Z) := by
  intro n_ k1 k2 k3
  rw [pX5_byHalves_lp9, if_neg h6]
  by_cases c : 32 ≤ k3
  · rw [if_pos c]
  · rw [if_neg c]
    by_cases d : k2 ≤ k1
    · rw [if_pos d]
    · rw [if_neg d]
theorem do_336 {T0 : Int} {g mem pf qm qs v ld qo : Nat → Int32} (H : PH T0 g mem pf qm qs v) (t pg z key qt qi qy : Nat → Int32) (hL : LD 336 ld qo) (e : v 7 = 336) : pRel T0 g pf v 336 (pX2_perform g mem pf pg (v 0) t z key ld 336) (pX8_does v qm qs qo qt qi qy) := by
  have l0 := (ld_at hL (k := 0) (by decide +kernel) (by decide +kernel) (by decide +kernel)).1
  have l1 := (ld_at hL (k := 1) (by decide +kernel) (by decide +kernel) (by decide +kernel)).1
  have l2 := (ld_at hL (k := 2) (by decide +kernel) (by decide +kernel) (by decide +kernel)).1
  have l3 := (ld_at hL (k := 3) (by decide +kernel) (by decide +kernel) (by decide +kernel)).1
  have l4 := (ld_at hL (k := 4) (by decide +kernel) (by decide +kernel) (by decide +kernel)).1
  have l5 := (ld_at hL (k := 5) (by decide +kernel) (by decide +kernel) (by decide +kernel)).1
  have l6 := (ld_at hL (k := 6) (by decide +kernel) (by decide +kernel) (by decide +kernel)).1
  have z0 : Int32.toInt 0 = 0 := rfl
  rw [pX8_does, e, if_neg (by decide), if_pos (by decide), if_neg (by decide), if_pos (by decide), if_neg (by decide), if_pos (by decide), if_neg (by decide), if_pos (by decide), if_neg (by decide), if_neg (by decide), if_neg (by decide), if_neg (by decide), if_neg (by decide), if_neg (by decide), if_neg (by decide), if_neg (by decide), if_neg (by decide), if_pos (by decide), mLet_eq, searches_un]
  rw [pX2_perform, if_neg (by decide), if_neg (by decide), if_neg (by decide), if_neg (by decide), if_neg (by decide), if_neg (by decide), if_neg (by decide), if_pos (by decide), mLet_eq, pX2_searchTable, mLet_eq, mLet_eq, l2, l3, l4, l5, l0, l1, l6]
  obtain ⟨Z, K, q1, hZ, k1, k2, k3⟩ := look_all H.1 v qy key z qo
  rw [q1, if_pos (by decide), mLet_eq, pX5_oneByOne]
  dsimp only
  dsimp only at k1 k2
  generalize sK v qm qo qy = S at k1 k2 k3
  by_cases c : S.1 = 0
  · obtain ⟨w1, w2, w3, w4⟩ := k2 c
    rw [if_pos c, w1, sU, if_pos (show upd v 16 (qo (Int32.toNatClampNeg 1)) 7 = 336 by rw [upd_ne _ _ (by decide), e]), pX8_oneByOne, hZ.2.2.2.1]
    have eu : upd v 16 (qo (Int32.toNatClampNeg 1)) 16 = qo (Int32.toNatClampNeg 1) := upd_same _ _ _
    have sn := sN_rng qo
    have r := one_lp (qo := qo) (w := upd v 16 (qo (Int32.toNatClampNeg 1))) H.1 (hZ.1.trans eu.symm) (by rw [eu]; omega) (by rw [eu]; exact w4) hZ.2.1 hZ.2.2.1 hZ.2.2.2.1 hZ.2.2.2.2.1 (k1.trans c) (end_iff hZ.2.2.2.2.2) ((Int32.toInt (sN qo) - Int32.toInt 0).toNat + 1) 0 (by decide) (by omega)
    exact srch_end H (by decide) pg K S.2.2 qt qi hZ (k1.trans c) r _
  · have n6 : ¬ Z 6 = 0 := fun q => c (k1.symm.trans q)
    rw [if_neg c, one_bad n6, k3 c]
    dsimp only
    rw [k1]
    exact p_flt H S.1 c pg Z K qt qi S.2.2
theorem do_337 {T0 : Int} {g mem pf qm qs v ld qo : Nat → Int32} (H : PH T0 g mem pf qm qs v) (t pg z key qt qi qy : Nat → Int32) (hL : LD 337 ld qo) (e : v 7 = 337) : pRel T0 g pf v 337 (pX2_perform g mem pf pg (v 0) t z key ld 337) (pX8_does v qm qs qo qt qi qy) := by
  have l0 := (ld_at hL (k := 0) (by decide +kernel) (by decide +kernel) (by decide +kernel)).1
  have l1 := (ld_at hL (k := 1) (by decide +kernel) (by decide +kernel) (by decide +kernel)).1
  have l2 := (ld_at hL (k := 2) (by decide +kernel) (by decide +kernel) (by decide +kernel)).1
  have l3 := (ld_at hL (k := 3) (by decide +kernel) (by decide +kernel) (by decide +kernel)).1
  have l4 := (ld_at hL (k := 4) (by decide +kernel) (by decide +kernel) (by decide +kernel)).1
  have l5 := (ld_at hL (k := 5) (by decide +kernel) (by decide +kernel) (by decide +kernel)).1
  have l6 := (ld_at hL (k := 6) (by decide +kernel) (by decide +kernel) (by decide +kernel)).1
  have z0 : Int32.toInt 0 = 0 := rfl
  rw [pX8_does, e, if_neg (by decide), if_pos (by decide), if_neg (by decide), if_pos (by decide), if_neg (by decide), if_pos (by decide), if_neg (by decide), if_pos (by decide), if_neg (by decide), if_neg (by decide), if_neg (by decide), if_neg (by decide), if_neg (by decide), if_neg (by decide), if_neg (by decide), if_neg (by decide), if_neg (by decide), if_neg (by decide), if_pos (by decide), mLet_eq, searches_un]
  rw [pX2_perform, if_neg (by decide), if_neg (by decide), if_neg (by decide), if_neg (by decide), if_neg (by decide), if_neg (by decide), if_neg (by decide), if_pos (by decide), mLet_eq, pX2_searchTable, mLet_eq, mLet_eq, l2, l3, l4, l5, l0, l1, l6]
  obtain ⟨Z, K, q1, hZ, k1, k2, k3⟩ := look_all H.1 v qy key z qo
  rw [q1, if_neg (by decide), mLet_eq, pX5_byHalves]
  dsimp only
  dsimp only at k1 k2
  generalize sK v qm qo qy = S at k1 k2 k3
  by_cases c : S.1 = 0
  · obtain ⟨w1, w2, w3, w4⟩ := k2 c
    rw [if_pos c, w1, sU, if_neg (show ¬ upd v 16 (qo (Int32.toNatClampNeg 1)) 7 = 336 by rw [upd_ne _ _ (by decide), e]; decide), pX8_byHalves, hZ.2.2.2.1]
    have eu : upd v 16 (qo (Int32.toNatClampNeg 1)) 16 = qo (Int32.toNatClampNeg 1) := upd_same _ _ _
    have sn := sN_rng qo
    have r := half_lp (qo := qo) (w := upd v 16 (qo (Int32.toNatClampNeg 1))) H.1 (hZ.1.trans eu.symm) (by rw [eu]; omega) (by rw [eu]; exact w4) hZ.2.1 hZ.2.2.1 hZ.2.2.2.2.1 (k1.trans c) ((Int32.toInt (sN qo) - Int32.toInt 0).toNat + 1) ((Int32.toInt 32 - Int32.toInt 0).toNat + 1) 0 (sN qo) 0 (by decide) (by omega) (by decide) (by rw [show (Int32.toInt 0).toNat = 0 from rfl, hB]; omega) (by omega) (by decide) (by decide)
    exact srch_end H (by decide) pg K S.2.2 qt qi hZ (k1.trans c) r _
  · have n6 : ¬ Z 6 = 0 := fun q => c (k1.symm.trans q)
    rw [if_neg c, half_bad n6, k3 c]
    dsimp only
    rw [k1]
    exact p_flt H S.1 c pg Z K qt qi S.2.2
